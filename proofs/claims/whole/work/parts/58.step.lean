/-! READING, letter by letter -/
abbrev RS : Type := Nat × Nat × Int32 × PLN × (Nat → Int32)
def setF (q : PLN) (j : Nat) (v : Int32) : PLN := (fun i => if i = j then v else q.1 i, q.2)
/-- a digit f in the phases of digits -/
def dgt (f : Nat) (s : RS) : Option RS :=
  if s.1 = 1 then (if f ≤ 3 then some (2, f, s.2.2) else none)
  else if s.1 = 2 then (if 8 ≤ 10 * s.2.1 + f ∧ 10 * s.2.1 + f ≤ 32 then some (3, s.2.1, s.2.2.1, setF s.2.2.2.1 0 (nI (10 * s.2.1 + f)), s.2.2.2.2) else none)
  else if s.1 = 3 then (if 1 ≤ f then some (4, s.2.1, s.2.2.1, setF s.2.2.2.1 1 (nI f), s.2.2.2.2) else none)
  else if s.1 = 4 then some (5, s.2.1, s.2.2.1, setF s.2.2.2.1 2 (nI f), s.2.2.2.2)
  else if s.1 = 6 then some (7, s.2.1, nI f - 4, s.2.2.2)
  else if s.1 = 7 then (if f ≤ 6 then some (8, f, s.2.2) else none)
  else if s.1 = 8 then (if 10 * s.2.1 + f ≤ 63 then some (5, s.2.1, s.2.2.1, adN s.2.2.2.1 (nI (10 * s.2.1 + f)), fun i => if i = pN s.2.2.2.1 then s.2.2.1 else s.2.2.2.2 i) else none)
  else if s.1 = 9 then (if mayF s.2.2.2.1 f = true then some (10, f, s.2.2) else none)
  else (if mayL s.2.2.2.1 s.2.1 f = true then some (5, s.2.1, s.2.2.1, adL s.2.2.2.1 s.2.1 f, s.2.2.2.2) else none)
def stp (n : Nat) (s : RS) : Option RS :=
  if s.1 = 0 then (if n = 70 then some (1, s.2) else none)
  else if s.1 = 5 then (if n = 110 then (if pN s.2.2.2.1 < 5 then some (6, s.2) else none) else if n = 107 then (if anyM s.2.2.2.1 = true then some (9, s.2) else none) else none)
  else if 48 ≤ n ∧ n ≤ 57 then dgt (n - 48) s else none
/-- what rides along -/
def okR (s : RS) : Prop := s.1 ≤ 10 ∧ okQ s.2.2.2.1 ∧ prs s.2.2.2.1 = pL s.2.2.2.1 ∧ (3 ≤ s.1 → IR 8 33 (s.2.2.2.1.1 0)) ∧ (4 ≤ s.1 → IR 1 10 (s.2.2.2.1.1 1)) ∧ (5 ≤ s.1 → IR 0 10 (s.2.2.2.1.1 2)) ∧ (s.1 = 2 → s.2.1 ≤ 3) ∧ (6 ≤ s.1 → s.1 ≤ 8 → pN s.2.2.2.1 < 5) ∧ (7 ≤ s.1 → s.1 ≤ 8 → IR (-4) 6 s.2.2.1) ∧ (s.1 = 8 → s.2.1 ≤ 6) ∧ (9 ≤ s.1 → pL s.2.2.2.1 < 7) ∧ (s.1 = 10 → s.2.1 < pN s.2.2.2.1) ∧ ∀ i, i < pN s.2.2.2.1 → IR (-4) 6 (s.2.2.2.2 i)
theorem IRn {n : Nat} {a b : Int} (h : n < 1000) (h1 : a ≤ (n : Int)) (h2 : (n : Int) < b) : IR a b (nI n) := by
  unfold IR
  rw [nIt (by omega)]
  exact ⟨h1, h2⟩
theorem mayF_N {q : PLN} {f : Nat} (h : mayF q f = true) : f < pN q := by
  unfold mayF at h
  rw [anyR_t] at h
  rcases h with h | ⟨b, -, -, h⟩
  · cases h
  · unfold mayL at h
    simp only [Bool.and_eq_true, decide_eq_true_eq] at h
    exact h.2.1
theorem okR_stp {n : Nat} {s w : RS} (h : okR s) (e : stp n s = some w) : okR w := by
  obtain ⟨ph, hd, hdr, q, dr⟩ := s
  obtain ⟨h0, h1, h2, h3, h4, h5, h6, h7, h8, h9, h10, h11, h12⟩ := h
  simp only at h0 h1 h2 h3 h4 h5 h6 h7 h8 h9 h10 h11 h12
  unfold stp at e
  simp only at e
  split at e
  · next z =>
    split at e
    · cases e
      exact ⟨by show 1 ≤ 10; omega, h1, h2, fun z => absurd z (by show ¬ 3 ≤ 1; omega), fun z => absurd z (by show ¬ 4 ≤ 1; omega), fun z => absurd z (by show ¬ 5 ≤ 1; omega), fun z => absurd z (by show ¬ 1 = 2; omega), fun z => absurd z (by show ¬ 6 ≤ 1; omega), fun z => absurd z (by show ¬ 7 ≤ 1; omega), fun z => absurd z (by show ¬ 1 = 8; omega), fun z => absurd z (by show ¬ 9 ≤ 1; omega), fun z => absurd z (by show ¬ 1 = 10; omega), h12⟩
    · cases e
  · split at e
    · next z =>
      subst z
      split at e
      · split at e
        · next g =>
          cases e
          exact ⟨by show 6 ≤ 10; omega, h1, h2, fun _ => h3 (by omega), fun _ => h4 (by omega), fun _ => h5 (by omega), fun z => absurd z (by show ¬ 6 = 2; omega), fun _ _ => g, fun z => absurd z (by show ¬ 7 ≤ 6; omega), fun z => absurd z (by show ¬ 6 = 8; omega), fun z => absurd z (by show ¬ 9 ≤ 6; omega), fun z => absurd z (by show ¬ 6 = 10; omega), h12⟩
        · cases e
      · split at e
        · split at e
          · next g =>
            cases e
            have gL : pL q < 7 := by
              unfold anyM at g
              simp only [Bool.and_eq_true, decide_eq_true_eq] at g
              exact g.2
            exact ⟨by show 9 ≤ 10; omega, h1, h2, fun _ => h3 (by omega), fun _ => h4 (by omega), fun _ => h5 (by omega), fun z => absurd z (by show ¬ 9 = 2; omega), fun _ z => absurd z (by show ¬ 9 ≤ 8; omega), fun _ z => absurd z (by show ¬ 9 ≤ 8; omega), fun z => absurd z (by show ¬ 9 = 8; omega), fun _ => gL, fun z => absurd z (by show ¬ 9 = 10; omega), h12⟩
          · cases e
        · cases e
    · next n0 n5 =>
      split at e
      · next hd10 =>
        have hf : n - 48 < 10 := by omega
        generalize n - 48 = f at e hf
        unfold dgt at e
        simp only at e
        split at e
        · next z =>
          subst z
          split at e
          · next g =>
            cases e
            exact ⟨by show 2 ≤ 10; omega, h1, h2, fun z => absurd z (by show ¬ 3 ≤ 2; omega), fun z => absurd z (by show ¬ 4 ≤ 2; omega), fun z => absurd z (by show ¬ 5 ≤ 2; omega), fun _ => g, fun z => absurd z (by show ¬ 6 ≤ 2; omega), fun z => absurd z (by show ¬ 7 ≤ 2; omega), fun z => absurd z (by show ¬ 2 = 8; omega), fun z => absurd z (by show ¬ 9 ≤ 2; omega), fun z => absurd z (by show ¬ 2 = 10; omega), h12⟩
          · cases e
        · split at e
          · next z =>
            subst z
            split at e
            · next g =>
              cases e
              exact ⟨by show 3 ≤ 10; omega, h1, h2, fun _ => IRn (by omega) (by omega) (by omega), fun z => absurd z (by show ¬ 4 ≤ 3; omega), fun z => absurd z (by show ¬ 5 ≤ 3; omega), fun z => absurd z (by show ¬ 3 = 2; omega), fun z => absurd z (by show ¬ 6 ≤ 3; omega), fun z => absurd z (by show ¬ 7 ≤ 3; omega), fun z => absurd z (by show ¬ 3 = 8; omega), fun z => absurd z (by show ¬ 9 ≤ 3; omega), fun z => absurd z (by show ¬ 3 = 10; omega), h12⟩
            · cases e
          · split at e
            · next z =>
              subst z
              split at e
              · next g =>
                cases e
                exact ⟨by show 4 ≤ 10; omega, h1, h2, fun _ => h3 (by omega), fun _ => IRn (by omega) (by omega) (by omega), fun z => absurd z (by show ¬ 5 ≤ 4; omega), fun z => absurd z (by show ¬ 4 = 2; omega), fun z => absurd z (by show ¬ 6 ≤ 4; omega), fun z => absurd z (by show ¬ 7 ≤ 4; omega), fun z => absurd z (by show ¬ 4 = 8; omega), fun z => absurd z (by show ¬ 9 ≤ 4; omega), fun z => absurd z (by show ¬ 4 = 10; omega), h12⟩
              · cases e
            · split at e
              · next z =>
                subst z
                cases e
                exact ⟨by show 5 ≤ 10; omega, h1, h2, fun _ => h3 (by omega), fun _ => h4 (by omega), fun _ => IRn (by omega) (by omega) (by omega), fun z => absurd z (by show ¬ 5 = 2; omega), fun z => absurd z (by show ¬ 6 ≤ 5; omega), fun z => absurd z (by show ¬ 7 ≤ 5; omega), fun z => absurd z (by show ¬ 5 = 8; omega), fun z => absurd z (by show ¬ 9 ≤ 5; omega), fun z => absurd z (by show ¬ 5 = 10; omega), h12⟩
              · split at e
                · next z =>
                  subst z
                  cases e
                  have hh : IR (-4) 6 (nI f - 4) := by
                    unfold IR
                    have : (nI f - 4).toInt = (f : Int) - 4 := by
                      rw [Int32.toInt_sub, nIt (by omega)]
                      exact z_bm (by show _ ≤ (f : Int) - 4; omega) (by show (f : Int) - 4 < _; omega)
                    rw [this]; omega
                  exact ⟨by show 7 ≤ 10; omega, h1, h2, fun _ => h3 (by omega), fun _ => h4 (by omega), fun _ => h5 (by omega), fun z => absurd z (by show ¬ 7 = 2; omega), fun _ _ => h7 (by omega) (by omega), fun _ _ => hh, fun z => absurd z (by show ¬ 7 = 8; omega), fun z => absurd z (by show ¬ 9 ≤ 7; omega), fun z => absurd z (by show ¬ 7 = 10; omega), h12⟩
                · split at e
                  · next z =>
                    subst z
                    split at e
                    · next g =>
                      cases e
                      exact ⟨by show 8 ≤ 10; omega, h1, h2, fun _ => h3 (by omega), fun _ => h4 (by omega), fun _ => h5 (by omega), fun z => absurd z (by show ¬ 8 = 2; omega), fun _ _ => h7 (by omega) (by omega), fun _ _ => h8 (by omega) (by omega), fun _ => g, fun z => absurd z (by show ¬ 9 ≤ 8; omega), fun z => absurd z (by show ¬ 8 = 10; omega), h12⟩
                    · cases e
                  · split at e
                    · next z =>
                      subst z
                      split at e
                      · next g =>
                        cases e
                        refine ⟨by show 5 ≤ 10; omega, h1.n (h7 (by omega) (by omega)) (IRn (by omega) (by omega) (by omega)), h2, fun _ => h3 (by omega), fun _ => h4 (by omega), fun _ => h5 (by omega), fun z => absurd z (by show ¬ 5 = 2; omega), fun z => absurd z (by show ¬ 6 ≤ 5; omega), fun z => absurd z (by show ¬ 7 ≤ 5; omega), fun z => absurd z (by show ¬ 5 = 8; omega), fun z => absurd z (by show ¬ 9 ≤ 5; omega), fun z => absurd z (by show ¬ 5 = 10; omega), fun i hi => ?_⟩
                        show IR (-4) 6 (if i = pN q then hdr else dr i)
                        have hi' : i < pN q + 1 := hi
                        by_cases zz : i = pN q
                        · rw [if_pos zz]; exact h8 (by omega) (by omega)
                        · rw [if_neg zz]; exact h12 i (by omega)
                      · cases e
                    · split at e
                      · next z =>
                        subst z
                        split at e
                        · next g =>
                          cases e
                          exact ⟨by show 10 ≤ 10; omega, h1, h2, fun _ => h3 (by omega), fun _ => h4 (by omega), fun _ => h5 (by omega), fun z => absurd z (by show ¬ 10 = 2; omega), fun _ z => absurd z (by show ¬ 10 ≤ 8; omega), fun _ z => absurd z (by show ¬ 10 ≤ 8; omega), fun z => absurd z (by show ¬ 10 = 8; omega), fun _ => h10 (by omega), fun _ => mayF_N g, h12⟩
                        · cases e
                      · have : ph = 10 := by omega
                        subst this
                        split at e
                        · next g =>
                          cases e
                          exact ⟨by show 5 ≤ 10; omega, h1.l (h10 (by omega)) g, (by show prs (adL q hd f) = pL q + 1; rw [prs_L g h1.1, h2]), fun _ => h3 (by omega), fun _ => h4 (by omega), fun _ => h5 (by omega), fun z => absurd z (by show ¬ 5 = 2; omega), fun z => absurd z (by show ¬ 6 ≤ 5; omega), fun z => absurd z (by show ¬ 7 ≤ 5; omega), fun z => absurd z (by show ¬ 5 = 8; omega), fun z => absurd z (by show ¬ 9 ≤ 5; omega), fun z => absurd z (by show ¬ 5 = 10; omega), h12⟩
                        · cases e
      · cases e
