/-! THE FAULT of the text: both readings from their beginnings -/
theorem okR_rdL {ch : Nat → Nat} : ∀ (d i : Nat) (s : RS) (k : Nat) (w : RS), okR s → rdL ch d i s = (k, some w) → okR w
  | 0, i, s, k, w, ok, h => by
    have h' : (i, some s) = (k, some w) := h
    cases h'
    exact ok
  | d + 1, i, s, k, w, ok, h => by
    have h' : (match stp (ch i) s with | none => (i, none) | some w => rdL ch d (i + 1) w) = (k, some w) := h
    cases g : stp (ch i) s with
    | none => rw [g] at h'; cases h'
    | some v =>
      rw [g] at h'
      exact okR_rdL d (i + 1) v k w (okR_stp ok g) h'
theorem rdL_lt {ch : Nat → Nat} : ∀ (d i : Nat) (s : RS) (k : Nat), rdL ch d i s = (k, none) → k < i + d
  | 0, i, s, k, h => by
    have h' : (i, some s) = (k, none) := h
    cases h'
  | d + 1, i, s, k, h => by
    have h' : (match stp (ch i) s with | none => (i, none) | some w => rdL ch d (i + 1) w) = (k, none) := h
    cases g : stp (ch i) s with
    | none =>
      rw [g] at h'
      cases h'
      omega
    | some v =>
      rw [g] at h'
      have := rdL_lt d (i + 1) v k h'
      omega
/-- two readings that differ in the head's old values alone -/
def simR (s u : RS) : Prop := ∃ ph hd hdr h g r dr, s = (ph, hd, hdr, (h, r), dr) ∧ u = (ph, hd, hdr, (g, r), dr) ∧ (3 ≤ ph → h 0 = g 0) ∧ (4 ≤ ph → h 1 = g 1) ∧ (5 ≤ ph → h 2 = g 2)
theorem simR_dgt {f : Nat} {ph hd : Nat} {hdr : Int32} {h g : Nat → Int32} {r : Nat × Nat × (Nat → Int32) × (Nat → Nat × Nat)} {dr : Nat → Int32} (c0 : 3 ≤ ph → h 0 = g 0) (c1 : 4 ≤ ph → h 1 = g 1) (c2 : 5 ≤ ph → h 2 = g 2) (h1 : 1 ≤ ph) : (dgt f (ph, hd, hdr, (h, r), dr) = none ∧ dgt f (ph, hd, hdr, (g, r), dr) = none) ∨ ∃ s u, dgt f (ph, hd, hdr, (h, r), dr) = some s ∧ dgt f (ph, hd, hdr, (g, r), dr) = some u ∧ simR s u := by
  by_cases p1 : ph = 1
  · subst p1
    have e : ∀ h : Nat → Int32, dgt f (1, hd, hdr, (h, r), dr) = if f ≤ 3 then some (2, f, hdr, (h, r), dr) else none := fun _ => rfl
    rw [e, e]
    by_cases q : f ≤ 3
    · rw [if_pos q, if_pos q]
      exact Or.inr ⟨_, _, rfl, rfl, 2, f, hdr, h, g, r, dr, rfl, rfl, fun z => absurd z (by omega), fun z => absurd z (by omega), fun z => absurd z (by omega)⟩
    · rw [if_neg q, if_neg q]
      exact Or.inl ⟨rfl, rfl⟩
  · by_cases p2 : ph = 2
    · subst p2
      have e : ∀ h : Nat → Int32, dgt f (2, hd, hdr, (h, r), dr) = if 8 ≤ 10 * hd + f ∧ 10 * hd + f ≤ 32 then some (3, hd, hdr, (fun i => if i = 0 then nI (10 * hd + f) else h i, r), dr) else none := fun _ => rfl
      rw [e, e]
      by_cases q : 8 ≤ 10 * hd + f ∧ 10 * hd + f ≤ 32
      · rw [if_pos q, if_pos q]
        exact Or.inr ⟨_, _, rfl, rfl, 3, hd, hdr, _, _, r, dr, rfl, rfl, fun z => rfl, fun z => absurd z (by omega), fun z => absurd z (by omega)⟩
      · rw [if_neg q, if_neg q]
        exact Or.inl ⟨rfl, rfl⟩
    · by_cases p3 : ph = 3
      · subst p3
        have e : ∀ h : Nat → Int32, dgt f (3, hd, hdr, (h, r), dr) = if 1 ≤ f then some (4, hd, hdr, (fun i => if i = 1 then nI f else h i, r), dr) else none := fun _ => rfl
        rw [e, e]
        by_cases q : 1 ≤ f
        · rw [if_pos q, if_pos q]
          exact Or.inr ⟨_, _, rfl, rfl, 4, hd, hdr, _, _, r, dr, rfl, rfl, fun z => c0 (by omega), fun z => rfl, fun z => absurd z (by omega)⟩
        · rw [if_neg q, if_neg q]
          exact Or.inl ⟨rfl, rfl⟩
      · by_cases p4 : ph = 4
        · subst p4
          have e : ∀ h : Nat → Int32, dgt f (4, hd, hdr, (h, r), dr) = some (5, hd, hdr, (fun i => if i = 2 then nI f else h i, r), dr) := fun _ => rfl
          rw [e, e]
          exact Or.inr ⟨_, _, rfl, rfl, 5, hd, hdr, _, _, r, dr, rfl, rfl, fun z => c0 (by omega), fun z => c1 (by omega), fun z => rfl⟩
        · by_cases p6 : ph = 6
          · subst p6
            have e : ∀ h : Nat → Int32, dgt f (6, hd, hdr, (h, r), dr) = some (7, hd, nI f - 4, (h, r), dr) := fun _ => rfl
            rw [e, e]
            exact Or.inr ⟨_, _, rfl, rfl, 7, hd, nI f - 4, h, g, r, dr, rfl, rfl, fun z => c0 (by omega), fun z => c1 (by omega), fun z => c2 (by omega)⟩
          · by_cases p7 : ph = 7
            · subst p7
              have e : ∀ h : Nat → Int32, dgt f (7, hd, hdr, (h, r), dr) = if f ≤ 6 then some (8, f, hdr, (h, r), dr) else none := fun _ => rfl
              rw [e, e]
              by_cases q : f ≤ 6
              · rw [if_pos q, if_pos q]
                exact Or.inr ⟨_, _, rfl, rfl, 8, f, hdr, h, g, r, dr, rfl, rfl, fun z => c0 (by omega), fun z => c1 (by omega), fun z => c2 (by omega)⟩
              · rw [if_neg q, if_neg q]
                exact Or.inl ⟨rfl, rfl⟩
            · by_cases p8 : ph = 8
              · subst p8
                have e : ∀ h : Nat → Int32, dgt f (8, hd, hdr, (h, r), dr) = if 10 * hd + f ≤ 63 then some (5, hd, hdr, (h, r.1 + 1, r.2.1, (fun i => if i = r.1 then nI (10 * hd + f) else r.2.2.1 i), r.2.2.2), fun i => if i = r.1 then hdr else dr i) else none := fun _ => rfl
                rw [e, e]
                by_cases q : 10 * hd + f ≤ 63
                · rw [if_pos q, if_pos q]
                  exact Or.inr ⟨_, _, rfl, rfl, 5, hd, hdr, h, g, _, _, rfl, rfl, fun z => c0 (by omega), fun z => c1 (by omega), fun z => c2 (by omega)⟩
                · rw [if_neg q, if_neg q]
                  exact Or.inl ⟨rfl, rfl⟩
              · by_cases p9 : ph = 9
                · subst p9
                  have e : ∀ k : Nat → Int32, dgt f (9, hd, hdr, (k, r), dr) = if mayF (h, r) f = true then some (10, f, hdr, (k, r), dr) else none := fun _ => rfl
                  rw [e, e]
                  by_cases q : mayF (h, r) f = true
                  · rw [if_pos q, if_pos q]
                    exact Or.inr ⟨_, _, rfl, rfl, 10, f, hdr, h, g, r, dr, rfl, rfl, fun z => c0 (by omega), fun z => c1 (by omega), fun z => c2 (by omega)⟩
                  · rw [if_neg q, if_neg q]
                    exact Or.inl ⟨rfl, rfl⟩
                · have e : ∀ k : Nat → Int32, dgt f (ph, hd, hdr, (k, r), dr) = if mayL (h, r) hd f = true then some (5, hd, hdr, (k, r.1, r.2.1 + 1, r.2.2.1, fun l => if l = r.2.1 then (hd, f) else r.2.2.2 l), dr) else none := fun k => by
                    unfold dgt
                    simp only [p1, p2, p3, p4, p6, p7, p8, p9, if_false]
                    rfl
                  rw [e, e]
                  by_cases q : mayL (h, r) hd f = true
                  · rw [if_pos q, if_pos q]
                    exact Or.inr ⟨_, _, rfl, rfl, 5, hd, hdr, h, g, _, dr, rfl, rfl, fun z => c0 (by omega), fun z => c1 (by omega), fun z => c2 (by omega)⟩
                  · rw [if_neg q, if_neg q]
                    exact Or.inl ⟨rfl, rfl⟩
theorem simR_stp {n : Nat} {s u : RS} (hs : simR s u) : (stp n s = none ∧ stp n u = none) ∨ ∃ v w, stp n s = some v ∧ stp n u = some w ∧ simR v w := by
  obtain ⟨ph, hd, hdr, h, g, r, dr, rfl, rfl, c0, c1, c2⟩ := hs
  by_cases p0 : ph = 0
  · subst p0
    have e : ∀ k : Nat → Int32, stp n (0, hd, hdr, (k, r), dr) = if n = 70 then some (1, hd, hdr, (k, r), dr) else none := fun _ => rfl
    rw [e, e]
    by_cases q : n = 70
    · rw [if_pos q, if_pos q]
      exact Or.inr ⟨_, _, rfl, rfl, 1, hd, hdr, h, g, r, dr, rfl, rfl, fun z => absurd z (by omega), fun z => absurd z (by omega), fun z => absurd z (by omega)⟩
    · rw [if_neg q, if_neg q]
      exact Or.inl ⟨rfl, rfl⟩
  · by_cases p5 : ph = 5
    · subst p5
      have e : ∀ k : Nat → Int32, stp n (5, hd, hdr, (k, r), dr) = if n = 110 then (if r.1 < 5 then some (6, hd, hdr, (k, r), dr) else none) else if n = 107 then (if anyM (h, r) = true then some (9, hd, hdr, (k, r), dr) else none) else none := fun _ => rfl
      rw [e, e]
      by_cases q : n = 110
      · rw [if_pos q, if_pos q]
        by_cases q2 : r.1 < 5
        · rw [if_pos q2, if_pos q2]
          exact Or.inr ⟨_, _, rfl, rfl, 6, hd, hdr, h, g, r, dr, rfl, rfl, fun z => c0 (by omega), fun z => c1 (by omega), fun z => c2 (by omega)⟩
        · rw [if_neg q2, if_neg q2]
          exact Or.inl ⟨rfl, rfl⟩
      · rw [if_neg q, if_neg q]
        by_cases q1 : n = 107
        · rw [if_pos q1, if_pos q1]
          by_cases q2 : anyM (h, r) = true
          · rw [if_pos q2, if_pos q2]
            exact Or.inr ⟨_, _, rfl, rfl, 9, hd, hdr, h, g, r, dr, rfl, rfl, fun z => c0 (by omega), fun z => c1 (by omega), fun z => c2 (by omega)⟩
          · rw [if_neg q2, if_neg q2]
            exact Or.inl ⟨rfl, rfl⟩
        · rw [if_neg q1, if_neg q1]
          exact Or.inl ⟨rfl, rfl⟩
    · have e : ∀ k : Nat → Int32, stp n (ph, hd, hdr, (k, r), dr) = if 48 ≤ n ∧ n ≤ 57 then dgt (n - 48) (ph, hd, hdr, (k, r), dr) else none := fun k => by
        unfold stp
        rw [if_neg p0, if_neg p5]
      rw [e, e]
      by_cases q : 48 ≤ n ∧ n ≤ 57
      · rw [if_pos q, if_pos q]
        exact simR_dgt c0 c1 c2 (by omega)
      · rw [if_neg q, if_neg q]
        exact Or.inl ⟨rfl, rfl⟩
theorem simR_rdL {ch : Nat → Nat} : ∀ (d i : Nat) (s u : RS), simR s u → (∃ k, rdL ch d i s = (k, none) ∧ rdL ch d i u = (k, none)) ∨ ∃ k v w, rdL ch d i s = (k, some v) ∧ rdL ch d i u = (k, some w) ∧ simR v w
  | 0, i, s, u, h => Or.inr ⟨i, s, u, rfl, rfl, h⟩
  | d + 1, i, s, u, h => by
    have e : ∀ s, rdL ch (d + 1) i s = (match stp (ch i) s with | none => (i, none) | some w => rdL ch d (i + 1) w) := fun _ => rfl
    rw [e, e]
    rcases simR_stp (n := ch i) h with ⟨h1, h2⟩ | ⟨v, w, h1, h2, h3⟩
    · rw [h1, h2]
      exact Or.inl ⟨i, rfl, rfl⟩
    · rw [h1, h2]
      exact simR_rdL d (i + 1) v w h3
