/-! A PLAN COPIED, in the class -/
theorem isP_mm (e : Nat × Nat) (a b : Nat) : isP (min e.1 e.2, max e.1 e.2) a b = isP e a b := by
  rw [Bool.eq_iff_iff, isP_t, isP_t]
  simp only
  omega
def mmE (q : PLN) (l : Nat) : Nat × Nat := (min (pE q l).1 (pE q l).2, max (pE q l).1 (pE q l).2)
def cpP (q : PLN) (i j : Nat) : PLN := (q.1, i, j, pS q, mmE q)
theorem cpP_n (q : PLN) (i : Nat) : adN (cpP q i 0) (pS q i) = cpP q (i + 1) 0 := by
  have e : (fun j => if j = i then pS q i else pS q j) = pS q := by
    funext j
    by_cases z : j = i
    · rw [if_pos z, z]
    · rw [if_neg z]
  show (q.1, i + 1, 0, (fun j => if j = i then pS q i else pS q j), mmE q) = _
  rw [e]; rfl
theorem cpP_l (q : PLN) (n i : Nat) : adL (cpP q n i) (min (pE q i).1 (pE q i).2) (max (pE q i).1 (pE q i).2) = cpP q n (i + 1) := by
  have e : (fun l => if l = i then (min (pE q i).1 (pE q i).2, max (pE q i).1 (pE q i).2) else mmE q l) = mmE q := by
    funext l
    by_cases z : l = i
    · rw [if_pos z, z]; rfl
    · rw [if_neg z]
  show (q.1, n, i + 1, pS q, (fun l => if l = i then (min (pE q i).1 (pE q i).2, max (pE q i).1 (pE q i).2) else mmE q l)) = _
  rw [e]; rfl
theorem cp_nodes {K : Nat → Nat → Int32 → MT → Option MT} {q : PLN} {dr : Nat → Int32} (hN : pN q ≤ 5) : ∀ (d i fuel : Nat) (σ : MT), i + d = pN q → d < fuel → pF σ 3 q → (∀ j, j < pN q → σ.1 4 j = dr j) → pF σ 15 (cpP q i 0) → (∀ j, j < i → σ.1 16 j = dr j) → ∃ τ, f_Pl_copyFrom_30 K fuel 15 3 (nI i) σ = K 15 3 0 τ ∧ pF τ 15 (cpP q (pN q) 0) ∧ (∀ j, j < pN q → τ.1 16 j = dr j) ∧ EO (PC 15) σ τ
  | 0, i, fuel, σ, hi, hf, h3, h4, h15, h16 => by
    obtain ⟨f, rfl⟩ : ∃ f, fuel = f + 1 := ⟨fuel - 1, by omega⟩
    have : i = pN q := by omega
    subst this
    refine ⟨σ, ?_, h15, h16, EO.rf⟩
    rw [f_Pl_copyFrom_30, h3.2.1, if_pos ((nIle (by omega) (by omega)).mpr (by omega))]
  | d + 1, i, fuel, σ, hi, hf, h3, h4, h15, h16 => by
    obtain ⟨f, rfl⟩ : ∃ f, fuel = f + 1 := ⟨fuel - 1, by omega⟩
    have e4 : σ.1 (3 + 1) i = dr i := h4 i (by omega)
    have e5 : σ.1 (3 + 2) i = pS q i := h3.2.2.2.1 i (by omega)
    obtain ⟨τ, q1, q2, q3, q4, q5⟩ := v_addNode (d := dr i) (s := pS q i) h15 (show i < 5 by omega)
    rw [cpP_n] at q2
    have q3' : τ.1 16 i = dr i := q3
    have q4' : ∀ j, j ≠ i → τ.1 16 j = σ.1 16 j := q4
    rw [f_Pl_copyFrom_30, h3.2.1, if_neg (fun z => absurd ((nIle (by omega) (by omega)).mp z) (by omega)), if_pos (inb_n (by omega) (by decide)), if_pos (inb_n (by omega) (by decide)), nIc (by omega), e4, e5, q1, Option.bind_some, nIs]
    obtain ⟨τ2, p1, p2, p3, p4⟩ := cp_nodes (K := K) (dr := dr) hN d (i + 1) f τ (by omega) (by omega) (h3.eo q5 (fun a h1 h2 => by unfold PC; omega)) (fun j hj => by rw [q5.1 4 (by unfold PC; omega)]; exact h4 j hj) q2 (fun j hj => by
      by_cases z : j = i
      · rw [z]; exact q3'
      · rw [q4' j z]; exact h16 j (by omega))
    exact ⟨τ2, p1, p2, p3, q5.tr p4⟩
theorem cp_links {q : PLN} (ok : okQ q) : ∀ (d i fuel : Nat) (σ : MT), i + d = pL q → d < fuel → pF σ 3 q → pF σ 15 (cpP q (pN q) i) → ∃ τ, f_Pl_copyFrom_62 fuel 15 3 (nI i) σ = some τ ∧ pF τ 15 (cpP q (pN q) (pL q)) ∧ τ.1 16 = σ.1 16 ∧ EO (PC 15) σ τ
  | 0, i, fuel, σ, hi, hf, h3, h15 => by
    obtain ⟨f, rfl⟩ : ∃ f, fuel = f + 1 := ⟨fuel - 1, by omega⟩
    have hL := ok.2.1
    have : i = pL q := by omega
    subst this
    refine ⟨σ, ?_, h15, rfl, EO.rf⟩
    rw [f_Pl_copyFrom_62, h3.2.2.1, if_pos ((nIle (by omega) (by omega)).mpr (by omega))]
  | d + 1, i, fuel, σ, hi, hf, h3, h15 => by
    obtain ⟨f, rfl⟩ : ∃ f, fuel = f + 1 := ⟨fuel - 1, by omega⟩
    obtain ⟨hN, hL, c, dd, e⟩ := ok
    obtain ⟨d1, d2, d3⟩ := dd i (by omega)
    have e6 : σ.1 (3 + 3) i = nI (min (pE q i).1 (pE q i).2) := (h3.2.2.2.2.1 i (by omega)).1
    have e7 : σ.1 (3 + 4) i = nI (max (pE q i).1 (pE q i).2) := (h3.2.2.2.2.1 i (by omega)).2
    have hm : mayL (cpP q (pN q) i) (min (pE q i).1 (pE q i).2) (max (pE q i).1 (pE q i).2) = true := by
      have hl : lkM (cpP q (pN q) i) (min (pE q i).1 (pE q i).2) (max (pE q i).1 (pE q i).2) = false := by
        cases z : lkM (cpP q (pN q) i) (min (pE q i).1 (pE q i).2) (max (pE q i).1 (pE q i).2) with
        | false => rfl
        | true =>
          obtain ⟨l, l1, l2⟩ := lkM_t.mp z
          have l1' : l < i := l1
          have l2' : isP (mmE q l) (min (pE q i).1 (pE q i).2) (max (pE q i).1 (pE q i).2) = true := l2
          unfold mmE at l2'
          rw [isP_mm] at l2'
          have l3 : isP (pE q i) (min (pE q i).1 (pE q i).2) (max (pE q i).1 (pE q i).2) = true := by
            rw [← isP_mm]
            exact isP_t.mpr (Or.inl ⟨rfl, rfl⟩)
          have := e l (by omega) i (by omega) _ _ l2' l3
          omega
      unfold mayL
      rw [hl, decide_eq_false (show ¬ min (pE q i).1 (pE q i).2 = max (pE q i).1 (pE q i).2 by omega), decide_eq_true (show min (pE q i).1 (pE q i).2 < pN (cpP q (pN q) i) by show _ < pN q; omega), decide_eq_true (show max (pE q i).1 (pE q i).2 < pN (cpP q (pN q) i) by show _ < pN q; omega)]
      rfl
    have hE1 : (pE q i).1 < 5 := Nat.lt_of_lt_of_le d1 hN
    have hE2 : (pE q i).2 < 5 := Nat.lt_of_lt_of_le d2 hN
    obtain ⟨v1, -⟩ := v_addLink (a := min (pE q i).1 (pE q i).2) (b := max (pE q i).1 (pE q i).2) h15 hN (show i ≤ 7 by omega) (by omega) (by omega)
    obtain ⟨τ, q1, q2, q3, q4⟩ := v1 ⟨(show i < 7 by omega), hm⟩
    rw [cpP_l] at q2
    rw [f_Pl_copyFrom_62, h3.2.2.1, if_neg (fun z => absurd ((nIle (by omega) (by omega)).mp z) (by omega)), if_pos (inb_n (by omega) (by decide)), if_pos (inb_n (by omega) (by decide)), nIc (by omega), e6, e7, q1, Option.bind_some, nIs]
    obtain ⟨τ2, p1, p2, p3, p4⟩ := cp_links ⟨hN, hL, c, dd, e⟩ d (i + 1) f τ (by omega) (by omega) (h3.eo q4 (fun a h1 h2 => by unfold PC; omega)) q2
    exact ⟨τ2, p1, p2, p3.trans q3, q4.tr p4⟩
theorem A_copyPlan {σ : MT} {q : PLN} {dr : Nat → Int32} (ok : okQ q) (h : pF σ 3 q) (hd : ∀ j, j < pN q → σ.1 4 j = dr j) : ∃ τ, f_Pl_copyFrom 15 3 σ = some τ ∧ pF τ 15 q ∧ (∀ j, j < pN q → τ.1 16 j = dr j) ∧ EO (PC 15) σ τ := by
  obtain ⟨τ1, c1, c2, c3, c4, c5, c6⟩ := v_clear (σ := σ) (c := 15)
  unfold f_Pl_copyFrom f_Pl_copyFrom_28
  have h1 : pF τ1 3 q := h.eo c6 (fun a h1 h2 => by unfold PC; omega)
  have e1 : EO (PC 15) τ1 (sI (sI (sI τ1 15 0 (q.1 0)) 15 1 (q.1 1)) 15 2 (q.1 2)) := EO.i (P := PC 15) (EO.i (P := PC 15) (EO.i (P := PC 15) EO.rf (by unfold PC; omega)) (by unfold PC; omega)) (by unfold PC; omega)
  have r1 : (sI τ1 15 0 (q.1 0)).1 3 1 = q.1 1 := by rw [sI_n (by omega)]; exact h1.1.2.1
  have r2 : (sI (sI τ1 15 0 (q.1 0)) 15 1 (q.1 1)).1 3 2 = q.1 2 := by rw [sI_n (by omega), sI_n (by omega)]; exact h1.1.2.2
  rw [c1, Option.bind_some, h1.1.1, r1, r2]
  have h2 : pF (sI (sI (sI τ1 15 0 (q.1 0)) 15 1 (q.1 1)) 15 2 (q.1 2)) 15 (cpP q 0 0) := by
    refine ⟨⟨?_, ?_, ?_⟩, ?_, ?_, fun i hi => absurd hi (by show ¬ i < 0; omega), fun l hl => absurd hl (by show ¬ l < 0; omega), fun a ha b hb => ⟨fun l hl => absurd hl (by show ¬ l < 0; omega), fun _ => ?_⟩⟩
    · show _ = q.1 0
      rw [sI_r, if_neg (by omega), sI_r, if_neg (by omega), sI_r, if_pos ⟨rfl, rfl⟩]
    · show _ = q.1 1
      rw [sI_r, if_neg (by omega), sI_r, if_pos ⟨rfl, rfl⟩]
    · show _ = q.1 2
      rw [sI_r, if_pos ⟨rfl, rfl⟩]
    · rw [sI_r, if_neg (by omega), sI_r, if_neg (by omega), sI_r, if_neg (by omega)]; exact c3
    · rw [sI_r, if_neg (by omega), sI_r, if_neg (by omega), sI_r, if_neg (by omega)]; exact c4
    · rw [sI_n (by omega), sI_n (by omega), sI_n (by omega)]; exact c2 a ha b hb
  obtain ⟨τ2, p1, p2, p3, p4⟩ := cp_nodes (K := f_Pl_copyFrom_62 1100) (dr := dr) ok.1 (pN q) 0 1100 _ (by omega) (by have := ok.1; omega) (h1.eo e1 (fun a h1 h2 => by unfold PC; omega)) (fun j hj => by rw [e1.1 4 (by unfold PC; omega), c6.1 4 (by unfold PC; omega)]; exact hd j hj) h2 (fun j hj => absurd hj (by omega))
  rw [show nI 0 = (0 : Int32) from rfl] at p1
  rw [p1]
  have e2 := (c6.tr e1).tr p4
  obtain ⟨τ3, s1, s2, s3, s4⟩ := cp_links ok (pL q) 0 1100 τ2 (by omega) (by have := ok.2.1; omega) (h.eo e2 (fun a h1 h2 => by unfold PC; omega)) p2
  rw [show nI 0 = (0 : Int32) from rfl] at s1
  rw [s1]
  refine ⟨τ3, rfl, ?_, fun j hj => by rw [s3]; exact p3 j hj, e2.tr s4⟩
  obtain ⟨g1, g2, g3, g4, g5, g6⟩ := s2
  refine ⟨g1, g2, g3, g4, fun l hl => ?_, fun a ha b hb => ?_⟩
  · obtain ⟨x, y⟩ := g5 l hl
    have x' : τ3.1 (15 + 3) l = nI (min (min (pE q l).1 (pE q l).2) (max (pE q l).1 (pE q l).2)) := x
    have y' : τ3.1 (15 + 4) l = nI (max (min (pE q l).1 (pE q l).2) (max (pE q l).1 (pE q l).2)) := y
    rw [show min (min (pE q l).1 (pE q l).2) (max (pE q l).1 (pE q l).2) = min (pE q l).1 (pE q l).2 by omega] at x'
    rw [show max (min (pE q l).1 (pE q l).2) (max (pE q l).1 (pE q l).2) = max (pE q l).1 (pE q l).2 by omega] at y'
    exact ⟨x', y'⟩
  · obtain ⟨x, y⟩ := g6 a ha b hb
    have ei : ∀ l, isP (pE (cpP q (pN q) (pL q)) l) a b = isP (pE q l) a b := fun l => isP_mm (pE q l) a b
    exact ⟨fun l hl z => x l hl ((ei l).trans z), fun z => y (fun l hl => (ei l).trans (z l hl))⟩
