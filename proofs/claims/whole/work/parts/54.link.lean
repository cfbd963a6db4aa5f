/-! addLink, canLinkFrom; a plan in order grows in order -/
theorem mm10 {a b : Nat} (ha : a < 10) (hb : b < 10) : f_Mt_min (nI a) (nI b) = some (nI (min a b)) ∧ f_Mt_max (nI a) (nI b) = some (nI (max a b)) := by
  have H : ∀ a, a < 10 → ∀ b, b < 10 → f_Mt_min (nI a) (nI b) = some (nI (min a b)) ∧ f_Mt_max (nI a) (nI b) = some (nI (max a b)) := by decide +kernel
  exact H a ha b hb
def mayL (q : PLN) (a b : Nat) : Bool := !decide (a = b) && (decide (a < pN q) && (decide (b < pN q) && !lkM q a b))
theorem isP_x {a b x y : Nat} {e : Nat × Nat} (h : isP (a, b) x y = true) : isP e x y = isP e a b := by
  rw [isP_t] at h
  rcases h with ⟨h1, h2⟩ | ⟨h1, h2⟩
  · simp only at h1 h2; subst h1; subst h2; rfl
  · simp only at h1 h2; subst h1; subst h2; exact isP_s _ _ _
theorem v_addLink {σ : MT} {c : Nat} {q : PLN} {a b : Nat} (h : pF σ c q) (hN : pN q ≤ 5) (hL : pL q ≤ 7) (ha : a < 10) (hb : b < 10) : (pL q < 7 ∧ mayL q a b = true → ∃ τ, f_Pl_addLink c (nI a) (nI b) σ = some (1, τ) ∧ pF τ c (adL q a b) ∧ τ.1 (c + 1) = σ.1 (c + 1) ∧ EO (PC c) σ τ) ∧ (¬ (pL q < 7 ∧ mayL q a b = true) → f_Pl_addLink c (nI a) (nI b) σ = some (0, σ)) := by
  have hcl := v_canLink (a := a) (b := b) h hN hL ha hb
  constructor
  · intro ⟨h7, hm⟩
    have hm2 := hm
    unfold mayL at hm
    rw [hm] at hcl
    simp only [Bool.and_eq_true, Bool.not_eq_true', decide_eq_false_iff_not, decide_eq_true_eq] at hm
    obtain ⟨m1, m2, m3, m4⟩ := hm
    obtain ⟨⟨f0, f1, f2⟩, h3, h4, h5, h6, hx⟩ := h
    obtain ⟨mn, mx⟩ := mm10 ha hb
    unfold f_Pl_addLink f_Pl_addLink_48 f_Pl_addLink_72
    have s1 : (sI σ (c + 3) (pL q) (nI (min a b))).1 c 4 = nI (pL q) := by rw [sI_n (by omega)]; exact h4
    have s2 : (sI (sI σ (c + 3) (pL q) (nI (min a b))) (c + 4) (pL q) (nI (max a b))).1 c 4 = nI (pL q) := by rw [sI_n (by omega)]; exact s1
    rw [h4, if_neg (fun z => absurd ((nge_7 (by omega)).mp z) (by omega)), hcl, Option.bind_some, if_neg (by decide), mn, Option.bind_some, if_pos (inb_n (by omega) (by decide)), mx, Option.bind_some, nIc (n := pL q) (by omega), s1, if_pos (inb_n (by omega) (by decide)), nIc (n := pL q) (by omega), if_pos (inb_n (by omega) (by decide)), if_pos (inb_n (by omega) (by decide)), if_pos (inb_n (by omega) (by decide)), if_pos (inb_n (by omega) (by decide)), s2, nIc (n := a) (by omega), nIc (n := b) (by omega)]
    have s3 : (sI (sI (sI σ (c + 3) (pL q) (nI (min a b))) (c + 4) (pL q) (nI (max a b))) (c + 5 + 1 + a) b (nI (pL q))).1 c 4 = nI (pL q) := by rw [sI_n (by omega)]; exact s2
    rw [s3]
    have s4 : (sI (sI (sI (sI σ (c + 3) (pL q) (nI (min a b))) (c + 4) (pL q) (nI (max a b))) (c + 5 + 1 + a) b (nI (pL q))) (c + 5 + 1 + b) a (nI (pL q))).1 c 4 = nI (pL q) := by rw [sI_n (by omega)]; exact s3
    rw [s4, nIs]
    refine ⟨_, rfl, ⟨⟨?_, ?_, ?_⟩, ?_, ?_, fun i hi => ?_, fun l hl => ?_, fun x hx5 y hy5 => ?_⟩, ?_, ?_⟩
    · rw [sI_r, if_neg (by omega), sI_n (by omega), sI_n (by omega), sI_n (by omega), sI_n (by omega)]; exact f0
    · rw [sI_r, if_neg (by omega), sI_n (by omega), sI_n (by omega), sI_n (by omega), sI_n (by omega)]; exact f1
    · rw [sI_r, if_neg (by omega), sI_n (by omega), sI_n (by omega), sI_n (by omega), sI_n (by omega)]; exact f2
    · rw [sI_r, if_neg (by omega), sI_n (by omega), sI_n (by omega), sI_n (by omega), sI_n (by omega)]; exact h3
    · rw [sI_r, if_pos ⟨rfl, rfl⟩]; rfl
    · rw [sI_n (by omega), sI_n (by omega), sI_n (by omega), sI_n (by omega), sI_n (by omega)]; exact h5 i hi
    · have hl' : l < pL q + 1 := hl
      show _ = nI (min (if l = pL q then (a, b) else pE q l).1 (if l = pL q then (a, b) else pE q l).2) ∧ _ = nI (max (if l = pL q then (a, b) else pE q l).1 (if l = pL q then (a, b) else pE q l).2)
      rw [sI_n (by omega), sI_n (by omega), sI_n (by omega), sI_n (by omega), sI_r, sI_n (by omega), sI_n (by omega), sI_n (by omega), sI_r]
      by_cases z : l = pL q
      · subst z; simp
      · rw [if_neg (c := c + 3 = c + 3 ∧ l = pL q) (fun w => z w.2), if_neg (c := c + 4 = c + 4 ∧ l = pL q) (fun w => z w.2), if_neg z, sI_n (by omega)]
        exact h6 l (by omega)
    · have er : (sI (sI (sI (sI (sI σ (c + 3) (pL q) (nI (min a b))) (c + 4) (pL q) (nI (max a b))) (c + 5 + 1 + a) b (nI (pL q))) (c + 5 + 1 + b) a (nI (pL q))) c 4 (nI (pL q + 1))).1 (c + 5 + 1 + x) y = if isP (a, b) x y = true then nI (pL q) else σ.1 (c + 5 + 1 + x) y := by
        rw [sI_n (by omega), sI_r, sI_r, sI_n (by omega), sI_n (by omega)]
        by_cases z1 : x = b ∧ y = a
        · rw [if_pos ⟨by omega, z1.2⟩, if_pos (isP_t.mpr (Or.inr ⟨z1.2.symm, z1.1.symm⟩))]
        · rw [if_neg (fun w => z1 ⟨by omega, w.2⟩)]
          by_cases z2 : x = a ∧ y = b
          · rw [if_pos ⟨by omega, z2.2⟩, if_pos (isP_t.mpr (Or.inl ⟨z2.1.symm, z2.2.symm⟩))]
          · rw [if_neg (fun w => z2 ⟨by omega, w.2⟩), if_neg (fun w => by
              rcases isP_t.mp w with w | w
              · exact z2 ⟨w.1.symm, w.2.symm⟩
              · exact z1 ⟨w.2.symm, w.1.symm⟩)]
      rw [er]
      obtain ⟨k1, k2⟩ := hx x hx5 y hy5
      have en : ∀ l, (adL q a b).2.2.2.2 l = if l = pL q then (a, b) else pE q l := fun _ => rfl
      constructor
      · intro l hl hp
        have hl' : l < pL q + 1 := hl
        have hp' : isP (if l = pL q then (a, b) else pE q l) x y = true := hp
        by_cases z : l = pL q
        · rw [if_pos z] at hp'
          rw [if_pos hp', z]
        · rw [if_neg z] at hp'
          by_cases w : isP (a, b) x y = true
          · exfalso
            rw [isP_x w] at hp'
            have := lkM_t.mpr ⟨l, by omega, hp'⟩
            rw [this] at m4
            cases m4
          · rw [if_neg w]
            exact k1 l (by omega) hp'
      · intro hn
        have hn' : ∀ l, l < pL q + 1 → isP (if l = pL q then (a, b) else pE q l) x y = false := hn
        have w := hn' (pL q) (by omega)
        rw [if_pos rfl] at w
        rw [w, if_neg Bool.false_ne_true]
        refine k2 (fun l hl => ?_)
        have := hn' l (by omega)
        rwa [if_neg (by omega)] at this
    · rw [sI_n (by omega), sI_n (by omega), sI_n (by omega), sI_n (by omega), sI_n (by omega)]
    · exact EO.i (P := PC c) (EO.i (P := PC c) (EO.i (P := PC c) (EO.i (P := PC c) (EO.i (P := PC c) EO.rf (by unfold PC; omega)) (by unfold PC; omega)) (by unfold PC; omega)) (by unfold PC; omega)) (by unfold PC; omega)
  · intro hn
    unfold f_Pl_addLink
    rw [h.2.2.1]
    by_cases h7 : 7 ≤ pL q
    · rw [if_pos ((nge_7 (by omega)).mpr h7)]
    · rw [if_neg (fun z => h7 ((nge_7 (by omega)).mp z)), hcl, Option.bind_some]
      have hm : mayL q a b = false := by
        cases z : mayL q a b with
        | false => rfl
        | true => exact absurd ⟨by omega, z⟩ hn
      unfold mayL at hm
      rw [hm, if_pos bI_f]
/-- a plan in order, while it is read -/
def okQ (q : PLN) : Prop := pN q ≤ 5 ∧ pL q ≤ 7 ∧ (∀ i, i < pN q → IR 0 64 (pS q i)) ∧ (∀ l, l < pL q → (pE q l).1 < pN q ∧ (pE q l).2 < pN q ∧ (pE q l).1 ≠ (pE q l).2) ∧ ∀ l, l < pL q → ∀ m, m < pL q → ∀ a b, isP (pE q l) a b = true → isP (pE q m) a b = true → l = m
theorem okQ.n {q : PLN} {s : Int32} (h : okQ q) (hN : pN q < 5) (hs : IR 0 64 s) : okQ (adN q s) := by
  obtain ⟨a, b, c, d, e⟩ := h
  refine ⟨by show pN q + 1 ≤ 5; omega, b, fun i hi => ?_, fun l hl => ?_, e⟩
  · show IR 0 64 (if i = pN q then s else pS q i)
    have hi' : i < pN q + 1 := hi
    by_cases z : i = pN q
    · rw [if_pos z]; exact hs
    · rw [if_neg z]; exact c i (by omega)
  · obtain ⟨x, y, z⟩ := d l hl
    exact ⟨by show (pE q l).1 < pN q + 1; omega, by show (pE q l).2 < pN q + 1; omega, z⟩
theorem okQ.l {q : PLN} {a b : Nat} (h : okQ q) (hL : pL q < 7) (hm : mayL q a b = true) : okQ (adL q a b) := by
  unfold mayL at hm
  simp only [Bool.and_eq_true, Bool.not_eq_true', decide_eq_false_iff_not, decide_eq_true_eq] at hm
  obtain ⟨m1, m2, m3, m4⟩ := hm
  obtain ⟨x, y, c, d, e⟩ := h
  have no : ∀ l, l < pL q → ∀ u v, isP (a, b) u v = true → isP (pE q l) u v = true → False := fun l hl u v h1 h2 => by
    rw [isP_x h1] at h2
    rw [lkM_t.mpr ⟨l, hl, h2⟩] at m4
    cases m4
  refine ⟨x, by show pL q + 1 ≤ 7; omega, c, fun l hl => ?_, fun l hl m hm u v h1 h2 => ?_⟩
  · show (if l = pL q then (a, b) else pE q l).1 < pN q ∧ (if l = pL q then (a, b) else pE q l).2 < pN q ∧ (if l = pL q then (a, b) else pE q l).1 ≠ (if l = pL q then (a, b) else pE q l).2
    have hl' : l < pL q + 1 := hl
    by_cases z : l = pL q
    · rw [if_pos z]; exact ⟨m2, m3, m1⟩
    · rw [if_neg z]; exact d l (by omega)
  · have hl' : l < pL q + 1 := hl
    have hm' : m < pL q + 1 := hm
    have h1' : isP (if l = pL q then (a, b) else pE q l) u v = true := h1
    have h2' : isP (if m = pL q then (a, b) else pE q m) u v = true := h2
    by_cases z : l = pL q
    · by_cases w : m = pL q
      · omega
      · rw [if_pos z] at h1'
        rw [if_neg w] at h2'
        exact (no m (by omega) u v h1' h2').elim
    · by_cases w : m = pL q
      · rw [if_neg z] at h1'
        rw [if_pos w] at h2'
        exact (no l (by omega) u v h2' h1').elim
      · rw [if_neg z] at h1'
        rw [if_neg w] at h2'
        exact e l (by omega) m (by omega) u v h1' h2'
