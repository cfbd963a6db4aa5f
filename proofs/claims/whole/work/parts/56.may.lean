/-! MAY A LINK COME: the class counts, the reference looks -/
def tL (q : PLN) (x y : Nat) : Nat := if lkM q x y = true then 1 else 0
def prs (q : PLN) : Nat := tL q 0 1 + tL q 0 2 + tL q 1 2 + tL q 0 3 + tL q 1 3 + tL q 2 3 + tL q 0 4 + tL q 1 4 + tL q 2 4 + tL q 3 4
theorem tL_1 (q : PLN) (x y : Nat) : tL q x y ≤ 1 := by
  unfold tL
  split <;> omega
theorem tL_s (q : PLN) (x y : Nat) : tL q x y = tL q y x := by
  unfold tL
  rw [lkM_s]
theorem tL_out {q : PLN} (ok : okQ q) {x y : Nat} (hy : pN q ≤ y) : tL q x y = 0 := by
  unfold tL
  rw [if_neg]
  intro h
  obtain ⟨l, h1, h2⟩ := lkM_t.mp h
  obtain ⟨b1, b2, -⟩ := ok.2.2.2.1 l h1
  rcases isP_t.mp h2 with ⟨z, w⟩ | ⟨z, w⟩ <;> omega
theorem lkM_L (q : PLN) (a b x y : Nat) : lkM (adL q a b) x y = (lkM q x y || isP (a, b) x y) := by
  rw [Bool.eq_iff_iff, Bool.or_eq_true, lkM_t, lkM_t]
  constructor
  · intro ⟨l, h1, h2⟩
    have h1' : l < pL q + 1 := h1
    have h2' : isP (if l = pL q then (a, b) else pE q l) x y = true := h2
    by_cases z : l = pL q
    · rw [if_pos z] at h2'; exact Or.inr h2'
    · rw [if_neg z] at h2'; exact Or.inl ⟨l, by omega, h2'⟩
  · intro h
    rcases h with ⟨l, h1, h2⟩ | h
    · exact ⟨l, by show l < pL q + 1; omega, by show isP (if l = pL q then (a, b) else pE q l) x y = true; rw [if_neg (by omega)]; exact h2⟩
    · exact ⟨pL q, by show pL q < pL q + 1; omega, by show isP (if pL q = pL q then (a, b) else pE q (pL q)) x y = true; rw [if_pos rfl]; exact h⟩
theorem tL_L {q : PLN} {a b : Nat} (h0 : lkM q a b = false) (x y : Nat) : tL (adL q a b) x y = tL q x y + (if isP (a, b) x y = true then 1 else 0) := by
  unfold tL
  rw [lkM_L]
  by_cases h : isP (a, b) x y = true
  · have : lkM q x y = false := by
      rcases isP_t.mp h with ⟨z, w⟩ | ⟨z, w⟩
      · simp only at z w; rw [← z, ← w]; exact h0
      · simp only at z w; rw [← z, ← w, lkM_s]; exact h0
    rw [this, h]; rfl
  · have h' : isP (a, b) x y = false := by
      cases z : isP (a, b) x y with
      | false => rfl
      | true => exact absurd z h
    rw [h', Bool.or_false]; rfl
theorem prs_L {q : PLN} {a b : Nat} (hm : mayL q a b = true) (hN : pN q ≤ 5) : prs (adL q a b) = prs q + 1 := by
  unfold mayL at hm
  simp only [Bool.and_eq_true, Bool.not_eq_true', decide_eq_false_iff_not, decide_eq_true_eq] at hm
  obtain ⟨m1, m2, m3, m4⟩ := hm
  have H : ∀ a, a < 5 → ∀ b, b < 5 → a ≠ b → (if isP (a, b) 0 1 = true then 1 else 0) + (if isP (a, b) 0 2 = true then 1 else 0) + (if isP (a, b) 1 2 = true then 1 else 0) + (if isP (a, b) 0 3 = true then 1 else 0) + (if isP (a, b) 1 3 = true then 1 else 0) + (if isP (a, b) 2 3 = true then 1 else 0) + (if isP (a, b) 0 4 = true then 1 else 0) + (if isP (a, b) 1 4 = true then 1 else 0) + (if isP (a, b) 2 4 = true then 1 else 0) + (if isP (a, b) 3 4 = true then 1 else 0) = 1 := by decide +kernel
  have h := H a (by omega) b (by omega) m1
  unfold prs
  rw [tL_L m4, tL_L m4, tL_L m4, tL_L m4, tL_L m4, tL_L m4, tL_L m4, tL_L m4, tL_L m4, tL_L m4]
  omega
theorem any_may {q : PLN} (ok : okQ q) : (anyR (fun a => mayF q a) (pN q) 0 false = true) ↔ prs q < pN q * (pN q - 1) / 2 := by
  have hN := ok.1
  have b01 := tL_1 q 0 1
  have b02 := tL_1 q 0 2
  have b12 := tL_1 q 1 2
  have b03 := tL_1 q 0 3
  have b13 := tL_1 q 1 3
  have b23 := tL_1 q 2 3
  have b04 := tL_1 q 0 4
  have b14 := tL_1 q 1 4
  have b24 := tL_1 q 2 4
  have b34 := tL_1 q 3 4
  have o1 : pN q ≤ 1 → tL q 0 1 = 0 := fun h => tL_out ok h
  have o2 : pN q ≤ 2 → tL q 0 2 = 0 ∧ tL q 1 2 = 0 := fun h => ⟨tL_out ok h, tL_out ok h⟩
  have o3 : pN q ≤ 3 → tL q 0 3 = 0 ∧ tL q 1 3 = 0 ∧ tL q 2 3 = 0 := fun h => ⟨tL_out ok h, tL_out ok h, tL_out ok h⟩
  have o4 : pN q ≤ 4 → tL q 0 4 = 0 ∧ tL q 1 4 = 0 ∧ tL q 2 4 = 0 ∧ tL q 3 4 = 0 := fun h => ⟨tL_out ok h, tL_out ok h, tL_out ok h, tL_out ok h⟩
  have hNN : pN q * (pN q - 1) / 2 = if pN q ≤ 1 then 0 else if pN q = 2 then 1 else if pN q = 3 then 3 else if pN q = 4 then 6 else 10 := by
    obtain h | h | h | h | h | h : pN q = 0 ∨ pN q = 1 ∨ pN q = 2 ∨ pN q = 3 ∨ pN q = 4 ∨ pN q = 5 := by omega
    all_goals rw [h]; rfl
  have free : (anyR (fun a => mayF q a) (pN q) 0 false = true) ↔ ∃ x y, x < y ∧ y < pN q ∧ tL q x y = 0 := by
    rw [anyR_t]
    have tl : ∀ x y, tL q x y = 0 ↔ lkM q x y = false := fun x y => by
      unfold tL
      cases lkM q x y <;> simp
    constructor
    · intro h
      rcases h with h | ⟨a, -, h1, h2⟩
      · cases h
      · unfold mayF at h2
        rw [anyR_t] at h2
        rcases h2 with h2 | ⟨b, -, h3, h4⟩
        · cases h2
        · unfold mayL at h4
          simp only [Bool.and_eq_true, Bool.not_eq_true', decide_eq_false_iff_not, decide_eq_true_eq] at h4
          obtain ⟨m1, m2, m3, m4⟩ := h4
          rcases Nat.lt_or_gt_of_ne m1 with z | z
          · exact ⟨a, b, z, m3, (tl _ _).mpr m4⟩
          · exact ⟨b, a, z, m2, by rw [tL_s]; exact (tl _ _).mpr m4⟩
    · intro ⟨x, y, h1, h2, h3⟩
      refine Or.inr ⟨x, by omega, by omega, ?_⟩
      unfold mayF
      rw [anyR_t]
      refine Or.inr ⟨y, by omega, by omega, ?_⟩
      unfold mayL
      rw [decide_eq_false (show ¬ x = y by omega), decide_eq_true (show x < pN q by omega), decide_eq_true h2, (tl _ _).mp h3]
      rfl
  rw [free, hNN]
  unfold prs
  constructor
  · intro ⟨x, y, h1, h2, h3⟩
    obtain ⟨rfl, rfl⟩ | ⟨rfl, rfl⟩ | ⟨rfl, rfl⟩ | ⟨rfl, rfl⟩ | ⟨rfl, rfl⟩ | ⟨rfl, rfl⟩ | ⟨rfl, rfl⟩ | ⟨rfl, rfl⟩ | ⟨rfl, rfl⟩ | ⟨rfl, rfl⟩ : (x = 0 ∧ y = 1) ∨ (x = 0 ∧ y = 2) ∨ (x = 1 ∧ y = 2) ∨ (x = 0 ∧ y = 3) ∨ (x = 1 ∧ y = 3) ∨ (x = 2 ∧ y = 3) ∨ (x = 0 ∧ y = 4) ∨ (x = 1 ∧ y = 4) ∨ (x = 2 ∧ y = 4) ∨ (x = 3 ∧ y = 4) := by omega
    all_goals
      split
      · omega
      · split
        · omega
        · split
          · omega
          · split <;> omega
  · intro h
    refine Classical.byContradiction fun hn => ?_
    have al : ∀ x y, x < y → y < pN q → tL q x y = 1 := fun x y h1 h2 => by
      have := tL_1 q x y
      rcases Nat.eq_zero_or_pos (tL q x y) with z | z
      · exact absurd ⟨x, y, h1, h2, z⟩ hn
      · omega
    have a1 : 1 < pN q → tL q 0 1 = 1 := fun z => al 0 1 (by omega) z
    have a2 : 2 < pN q → tL q 0 2 = 1 ∧ tL q 1 2 = 1 := fun z => ⟨al 0 2 (by omega) z, al 1 2 (by omega) z⟩
    have a3 : 3 < pN q → tL q 0 3 = 1 ∧ tL q 1 3 = 1 ∧ tL q 2 3 = 1 := fun z => ⟨al 0 3 (by omega) z, al 1 3 (by omega) z, al 2 3 (by omega) z⟩
    have a4 : 4 < pN q → tL q 0 4 = 1 ∧ tL q 1 4 = 1 ∧ tL q 2 4 = 1 ∧ tL q 3 4 = 1 := fun z => ⟨al 0 4 (by omega) z, al 1 4 (by omega) z, al 2 4 (by omega) z, al 3 4 (by omega) z⟩
    split at h
    · omega
    · split at h
      · omega
      · split at h
        · omega
        · split at h <;> omega
