/-! canLinkFrom; THE REFERENCE as it reads: linked, full -/
theorem v_linkFrom_loop {σ : MT} {c : Nat} {q : PLN} {a : Nat} (h : pF σ c q) (hN : pN q ≤ 5) (hL : pL q ≤ 7) (ha : a < 10) : ∀ (d i fuel : Nat), i + d = pN q → d < fuel → f_Pl_canLinkFrom_2 fuel c (nI a) (nI i) σ = some (bI (anyR (fun b => mayL q a b) d i false))
  | 0, i, fuel, hi, hf => by
    obtain ⟨f, rfl⟩ : ∃ f, fuel = f + 1 := ⟨fuel - 1, by omega⟩
    rw [f_Pl_canLinkFrom_2, h.2.1, if_pos ((nIle (by omega) (by omega)).mpr (by omega))]
    rfl
  | d + 1, i, fuel, hi, hf => by
    obtain ⟨f, rfl⟩ : ∃ f, fuel = f + 1 := ⟨fuel - 1, by omega⟩
    have ih := v_linkFrom_loop h hN hL ha d (i + 1) f (by omega) (by omega)
    rw [f_Pl_canLinkFrom_2, h.2.1, if_neg (fun q => absurd ((nIle (by omega) (by omega)).mp q) (by omega)), v_canLink h hN hL ha (by omega), Option.bind_some, nIs]
    show (if bI (mayL q a i) = 0 then _ else _) = some (bI (anyR (fun b => mayL q a b) d (i + 1) (false || mayL q a i)))
    cases hm : mayL q a i with
    | false => rw [if_pos bI_f]; exact ih
    | true =>
      rw [if_neg (by decide)]
      have : anyR (fun b => mayL q a b) d (i + 1) (false || true) = true := anyR_t (p := fun b => mayL q a b) d (i + 1) (false || true) |>.mpr (Or.inl rfl)
      rw [this]; rfl
def mayF (q : PLN) (a : Nat) : Bool := anyR (fun b => mayL q a b) (pN q) 0 false
theorem v_linkFrom {σ : MT} {c : Nat} {q : PLN} {a : Nat} (h : pF σ c q) (hN : pN q ≤ 5) (hL : pL q ≤ 7) (ha : a < 10) : f_Pl_canLinkFrom c (nI a) σ = some (bI (mayF q a)) := v_linkFrom_loop h hN hL ha (pN q) 0 1100 (by omega) (by omega)
/-- the reference's plan as it reads it -/
def qB (σ : MT) (q : PLN) : Prop := σ.1 38 31 = nI (pN q) ∧ σ.1 38 34 = nI (pL q) ∧ (∀ i, i < pN q → σ.1 58 i = pS q i) ∧ ∀ l, l < pL q → σ.1 59 l = nI (pE q l).1 ∧ σ.1 60 l = nI (pE q l).2
theorem B_linked_loop {σ : MT} {q : PLN} {a b : Nat} (h : qB σ q) (ok : okQ q) (ha : a < 10) (hb : b < 10) : ∀ (d i fuel : Nat) (acc : Bool), i + d = pL q → d < fuel → f_M_areLinkedAsRead_5 fuel (nI a) (nI b) (bI acc) (nI i) σ = some (bI (anyR (fun l => isP (pE q l) a b) d i acc))
  | 0, i, fuel, acc, hi, hf => by
    obtain ⟨f, rfl⟩ : ∃ f, fuel = f + 1 := ⟨fuel - 1, by omega⟩
    have := ok.2.1
    rw [f_M_areLinkedAsRead_5, h.2.1, if_pos ((nIle (by omega) (by omega)).mpr (by omega)), if_pos (bI_z acc)]
    rfl
  | d + 1, i, fuel, acc, hi, hf => by
    obtain ⟨f, rfl⟩ : ∃ f, fuel = f + 1 := ⟨fuel - 1, by omega⟩
    have hN : pN q ≤ 5 := ok.1
    have hL : pL q ≤ 7 := ok.2.1
    have ih := fun acc => B_linked_loop h ok ha hb d (i + 1) f acc (by omega) (by omega)
    obtain ⟨e1, e2⟩ := h.2.2.2 i (by omega)
    obtain ⟨b1, b2, -⟩ := ok.2.2.2.1 i (by omega)
    have b1' : (pE q i).1 < 5 := Nat.lt_of_lt_of_le b1 hN
    have b2' : (pE q i).2 < 5 := Nat.lt_of_lt_of_le b2 hN
    have q1 : nI (pE q i).1 = nI a ↔ (pE q i).1 = a := nIeq (by omega) (by omega)
    have q2 : nI (pE q i).2 = nI b ↔ (pE q i).2 = b := nIeq (by omega) (by omega)
    have q3 : nI (pE q i).1 = nI b ↔ (pE q i).1 = b := nIeq (by omega) (by omega)
    have q4 : nI (pE q i).2 = nI a ↔ (pE q i).2 = a := nIeq (by omega) (by omega)
    rw [f_M_areLinkedAsRead_5, h.2.1, if_neg (fun q => absurd ((nIle (by omega) (by omega)).mp q) (by omega)), inb_n (m := i) (by omega) (by decide), if_pos rfl, if_pos rfl, nIc (by omega), e1, e2]
    unfold f_M_areLinkedAsRead_40 f_M_areLinkedAsRead_62 f_M_areLinkedAsRead_66 f_M_areLinkedAsRead_67
    rw [inb_n (m := i) (by omega) (by decide), if_pos rfl, if_pos rfl, nIc (by omega), e1, e2, nIs]
    have fin : ∀ x : Bool, x = (acc || isP (pE q i) a b) → f_M_areLinkedAsRead_5 f (nI a) (nI b) (bI x) (nI (i + 1)) σ = some (bI (anyR (fun l => isP (pE q l) a b) (d + 1) i acc)) := fun x hx => by
      rw [ih, hx]; rfl
    have y1 := fin true
    have y0 := fin false
    rw [bI_t] at y1
    rw [bI_f] at y0
    cases acc with
    | true => rw [if_neg (by decide)]; exact y1 rfl
    | false =>
      rw [if_pos bI_f]
      by_cases p1 : (pE q i).1 = a
      · rw [if_pos (q1.mpr p1)]
        by_cases p2 : (pE q i).2 = b
        · rw [if_pos (q2.mpr p2)]
          exact y1 (by rw [isP_t.mpr (Or.inl ⟨p1, p2⟩)]; rfl)
        · rw [if_neg (fun z => p2 (q2.mp z))]
          by_cases p3 : (pE q i).1 = b
          · rw [if_pos (q3.mpr p3)]
            by_cases p4 : (pE q i).2 = a
            · rw [if_pos (q4.mpr p4)]
              exact y1 (by rw [isP_t.mpr (Or.inr ⟨p3, p4⟩)]; rfl)
            · rw [if_neg (fun z => p4 (q4.mp z))]
              exact y0 (by unfold isP; simp [p2, p4])
          · rw [if_neg (fun z => p3 (q3.mp z))]
            exact y0 (by unfold isP; simp [p2, p3])
      · rw [if_neg (fun z => p1 (q1.mp z))]
        by_cases p3 : (pE q i).1 = b
        · rw [if_pos (q3.mpr p3)]
          by_cases p4 : (pE q i).2 = a
          · rw [if_pos (q4.mpr p4)]
            exact y1 (by rw [isP_t.mpr (Or.inr ⟨p3, p4⟩)]; rfl)
          · rw [if_neg (fun z => p4 (q4.mp z))]
            exact y0 (by unfold isP; simp [p1, p4])
        · rw [if_neg (fun z => p3 (q3.mp z))]
          exact y0 (by unfold isP; simp [p1, p3])
theorem B_linked {σ : MT} {q : PLN} {a b : Nat} (h : qB σ q) (ok : okQ q) (ha : a < 10) (hb : b < 10) : f_M_areLinkedAsRead (nI a) (nI b) σ = some (bI (lkM q a b)) := B_linked_loop h ok ha hb (pL q) 0 1100 false (by omega) (by have := ok.2.1; omega)
theorem B_full_loop {σ : MT} {q : PLN} {a : Nat} (h : qB σ q) (ok : okQ q) (ha : a < pN q) : ∀ (d i fuel : Nat) (acc : Bool), i + d = pN q → d < fuel → f_M_isFullAsRead_4 fuel (nI a) (bI (!acc)) (nI i) σ = some (bI (!anyR (fun b => mayL q a b) d i acc))
  | 0, i, fuel, acc, hi, hf => by
    obtain ⟨f, rfl⟩ : ∃ f, fuel = f + 1 := ⟨fuel - 1, by omega⟩
    have := ok.1
    rw [f_M_isFullAsRead_4, h.1, if_pos ((nIle (by omega) (by omega)).mpr (by omega)), if_pos (bI_z _)]
    rfl
  | d + 1, i, fuel, acc, hi, hf => by
    obtain ⟨f, rfl⟩ : ∃ f, fuel = f + 1 := ⟨fuel - 1, by omega⟩
    have hN : pN q ≤ 5 := ok.1
    have ih := fun acc => B_full_loop h ok ha d (i + 1) f acc (by omega) (by omega)
    rw [f_M_isFullAsRead_4, h.1, if_neg (fun q => absurd ((nIle (by omega) (by omega)).mp q) (by omega)), B_linked h ok (by omega) (by omega), Option.bind_some]
    unfold f_M_isFullAsRead_30 f_M_isFullAsRead_34 f_M_isFullAsRead_35
    rw [nIs]
    have fin : ∀ x : Bool, x = (acc || mayL q a i) → f_M_isFullAsRead_4 f (nI a) (bI (!x)) (nI (i + 1)) σ = some (bI (!anyR (fun b => mayL q a b) (d + 1) i acc)) := fun x hx => by
      rw [ih, hx]; rfl
    have y1 := fin true
    have y0 := fin false
    have r1 : bI (!true) = 0 := rfl
    have r0 : bI (!false) = 1 := rfl
    rw [r1] at y1
    rw [r0] at y0
    cases acc with
    | true => rw [if_pos r1]; exact y1 rfl
    | false =>
      rw [if_neg (by decide)]
      by_cases hai : a = i
      · rw [if_pos (by rw [hai])]
        exact y0 (by unfold mayL; rw [decide_eq_true hai]; rfl)
      · rw [if_neg (fun z => hai ((nIeq (by omega) (by omega)).mp z).symm)]
        have hm : mayL q a i = !lkM q a i := by
          unfold mayL
          rw [decide_eq_false hai, decide_eq_true ha, decide_eq_true (show i < pN q by omega)]
          simp
        cases hl : lkM q a i with
        | false =>
          rw [hl] at hm
          rw [if_pos bI_f]
          exact y1 (by rw [hm]; rfl)
        | true =>
          rw [hl] at hm
          rw [if_neg (by decide)]
          exact y0 (by rw [hm]; rfl)
theorem B_full {σ : MT} {q : PLN} {a : Nat} (h : qB σ q) (ok : okQ q) (ha : a < pN q) : f_M_isFullAsRead (nI a) σ = some (bI (!mayF q a)) := B_full_loop h ok ha (pN q) 0 1100 false (by omega) (by have := ok.1; omega)
