/-! canLinkAny and mayLink agree -/
def anyM (q : PLN) : Bool := anyR (fun a => mayF q a) (pN q) 0 false && decide (pL q < 7)
theorem cN2 {n : Nat} (hn : n ≤ 5) : nI n * (nI n - 1) / 2 = nI (n * (n - 1) / 2) := by
  have H : ∀ n, n ≤ 5 → nI n * (nI n - 1) / 2 = nI (n * (n - 1) / 2) := by decide +kernel
  exact H n hn
theorem A_any {σ : MT} {c : Nat} {q : PLN} (h : pF σ c q) (ok : okQ q) (hp : prs q = pL q) : f_Pl_canLinkAny c σ = some (bI (anyM q)) := by
  have hN := ok.1
  have hL := ok.2.1
  have ha := any_may ok
  rw [hp] at ha
  unfold f_Pl_canLinkAny anyM
  rw [h.2.2.1, h.2.1, cN2 hN]
  have hb : pN q * (pN q - 1) / 2 < 1000 := by
    have : pN q * (pN q - 1) ≤ 5 * 5 := Nat.mul_le_mul hN (by omega)
    omega
  by_cases h7 : 7 ≤ pL q
  · rw [if_pos ((nge_7 (by omega)).mpr h7), decide_eq_false (show ¬ pL q < 7 by omega), Bool.and_false]; rfl
  · rw [if_neg (fun z => h7 ((nge_7 (by omega)).mp z)), decide_eq_true (show pL q < 7 by omega), Bool.and_true]
    by_cases hc : pN q * (pN q - 1) / 2 ≤ pL q
    · rw [if_pos ((nIle (by omega) (by omega)).mpr hc)]
      cases z : anyR (fun a => mayF q a) (pN q) 0 false with
      | false => rfl
      | true => have := ha.mp z; omega
    · rw [if_neg (fun z => hc ((nIle (by omega) (by omega)).mp z)), ha.mpr (by omega)]; rfl
theorem B_may_loop {σ : MT} {q : PLN} (h : qB σ q) (ok : okQ q) : ∀ (d i fuel : Nat) (acc : Bool), i + d = pN q → d < fuel → f_M_mayLink_4 fuel (bI acc) (nI i) σ = some (bI (anyR (fun a => mayF q a) d i acc && decide (pL q < 7)))
  | 0, i, fuel, acc, hi, hf => by
    obtain ⟨f, rfl⟩ : ∃ f, fuel = f + 1 := ⟨fuel - 1, by omega⟩
    have hN := ok.1
    have hL := ok.2.1
    rw [f_M_mayLink_4, h.1, if_pos ((nIle (by omega) (by omega)).mpr (by omega)), h.2.1]
    show _ = some (bI (acc && decide (pL q < 7)))
    cases acc with
    | false => rw [if_pos bI_f]; rfl
    | true =>
      rw [if_neg (by decide), Bool.true_and]
      by_cases h7 : 7 ≤ pL q
      · rw [if_pos ((nge_7 (by omega)).mpr h7), decide_eq_false (show ¬ pL q < 7 by omega)]; rfl
      · rw [if_neg (fun z => h7 ((nge_7 (by omega)).mp z)), decide_eq_true (show pL q < 7 by omega)]; rfl
  | d + 1, i, fuel, acc, hi, hf => by
    obtain ⟨f, rfl⟩ : ∃ f, fuel = f + 1 := ⟨fuel - 1, by omega⟩
    have hN := ok.1
    have ih := fun acc => B_may_loop h ok d (i + 1) f acc (by omega) (by omega)
    rw [f_M_mayLink_4, h.1, if_neg (fun q => absurd ((nIle (by omega) (by omega)).mp q) (by omega)), B_full h ok (by omega), Option.bind_some]
    unfold f_M_mayLink_24 f_M_mayLink_29
    rw [nIs]
    have fin : ∀ x : Bool, x = (acc || mayF q i) → f_M_mayLink_4 f (bI x) (nI (i + 1)) σ = some (bI (anyR (fun a => mayF q a) (d + 1) i acc && decide (pL q < 7))) := fun x hx => by
      rw [ih, hx]; rfl
    have y1 := fin true
    have y0 := fin false
    rw [bI_t] at y1
    rw [bI_f] at y0
    cases acc with
    | true => rw [if_neg (by decide)]; exact y1 rfl
    | false =>
      rw [if_pos bI_f]
      cases hm : mayF q i with
      | true =>
        rw [if_pos (show bI (!true) = 0 from rfl)]
        exact y1 (by rw [hm]; rfl)
      | false =>
        rw [if_neg (show ¬ bI (!false) = 0 by decide)]
        exact y0 (by rw [hm]; rfl)
theorem B_may {σ : MT} {q : PLN} (h : qB σ q) (ok : okQ q) : f_M_mayLink σ = some (bI (anyM q)) := B_may_loop h ok (pN q) 0 1100 false (by omega) (by have := ok.1; omega)
