/-! WHAT IS ASKED of a state -/
def misM (p : PLN) (sv : SV) (i : Nat) : Int32 := if (sv.2.2 i).1 0 = 0 then -9 else if (sv.2.2 i).1 2 = -9 then -9 else if estN (nI i) (clk sv.1 ((sv.2.2 i).1 1) (pS p i)) (sv.2.2 i) = -9 then -9 else nrF (estN (nI i) (clk sv.1 ((sv.2.2 i).1 1) (pS p i)) (sv.2.2 i) - clk sv.1 ((sv.2.2 ((sv.2.2 i).1 2).toNatClampNeg).1 1) (pS p ((sv.2.2 i).1 2).toNatClampNeg)) + 1000
theorem okS.tm {p : PLN} {T : Nat} {sv : SV} (h : okS p T sv) (hT : T < 90000000) : IR 0 100000000 sv.1 := by
  obtain ⟨-, ⟨a, b⟩, -⟩ := h
  constructor <;> omega
theorem v_shown {σ : MT} {k N i : Nat} {sv : SV} (h : hA σ k N sv) (hi : i < N) (hN : N ≤ 5) : f_St_shownRoot k (nI i) σ = some (if (sv.2.2 i).1 0 = 0 then -9 else (sv.2.2 i).1 2) := by
  have hn := h.2.2.1 i hi
  unfold f_St_shownRoot
  simp (disch := omega) only [ad19, ad3, ad95, nIp_0, nIp_1, nIp_2, nIp_3, nIp_4, nIp_5, nIp_6, nIp_7, nI_add, nIc, inb_n, eq_self, if_true]
  rw [hn.1 0 (by decide), hn.1 2 (by decide)]
  by_cases h0 : (sv.2.2 i).1 0 = 0
  · rw [if_pos h0, if_pos h0]
  · rw [if_neg h0, if_neg h0]
theorem A_clock {σ : MT} {k i T : Nat} {p : PLN} {sv : SV} (hp : okP p) (hpA : pA σ 15 p) (h : hA σ k (pN p) sv) (ok : okS p T sv) (hT : T < 90000000) (hi : i < pN p) : f_Fl_clock k (nI i) σ = some (clk sv.1 ((sv.2.2 i).1 1) (pS p i)) := by
  have hN : pN p ≤ 5 := hp.1
  have hn := h.2.2.1 i hi
  have ed : σ.1 (k + 1 + 1 + 4 * i) 1 = (sv.2.2 i).1 1 := hn.1 1 (by decide)
  have e17 : σ.1 17 i = pS p i := hpA.2.2.2.1 i hi
  rw [v_clockA (i := i) (by omega) (by rw [h.1]; exact ok.tm hT) (by rw [ed]; exact (ok.1 i hi).2.1) (by rw [e17]; exact hp.2.2.2.2.2.1 i hi), h.1, ed, e17]
theorem B_clock {σ : MT} {c i T : Nat} {p : PLN} {sv : SV} (hp : okP p) (hpB : pB σ p) (h : hR σ c (pN p) sv) (ok : okS p T sv) (hT : T < 90000000) (hi : i < pN p) : f_M_clockOf c (nI i) σ = some (clk sv.1 ((sv.2.2 i).1 1) (pS p i)) := by
  have hN : pN p ≤ 5 := hp.1
  obtain ⟨f1, f2, f3, f4, f5, f6, f0⟩ := (h.2.2 i hi).f
  have e40 : σ.1 40 i = pS p i := hpB.2.2.2.1 i hi
  rw [v_clockB (i := i) (by omega) (by rw [h.1]; exact ok.tm hT) (by rw [f1]; exact (ok.1 i hi).2.1) (by rw [e40]; exact hp.2.2.2.2.2.1 i hi), h.1, f1, e40]
theorem B_est {σ : MT} {c i T : Nat} {p : PLN} {sv : SV} (hp : okP p) (hpB : pB σ p) (h : hR σ c (pN p) sv) (ok : okS p T sv) (hT : T < 90000000) (hi : i < pN p) : f_M_estimate c (nI i) σ = some (estN (nI i) (clk sv.1 ((sv.2.2 i).1 1) (pS p i)) (sv.2.2 i)) := by
  have hN : pN p ≤ 5 := hp.1
  have e40 : σ.1 40 i = pS p i := hpB.2.2.2.1 i hi
  rw [v_estB (h.2.2 i hi) (by omega) (by rw [h.1]; exact ok.tm hT) (ok.1 i hi).2.1 (by rw [e40]; exact hp.2.2.2.2.2.1 i hi), h.1, e40]
theorem A_miss {σ : MT} {k i T : Nat} {p : PLN} {sv : SV} (hp : okP p) (hpA : pA σ 15 p) (h : hA σ k (pN p) sv) (ok : okS p T sv) (hT : T < 90000000) (hi : i < pN p) : f_Fl_shiftedMiss k (nI i) σ = some (misM p sv i) := by
  have hN : pN p ≤ 5 := hp.1
  unfold f_Fl_shiftedMiss misM
  rw [v_shown h hi hN, Option.bind_some]
  by_cases h0 : (sv.2.2 i).1 0 = 0
  · rw [if_pos h0, if_pos h0, if_pos (by decide)]
  · rw [if_neg h0, if_neg h0]
    rcases (ok.1 i hi).2.2.1 with h9 | ⟨r, hr, h9⟩
    · rw [if_pos h9, h9, if_pos (by decide)]
    · have n9 : ¬ (sv.2.2 i).1 2 = -9 := fun q => nI_9 (i := r) (by omega) (by rw [← q, h9])
      rw [if_neg n9, h9, if_neg (fun q => absurd ((nlt_0 (by omega)).mp q) (by omega)), hpA.2.1, if_pos ((nIlt (by omega) (by omega)).mpr hr), if_pos (inb_n (by omega) (by decide)), A_clock hp hpA h ok hT hi, Option.bind_some, nIc (n := i) (by omega), v_estA (h.2.2.1 i hi), Option.bind_some, A_clock hp hpA h ok hT hr, nIc (n := r) (by omega)]
      by_cases he : estN (nI i) (clk sv.1 ((sv.2.2 i).1 1) (pS p i)) (sv.2.2 i) = -9
      · rw [if_pos he, if_pos he]
      · rw [if_neg he, if_neg he, Option.bind_some, v_near, Option.bind_some]
theorem v_isOn {σ : MT} {c N i : Nat} {sv : SV} (h : hR σ c N sv) (hi : i < N) (hN : N ≤ 5) (hw : wfS N sv) : f_M_isOn c (nI i) σ = some (if (sv.2.2 i).1 0 = 0 then 0 else 1) := by
  obtain ⟨f1, f2, f3, f4, f5, f6, f0⟩ := (h.2.2 i hi).f
  unfold f_M_isOn
  simp (disch := omega) only [ad19, ad3, ad95, nIp_0, nIp_1, nIp_2, nIp_3, nIp_4, nIp_5, nIp_6, nIp_7, nI_add, nIc, inb_n, eq_self, if_true]
  rw [f0]
  have hon := on01 (hw i hi)
  by_cases h0 : (sv.2.2 i).1 0 = 0
  · rw [if_neg (fun q => hon.mp q h0), if_pos h0]
  · rw [if_pos (hon.mpr h0), if_neg h0]
theorem B_miss {σ : MT} {c i T : Nat} {p : PLN} {sv : SV} (hp : okP p) (hpB : pB σ p) (h : hR σ c (pN p) sv) (ok : okS p T sv) (hT : T < 90000000) (hi : i < pN p) : f_M_missOf c (nI i) σ = some (misM p sv i) := by
  have hN : pN p ≤ 5 := hp.1
  obtain ⟨f1, f2, f3, f4, f5, f6, f0⟩ := (h.2.2 i hi).f
  unfold f_M_missOf misM
  rw [v_isOn h hi hN ok.1, Option.bind_some]
  simp (disch := omega) only [ad19, ad3, ad95, nIp_0, nIp_1, nIp_2, nIp_3, nIp_4, nIp_5, nIp_6, nIp_7, nI_add, nIc, inb_n, eq_self, if_true]
  rw [f2]
  by_cases h0 : (sv.2.2 i).1 0 = 0
  · rw [if_pos h0, if_pos h0, if_pos rfl]
  · rw [if_neg h0, if_neg h0, if_neg (by decide)]
    rcases (ok.1 i hi).2.2.1 with h9 | ⟨r, hr, h9⟩
    · rw [if_pos h9, if_pos h9]
    · have n9 : ¬ (sv.2.2 i).1 2 = -9 := fun q => nI_9 (i := r) (by omega) (by rw [← q, h9])
      rw [if_neg n9, if_neg n9, B_est hp hpB h ok hT hi, Option.bind_some, h9, B_clock hp hpB h ok hT hr, nIc (n := r) (by omega)]
      by_cases he : estN (nI i) (clk sv.1 ((sv.2.2 i).1 1) (pS p i)) (sv.2.2 i) = -9
      · rw [if_pos he, if_pos he]
      · rw [if_neg he, if_neg he, Option.bind_some, nrL, Option.bind_some, Int32.add_comm]
-- sets
def setN (q : Nat → Bool) : Nat → Nat
  | 0 => 0
  | n + 1 => setN q n + (if q n = true then 2 ^ n else 0)
theorem setN_b (q : Nat → Bool) : ∀ n, setN q n < 2 ^ n
  | 0 => by show 0 < 2 ^ 0; decide
  | n + 1 => by
    have := setN_b q n
    show setN q n + (if q n = true then 2 ^ n else 0) < 2 ^ (n + 1)
    rw [Nat.pow_succ]
    split <;> omega
theorem setN_c {q r : Nat → Bool} : ∀ n, (∀ i, i < n → q i = r i) → setN q n = setN r n
  | 0, _ => rfl
  | n + 1, h => by
    show setN q n + _ = setN r n + _
    rw [setN_c n (fun i hi => h i (by omega)), h n (by omega)]
theorem setN_x {q : Nat → Bool} {n : Nat} : ∀ m, (∀ i, n ≤ i → i < n + m → q i = false) → setN q (n + m) = setN q n
  | 0, _ => rfl
  | m + 1, h => by
    show setN q (n + m) + (if q (n + m) = true then 2 ^ (n + m) else 0) = _
    rw [setN_x m (fun i h1 h2 => h i h1 (by omega)), h (n + m) (by omega) (by omega)]
    rfl
theorem or_bit {i a : Nat} (hi : i < 7) (ha : a < 2 ^ i) : nI a ||| ((1 : Int32) <<< (nI i &&& 31)) = nI (a + 2 ^ i) := by
  have H : ∀ i, i < 7 → ∀ a, a < 2 ^ i → nI a ||| ((1 : Int32) <<< (nI i &&& 31)) = nI (a + 2 ^ i) := by decide +kernel
  exact H i hi a ha
theorem or_0 {a : Nat} (ha : a < 128) : nI a ||| (0 : Int32) = nI a := by
  have H : ∀ a, a < 128 → nI a ||| (0 : Int32) = nI a := by decide +kernel
  exact H a ha
def pop (a : Nat) : Nat := a % 2 + a / 2 % 2 + a / 4 % 2 + a / 8 % 2 + a / 16 % 2 + a / 32 % 2 + a / 64 % 2
theorem v_bitCount {a : Nat} (ha : a < 128) : f_In_bitCount (nI a) = some (nI (pop a)) := by
  have H : ∀ a, a < 128 → f_In_bitCount (nI a) = some (nI (pop a)) := by decide +kernel
  exact H a ha
theorem v_ones {a : Nat} (ha : a < 128) : f_M_ones (nI a) = some (nI (pop a)) := by
  have H : ∀ a, a < 128 → f_M_ones (nI a) = some (nI (pop a)) := by decide +kernel
  exact H a ha
theorem lt_32 {a n : Nat} (h : a < 2 ^ n) (hn : n ≤ 5) : a < 32 := Nat.lt_of_lt_of_le h (Nat.pow_le_pow_right (n := 2) (by omega) hn)
theorem lt_128 {a n : Nat} (h : a < 2 ^ n) (hn : n ≤ 7) : a < 128 := Nat.lt_of_lt_of_le h (Nat.pow_le_pow_right (n := 2) (by omega) hn)
-- in time
def inT (p : PLN) (sv : SV) (i : Nat) : Bool := !decide (misM p sv i < 997) && !decide (1003 < misM p sv i)
theorem A_isInTime {σ : MT} {k i T : Nat} {p : PLN} {sv : SV} (hp : okP p) (hpA : pA σ 15 p) (h : hA σ k (pN p) sv) (ok : okS p T sv) (hT : T < 90000000) (hi : i < pN p) : f_Fl_isInTime k (nI i) σ = some (bI (inT p sv i)) := by
  unfold f_Fl_isInTime inT
  rw [A_miss hp hpA h ok hT hi, Option.bind_some]
  by_cases h1 : misM p sv i < 997
  · rw [if_pos h1]; simp [h1, bI]
  · rw [if_neg h1]
    by_cases h2 : 1003 < misM p sv i
    · rw [if_pos h2]; simp [h1, h2, bI]
    · rw [if_neg h2]; simp [h1, h2, bI]
theorem A_inT_loop {σ : MT} {k T : Nat} {p : PLN} {sv : SV} (hp : okP p) (hpA : pA σ 15 p) (h : hA σ k (pN p) sv) (ok : okS p T sv) (hT : T < 90000000) : ∀ (d i fuel : Nat), i + d = pN p → d < fuel → f_Fl_inTimeSet_4 fuel k (nI (setN (inT p sv) i)) (nI i) σ = some (nI (setN (inT p sv) (pN p)))
  | 0, i, fuel, hi, hf => by
    obtain ⟨f, rfl⟩ : ∃ f, fuel = f + 1 := ⟨fuel - 1, by omega⟩
    have hN : pN p ≤ 5 := hp.1
    have : i = pN p := by omega
    subst this
    rw [f_Fl_inTimeSet_4, hpA.2.1, if_pos ((nIle (by omega) (by omega)).mpr (Nat.le_refl _))]
  | d + 1, i, fuel, hi, hf => by
    obtain ⟨f, rfl⟩ : ∃ f, fuel = f + 1 := ⟨fuel - 1, by omega⟩
    have hN : pN p ≤ 5 := hp.1
    have ih := A_inT_loop hp hpA h ok hT d (i + 1) f (by omega) (by omega)
    rw [f_Fl_inTimeSet_4, hpA.2.1, if_neg (fun q => absurd ((nIle (by omega) (by omega)).mp q) (by omega)), A_isInTime hp hpA h ok hT (by omega), Option.bind_some]
    unfold f_Fl_inTimeSet_30
    rw [nIs]
    cases hq : inT p sv i with
    | false =>
      rw [if_pos (by decide)]
      have e : setN (inT p sv) (i + 1) = setN (inT p sv) i := by
        show setN (inT p sv) i + (if inT p sv i = true then 2 ^ i else 0) = _
        rw [hq]; rfl
      rw [e] at ih
      exact ih
    | true =>
      rw [if_neg (by decide), or_bit (by omega) (setN_b _ _)]
      have e : setN (inT p sv) (i + 1) = setN (inT p sv) i + 2 ^ i := by
        show setN (inT p sv) i + (if inT p sv i = true then 2 ^ i else 0) = _
        rw [hq]; rfl
      rw [e] at ih
      exact ih
theorem A_inTime {σ : MT} {k T : Nat} {p : PLN} {sv : SV} (hp : okP p) (hpA : pA σ 15 p) (h : hA σ k (pN p) sv) (ok : okS p T sv) (hT : T < 90000000) : f_Fl_inTimeSet k σ = some (nI (setN (inT p sv) (pN p))) := A_inT_loop hp hpA h ok hT (pN p) 0 1100 (by omega) (by have : pN p ≤ 5 := hp.1; omega)
theorem A_bits {p : PLN} {sv : SV} (hp : okP p) : f_In_bitCount (nI (setN (inT p sv) (pN p))) = some (nI (pop (setN (inT p sv) (pN p)))) := v_bitCount (lt_128 (setN_b _ _) (by have : pN p ≤ 5 := hp.1; omega))
theorem B_inT_loop {σ : MT} {c T : Nat} {p : PLN} {sv : SV} (hp : okP p) (hpB : pB σ p) (h : hR σ c (pN p) sv) (ok : okS p T sv) (hT : T < 90000000) : ∀ (d i fuel : Nat), i + d = pN p → d < fuel → f_M_inTime_4 fuel c (nI (setN (inT p sv) i)) (nI i) σ = some (nI (setN (inT p sv) (pN p)))
  | 0, i, fuel, hi, hf => by
    obtain ⟨f, rfl⟩ : ∃ f, fuel = f + 1 := ⟨fuel - 1, by omega⟩
    have hN : pN p ≤ 5 := hp.1
    have : i = pN p := by omega
    subst this
    rw [f_M_inTime_4, hpB.2.1, if_pos ((nIle (by omega) (by omega)).mpr (Nat.le_refl _))]
  | d + 1, i, fuel, hi, hf => by
    obtain ⟨f, rfl⟩ : ∃ f, fuel = f + 1 := ⟨fuel - 1, by omega⟩
    have hN : pN p ≤ 5 := hp.1
    have ih := B_inT_loop hp hpB h ok hT d (i + 1) f (by omega) (by omega)
    rw [f_M_inTime_4, hpB.2.1, if_neg (fun q => absurd ((nIle (by omega) (by omega)).mp q) (by omega)), B_miss hp hpB h ok hT (by omega), Option.bind_some, v_in, Option.bind_some]
    unfold f_M_inTime_39
    rw [nIs, Int32.toInt_toInt64, show (997 : Int64).toInt = 997 from rfl, show (1003 : Int64).toInt = 1003 from rfl]
    have hl1 : misM p sv i < 997 ↔ (misM p sv i).toInt < 997 := Int32.lt_iff_toInt_lt
    have hl2 : 1003 < misM p sv i ↔ 1003 < (misM p sv i).toInt := Int32.lt_iff_toInt_lt
    have hs := setN_b (inT p sv) i
    cases hq : inT p sv i with
    | false =>
      have hn : ¬ (997 ≤ (misM p sv i).toInt ∧ (misM p sv i).toInt ≤ 1003) := by
        intro q
        unfold inT at hq
        simp only [Bool.and_eq_false_iff, Bool.not_eq_false', decide_eq_true_eq, hl1, hl2] at hq
        omega
      rw [if_neg hn, if_pos rfl, or_0 (lt_128 hs (by omega))]
      have e : setN (inT p sv) (i + 1) = setN (inT p sv) i := by
        show setN (inT p sv) i + (if inT p sv i = true then 2 ^ i else 0) = _
        rw [hq]; rfl
      rw [e] at ih
      exact ih
    | true =>
      have hn : (997 ≤ (misM p sv i).toInt ∧ (misM p sv i).toInt ≤ 1003) := by
        unfold inT at hq
        simp only [Bool.and_eq_true, Bool.not_eq_true', decide_eq_false_iff_not, hl1, hl2] at hq
        omega
      rw [if_pos hn, if_neg (by decide), or_bit (by omega) hs]
      have e : setN (inT p sv) (i + 1) = setN (inT p sv) i + 2 ^ i := by
        show setN (inT p sv) i + (if inT p sv i = true then 2 ^ i else 0) = _
        rw [hq]; rfl
      rw [e] at ih
      exact ih
theorem B_inTime {σ : MT} {c T : Nat} {p : PLN} {sv : SV} (hp : okP p) (hpB : pB σ p) (h : hR σ c (pN p) sv) (ok : okS p T sv) (hT : T < 90000000) : f_M_inTime c σ = some (nI (setN (inT p sv) (pN p))) := B_inT_loop hp hpB h ok hT (pN p) 0 1100 (by omega) (by have : pN p ≤ 5 := hp.1; omega)
