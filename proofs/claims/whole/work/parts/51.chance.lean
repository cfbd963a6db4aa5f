/-! chance -/
def cnt (q : Nat → Bool) : Nat → Nat
  | 0 => 0
  | n + 1 => cnt q n + (if q n = true then 1 else 0)
theorem cnt_c {q r : Nat → Bool} : ∀ n, (∀ i, i < n → q i = r i) → cnt q n = cnt r n
  | 0, _ => rfl
  | n + 1, h => by
    show cnt q n + (if q n = true then 1 else 0) = cnt r n + (if r n = true then 1 else 0)
    rw [cnt_c n (fun i hi => h i (by omega)), h n (by omega)]
theorem cnt_s (q r : Nat → Bool) : ∀ n, cnt q n = cnt (fun l => q l && r l) n + cnt (fun l => q l && !r l) n
  | 0 => rfl
  | n + 1 => by
    show cnt q n + (if q n = true then 1 else 0) = (cnt (fun l => q l && r l) n + (if (q n && r n) = true then 1 else 0)) + (cnt (fun l => q l && !r l) n + (if (q n && !r n) = true then 1 else 0))
    rw [cnt_s q r n]
    cases q n <;> cases r n <;> simp <;> omega
theorem cnt_b (q : Nat → Bool) : ∀ n, cnt q n ≤ n
  | 0 => Nat.le_refl _
  | n + 1 => by
    have := cnt_b q n
    show cnt q n + (if q n = true then 1 else 0) ≤ n + 1
    split <;> omega
theorem cnt_pop {L a : Nat} (hL : L ≤ 7) (ha : a < 2 ^ L) : cnt (fun l => Nat.testBit a l) L = pop a := by
  have H : ∀ L, L ≤ 7 → ∀ a, a < 128 → a < 2 ^ L → cnt (fun l => Nat.testBit a l) L = pop a := by decide +kernel
  exact H L hL a (lt_128 ha hL) ha
def upN (L dn : Nat) : Nat := 2 ^ L - 1 - dn
theorem up_e {L dn : Nat} (hL : L ≤ 7) (hd : dn < 2 ^ L) : (((1 : Int32) <<< (nI L &&& 31)) - (1 : Int32)) &&& (nI dn ^^^ (-1 : Int32)) = nI (upN L dn) ∧ upN L dn < 2 ^ L ∧ cnt (fun l => !Nat.testBit dn l) L = pop (upN L dn) := by
  have H : ∀ L, L ≤ 7 → ∀ dn, dn < 128 → dn < 2 ^ L → (((1 : Int32) <<< (nI L &&& 31)) - (1 : Int32)) &&& (nI dn ^^^ (-1 : Int32)) = nI (upN L dn) ∧ upN L dn < 2 ^ L ∧ cnt (fun l => !Nat.testBit dn l) L = pop (upN L dn) := by decide +kernel
  exact H L hL dn (lt_128 hd hL) hd
theorem one_L {L : Nat} (hL : L ≤ 7) : (1 : Int32) <<< (nI L &&& 31) = nI (2 ^ L) := by
  have H : ∀ L, L ≤ 7 → (1 : Int32) <<< (nI L &&& 31) = nI (2 ^ L) := by decide +kernel
  exact H L hL
theorem bit_t {d l : Nat} (hd : d < 128) (hl : l < 7) : bit (nI d) l = bI (Nat.testBit d l) := by
  have H : ∀ d, d < 128 → ∀ l, l < 7 → bit (nI d) l = bI (Nat.testBit d l) := by decide +kernel
  exact H d hd l hl
theorem or_nI {a b : Nat} (ha : a < 128) (hb : b < 128) : nI a ||| nI b = nI (a ||| b) := by
  have H : ∀ a, a < 128 → ∀ b, b < 128 → nI a ||| nI b = nI (a ||| b) := by decide +kernel
  exact H a ha b hb
theorem and_nI {a b : Nat} (ha : a < 128) (hb : b < 128) : (nI a &&& nI b = 0) ↔ a &&& b = 0 := by
  have H : ∀ a, a < 128 → ∀ b, b < 128 → ((nI a &&& nI b = 0) ↔ a &&& b = 0) := by decide +kernel
  exact H a ha b hb
theorem and_ni {a b : Nat} (ha : a < 128) (hb : b < 128) : (nI a &&& (nI b ^^^ (-1 : Int32)) = 0) ↔ a &&& (127 - b) = 0 := by
  have H : ∀ a, a < 128 → ∀ b, b < 128 → ((nI a &&& (nI b ^^^ (-1 : Int32)) = 0) ↔ a &&& (127 - b) = 0) := by decide +kernel
  exact H a ha b hb
theorem up_c {L dn c : Nat} (hL : L ≤ 7) (hd : dn < 2 ^ L) (hc : c < 2 ^ L) : (c &&& (127 - upN L dn) = 0) ↔ c &&& dn = 0 := by
  have e : 127 - upN L dn = dn + (128 - 2 ^ L) := by
    unfold upN
    have := lt_128 hd hL
    have : 2 ^ L ≤ 128 := Nat.pow_le_pow_right (n := 2) (by omega) hL
    omega
  rw [e]
  have H : ∀ L, L ≤ 7 → ∀ dn, dn < 2 ^ L → dn + (128 - 2 ^ L) = dn ||| (128 - 2 ^ L) ∧ ∀ l, l < 7 → (Nat.testBit (128 - 2 ^ L) l = decide (L ≤ l)) := by decide +kernel
  obtain ⟨h1, h2⟩ := H L hL dn hd
  rw [h1, Nat.and_or_distrib_left]
  have h3 : c &&& (128 - 2 ^ L) = 0 := by
    apply Nat.eq_of_testBit_eq
    intro l
    rw [Nat.testBit_and, Nat.zero_testBit]
    by_cases hl : l < L
    · rw [h2 l (by omega), decide_eq_false (by omega), Bool.and_false]
    · rw [Nat.testBit_lt_two_pow (Nat.lt_of_lt_of_le hc (Nat.pow_le_pow_right (by omega) (by omega))), Bool.false_and]
  rw [h3, Nat.or_zero]
theorem dis_t {a b l : Nat} (h : a &&& b = 0) : (Nat.testBit a l && Nat.testBit b l) = false := by
  rw [← Nat.testBit_and, h, Nat.zero_testBit]
theorem raise {a n : Nat} (ha : a ≤ 10) (hn : n ≤ 7) : f_M_raised (nI a) (nI n) = some (nI (a ^ n)) ∧ a ^ n ≤ 10000000 := by
  have H : ∀ a, a ≤ 10 → ∀ n, n ≤ 7 → f_M_raised (nI a) (nI n) = some (nI (a ^ n)) ∧ a ^ n ≤ 10000000 := by decide +kernel
  exact H a ha n hn
theorem prod_b {a m n : Nat} (ha : a ≤ 10) (h : m + n ≤ 7) : a ^ m * (10 - a) ^ n ≤ 10000000 := by
  have H : ∀ a, a ≤ 10 → ∀ m, m ≤ 7 → ∀ n, n ≤ 7 → m + n ≤ 7 → a ^ m * (10 - a) ^ n ≤ 10000000 := by decide +kernel
  exact H a ha m (by omega) n (by omega) h
def wgt (x L dn c : Nat) : Nat := x ^ cnt (fun l => Nat.testBit c l) L * (10 - x) ^ cnt (fun l => !Nat.testBit dn l && !Nat.testBit c l) L
theorem lI_mul {a b : Nat} (ha : a < 2147483648) (hb : b < 2147483648) (h : a * b < 2147483648) : lI a * lI b = lI (a * b) := by
  refine lI_e ?_
  rw [Int64.toInt_mul, lI_t ha, lI_t hb]
  have : ((a * b : Nat) : Int) = (a : Int) * (b : Int) := Int.natCast_mul a b
  rw [← this]
  exact z_bl (by omega) (by omega)
theorem nI_64 {n : Nat} (h : n < 2147483648) : (nI n).toInt64 = lI n := lI_e (by rw [Int32.toInt_toInt64, nIt h])
theorem A_wgt_loop {σ : MT} {L dn c x : Nat} (hL : L ≤ 7) (hx : x ≤ 10) (hd : dn < 2 ^ L) (hc : c < 2 ^ L) (hdis : c &&& dn = 0) (h4 : σ.1 15 4 = nI L) (h1 : σ.1 61 1 = nI dn) : ∀ (d i fuel : Nat), i + d = L → d < fuel → f_TF_weightOfFailing_5 fuel (nI c) (nI x) (lI (wgt x i dn c)) (nI i) σ = some (lI (wgt x L dn c))
  | 0, i, fuel, hi, hf => by
    obtain ⟨f, rfl⟩ : ∃ f, fuel = f + 1 := ⟨fuel - 1, by omega⟩
    have : i = L := by omega
    subst this
    rw [f_TF_weightOfFailing_5, h4, if_pos ((nIle (by omega) (by omega)).mpr (Nat.le_refl _))]
  | d + 1, i, fuel, hi, hf => by
    obtain ⟨f, rfl⟩ : ∃ f, fuel = f + 1 := ⟨fuel - 1, by omega⟩
    have ih := A_wgt_loop hL hx hd hc hdis h4 h1 d (i + 1) f (by omega) (by omega)
    have d128 := lt_128 hd hL
    have c128 := lt_128 hc hL
    have hbt := bit_t c128 (show i < 7 by omega)
    unfold bit at hbt
    have cb1 := cnt_b (fun l => Nat.testBit c l) i
    have cb := cnt_s (fun l => !Nat.testBit dn l) (fun l => Nat.testBit c l) i
    have cb2 := cnt_b (fun l => !Nat.testBit dn l) i
    have ce : cnt (fun l => !Nat.testBit dn l && Nat.testBit c l) i = cnt (fun l => Nat.testBit c l) i := cnt_c i (fun l _ => by
      have := dis_t (l := l) hdis
      cases h1 : Nat.testBit c l <;> cases h2 : Nat.testBit dn l <;> simp_all)
    have hb := prod_b (a := x) (m := cnt (fun l => Nat.testBit c l) i) (n := cnt (fun l => !Nat.testBit dn l && !Nat.testBit c l) i) hx (by omega)
    have hw : wgt x i dn c ≤ 10000000 := hb
    have es : wgt x (i + 1) dn c = x ^ (cnt (fun l => Nat.testBit c l) i + (if Nat.testBit c i = true then 1 else 0)) * (10 - x) ^ (cnt (fun l => !Nat.testBit dn l && !Nat.testBit c l) i + (if (!Nat.testBit dn i && !Nat.testBit c i) = true then 1 else 0)) := rfl
    rw [f_TF_weightOfFailing_5, h4, if_neg (fun q => absurd ((nIle (by omega) (by omega)).mp q) (by omega)), v_isDown h1 (by omega) d128, bit_t d128 (by omega), Option.bind_some, l7 (by omega), hbt]
    unfold f_TF_weightOfFailing_50 f_TF_weightOfFailing_52
    rw [nIs]
    have hdi := dis_t (l := i) hdis
    cases hdn : Nat.testBit dn i with
    | true =>
      rw [hdn, Bool.and_true] at hdi
      rw [if_neg (by decide)]
      rw [hdn, hdi] at es
      rw [es] at ih
      exact ih
    | false =>
      rw [if_pos bI_f]
      cases hcb : Nat.testBit c i with
      | true =>
        rw [hdn, hcb] at es
        have e : lI (wgt x i dn c) * (nI x).toInt64 = lI (wgt x (i + 1) dn c) := by
          rw [nI_64 (by omega), lI_mul (by omega) (by omega) (by have := Nat.mul_le_mul hw hx; omega), es]
          unfold wgt
          refine congrArg lI ?_
          show _ = x ^ (cnt (fun l => Nat.testBit c l) i + 1) * (10 - x) ^ cnt (fun l => !Nat.testBit dn l && !Nat.testBit c l) i
          rw [Nat.pow_succ, Nat.mul_right_comm]
        rw [if_pos (show bI true = 1 from rfl), e]
        exact ih
      | false =>
        rw [hdn, hcb] at es
        have e : lI (wgt x i dn c) * ((10 : Int32) - nI x).toInt64 = lI (wgt x (i + 1) dn c) := by
          rw [show (10 : Int32) - nI x = nI (10 - x) from pk_sub (a := 10) hx, nI_64 (by omega), lI_mul (by omega) (by omega) (by have := Nat.mul_le_mul hw (show 10 - x ≤ 10 by omega); omega), es]
          unfold wgt
          simp [Nat.pow_succ, Nat.mul_assoc]
        rw [if_neg (by decide), e]
        exact ih
theorem A_wgt {σ : MT} {L dn c x : Nat} (hL : L ≤ 7) (hx : x ≤ 10) (hd : dn < 2 ^ L) (hc : c < 2 ^ L) (hdis : c &&& dn = 0) (h4 : σ.1 15 4 = nI L) (h1 : σ.1 61 1 = nI dn) : f_TF_weightOfFailing (nI c) (nI x) σ = some (lI (wgt x L dn c)) := A_wgt_loop hL hx hd hc hdis h4 h1 L 0 1100 (by omega) (by omega)
theorem wgt_e {L dn c x : Nat} (hL : L ≤ 7) (hx : x ≤ 10) (hd : dn < 2 ^ L) (hc : c < 2 ^ L) (hdis : c &&& dn = 0) : pop c ≤ pop (upN L dn) ∧ pop (upN L dn) ≤ 7 ∧ wgt x L dn c = x ^ pop c * (10 - x) ^ (pop (upN L dn) - pop c) ∧ wgt x L dn c ≤ 10000000 := by
  obtain ⟨u1, u2, u3⟩ := up_e hL hd
  have cb := cnt_s (fun l => !Nat.testBit dn l) (fun l => Nat.testBit c l) L
  have cb2 := cnt_b (fun l => !Nat.testBit dn l) L
  have ce : cnt (fun l => !Nat.testBit dn l && Nat.testBit c l) L = cnt (fun l => Nat.testBit c l) L := cnt_c L (fun l _ => by
    have := dis_t (l := l) hdis
    cases h1 : Nat.testBit c l <;> cases h2 : Nat.testBit dn l <;> simp_all)
  rw [ce, cnt_pop hL hc, u3] at cb
  have e : cnt (fun l => !Nat.testBit dn l && !Nat.testBit c l) L = pop (upN L dn) - pop c := by omega
  have ew : wgt x L dn c = x ^ pop c * (10 - x) ^ (pop (upN L dn) - pop c) := by
    unfold wgt
    rw [cnt_pop hL hc, e]
  refine ⟨by omega, by omega, ew, ?_⟩
  rw [ew]
  exact prod_b hx (by omega)
theorem A_ten_loop {σ : MT} {L dn : Nat} (hL : L ≤ 7) (hd : dn < 2 ^ L) (h4 : σ.1 15 4 = nI L) (h1 : σ.1 61 1 = nI dn) : ∀ (d i fuel : Nat), i + d = L → d < fuel → f_TF_tenToTheUpLinks_4 fuel (lI (10 ^ cnt (fun l => !Nat.testBit dn l) i)) (nI i) σ = some (lI (10 ^ cnt (fun l => !Nat.testBit dn l) L))
  | 0, i, fuel, hi, hf => by
    obtain ⟨f, rfl⟩ : ∃ f, fuel = f + 1 := ⟨fuel - 1, by omega⟩
    have : i = L := by omega
    subst this
    rw [f_TF_tenToTheUpLinks_4, h4, if_pos ((nIle (by omega) (by omega)).mpr (Nat.le_refl _))]
  | d + 1, i, fuel, hi, hf => by
    obtain ⟨f, rfl⟩ : ∃ f, fuel = f + 1 := ⟨fuel - 1, by omega⟩
    have ih := A_ten_loop hL hd h4 h1 d (i + 1) f (by omega) (by omega)
    have d128 := lt_128 hd hL
    have cb2 := cnt_b (fun l => !Nat.testBit dn l) i
    have hb := (raise (a := 10) (n := cnt (fun l => !Nat.testBit dn l) i) (by omega) (by omega)).2
    rw [f_TF_tenToTheUpLinks_4, h4, if_neg (fun q => absurd ((nIle (by omega) (by omega)).mp q) (by omega)), v_isDown h1 (by omega) d128, bit_t d128 (by omega), Option.bind_some]
    unfold f_TF_tenToTheUpLinks_32
    rw [nIs]
    have es : cnt (fun l => !Nat.testBit dn l) (i + 1) = cnt (fun l => !Nat.testBit dn l) i + (if (!Nat.testBit dn i) = true then 1 else 0) := rfl
    cases hdn : Nat.testBit dn i with
    | true =>
      rw [hdn] at es
      rw [if_neg (by decide)]
      rw [es] at ih
      exact ih
    | false =>
      rw [hdn] at es
      have e : lI (10 ^ cnt (fun l => !Nat.testBit dn l) i) * 10 = lI (10 ^ cnt (fun l => !Nat.testBit dn l) (i + 1)) := by
        rw [show (10 : Int64) = lI 10 from rfl, lI_mul (by omega) (by omega) (by omega), es]
        rfl
      rw [if_pos bI_f, e]
      exact ih
theorem A_ten {σ : MT} {L dn : Nat} (hL : L ≤ 7) (hd : dn < 2 ^ L) (h4 : σ.1 15 4 = nI L) (h1 : σ.1 61 1 = nI dn) : f_TF_tenToTheUpLinks σ = some (lI (10 ^ pop (upN L dn))) := by
  rw [← (up_e hL hd).2.2]
  exact A_ten_loop hL hd h4 h1 L 0 1100 (by omega) (by omega)
