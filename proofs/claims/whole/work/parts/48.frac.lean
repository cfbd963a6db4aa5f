/-! FRACTIONS in least terms, on both sides -/
def lI (n : Nat) : Int64 := Int64.ofInt (n : Int)
theorem lI_t {n : Nat} (h : n < 2147483648) : (lI n).toInt = (n : Int) := z_l (by omega) (by omega)
theorem lI_e {x : Int64} {n : Nat} (h : x.toInt = (n : Int)) : x = lI n := z_eql h
theorem lI_0 {n : Nat} (h : n < 2147483648) : lg_cmp (lI n) 0 = 0 ↔ n = 0 := by
  rw [z_cmp0]
  constructor
  · intro q
    have := congrArg Int64.toInt q
    rw [lI_t h, Int64.toInt_zero] at this
    omega
  · intro q; subst q; rfl
theorem lI_mod {a b : Nat} (ha : a < 2147483648) (hb : b < 2147483648) (h0 : 0 < b) : lI a - lI a / lI b * lI b = lI (a % b) := by
  obtain ⟨-, -, d3⟩ := z_divL (x := lI a) (y := lI b) (by rw [lI_t hb]; omega)
  rw [lI_t ha, lI_t hb, Int.tdiv_eq_ediv_of_nonneg (by omega)] at d3
  refine lI_e (d3.trans ?_)
  have := Int.emod_add_mul_ediv (a : Int) (b : Int)
  rw [Int.mul_comm] at this
  rw [Int.natCast_emod]
  omega
theorem nI_mod {a b : Nat} (ha : a < 2147483648) (hb : b < 2147483648) (h0 : 0 < b) : nI a - nI a / nI b * nI b = nI (a % b) := by
  obtain ⟨-, -, d3⟩ := z_divI (x := nI a) (y := nI b) (by rw [nIt hb]; omega)
  rw [nIt ha, nIt hb, Int.tdiv_eq_ediv_of_nonneg (by omega)] at d3
  have hm : a % b < b := Nat.mod_lt _ h0
  refine Int32.toInt_inj.mp ?_
  rw [d3, nIt (by omega)]
  have := Int.emod_add_mul_ediv (a : Int) (b : Int)
  rw [Int.mul_comm] at this
  rw [Int.natCast_emod]
  omega
theorem half {a b k : Nat} (hb : b < 2 ^ (k + 1)) (h0 : 0 < b) (hr : 0 < a % b) : b % (a % b) < 2 ^ k := by
  have h1 : a % b < b := Nat.mod_lt _ h0
  have h2 : b % (a % b) < a % b := Nat.mod_lt _ hr
  have h3 := Nat.div_add_mod b (a % b)
  have h4 : 1 ≤ b / (a % b) := (Nat.one_le_div_iff hr).mpr (by omega)
  have h5 : a % b ≤ a % b * (b / (a % b)) := Nat.le_mul_of_pos_right _ h4
  rw [Nat.pow_succ] at hb
  omega
theorem nge_1000 {b : Nat} (h : b < 2147483648) : (1000 : Int32) ≤ nI b ↔ 1000 ≤ b := nIle (a := 1000) (by omega) h
theorem A_euc : ∀ (k a b i fuel : Nat), b < 2 ^ k → a < 2147483648 → b < 2147483648 → i + 2 * k < 999 → 2 * k + 1 < fuel → f_TF_commonDivisor_9 fuel (lI a) (lI b) (nI i) = some (lI (Nat.gcd a b))
  | 0, a, b, i, fuel, hb, ha, hb2, hi, hf => by
    obtain ⟨f, rfl⟩ : ∃ f, fuel = f + 1 := ⟨fuel - 1, by omega⟩
    have : b = 0 := by have : b < 1 := hb; omega
    subst this
    rw [f_TF_commonDivisor_9, if_neg (fun q => absurd ((nge_1000 (by omega)).mp q) (by omega)), if_pos ((lI_0 (by omega)).mpr rfl), Nat.gcd_zero_right]
  | k + 1, a, b, i, fuel, hb, ha, hb2, hi, hf => by
    obtain ⟨f, rfl⟩ : ∃ f, fuel = f + 1 + 1 := ⟨fuel - 2, by omega⟩
    by_cases h0 : b = 0
    · subst h0
      rw [f_TF_commonDivisor_9, if_neg (fun q => absurd ((nge_1000 (by omega)).mp q) (by omega)), if_pos ((lI_0 (by omega)).mpr rfl), Nat.gcd_zero_right]
    · have hz : ¬ lI b = 0 := fun q => h0 ((lI_0 hb2).mp ((z_cmp0 _ _).mpr q))
      have hm : a % b < b := Nat.mod_lt _ (by omega)
      have hg : Nat.gcd a b = Nat.gcd b (a % b) := by rw [Nat.gcd_comm a b, Nat.gcd_rec b a, Nat.gcd_comm]
      rw [f_TF_commonDivisor_9, if_neg (fun q => absurd ((nge_1000 (by omega)).mp q) (by omega)), if_neg (fun q => h0 ((lI_0 hb2).mp q)), if_pos hz, lI_mod ha hb2 (by omega), nIs, hg]
      by_cases h1 : a % b = 0
      · rw [f_TF_commonDivisor_9, if_neg (fun q => absurd ((nge_1000 (by omega)).mp q) (by omega)), h1, if_pos ((lI_0 (by omega)).mpr rfl), Nat.gcd_zero_right]
      · have hz1 : ¬ lI (a % b) = 0 := fun q => h1 ((lI_0 (by omega)).mp ((z_cmp0 _ _).mpr q))
        have hg2 : Nat.gcd b (a % b) = Nat.gcd (a % b) (b % (a % b)) := by rw [Nat.gcd_comm b (a % b), Nat.gcd_rec (a % b) b, Nat.gcd_comm]
        have hm2 : b % (a % b) < a % b := Nat.mod_lt _ (by omega)
        rw [f_TF_commonDivisor_9, if_neg (fun q => absurd ((nge_1000 (by omega)).mp q) (by omega)), if_neg (fun q => h1 ((lI_0 (by omega)).mp q)), if_pos hz1, lI_mod hb2 (by omega) (by omega), nIs, hg2]
        exact A_euc k (a % b) (b % (a % b)) (i + 1 + 1) f (half hb (by omega) (by omega)) (by omega) (by omega) (by omega) (by omega)
theorem B_euc {x0 x1 x2 : Int32} : ∀ (k a b fuel : Nat), b < 2 ^ k → a < 2147483648 → b < 2147483648 → 2 * k + 1 < fuel → f_M_fraction_14 fuel x0 x1 x2 (nI a) (nI b) = f_M_fraction_14 1 x0 x1 x2 (nI (Nat.gcd a b)) 0
  | 0, a, b, fuel, hb, ha, hb2, hf => by
    obtain ⟨f, rfl⟩ : ∃ f, fuel = f + 1 := ⟨fuel - 1, by omega⟩
    have : b = 0 := by have : b < 1 := hb; omega
    subst this
    rw [f_M_fraction_14, if_pos (show nI 0 = 0 from rfl), Nat.gcd_zero_right, f_M_fraction_14, if_pos rfl]
  | k + 1, a, b, fuel, hb, ha, hb2, hf => by
    obtain ⟨f, rfl⟩ : ∃ f, fuel = f + 1 + 1 := ⟨fuel - 2, by omega⟩
    by_cases h0 : b = 0
    · subst h0
      rw [f_M_fraction_14, if_pos (show nI 0 = 0 from rfl), Nat.gcd_zero_right, f_M_fraction_14, if_pos rfl]
    · have hz : ¬ nI b = 0 := fun q => h0 ((neq_0 hb2).mp q)
      have hm : a % b < b := Nat.mod_lt _ (by omega)
      have hg : Nat.gcd a b = Nat.gcd b (a % b) := by rw [Nat.gcd_comm a b, Nat.gcd_rec b a, Nat.gcd_comm]
      rw [f_M_fraction_14, if_neg hz, if_pos hz, nI_mod ha hb2 (by omega), hg]
      by_cases h1 : a % b = 0
      · rw [h1, f_M_fraction_14, if_pos (show nI 0 = 0 from rfl), Nat.gcd_zero_right, f_M_fraction_14, if_pos rfl]
      · have hz1 : ¬ nI (a % b) = 0 := fun q => h1 ((neq_0 (by omega)).mp q)
        have hg2 : Nat.gcd b (a % b) = Nat.gcd (a % b) (b % (a % b)) := by rw [Nat.gcd_comm b (a % b), Nat.gcd_rec (a % b) b, Nat.gcd_comm]
        have hm2 : b % (a % b) < a % b := Nat.mod_lt _ (by omega)
        rw [f_M_fraction_14, if_neg hz1, if_pos hz1, nI_mod hb2 (by omega) (by omega), hg2]
        exact B_euc k (a % b) (b % (a % b)) f (half hb (by omega) (by omega)) (by omega) (by omega) (by omega)
def frR (A : Int) (D : Nat) (u : Bool) : Int32 := Int32.ofInt ((if u = true then A else (D : Int)).tdiv (Nat.gcd A.natAbs D : Int))
theorem tdiv_b {P : Int} {g : Nat} (h : -2147483648 < P ∧ P < 2147483648) (hg : 0 < g) : -2147483648 < P.tdiv g ∧ P.tdiv g < 2147483648 := by
  have h1 : (P.tdiv g).natAbs ≤ P.natAbs := by
    rw [Int.natAbs_tdiv]
    exact Nat.div_le_self _ _
  omega
theorem A_frac {A : Int} {D : Nat} {u : Bool} {y0 y2 : Int64} (hA : -2147483648 < A ∧ A < 2147483648) (hD : 0 < D) (hD2 : D < 2147483648) (e0 : y0.toInt = A) (e2 : y2.toInt = D) : f_TF_partOfFraction y0 y2 (bI u) = some (frR A D u) := by
  have hg : 0 < Nat.gcd A.natAbs D := Nat.gcd_pos_of_pos_right _ hD
  have hg2 : Nat.gcd A.natAbs D ≤ D := Nat.gcd_le_right _ hD
  have key : ∀ ys : Int64, ∀ P : Int, ys.toInt = P → (-2147483648 < P ∧ P < 2147483648) → f_TF_partOfFraction_10 y0 y2 ys = some (Int32.ofInt (P.tdiv (Nat.gcd A.natAbs D : Int))) := by
    intro ys P hy hP
    unfold f_TF_partOfFraction_10 f_TF_commonDivisor
    have habs : f_Mt_abs y0 = some (lI A.natAbs) := by
      unfold f_Mt_abs
      have hc : lg_cmp y0 0 < 0 ↔ A < 0 := by rw [lgc_lt, e0]; exact Iff.rfl
      have hc2 : 0 ≤ lg_cmp y0 0 ↔ 0 ≤ A := by
        rw [lg_cmp_ge, Int64.le_iff_toInt_le, e0, Int64.toInt_zero]
      by_cases hn : A < 0
      · first
        | rw [if_neg (fun q => by have := hc2.mp q; omega)]
        | rw [if_pos (hc.mpr hn)]
        refine congrArg some (lI_e ?_)
        rw [Int64.toInt_neg, e0, z_bl (by omega) (by omega)]
        omega
      · first
        | rw [if_pos (hc2.mpr (by omega))]
        | rw [if_neg (fun q => hn (hc.mp q))]
        refine congrArg some (lI_e ?_)
        rw [e0]
        omega
    have hE := A_euc 31 A.natAbs D 0 1100 (by omega) (by omega) hD2 (by omega) (by omega)
    rw [show nI 0 = (0 : Int32) from rfl] at hE
    rw [habs, Option.bind_some, lI_e e2, hE, Option.bind_some]
    have hgt : (lI (Nat.gcd A.natAbs D)).toInt = (Nat.gcd A.natAbs D : Int) := lI_t (by omega)
    have hle : lg_cmp (lI (Nat.gcd A.natAbs D)) 1 ≤ 0 ↔ Nat.gcd A.natAbs D ≤ 1 := by
      have h1 := lgc_gt (lI (Nat.gcd A.natAbs D)) 1
      rw [hgt, show (1 : Int64).toInt = 1 from rfl, Int32.lt_iff_toInt_lt, Int32.toInt_zero] at h1
      rw [Int32.le_iff_toInt_le, Int32.toInt_zero]
      omega
    by_cases h1 : Nat.gcd A.natAbs D ≤ 1
    · rw [if_pos (hle.mpr h1)]
      have : Nat.gcd A.natAbs D = 1 := by omega
      rw [this]
      refine congrArg some (Int32.toInt_inj.mp ?_)
      rw [Int64.toInt_toInt32, hy, z_bm (by omega) (by omega), show P.tdiv ((1 : Nat) : Int) = P from Int.tdiv_one P, z_i (by omega) (by omega)]
    · obtain ⟨d1, -⟩ := z_divL (x := ys) (y := lI (Nat.gcd A.natAbs D)) (by rw [hgt]; omega)
      rw [if_neg (fun q => h1 (hle.mp q)), if_pos (z_ne0L (by rw [hgt]; omega))]
      refine congrArg some (Int32.toInt_inj.mp ?_)
      have hb := tdiv_b hP hg
      rw [Int64.toInt_toInt32, d1, hy, hgt, z_bm (by omega) (by omega), z_i (by omega) (by omega)]
  unfold f_TF_partOfFraction frR
  cases u with
  | false =>
    rw [if_pos bI_f]
    exact key y2 D e2 ⟨by omega, by omega⟩
  | true =>
    rw [if_neg (by decide)]
    exact key y0 A e0 hA
theorem B_frac {A : Int} {D : Nat} {u : Bool} {x0 x1 : Int32} (hA : -2147483648 < A ∧ A < 2147483648) (hD : 0 < D) (hD2 : D < 2147483648) (e0 : x0.toInt = A) (e1 : x1 = nI D) : f_M_fraction x0 x1 (bI u) = some (frR A D u) := by
  have hg : 0 < Nat.gcd A.natAbs D := Nat.gcd_pos_of_pos_right _ hD
  have hg2 : Nat.gcd A.natAbs D ≤ D := Nat.gcd_le_right _ hD
  subst e1
  have key : f_M_fraction_10 x0 (nI D) (bI u) (nI A.natAbs) = some (frR A D u) := by
    unfold f_M_fraction_10
    have hz : ¬ nI (Nat.gcd A.natAbs D) = 0 := fun q => by have := (neq_0 (by omega)).mp q; omega
    rw [B_euc 31 A.natAbs D 1100 (by omega) (by omega) hD2 (by omega), f_M_fraction_14, if_pos rfl]
    unfold frR
    cases u with
    | false =>
      obtain ⟨d1, -⟩ := z_divI (x := nI D) (y := nI (Nat.gcd A.natAbs D)) (by rw [nIt (by omega)]; omega)
      rw [if_pos bI_f, if_pos hz]
      exact congrArg some (z_eqi (by rw [d1, nIt hD2, nIt (by omega)]; rfl))
    | true =>
      obtain ⟨d1, -⟩ := z_divI (x := x0) (y := nI (Nat.gcd A.natAbs D)) (by rw [nIt (by omega)]; omega)
      rw [if_neg (by decide), if_pos hz]
      exact congrArg some (z_eqi (by rw [d1, e0, nIt (by omega)]; rfl))
  unfold f_M_fraction
  have h0 : 0 ≤ x0 ↔ 0 ≤ A := by rw [Int32.le_iff_toInt_le, e0, Int32.toInt_zero]
  by_cases hn : 0 ≤ A
  · rw [if_pos (h0.mpr hn)]
    have : x0 = nI A.natAbs := Int32.toInt_inj.mp (by rw [e0, nIt (by omega)]; omega)
    rw [← this] at key
    exact key
  · rw [if_neg (fun q => hn (h0.mp q))]
    have : -x0 = nI A.natAbs := Int32.toInt_inj.mp (by rw [Int32.toInt_neg, e0, z_bm (by omega) (by omega), nIt (by omega)]; omega)
    rw [this]
    exact key
