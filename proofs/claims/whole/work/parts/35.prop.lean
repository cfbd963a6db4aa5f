/-! A PROPERTY of a node; the calls that only look -/
def prW (p : PLN) (sv : SV) (i : Nat) : Nat → Int32
  | 0 => (sv.2.2 i).1 1 + 4
  | 1 => pS p i
  | 2 => clk sv.1 ((sv.2.2 i).1 1) (pS p i)
  | 3 => (sv.2.2 i).1 0
  | 4 => (sv.2.2 i).1 2
  | 5 => (sv.2.2 i).1 3
  | 6 => (sv.2.2 i).1 4
  | 7 => (sv.2.2 i).1 5
  | 8 => nI (sv.2.2 i).2.length
  | 9 => estN (nI i) (clk sv.1 ((sv.2.2 i).1 1) (pS p i)) (sv.2.2 i)
  | _ => misM p sv i
def prM (p : PLN) (sv : SV) (i n : Nat) : Int32 := if 4 ≤ n ∧ (sv.2.2 i).1 0 = 0 then -9 else prW p sv i n
theorem s4 (x : Int32) : x - (-4) = x + 4 := by
  rw [Int32.sub_eq_add_neg]
  rfl
theorem A_prW {σ : MT} {k i T n : Nat} {p : PLN} {sv : SV} (hp : okP p) (hpA : pA σ 15 p) (h : hA σ k (pN p) sv) (ok : okS p T sv) (hT : T < 90000000) (hi : i < pN p) (hn : n ≤ 10) : f_Fl_property_24 k (nI i) (nI n) (k + 1 + 1 + 4 * i) σ = some (prW p sv i n) := by
  have hN : pN p ≤ 5 := hp.1
  have hnd := h.2.2.1 i hi
  have a0 := hnd.1 0 (by decide)
  have a1 := hnd.1 1 (by decide)
  have a2 := hnd.1 2 (by decide)
  have a3 := hnd.1 3 (by decide)
  have a4 := hnd.1 4 (by decide)
  have a5 := hnd.1 5 (by decide)
  have a6 := hnd.2.1
  have e17 : σ.1 17 i = pS p i := hpA.2.2.2.1 i hi
  unfold f_Fl_property_24
  rw [A_clock hp hpA h ok hT hi, A_miss hp hpA h ok hT hi, Option.bind_some, Option.bind_some, Option.bind_some, v_estA hnd, Option.bind_some, a0, a1, a2, a3, a4, a5, a6, inb_n (m := i) (by omega) (by decide), nIc (n := i) (by omega), e17, s4]
  obtain rfl | rfl | rfl | rfl | rfl | rfl | rfl | rfl | rfl | rfl | rfl : n = 0 ∨ n = 1 ∨ n = 2 ∨ n = 3 ∨ n = 4 ∨ n = 5 ∨ n = 6 ∨ n = 7 ∨ n = 8 ∨ n = 9 ∨ n = 10 := by omega
  · rw [if_pos (by decide)]
    rfl
  · rw [if_neg (by decide), if_pos (by decide), if_pos rfl]
    rfl
  · rw [if_neg (by decide), if_neg (by decide), if_pos (by decide)]
    rfl
  · rw [if_neg (by decide), if_neg (by decide), if_neg (by decide), if_pos (by decide)]
    rcases (ok.1 i hi).1 with q | q
    · rw [if_pos q]; show _ = some ((sv.2.2 i).1 0); rw [q]
    · rw [if_neg (by rw [q]; decide)]; show _ = some ((sv.2.2 i).1 0); rw [q]
  · rw [if_neg (by decide), if_neg (by decide), if_neg (by decide), if_neg (by decide), if_pos (by decide)]
    rfl
  · rw [if_neg (by decide), if_neg (by decide), if_neg (by decide), if_neg (by decide), if_neg (by decide), if_pos (by decide)]
    rfl
  · rw [if_neg (by decide), if_neg (by decide), if_neg (by decide), if_neg (by decide), if_neg (by decide), if_neg (by decide), if_pos (by decide)]
    rfl
  · rw [if_neg (by decide), if_neg (by decide), if_neg (by decide), if_neg (by decide), if_neg (by decide), if_neg (by decide), if_neg (by decide), if_pos (by decide)]
    rfl
  · rw [if_neg (by decide), if_neg (by decide), if_neg (by decide), if_neg (by decide), if_neg (by decide), if_neg (by decide), if_neg (by decide), if_neg (by decide), if_pos (by decide)]
    rfl
  · rw [if_neg (by decide), if_neg (by decide), if_neg (by decide), if_neg (by decide), if_neg (by decide), if_neg (by decide), if_neg (by decide), if_neg (by decide), if_neg (by decide), if_pos (by decide)]
    rfl
  · rw [if_neg (by decide), if_neg (by decide), if_neg (by decide), if_neg (by decide), if_neg (by decide), if_neg (by decide), if_neg (by decide), if_neg (by decide), if_neg (by decide), if_neg (by decide)]
    rfl
theorem A_prop {σ : MT} {k i T n : Nat} {p : PLN} {sv : SV} (hp : okP p) (hpA : pA σ 15 p) (h : hA σ k (pN p) sv) (ok : okS p T sv) (hT : T < 90000000) (hi : i < pN p) (hn : n ≤ 10) : f_Fl_property k (nI i) (nI n) σ = some (prM p sv i n) := by
  have hN : pN p ≤ 5 := hp.1
  have a0 := (h.2.2.1 i hi).1 0 (by decide)
  unfold f_Fl_property prM
  rw [if_pos (inb_n (by omega) (by decide)), nIc (n := i) (by omega), a0, A_prW hp hpA h ok hT hi hn]
  by_cases h4 : n < 4
  · rw [if_pos ((nlt_4 (by omega)).mpr h4), if_neg (by omega)]
  · rw [if_neg (fun q => h4 ((nlt_4 (by omega)).mp q))]
    by_cases h0 : (sv.2.2 i).1 0 = 0
    · rw [if_pos h0, if_pos ⟨by omega, h0⟩]
    · rw [if_neg h0, if_neg (fun q => h0 q.2)]
theorem B_prW {σ : MT} {c i T n : Nat} {p : PLN} {sv : SV} (hp : okP p) (hpB : pB σ p) (h : hR σ c (pN p) sv) (ok : okS p T sv) (hT : T < 90000000) (hi : i < pN p) (hn : n ≤ 10) : f_M_tell_31 c (nI i) (nI n) (nI (19 * i)) σ = some (prW p sv i n) := by
  have hN : pN p ≤ 5 := hp.1
  obtain ⟨a1, a2, a3, a4, a5, a6, a0⟩ := (h.2.2 i hi).f
  have e40 : σ.1 40 i = pS p i := hpB.2.2.2.1 i hi
  unfold f_M_tell_31
  rw [B_clock hp hpB h ok hT hi, B_miss hp hpB h ok hT hi, B_est hp hpB h ok hT hi, Option.bind_some, Option.bind_some, Option.bind_some]
  obtain rfl | rfl | rfl | rfl | rfl | rfl | rfl | rfl | rfl | rfl | rfl : n = 0 ∨ n = 1 ∨ n = 2 ∨ n = 3 ∨ n = 4 ∨ n = 5 ∨ n = 6 ∨ n = 7 ∨ n = 8 ∨ n = 9 ∨ n = 10 := by omega
  · rw [if_pos (by decide)]
    simp (disch := omega) only [ad19, ad3, ad95, nIp_0, nIp_1, nIp_2, nIp_3, nIp_4, nIp_5, nIp_6, nIp_7, nI_add, nIc, inb_n, eq_self, if_true]
    rw [a1]
    rfl
  · rw [if_neg (by decide), if_pos (by decide)]
    simp (disch := omega) only [ad19, ad3, ad95, nIp_0, nIp_1, nIp_2, nIp_3, nIp_4, nIp_5, nIp_6, nIp_7, nI_add, nIc, inb_n, eq_self, if_true]
    rw [e40]
    rfl
  · rw [if_neg (by decide), if_neg (by decide), if_pos (by decide)]
    rfl
  · rw [if_neg (by decide), if_neg (by decide), if_neg (by decide), if_pos (by decide)]
    simp (disch := omega) only [ad19, ad3, ad95, nIp_0, nIp_1, nIp_2, nIp_3, nIp_4, nIp_5, nIp_6, nIp_7, nI_add, nIc, inb_n, eq_self, if_true]
    rw [a0]
    rfl
  · rw [if_neg (by decide), if_neg (by decide), if_neg (by decide), if_neg (by decide), if_pos (by decide)]
    simp (disch := omega) only [ad19, ad3, ad95, nIp_0, nIp_1, nIp_2, nIp_3, nIp_4, nIp_5, nIp_6, nIp_7, nI_add, nIc, inb_n, eq_self, if_true]
    rw [a2]
    rfl
  · rw [if_neg (by decide), if_neg (by decide), if_neg (by decide), if_neg (by decide), if_neg (by decide), if_pos (by decide)]
    simp (disch := omega) only [ad19, ad3, ad95, nIp_0, nIp_1, nIp_2, nIp_3, nIp_4, nIp_5, nIp_6, nIp_7, nI_add, nIc, inb_n, eq_self, if_true]
    rw [a3]
    rfl
  · rw [if_neg (by decide), if_neg (by decide), if_neg (by decide), if_neg (by decide), if_neg (by decide), if_neg (by decide), if_pos (by decide)]
    simp (disch := omega) only [ad19, ad3, ad95, nIp_0, nIp_1, nIp_2, nIp_3, nIp_4, nIp_5, nIp_6, nIp_7, nI_add, nIc, inb_n, eq_self, if_true]
    rw [a4]
    rfl
  · rw [if_neg (by decide), if_neg (by decide), if_neg (by decide), if_neg (by decide), if_neg (by decide), if_neg (by decide), if_neg (by decide), if_pos (by decide)]
    simp (disch := omega) only [ad19, ad3, ad95, nIp_0, nIp_1, nIp_2, nIp_3, nIp_4, nIp_5, nIp_6, nIp_7, nI_add, nIc, inb_n, eq_self, if_true]
    rw [a5]
    rfl
  · rw [if_neg (by decide), if_neg (by decide), if_neg (by decide), if_neg (by decide), if_neg (by decide), if_neg (by decide), if_neg (by decide), if_neg (by decide), if_pos (by decide)]
    simp (disch := omega) only [ad19, ad3, ad95, nIp_0, nIp_1, nIp_2, nIp_3, nIp_4, nIp_5, nIp_6, nIp_7, nI_add, nIc, inb_n, eq_self, if_true]
    rw [a6]
    rfl
  · rw [if_neg (by decide), if_neg (by decide), if_neg (by decide), if_neg (by decide), if_neg (by decide), if_neg (by decide), if_neg (by decide), if_neg (by decide), if_neg (by decide), if_pos (by decide)]
    rfl
  · rw [if_neg (by decide), if_neg (by decide), if_neg (by decide), if_neg (by decide), if_neg (by decide), if_neg (by decide), if_neg (by decide), if_neg (by decide), if_neg (by decide), if_neg (by decide), if_pos (by decide)]
    rfl
theorem B_tell {σ : MT} {c i T n : Nat} {p : PLN} {sv : SV} (hp : okP p) (hpB : pB σ p) (h : hR σ c (pN p) sv) (ok : okS p T sv) (hT : T < 90000000) (hi : i < pN p) (hn : n ≤ 10) : f_M_tell c (nI i) (nI n) σ = some (prM p sv i n) := by
  have hN : pN p ≤ 5 := hp.1
  unfold f_M_tell prM
  rw [v_in, Option.bind_some, Int32.toInt_toInt64, nIt (by omega), show (4 : Int64).toInt = 4 from rfl, show (10 : Int64).toInt = 10 from rfl, v_isOn h hi hN ok.1, Option.bind_some, ad19, B_prW hp hpB h ok hT hi hn]
  by_cases h4 : n < 4
  · rw [if_neg (c := 4 ≤ (n : Int) ∧ (n : Int) ≤ 10) (by omega), if_pos rfl, if_neg (by omega)]
  · rw [if_pos (c := 4 ≤ (n : Int) ∧ (n : Int) ≤ 10) (by omega), if_neg (by decide)]
    by_cases h0 : (sv.2.2 i).1 0 = 0
    · rw [if_pos h0, if_pos rfl, if_pos ⟨by omega, h0⟩]
    · rw [if_neg h0, if_neg (by decide), if_neg (fun q => h0 q.2)]
theorem B_tell_bad {σ : MT} {c i : Nat} {x : Int32} (hi : i < 5) (hx : x.toInt < 0 ∨ 10 < x.toInt) : f_M_tell c (nI i) x σ = some (-2) := by
  unfold f_M_tell
  rw [v_in, Option.bind_some, Int32.toInt_toInt64, show (4 : Int64).toInt = 4 from rfl, show (10 : Int64).toInt = 10 from rfl, if_neg (c := 4 ≤ x.toInt ∧ x.toInt ≤ 10) (by omega), if_pos rfl]
  unfold f_M_tell_31
  have ne : ∀ (m : Nat), m ≤ 10 → ¬ x = nI m := fun m hm q => by
    rw [q, nIt (by omega)] at hx
    omega
  rw [if_neg (c := x = 0) (ne 0 (by omega)), if_neg (c := x = 1) (ne 1 (by omega)), if_neg (c := x = 2) (ne 2 (by omega)), if_neg (c := x = 3) (ne 3 (by omega)), if_neg (c := x = 4) (ne 4 (by omega)), if_neg (c := x = 5) (ne 5 (by omega)), if_neg (c := x = 6) (ne 6 (by omega)), if_neg (c := x = 7) (ne 7 (by omega)), if_neg (c := x = 8) (ne 8 (by omega)), if_neg (c := x = 9) (ne 9 (by omega)), if_neg (c := x = 10) (ne 10 (by omega))]
-- is it a node, a link
theorem rngI (x : Int32) (n : Nat) (hn : n < 2147483648) : (∃ j, j < n ∧ x = nI j) ∨ (x.toInt < 0 ∨ (n : Int) ≤ x.toInt) := by
  by_cases h : 0 ≤ x.toInt ∧ x.toInt < (n : Int)
  · exact Or.inl (IR_n h hn)
  · exact Or.inr (by omega)
def isI (x : Int32) (n : Nat) : Bool := decide (0 ≤ x.toInt) && decide (x.toInt < (n : Int))
theorem isI_t {x : Int32} {n : Nat} (hn : n < 2147483648) (h : isI x n = true) : ∃ j, j < n ∧ x = nI j := by
  unfold isI at h
  simp only [Bool.and_eq_true, decide_eq_true_eq] at h
  exact IR_n h hn
theorem isI_n {j n : Nat} (hj : j < n) (hn : n < 2147483648) : isI (nI j) n = true := by
  unfold isI
  rw [nIt (by omega)]
  simp only [Bool.and_eq_true, decide_eq_true_eq]
  omega
theorem A_has {x y : Int32} {n : Nat} (hn : n < 2147483648) (hy : y = nI n) : (if x < 0 then some (0 : Int32) else if y ≤ x then some 0 else some 1) = some (bI (isI x n)) := by
  subst hy
  unfold isI
  have h1 : x < 0 ↔ x.toInt < 0 := by rw [Int32.lt_iff_toInt_lt, Int32.toInt_zero]
  have h2 : nI n ≤ x ↔ (n : Int) ≤ x.toInt := by rw [Int32.le_iff_toInt_le, nIt hn]
  by_cases a : x.toInt < 0
  · rw [if_pos (h1.mpr a), decide_eq_false (by omega)]; rfl
  · rw [if_neg (fun q => a (h1.mp q)), decide_eq_true (by omega)]
    by_cases b : (n : Int) ≤ x.toInt
    · rw [if_pos (h2.mpr b), decide_eq_false (by omega)]; rfl
    · rw [if_neg (fun q => b (h2.mp q)), decide_eq_true (by omega)]; rfl
theorem A_hasNode {σ : MT} {p : PLN} (x : Int32) (hp : okP p) (hpA : pA σ 15 p) : f_TF_hasNode x σ = some (bI (isI x (pN p))) := A_has (by have : pN p ≤ 5 := hp.1; omega) hpA.2.1
theorem A_hasLink {σ : MT} {p : PLN} (x : Int32) (hp : okP p) (hpA : pA σ 15 p) : f_TF_hasLink x σ = some (bI (isI x (pL p))) := A_has (by have : pL p ≤ 7 := hp.2.1; omega) hpA.2.2.1
theorem B_is {x y : Int32} {n : Nat} (hn : n < 1000) (hy : y = nI n) : ((f_M_in x.toInt64 0 ((y - 1).toInt64)).bind fun r10 => if zbb r10 = true then some r10 else none) = some (bI (isI x n)) := by
  subst hy
  rw [v_in, Option.bind_some, Int32.toInt_toInt64, Int32.toInt_toInt64, show (0 : Int64).toInt = 0 from rfl]
  have e : (nI n - 1).toInt = (n : Int) - 1 := by
    rw [Int32.toInt_sub, nIt (by omega)]
    exact z_bm (by show _ ≤ (n : Int) - 1; omega) (by show (n : Int) - 1 < _; omega)
  rw [e]
  unfold isI
  by_cases a : 0 ≤ x.toInt ∧ x.toInt ≤ (n : Int) - 1
  · rw [if_pos a, if_pos (by decide), decide_eq_true a.1, decide_eq_true (by omega)]; rfl
  · rw [if_neg a, if_pos (by decide)]
    by_cases b : 0 ≤ x.toInt
    · rw [decide_eq_true b, decide_eq_false (by omega)]; rfl
    · rw [decide_eq_false b]; rfl
theorem B_isNode {σ : MT} {p : PLN} (x : Int32) (hp : okP p) (hpB : pB σ p) : f_M_isNode x σ = some (bI (isI x (pN p))) := B_is (by have : pN p ≤ 5 := hp.1; omega) hpB.2.1
theorem B_isLink {σ : MT} {p : PLN} (x : Int32) (hp : okP p) (hpB : pB σ p) : f_M_isLink x σ = some (bI (isI x (pL p))) := B_is (by have : pL p ≤ 7 := hp.2.1; omega) hpB.2.2.1
theorem v_in3 (x a b : Int32) : f_M_in x.toInt64 a.toInt64 b.toInt64 = some (if a.toInt ≤ x.toInt ∧ x.toInt ≤ b.toInt then 1 else 0) := by
  rw [v_in, Int32.toInt_toInt64, Int32.toInt_toInt64, Int32.toInt_toInt64]
