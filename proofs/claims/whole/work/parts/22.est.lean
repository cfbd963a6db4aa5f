/-! NODES AS VALUES: seven fields and a list of stamps; the clock and the estimate -/
abbrev SP : Type := Int32 × Int32 × Int32
abbrev ND : Type := (Nat → Int32) × List SP
abbrev SV : Type := Int32 × Int32 × (Nat → ND)
/-- the class's node at cell n is nd -/
def hN (σ : MT) (n : Nat) (nd : ND) : Prop := (∀ j, j < 6 → σ.1 n j = nd.1 j) ∧ σ.1 n 6 = nI nd.2.length ∧ nd.2.length ≤ 4 ∧ ∀ (j : Nat) (s : SP), nd.2[j]? = some s → σ.1 (n + 1) j = s.1 ∧ σ.1 (n + 2) j = s.2.1 ∧ σ.1 (n + 3) j = s.2.2
/-- the reference's node at place o of row c is nd -/
def hB (σ : MT) (c o : Nat) (nd : ND) : Prop := (∀ j, j < 6 → σ.1 c (o + j) = nd.1 j) ∧ σ.1 c (o + 6) = nI nd.2.length ∧ nd.2.length ≤ 4 ∧ ∀ (j : Nat) (s : SP), nd.2[j]? = some s → σ.1 c (o + 7 + 3 * j) = s.1 ∧ σ.1 c (o + 7 + 3 * j + 1) = s.2.1 ∧ σ.1 c (o + 7 + 3 * j + 2) = s.2.2
theorem hN.eo {P : Nat → Prop} {σ τ : MT} {n : Nat} {nd : ND} (h : hN σ n nd) (e : EO P σ τ) (h0 : ¬ P n) (h1 : ¬ P (n + 1)) (h2 : ¬ P (n + 2)) (h3 : ¬ P (n + 3)) : hN τ n nd := by
  unfold hN
  rw [e.1 _ h0, e.1 _ h1, e.1 _ h2, e.1 _ h3]
  exact h
theorem hB.eq {σ τ : MT} {c o : Nat} {nd : ND} (h : hB σ c o nd) (e : τ.1 c = σ.1 c) : hB τ c o nd := by
  unfold hB
  rw [e]
  exact h
-- clocks
def clk (t d s : Int32) : Int32 := Int32.ofInt ((16 * s.toInt + t.toInt + t.toInt * d.toInt / 64) % 1024)
theorem clk_m {t d : Int} (ht : 0 ≤ t) (ht2 : t < 100000000) (hd : -4 ≤ d) (hd2 : d ≤ 5) : -400000000 ≤ t * d ∧ t * d ≤ 500000000 := by
  have h1 := Int.mul_le_mul_of_nonneg_left hd ht
  have h2 := Int.mul_le_mul_of_nonneg_left hd2 ht
  omega
theorem v_clockA {σ : MT} {k i : Nat} (hi : i < 5) (ht : IR 0 100000000 (σ.1 k 0)) (hd : IR (-4) 6 (σ.1 (k + 1 + 1 + 4 * i) 1)) (hs : IR 0 64 (σ.1 17 i)) : f_Fl_clock k (nI i) σ = some (clk (σ.1 k 0) (σ.1 (k + 1 + 1 + 4 * i) 1) (σ.1 17 i)) := by
  unfold f_Fl_clock
  rw [if_pos (inb_n hi (by decide)), nIc (by omega), v_floorDivI (y := 64) (by decide), Option.bind_some, if_pos (inb_n hi (by decide)), v_floorModI (y := 1024) (by decide), Option.bind_some]
  obtain ⟨t1, t2⟩ := ht
  obtain ⟨d1, d2⟩ := hd
  obtain ⟨s1, s2⟩ := hs
  have hm := clk_m t1 t2 d1 (by omega)
  have e1 : (σ.1 k 0 * σ.1 (k + 1 + 1 + 4 * i) 1).toInt = (σ.1 k 0).toInt * (σ.1 (k + 1 + 1 + 4 * i) 1).toInt := by
    rw [Int32.toInt_mul]; exact z_bm (by omega) (by omega)
  have e2 : ((16 : Int32) * σ.1 17 i).toInt = 16 * (σ.1 17 i).toInt := by
    rw [Int32.toInt_mul]; exact z_bm (by show _ ≤ 16 * (σ.1 17 i).toInt; omega) (by show 16 * (σ.1 17 i).toInt < _; omega)
  have e3 : ((16 : Int32) * σ.1 17 i + σ.1 k 0).toInt = 16 * (σ.1 17 i).toInt + (σ.1 k 0).toInt := by
    rw [Int32.toInt_add, e2]; exact z_bm (by omega) (by omega)
  rw [e1, show (64 : Int32).toInt = 64 from rfl, show (1024 : Int32).toInt = 1024 from rfl]
  have e4 : (Int32.ofInt ((σ.1 k 0).toInt * (σ.1 (k + 1 + 1 + 4 * i) 1).toInt / 64)).toInt = (σ.1 k 0).toInt * (σ.1 (k + 1 + 1 + 4 * i) 1).toInt / 64 := z_i (by omega) (by omega)
  rw [Int32.toInt_add, e3, e4, z_bm (by omega) (by omega)]
  rfl
theorem mulI64 {x y : Int32} (h1 : -2147483648 ≤ x.toInt * y.toInt) (h2 : x.toInt * y.toInt < 2147483648) : (x * y).toInt64 = x.toInt64 * y.toInt64 := by
  apply Int64.toInt_inj.mp
  rw [Int32.toInt_toInt64, Int32.toInt_mul, z_bm h1 h2, Int64.toInt_mul, Int32.toInt_toInt64, Int32.toInt_toInt64, z_bl (by omega) (by omega)]
-- the sums
def eStep (C O : Int32) (a : Int64 × Int64 × Int64 × Int64) (s : SP) : Int64 × Int64 × Int64 × Int64 := (a.1 + (nrF (s.1 - C)).toInt64, a.2.1 + (nrF (s.2.1 - s.1 - O)).toInt64, a.2.2.1 + ((nrF (s.1 - C)) * (nrF (s.2.1 - s.1 - O))).toInt64, a.2.2.2 + ((nrF (s.1 - C)) * (nrF (s.1 - C))).toInt64)
def eSum (C O : Int32) (l : List SP) : Int64 × Int64 × Int64 × Int64 := l.foldl (eStep C O) (0, 0, 0, 0)
def eE (n : Int64) (a : Int64 × Int64 × Int64 × Int64) : Int64 := n * a.2.2.2 - a.1 * a.1
def eZ (n : Int64) (w : Int64) (a : Int64 × Int64 × Int64 × Int64) : Int64 := if eE n a = 0 then Int64.ofInt (a.2.1.toInt / n.toInt) else Int64.ofInt ((a.2.1 * eE n a - (n * a.2.2.1 - a.1 * a.2.1) * a.1 + n * (n * a.2.2.1 - a.1 * a.2.1) * w).toInt / (n * eE n a).toInt)
def estF (c : Int32) (l : List SP) : Int32 := match l.getLast? with
  | none => -9
  | some s => Int32.ofInt ((((c + (s.2.1 - s.1)).toInt64 + eZ (nI l.length).toInt64 (nrF (c - s.1)).toInt64 (eSum s.1 (s.2.1 - s.1) l)).toInt) % 1024)
def estN (self c : Int32) (nd : ND) : Int32 := if nd.1 2 = self then c else estF c nd.2
/-- what keeps the sums of squares above the square of the sum -/
theorem cs_step {m X Q x : Int} (hm : 0 ≤ m) (h : X * X ≤ m * Q) (hQ : 0 ≤ Q) (h0 : m = 0 → X = 0 ∧ Q = 0) : (X + x) * (X + x) ≤ (m + 1) * (Q + x * x) := by
  rcases (show m = 0 ∨ 0 < m by omega) with q | q
  · obtain ⟨rfl, rfl⟩ := h0 q
    subst q
    simp
  · have hD : 0 ≤ m * (Q + m * (x * x) - 2 * (X * x)) := by
      have e : m * (Q + m * (x * x) - 2 * (X * x)) = (m * Q - X * X) + (X - m * x) * (X - m * x) := by grind
      have sq : 0 ≤ (X - m * x) * (X - m * x) := by
        rcases (show X - m * x ≤ 0 ∨ 0 ≤ X - m * x by omega) with z | z
        · exact Int.mul_nonneg_of_nonpos_of_nonpos z z
        · exact Int.mul_nonneg z z
      omega
    have hD2 : 0 ≤ Q + m * (x * x) - 2 * (X * x) := by
      rcases (show 0 ≤ Q + m * (x * x) - 2 * (X * x) ∨ Q + m * (x * x) - 2 * (X * x) ≤ -1 by omega) with z | z
      · exact z
      · have := Int.mul_le_mul_of_nonneg_left z (show 0 ≤ m by omega)
        omega
    have e2 : (X + x) * (X + x) = X * X + 2 * (X * x) + x * x := by grind
    have e3 : (m + 1) * (Q + x * x) = m * Q + m * (x * x) + Q + x * x := by grind
    omega
def eOK (m : Nat) (a : Int64 × Int64 × Int64 × Int64) : Prop := -512 * (m : Int) ≤ a.1.toInt ∧ a.1.toInt ≤ 512 * (m : Int) ∧ 0 ≤ a.2.2.2.toInt ∧ a.2.2.2.toInt ≤ 262144 * (m : Int) ∧ a.1.toInt * a.1.toInt ≤ (m : Int) * a.2.2.2.toInt
theorem sq_b {x : Int} (h1 : -512 ≤ x) (h2 : x ≤ 512) : 0 ≤ x * x ∧ x * x ≤ 262144 := by
  rcases (show x ≤ 0 ∨ 0 ≤ x by omega) with z | z
  · refine ⟨Int.mul_nonneg_of_nonpos_of_nonpos z z, ?_⟩
    have := Int.mul_le_mul (show -x ≤ 512 by omega) (show -x ≤ 512 by omega) (by omega) (by omega)
    rw [Int.neg_mul_neg] at this
    omega
  · refine ⟨Int.mul_nonneg z z, ?_⟩
    have := Int.mul_le_mul h2 h2 z (by omega)
    omega
theorem eOK_step {C O : Int32} {m : Nat} {a : Int64 × Int64 × Int64 × Int64} {s : SP} (hm : m < 100) (h : eOK m a) : eOK (m + 1) (eStep C O a s) := by
  obtain ⟨h1, h2, h3, h4, h5⟩ := h
  have hb := nrZ_b (s.1 - C).toInt
  have hx := nrF_t (s.1 - C)
  rw [← hx] at hb
  have hs := sq_b hb.1 (by omega)
  have e1 : (eStep C O a s).1.toInt = a.1.toInt + (nrF (s.1 - C)).toInt := by
    show (a.1 + (nrF (s.1 - C)).toInt64).toInt = _
    rw [Int64.toInt_add, Int32.toInt_toInt64]
    exact z_bl (by omega) (by omega)
  have e4 : (eStep C O a s).2.2.2.toInt = a.2.2.2.toInt + (nrF (s.1 - C)).toInt * (nrF (s.1 - C)).toInt := by
    show (a.2.2.2 + ((nrF (s.1 - C)) * (nrF (s.1 - C))).toInt64).toInt = _
    rw [Int64.toInt_add, Int32.toInt_toInt64, Int32.toInt_mul, z_bm (by omega) (by omega)]
    exact z_bl (by omega) (by omega)
  unfold eOK
  rw [e1, e4]
  refine ⟨by omega, by omega, by omega, by omega, ?_⟩
  have := cs_step (m := (m : Int)) (x := (nrF (s.1 - C)).toInt) (by omega) h5 h3 (fun q => by
    have hm0 : (m : Int) = 0 := q
    rw [hm0] at h1 h2 h4
    omega)
  rw [show ((m + 1 : Nat) : Int) = (m : Int) + 1 by omega]
  exact this
theorem eOK_fold {C O : Int32} : ∀ (l : List SP) (m : Nat) (a : Int64 × Int64 × Int64 × Int64), m + l.length < 100 → eOK m a → eOK (m + l.length) (l.foldl (eStep C O) a)
  | [], m, a, _, h => h
  | s :: l, m, a, hm, h => by
    have e : m + (s :: l).length = (m + 1) + l.length := by simp only [List.length_cons]; omega
    rw [e]
    exact eOK_fold l (m + 1) _ (by simp only [List.length_cons] at hm; omega) (eOK_step (by simp only [List.length_cons] at hm; omega) h)
theorem eOK_0 : eOK 0 (0, 0, 0, 0) := ⟨by decide, by decide, by decide, by decide, by decide⟩
theorem eSum_ok {C O : Int32} {l : List SP} (h : l.length ≤ 4) : eOK l.length (eSum C O l) := by
  have := eOK_fold (C := C) (O := O) l 0 (0, 0, 0, 0) (by omega) eOK_0
  rw [Nat.zero_add] at this
  exact this
/-- where the divisor isn't 0 it is above 0 -/
theorem eE_pos {n : Nat} {a : Int64 × Int64 × Int64 × Int64} (hn : 0 < n) (hn4 : n ≤ 4) (h : eOK n a) (hne : ¬ eE (nI n).toInt64 a = 0) : 0 < ((nI n).toInt64 * eE (nI n).toInt64 a).toInt := by
  obtain ⟨h1, h2, h3, h4, h5⟩ := h
  have en : (nI n).toInt64.toInt = (n : Int) := by rw [Int32.toInt_toInt64, nIt (by omega)]
  have sqb : 0 ≤ a.1.toInt * a.1.toInt ∧ a.1.toInt * a.1.toInt ≤ 4194304 := by
    rcases (show a.1.toInt ≤ 0 ∨ 0 ≤ a.1.toInt by omega) with z | z
    · refine ⟨Int.mul_nonneg_of_nonpos_of_nonpos z z, ?_⟩
      have := Int.mul_le_mul (show -a.1.toInt ≤ 2048 by omega) (show -a.1.toInt ≤ 2048 by omega) (by omega) (by omega)
      rw [Int.neg_mul_neg] at this
      omega
    · refine ⟨Int.mul_nonneg z z, ?_⟩
      have := Int.mul_le_mul (show a.1.toInt ≤ 2048 by omega) (show a.1.toInt ≤ 2048 by omega) z (by omega)
      omega
  have nq : (n : Int) * a.2.2.2.toInt ≤ 4194304 ∧ 0 ≤ (n : Int) * a.2.2.2.toInt := by
    refine ⟨?_, Int.mul_nonneg (by omega) h3⟩
    have := Int.mul_le_mul (show (n : Int) ≤ 4 by omega) (show a.2.2.2.toInt ≤ 1048576 by omega) h3 (by omega)
    omega
  have e1 : ((nI n).toInt64 * a.2.2.2).toInt = (n : Int) * a.2.2.2.toInt := by
    rw [Int64.toInt_mul, en]; exact z_bl (by omega) (by omega)
  have e2 : (a.1 * a.1).toInt = a.1.toInt * a.1.toInt := by
    rw [Int64.toInt_mul]; exact z_bl (by omega) (by omega)
  have e3 : (eE (nI n).toInt64 a).toInt = (n : Int) * a.2.2.2.toInt - a.1.toInt * a.1.toInt := by
    unfold eE
    rw [Int64.toInt_sub, e1, e2]; exact z_bl (by omega) (by omega)
  have hpos : 0 < (eE (nI n).toInt64 a).toInt := by
    rcases (show (eE (nI n).toInt64 a).toInt = 0 ∨ 0 < (eE (nI n).toInt64 a).toInt by omega) with q | q
    · exact absurd (Int64.toInt_inj.mp (by rw [q, Int64.toInt_zero])) hne
    · exact q
  rw [Int64.toInt_mul, en]
  have hm := Int.mul_le_mul (show (n : Int) ≤ 4 by omega) (show (eE (nI n).toInt64 a).toInt ≤ 4194304 by omega) (by omega) (by omega)
  have hm2 := Int.mul_le_mul (show (1 : Int) ≤ n by omega) (show (1 : Int) ≤ (eE (nI n).toInt64 a).toInt by omega) (by omega) (by omega)
  rw [z_bl (by omega) (by omega)]
  omega
