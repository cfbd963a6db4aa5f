/-! share, put together -/
theorem sh1 {o i : Nat} (ho : o < 32) (hi : i < 5) (ht : Nat.testBit o i = true) : f_In_bitCount (nI o &&& (((1 : Int32) <<< (nI i &&& 31)) ^^^ (-1 : Int32))) = some (nI (pop o - 1)) ∧ 1 ≤ pop o ∧ pop o ≤ 5 := by
  have H : ∀ o, o < 32 → ∀ i, i < 5 → Nat.testBit o i = true → f_In_bitCount (nI o &&& (((1 : Int32) <<< (nI i &&& 31)) ^^^ (-1 : Int32))) = some (nI (pop o - 1)) ∧ 1 ≤ pop o ∧ pop o ≤ 5 := by decide +kernel
  exact H o ho i hi ht
def inO (c o : Nat) : Prop := (nI c &&& (nI o ^^^ (-1 : Int32))) = 0
def sh2b (i o c : Nat) : Bool := (decide ((nI c &&& ((nI o &&& (((1 : Int32) <<< (nI i &&& 31)) ^^^ (-1 : Int32))) ^^^ (-1 : Int32))) = 0) == (decide ((nI c &&& (nI o ^^^ (-1 : Int32))) = 0) && !Nat.testBit c i)) && (!decide ((nI c &&& (nI o ^^^ (-1 : Int32))) = 0) || Nat.testBit c i || (decide (pop c ≤ pop o - 1) && decide ((nI c ||| ((1 : Int32) <<< (nI i &&& 31))) = nI (c + 2 ^ i)) && decide (c + 2 ^ i < 32) && decide ((nI (c + 2 ^ i) &&& (nI o ^^^ (-1 : Int32))) = 0)))
theorem sh2 {o i c : Nat} (ho : o < 32) (hi : i < 5) (hc : c < 32) (ht : Nat.testBit o i = true) : ((nI c &&& ((nI o &&& (((1 : Int32) <<< (nI i &&& 31)) ^^^ (-1 : Int32))) ^^^ (-1 : Int32))) = 0 ↔ ((nI c &&& (nI o ^^^ (-1 : Int32))) = 0 ∧ Nat.testBit c i = false)) ∧ ((nI c &&& (nI o ^^^ (-1 : Int32))) = 0 → Nat.testBit c i = false → pop c ≤ pop o - 1 ∧ (nI c ||| ((1 : Int32) <<< (nI i &&& 31))) = nI (c + 2 ^ i) ∧ c + 2 ^ i < 32 ∧ (nI (c + 2 ^ i) &&& (nI o ^^^ (-1 : Int32))) = 0) := by
  have H : ∀ i, i < 5 → ∀ o, o < 32 → ∀ c, c < 32 → (!Nat.testBit o i || sh2b i o c) = true := by decide +kernel
  have h := H i hi o ho c hc
  rw [ht] at h
  replace h : sh2b i o c = true := h
  unfold sh2b at h
  rw [Bool.and_eq_true] at h
  obtain ⟨h1, h2⟩ := h
  constructor
  · rw [beq_iff_eq, Bool.eq_iff_iff] at h1
    simpa using h1
  · intro q1 q2
    rw [q2, decide_eq_true q1] at h2
    simp only [Bool.not_true, Bool.or_self, Bool.false_or, Bool.and_eq_true, decide_eq_true_eq] at h2
    obtain ⟨⟨⟨a, b⟩, c⟩, d⟩ := h2
    exact ⟨a, b, c, d⟩
theorem fac {k : Nat} (hk : k < 6) : f_M_factorial (nI k) = some (faV k) ∧ faV k = nI (faV k).toNatClampNeg ∧ 0 < (faV k).toNatClampNeg ∧ (faV k).toNatClampNeg < 1000 ∧ ((faV k).toInt64).toInt = ((faV k).toNatClampNeg : Int) := by
  have H : ∀ k, k < 6 → f_M_factorial (nI k) = some (faV k) ∧ faV k = nI (faV k).toNatClampNeg ∧ 0 < (faV k).toNatClampNeg ∧ (faV k).toNatClampNeg < 1000 ∧ ((faV k).toInt64).toInt = ((faV k).toNatClampNeg : Int) := by decide +kernel
  exact H k hk
def shT (n a w1 w2 : Nat) : Int32 := (faV a * faV (n - 1 - a)) * (nI w1 - nI w2)
def shTb (n a w1 w2 : Nat) : Bool := decide (-120 ≤ (shT n a w1 w2).toInt) && decide ((shT n a w1 w2).toInt ≤ 120)
theorem shT_b {n a w1 w2 : Nat} (hn : n < 6) (hn0 : 1 ≤ n) (ha : a ≤ n - 1) (h1 : w1 < 6) (h2 : w2 < 6) : -120 ≤ (shT n a w1 w2).toInt ∧ (shT n a w1 w2).toInt ≤ 120 := by
  have H : ∀ n, n < 6 → ∀ a, a < 6 → ∀ w1, w1 < 6 → ∀ w2, w2 < 6 → (decide (n < 1) || decide (n - 1 < a) || shTb n a w1 w2) = true := by decide +kernel
  have h := H n hn a (by omega) w1 h1 w2 h2
  rw [decide_eq_false (show ¬ n < 1 by omega), decide_eq_false (show ¬ n - 1 < a by omega)] at h
  replace h : shTb n a w1 w2 = true := h
  unfold shTb at h
  simpa using h
/-- the sum over the sets from c on -/
def shS (p : PLN) (sv : SV) (o i : Nat) : Nat → Nat → Int → Int
  | 0, _, z => z
  | d + 1, c, z => shS p sv o i d (c + 1) (if (nI c &&& (nI o ^^^ (-1 : Int32))) = 0 ∧ Nat.testBit c i = false then z + (shT (pop o) (pop c) (wor p sv (c + 2 ^ i)) (wor p sv c)).toInt else z)
theorem shS_b {p : PLN} {sv : SV} {o i : Nat} (hp : okP p) (ho : o < 32) (hi : i < 5) (ht : Nat.testBit o i = true) : ∀ (d c : Nat) (z : Int), c + d = 32 → -120 * (c : Int) ≤ z → z ≤ 120 * (c : Int) → -3840 ≤ shS p sv o i d c z ∧ shS p sv o i d c z ≤ 3840
  | 0, c, z, hc, h1, h2 => by
    show -3840 ≤ z ∧ z ≤ 3840
    omega
  | d + 1, c, z, hc, h1, h2 => by
    unfold shS
    refine shS_b hp ho hi ht d (c + 1) _ (by omega) ?_ ?_
    all_goals
      split
      · next q =>
        obtain ⟨-, p2, p3⟩ := sh1 ho hi ht
        obtain ⟨r1, -⟩ := (sh2 ho hi (show c < 32 by omega) ht).2 q.1 q.2
        have := shT_b (n := pop o) (a := pop c) (by omega) p2 r1 (wor_b hp sv (c + 2 ^ i)) (wor_b hp sv c)
        omega
      · omega
def PW : Nat → Prop := fun c => c = 44 ∨ (51 ≤ c ∧ c < 57)
theorem RB.tw {σ τ : MT} {S : AS} (h : RB σ S) (hN : pN (aP S) ≤ 5) (e : EO PW σ τ) : RB τ S ∧ CB σ τ := ⟨h.fr hN (e.fb (fun c hc => by unfold keB at hc; unfold PW; omega)), e.cb (fun c _ => by unfold PW; omega)⟩
theorem UW : ∀ c, PU c → PW c := fun c hc => by unfold PU at hc; unfold PW; omega
theorem nge_32 {b : Nat} (h : b < 2147483648) : (32 : Int32) ≤ nI b ↔ 32 ≤ b := nIle (a := 32) (by omega) h
theorem A_share_loop {S : AS} {B o i : Nat} {u : Bool} (ok : okA S B) (hB : B < 70000000) (ho : o < 32) (hi : i < 5) (ht : Nat.testBit o i = true) : ∀ (d c fuel : Nat) (σ : MT) (y : Int64) (z : Int), c + d = 32 → d < fuel → RA σ S → y.toInt = z → -120 * (c : Int) ≤ z → z ≤ 120 * (c : Int) → ∃ τ, f_TF_share_54 fuel (nI i) (bI u) (nI o &&& (((1 : Int32) <<< (nI i &&& 31)) ^^^ (-1 : Int32))) (nI (pop o - 1)) y (nI c) σ = some (frR (shS (aP S) (aV S) o i d c z) (faV (pop o)).toNatClampNeg u, τ) ∧ EO PT σ τ
  | 0, c, fuel, σ, y, z, hc, hf, h, hy, h1, h2 => by
    obtain ⟨f, rfl⟩ : ∃ f, fuel = f + 1 := ⟨fuel - 1, by omega⟩
    obtain ⟨-, p2, p3⟩ := sh1 ho hi ht
    obtain ⟨g1, g2, g3, g4, g5⟩ := fac (k := pop o) (by omega)
    have e1 : nI (pop o - 1) + 1 = nI (pop o) := by rw [nIs]; congr 1; omega
    rw [f_TF_share_54, if_pos ((nge_32 (by omega)).mpr (by omega)), e1, if_pos (inb_n (by omega) (by decide)), nIc (by omega)]
    refine ⟨σ, ?_, EO.rf⟩
    show _ = some (frR z _ u, σ)
    rw [A_frac (A := z) (D := (faV (pop o)).toNatClampNeg) ⟨by omega, by omega⟩ g3 (by omega) hy g5, Option.bind_some]
  | d + 1, c, fuel, σ, y, z, hc, hf, h, hy, h1, h2 => by
    obtain ⟨f, rfl⟩ : ∃ f, fuel = f + 1 := ⟨fuel - 1, by omega⟩
    have hN : pN (aP S) ≤ 5 := ok.1.1
    obtain ⟨-, p2, p3⟩ := sh1 ho hi ht
    obtain ⟨s1, s2⟩ := sh2 ho hi (show c < 32 by omega) ht
    rw [f_TF_share_54, if_neg (fun q => absurd ((nge_32 (by omega)).mp q) (by omega))]
    unfold f_TF_share_121 shS
    rw [nIs]
    by_cases hq : (nI c &&& (nI o ^^^ (-1 : Int32))) = 0 ∧ Nat.testBit c i = false
    · obtain ⟨r1, r2, r3, r4⟩ := s2 hq.1 hq.2
      have hb := shT_b (n := pop o) (a := pop c) (by omega) p2 r1 (wor_b ok.1 (aV S) (c + 2 ^ i)) (wor_b ok.1 (aV S) c)
      have e2 : nI (pop o - 1) - nI (pop c) = nI (pop o - 1 - pop c) := pk_sub r1
      obtain ⟨τ1, q1, q2⟩ := A_worth h ok hB r3
      obtain ⟨τ2, q3, q4⟩ := A_worth (h.tr hN q2).1 ok hB (show c < 32 by omega)
      rw [if_pos (s1.mpr hq), v_bitCount (by omega), Option.bind_some, if_pos (inb_n (by omega) (by decide)), e2, if_pos (inb_n (by omega) (by decide)), r2, q1, Option.bind_some, q3, Option.bind_some, nIc (n := pop c) (by omega), nIc (n := pop o - 1 - pop c) (by omega), if_pos hq]
      have ey : (y + ((faV (pop c) * faV (pop o - 1 - pop c)) * (nI (wor (aP S) (aV S) (c + 2 ^ i)) - nI (wor (aP S) (aV S) c))).toInt64).toInt = z + (shT (pop o) (pop c) (wor (aP S) (aV S) (c + 2 ^ i)) (wor (aP S) (aV S) c)).toInt := by
        rw [Int64.toInt_add, Int32.toInt_toInt64, hy]
        exact z_bl (by show _ ≤ z + (shT (pop o) (pop c) (wor (aP S) (aV S) (c + 2 ^ i)) (wor (aP S) (aV S) c)).toInt; omega) (by show z + (shT (pop o) (pop c) (wor (aP S) (aV S) (c + 2 ^ i)) (wor (aP S) (aV S) c)).toInt < _; omega)
      obtain ⟨τ, t1, t2⟩ := A_share_loop (u := u) ok hB ho hi ht d (c + 1) f τ2 _ _ (by omega) (by omega) ((h.tr hN q2).1.tr hN q4).1 ey (by omega) (by omega)
      exact ⟨τ, t1, (q2.tr q4).tr t2⟩
    · rw [if_neg (fun q => hq (s1.mp q)), if_neg hq]
      exact A_share_loop ok hB ho hi ht d (c + 1) f σ y z (by omega) (by omega) h hy (by omega) (by omega)
theorem B_shareW_loop {K : Int32 → Int32 → Int32 → Int32 → Int32 → Int32 → MT → Option (Int32 × MT)} {S : AS} {B o : Nat} {x1 x2 x4 : Int32} (ok : okA S B) (hB : B < 70000000) : ∀ (d c fuel : Nat) (σ : MT), c + d = 32 → d < fuel → RB σ S → (∀ j, j < c → (nI j &&& (nI o ^^^ (-1 : Int32))) = 0 → σ.1 56 j = nI (wor (aP S) (aV S) j)) → ∃ τ, f_M_share_39 K fuel x1 x2 (nI o) x4 (nI c) σ = K x1 x2 (nI o) x4 0 0 τ ∧ (∀ j, j < 32 → (nI j &&& (nI o ^^^ (-1 : Int32))) = 0 → τ.1 56 j = nI (wor (aP S) (aV S) j)) ∧ EO PW σ τ
  | 0, c, fuel, σ, hc, hf, h, hw => by
    obtain ⟨f, rfl⟩ : ∃ f, fuel = f + 1 := ⟨fuel - 1, by omega⟩
    refine ⟨σ, ?_, fun j hj => hw j (by omega), EO.rf⟩
    rw [f_M_share_39, if_pos ((nge_32 (by omega)).mpr (by omega))]
  | d + 1, c, fuel, σ, hc, hf, h, hw => by
    obtain ⟨f, rfl⟩ : ∃ f, fuel = f + 1 := ⟨fuel - 1, by omega⟩
    have hN : pN (aP S) ≤ 5 := ok.1.1
    rw [f_M_share_39, if_neg (fun q => absurd ((nge_32 (by omega)).mp q) (by omega))]
    unfold f_M_share_71
    rw [inb_n (m := c) (by omega) (by decide), nIs, nIc (n := c) (by omega)]
    have next : ∀ (σ1 : MT) (v : Int32), EO PW σ σ1 → σ1.1 56 = σ.1 56 → ((nI c &&& (nI o ^^^ (-1 : Int32))) = 0 → v = nI (wor (aP S) (aV S) c)) → ∃ τ, f_M_share_39 K f x1 x2 (nI o) x4 (nI (c + 1)) (sI σ1 56 c v) = K x1 x2 (nI o) x4 0 0 τ ∧ (∀ j, j < 32 → (nI j &&& (nI o ^^^ (-1 : Int32))) = 0 → τ.1 56 j = nI (wor (aP S) (aV S) j)) ∧ EO PW σ τ := fun σ1 v e1 e56 hv => by
      have e2 : EO PW σ (sI σ1 56 c v) := e1.i (by unfold PW; omega)
      obtain ⟨τ, t1, t2, t3⟩ := B_shareW_loop (K := K) (x1 := x1) (x2 := x2) (x4 := x4) ok hB d (c + 1) f (sI σ1 56 c v) (by omega) (by omega) (h.tw hN e2).1 (fun j hj hin => by
        rw [sI_r]
        by_cases q : j = c
        · subst q; rw [if_pos ⟨rfl, rfl⟩]; exact hv hin
        · rw [if_neg (fun z => q z.2), e56]; exact hw j (by omega) hin)
      exact ⟨τ, t1, t2, e2.tr t3⟩
    by_cases hin : (nI c &&& (nI o ^^^ (-1 : Int32))) = 0
    · obtain ⟨τ1, q1, q2⟩ := B_worth (c := c) h ok hB (by omega)
      rw [if_pos hin, q1, Option.bind_some, if_pos rfl]
      exact next τ1 _ (q2.mo UW) (q2.1 56 (by unfold PU; omega)) (fun _ => rfl)
    · rw [if_neg hin, if_pos rfl]
      exact next σ 0 EO.rf rfl (fun q => absurd q hin)
theorem B_share_loop {S : AS} {B o i : Nat} {u : Bool} (ok : okA S B) (ho : o < 32) (hi : i < 5) (ht : Nat.testBit o i = true) {σ : MT} (hw : ∀ j, j < 32 → (nI j &&& (nI o ^^^ (-1 : Int32))) = 0 → σ.1 56 j = nI (wor (aP S) (aV S) j)) : ∀ (d c fuel : Nat) (y : Int32) (z : Int), c + d = 32 → d < fuel → y.toInt = z → -120 * (c : Int) ≤ z → z ≤ 120 * (c : Int) → f_M_share_84 fuel (nI i) (bI u) (nI o) (nI (pop o)) y (nI c) σ = some (frR (shS (aP S) (aV S) o i d c z) (faV (pop o)).toNatClampNeg u, σ)
  | 0, c, fuel, y, z, hc, hf, hy, h1, h2 => by
    obtain ⟨f, rfl⟩ : ∃ f, fuel = f + 1 := ⟨fuel - 1, by omega⟩
    obtain ⟨-, p2, p3⟩ := sh1 ho hi ht
    obtain ⟨g1, g2, g3, g4, g5⟩ := fac (k := pop o) (by omega)
    rw [f_M_share_84, if_pos ((nge_32 (by omega)).mpr (by omega)), g1, Option.bind_some]
    show _ = some (frR z _ u, σ)
    rw [B_frac (A := z) (D := (faV (pop o)).toNatClampNeg) ⟨by omega, by omega⟩ g3 (by omega) hy g2, Option.bind_some]
  | d + 1, c, fuel, y, z, hc, hf, hy, h1, h2 => by
    obtain ⟨f, rfl⟩ : ∃ f, fuel = f + 1 := ⟨fuel - 1, by omega⟩
    obtain ⟨-, p2, p3⟩ := sh1 ho hi ht
    obtain ⟨s1, s2⟩ := sh2 ho hi (show c < 32 by omega) ht
    rw [f_M_share_84, if_neg (fun q => absurd ((nge_32 (by omega)).mp q) (by omega))]
    unfold f_M_share_157 shS
    rw [nIs]
    have rest := fun y z => B_share_loop (u := u) ok ho hi ht hw d (c + 1) f y z (by omega) (by omega)
    by_cases hin : (nI c &&& (nI o ^^^ (-1 : Int32))) = 0
    · rw [if_pos hin, v_has (by omega) (by omega), Option.bind_some, decide_eq_true (show i < 7 by omega), Bool.true_and]
      cases hb : Nat.testBit c i with
      | false =>
        obtain ⟨r1, r2, r3, r4⟩ := s2 hin hb
        have hbd := shT_b (n := pop o) (a := pop c) (by omega) p2 r1 (wor_b ok.1 (aV S) (c + 2 ^ i)) (wor_b ok.1 (aV S) c)
        have e2 : nI (pop o) - 1 - nI (pop c) = nI (pop o - 1 - pop c) := by rw [nIm_1 p2, pk_sub r1]
        rw [if_pos bI_f, v_ones (by omega), Option.bind_some, (fac (k := pop c) (by omega)).1, Option.bind_some, e2, (fac (k := pop o - 1 - pop c) (by omega)).1, Option.bind_some, r2, if_pos (inb_n (by omega) (by decide)), if_pos (inb_n (by omega) (by decide)), nIc (n := c + 2 ^ i) (by omega), nIc (n := c) (by omega), hw _ r3 r4, hw c (by omega) hin, if_pos ⟨hin, rfl⟩]
        have ey : (y + ((faV (pop c) * faV (pop o - 1 - pop c)) * (nI (wor (aP S) (aV S) (c + 2 ^ i)) - nI (wor (aP S) (aV S) c)))).toInt = z + (shT (pop o) (pop c) (wor (aP S) (aV S) (c + 2 ^ i)) (wor (aP S) (aV S) c)).toInt := by
          rw [Int32.toInt_add, hy]
          exact z_bm (by show _ ≤ z + (shT (pop o) (pop c) (wor (aP S) (aV S) (c + 2 ^ i)) (wor (aP S) (aV S) c)).toInt; omega) (by show z + (shT (pop o) (pop c) (wor (aP S) (aV S) (c + 2 ^ i)) (wor (aP S) (aV S) c)).toInt < _; omega)
        exact rest _ _ ey (by omega) (by omega)
      | true =>
        rw [if_neg (by decide), if_neg (fun q => by cases q.2)]
        exact rest y z hy (by omega) (by omega)
    · rw [if_neg hin, if_neg (fun q => hin q.1)]
      exact rest y z hy (by omega) (by omega)
theorem op_share {S : AS} {B : Nat} (ok : okA S B) (hB : B < 70000000) (x : Int32) (u : Bool) : op (f_TF_share x (bI u)) (f_M_share x (bI u)) S B := by
  have hp := ok.1
  have hN5 : pN (aP S) ≤ 5 := ok.1.1
  have okv := ok.2.1
  cases hx : isI x (pN (aP S)) with
  | false =>
    refine op_rf ok (-1) (fun σ h => ?_) (fun σ h => ?_)
    · unfold f_TF_share
      rw [A_hasNode x hp h.2.1, Option.bind_some, hx, if_pos bI_f]
    · unfold f_M_share
      rw [B_isNode x hp h.2.1, Option.bind_some, hx, if_pos bI_f]
  | true =>
    obtain ⟨i, hi, rfl⟩ := isI_t (by omega) hx
    by_cases h0 : ((aV S).2.2 i).1 0 = 0
    · refine op_rf ok (-3) (fun σ h => ?_) (fun σ h => ?_)
      · unfold f_TF_share
        rw [A_hasNode _ hp h.2.1, Option.bind_some, hx, if_neg (by decide), if_pos (inb_n (by omega) (by decide)), nIc (by omega), show 62 + 1 + 4 * i = 61 + 1 + 1 + 4 * i by omega, (h.2.2.1.2.2.1 i hi).1 0 (by decide), if_pos h0]
      · unfold f_M_share
        rw [B_isNode _ hp h.2.1, Option.bind_some, hx, if_neg (by decide), v_isOn h.2.2.1 hi hN5 okv.1, Option.bind_some, if_pos h0, if_pos rfl]
    · have ho : setN (onM (aV S)) (pN (aP S)) < 32 := lt_32 (setN_b _ _) hN5
      have ht : Nat.testBit (setN (onM (aV S)) (pN (aP S))) i = true := by
        rw [tb_set (L := 0) _ _ _ hi (by omega)]
        unfold onM
        rw [decide_eq_false h0]; rfl
      refine ⟨S, ok.le (by omega), frR (shS (aP S) (aV S) (setN (onM (aV S)) (pN (aP S))) i 32 0 0) (faV (pop (setN (onM (aV S)) (pN (aP S))))).toNatClampNeg u, fun σ h => ?_, fun σ h => ?_⟩
      · unfold f_TF_share
        obtain ⟨p1, -, -⟩ := sh1 ho (show i < 5 by omega) ht
        obtain ⟨τ, q1, q2⟩ := A_share_loop (u := u) ok hB ho (show i < 5 by omega) ht 32 0 1100 σ 0 0 (by omega) (by omega) h rfl (by omega) (by omega)
        rw [show nI 0 = (0 : Int32) from rfl] at q1
        rw [A_hasNode _ hp h.2.1, Option.bind_some, hx, if_neg (by decide), if_pos (inb_n (by omega) (by decide)), nIc (by omega), show 62 + 1 + 4 * i = 61 + 1 + 1 + 4 * i by omega, (h.2.2.1.2.2.1 i hi).1 0 (by decide), if_neg h0, A_onSet h.2.2.1 hN5, Option.bind_some, p1, Option.bind_some, q1]
        exact ⟨τ, rfl, h.tr hN5 q2⟩
      · unfold f_M_share
        obtain ⟨τ, q1, q2, q3⟩ := B_shareW_loop (K := f_M_share_84 1100) (o := setN (onM (aV S)) (pN (aP S))) (x1 := nI i) (x2 := bI u) (x4 := nI (pop (setN (onM (aV S)) (pN (aP S))))) ok hB 32 0 1100 σ (by omega) (by omega) h (fun j hj => absurd hj (by omega))
        have r := B_share_loop (u := u) ok ho (show i < 5 by omega) ht q2 32 0 1100 0 0 (by omega) (by omega) rfl (by omega) (by omega)
        rw [show nI 0 = (0 : Int32) from rfl] at q1 r
        rw [B_isNode _ hp h.2.1, Option.bind_some, hx, if_neg (by decide), v_isOn h.2.2.1 hi hN5 okv.1, Option.bind_some, if_neg h0, if_neg (by decide), B_on h.2.2.1 hN5 okv.1 h.2.1.2.1, Option.bind_some, v_ones (lt_128 (setN_b _ _) (by omega)), Option.bind_some, q1, r]
        exact ⟨τ, rfl, h.tw hN5 q3⟩
