/-! ahead, agree, drawn -/
theorem op_ahead {S : AS} {B : Nat} (ok : okA S B) (hB : B < 70000000) (x y z : Int32) : op (f_TF_ahead x y z) (f_M_ahead x y z) S B := by
  have hp := ok.1
  have hN5 : pN (aP S) ≤ 5 := ok.1.1
  have okv := ok.2.1
  have hx0 : x < 0 ↔ x.toInt < 0 := by rw [Int32.lt_iff_toInt_lt, Int32.toInt_zero]
  have hx1 : 99 < x ↔ 99 < x.toInt := Int32.lt_iff_toInt_lt
  have hz0 : z < 2 ↔ z.toInt < 2 := Int32.lt_iff_toInt_lt
  have hz1 : z ≤ 10 ↔ z.toInt ≤ 10 := Int32.le_iff_toInt_le
  have w0 : (0 : Int64).toInt = 0 := rfl
  have w99 : (99 : Int64).toInt = 99 := rfl
  have w2 : (2 : Int64).toInt = 2 := rfl
  have w10 : (10 : Int64).toInt = 10 := rfl
  cases hy : isI y (pN (aP S)) with
  | false =>
    refine op_rf ok (-1) (fun σ h => ?_) (fun σ h => ?_)
    · unfold f_TF_ahead
      rw [A_hasNode y hp h.2.1, Option.bind_some, hy, if_pos bI_f]
    · unfold f_M_ahead
      rw [B_isNode y hp h.2.1, Option.bind_some, hy, if_pos bI_f]
  | true =>
    by_cases hx : 0 ≤ x.toInt ∧ x.toInt ≤ 99
    · by_cases hz : 2 ≤ z.toInt ∧ z.toInt ≤ 10
      · obtain ⟨i, hi, rfl⟩ := isI_t (by omega) hy
        obtain ⟨m, hm, rfl⟩ := IR_n (x := x) (n := 100) ⟨by omega, by show x.toInt < 100; omega⟩ (by omega)
        obtain ⟨n, hn, rfl⟩ := IR_n (x := z) (n := 11) ⟨by omega, by show z.toInt < 11; omega⟩ (by omega)
        have okr : okS (aP S) (B + 32 * m) (rep (pas (aP S)) m (aV S)) := ok_rep hp m B (aV S) okv (by omega)
        refine ⟨S, ok.le (by omega), prM (aP S) (rep (pas (aP S)) m (aV S)) i n, fun σ h => ?_, fun σ h => ?_⟩
        · unfold f_TF_ahead
          obtain ⟨τ1, q1, q2, q3⟩ := A_trial h ok
          obtain ⟨τ2, r1, r2, r3⟩ := A_many (m := m) hp (h.2.1.pt q3) q2 (by omega) okv (by omega) (by omega)
          have e2 := q3.tr (r3.mo PP83)
          rw [A_hasNode _ hp h.2.1, Option.bind_some, hy, if_neg (by decide), if_neg (fun q => by have := hx0.mp q; omega), if_neg (fun q => by have := hx1.mp q; omega), if_neg (fun q => by have := hz0.mp q; omega), if_pos (hz1.mpr hz.2), q1, Option.bind_some, r1, Option.bind_some, A_prop hp (h.2.1.pt e2) r2 okr (by omega) hi (by omega), Option.bind_some]
          exact ⟨τ2, rfl, h.tr hN5 e2⟩
        · unfold f_M_ahead
          obtain ⟨τ1, q1, q2, q3⟩ := B_trial h ok
          obtain ⟨τ2, r1, r2, r3⟩ := B_many (m := m) hp (h.2.1.pu q3) q2 okv (by omega) (by omega)
          have e2 := q3.tr (r3.mo SR44)
          rw [B_isNode _ hp h.2.1, Option.bind_some, hy, if_neg (by decide), v_in, Option.bind_some, Int32.toInt_toInt64, w0, w99, if_pos hx, if_neg (by decide), v_in, Option.bind_some, Int32.toInt_toInt64, w2, w10, if_pos hz, if_neg (by decide), q1, Option.bind_some, r1, Option.bind_some, B_tell hp (h.2.1.pu e2) r2 okr (by omega) hi (by omega), Option.bind_some]
          exact ⟨τ2, rfl, h.tr hN5 e2⟩
      · refine op_rf ok (-2) (fun σ h => ?_) (fun σ h => ?_)
        · unfold f_TF_ahead
          rw [A_hasNode _ hp h.2.1, Option.bind_some, hy, if_neg (by decide), if_neg (fun q => by have := hx0.mp q; omega), if_neg (fun q => by have := hx1.mp q; omega)]
          by_cases q : z.toInt < 2
          · rw [if_pos (hz0.mpr q)]
          · rw [if_neg (fun w => q (hz0.mp w)), if_neg (fun w => hz ⟨by omega, hz1.mp w⟩)]
        · unfold f_M_ahead
          rw [B_isNode _ hp h.2.1, Option.bind_some, hy, if_neg (by decide), v_in, Option.bind_some, Int32.toInt_toInt64, w0, w99, if_pos hx, if_neg (by decide), v_in, Option.bind_some, Int32.toInt_toInt64, w2, w10, if_neg hz, if_pos rfl]
    · refine op_rf ok (-2) (fun σ h => ?_) (fun σ h => ?_)
      · unfold f_TF_ahead
        rw [A_hasNode _ hp h.2.1, Option.bind_some, hy, if_neg (by decide)]
        by_cases q : x.toInt < 0
        · rw [if_pos (hx0.mpr q)]
        · rw [if_neg (fun w => q (hx0.mp w)), if_pos (hx1.mpr (by omega))]
      · unfold f_M_ahead
        rw [B_isNode _ hp h.2.1, Option.bind_some, hy, if_neg (by decide), v_in, Option.bind_some, Int32.toInt_toInt64, w0, w99, if_neg hx, if_pos rfl]
def agrM (p : PLN) : Nat → Nat → SV → Int32
  | 0, _, _ => -9
  | d + 1, i, sv => if uniM (pN p) sv = true then nI i else agrM p d (i + 1) (pas p sv)
theorem ngt_60' {b : Nat} (h : b < 2147483648) : (60 : Int32) < nI b ↔ 60 < b := nIlt (a := 60) (by omega) h
theorem A_agree_loop {p : PLN} (hp : okP p) : ∀ (d i T fuel : Nat) (σ : MT) (sv : SV), i + d = 61 → d < fuel → pA σ 15 p → hA σ 83 (pN p) sv → okS p T sv → T + 32 * d < 90000000 → ∃ τ, f_TF_agree_13 fuel (nI i) σ = some (agrM p d i sv, τ) ∧ EO PT σ τ
  | 0, i, T, fuel, σ, sv, hi, hf, hpA, h, ok, hT => by
    obtain ⟨f, rfl⟩ : ∃ f, fuel = f + 1 := ⟨fuel - 1, by omega⟩
    refine ⟨σ, ?_, EO.rf⟩
    rw [f_TF_agree_13, if_pos ((ngt_60' (by omega)).mpr (by omega))]
    rfl
  | d + 1, i, T, fuel, σ, sv, hi, hf, hpA, h, ok, hT => by
    obtain ⟨f, rfl⟩ : ∃ f, fuel = f + 1 := ⟨fuel - 1, by omega⟩
    rw [f_TF_agree_13, if_neg (fun q => absurd ((ngt_60' (by omega)).mp q) (by omega)), A_united h hp.1, Option.bind_some]
    unfold agrM
    cases hu : uniM (pN p) sv with
    | true =>
      rw [if_neg (by decide), if_pos rfl]
      exact ⟨σ, rfl, EO.rf⟩
    | false =>
      rw [if_pos (by decide), if_neg (by decide)]
      obtain ⟨τ, q1, q2, q3⟩ := A_pass hp hpA h (by omega) ok (by omega)
      rw [q1, Option.bind_some, nIs]
      have e := q3.mo PP83
      obtain ⟨τ2, p1, p2⟩ := A_agree_loop hp d (i + 1) (T + 32) f τ _ (by omega) (by omega) (hpA.pt e) q2 (ok_pas hp ok (by omega)) (by omega)
      exact ⟨τ2, p1, e.tr p2⟩
theorem B_agree_loop {p : PLN} (hp : okP p) : ∀ (d i T fuel : Nat) (σ : MT) (sv : SV), i + d = 61 → d < fuel → pB σ p → hR σ 44 (pN p) sv → okS p T sv → T + 32 * d < 90000000 → ∃ τ, f_M_agree_13 fuel (nI i) σ = some (agrM p d i sv, τ) ∧ EO PU σ τ
  | 0, i, T, fuel, σ, sv, hi, hf, hpB, h, ok, hT => by
    obtain ⟨f, rfl⟩ : ∃ f, fuel = f + 1 := ⟨fuel - 1, by omega⟩
    refine ⟨σ, ?_, EO.rf⟩
    rw [f_M_agree_13, if_pos ((ngt_60' (by omega)).mpr (by omega))]
    rfl
  | d + 1, i, T, fuel, σ, sv, hi, hf, hpB, h, ok, hT => by
    obtain ⟨f, rfl⟩ : ∃ f, fuel = f + 1 := ⟨fuel - 1, by omega⟩
    rw [f_M_agree_13, if_neg (fun q => absurd ((ngt_60' (by omega)).mp q) (by omega)), B_united h hp.1 ok.1 hpB.2.1, Option.bind_some]
    unfold agrM
    cases hu : uniM (pN p) sv with
    | true =>
      rw [if_neg (by decide), if_pos rfl]
      exact ⟨σ, rfl, EO.rf⟩
    | false =>
      rw [if_pos (by decide), if_neg (by decide)]
      obtain ⟨τ, q1, q2, q3⟩ := B_pass hp hpB h (Or.inr rfl) ok (by omega)
      rw [q1, Option.bind_some, nIs]
      have e := q3.mo SR44
      obtain ⟨τ2, p1, p2⟩ := B_agree_loop hp d (i + 1) (T + 32) f τ _ (by omega) (by omega) (hpB.pu e) q2 (ok_pas hp ok (by omega)) (by omega)
      exact ⟨τ2, p1, e.tr p2⟩
theorem op_agree {S : AS} {B : Nat} (ok : okA S B) (hB : B < 70000000) : op f_TF_agree f_M_agree S B := by
  have hp := ok.1
  have hN5 : pN (aP S) ≤ 5 := ok.1.1
  refine ⟨S, ok.le (by omega), agrM (aP S) 61 0 (aV S), fun σ h => ?_, fun σ h => ?_⟩
  · unfold f_TF_agree
    obtain ⟨τ1, q1, q2, q3⟩ := A_trial h ok
    obtain ⟨τ2, r1, r2⟩ := A_agree_loop hp 61 0 B 1100 τ1 _ (by omega) (by omega) (h.2.1.pt q3) q2 ok.2.1 (by omega)
    rw [show nI 0 = (0 : Int32) from rfl] at r1
    rw [q1, Option.bind_some, r1]
    exact ⟨τ2, rfl, h.tr hN5 (q3.tr r2)⟩
  · unfold f_M_agree
    obtain ⟨τ1, q1, q2, q3⟩ := B_trial h ok
    obtain ⟨τ2, r1, r2⟩ := B_agree_loop hp 61 0 B 1100 τ1 _ (by omega) (by omega) (h.2.1.pu q3) q2 ok.2.1 (by omega)
    rw [show nI 0 = (0 : Int32) from rfl] at r1
    rw [q1, Option.bind_some, r1]
    exact ⟨τ2, rfl, h.tr hN5 (q3.tr r2)⟩
-- drawn
def seN (s : Int64) : Int64 := s * 6364136223846793005 + 1442695040888963407
def seV (s : Int64) : Int32 := ((s.toUInt64 >>> ((33 : Int32).toInt64.toUInt64 &&& Int64.toUInt64 63)).toInt64).toInt32
theorem seV_n (s : Int64) : ∃ a : Nat, a < 2147483648 ∧ seV s = nI a := by
  have hs : (s.toUInt64 >>> ((33 : Int32).toInt64.toUInt64 &&& Int64.toUInt64 63)).toNat < 2147483648 := by
    rw [UInt64.toNat_shiftRight, Nat.shiftRight_eq_div_pow]
    have := s.toUInt64.toNat_lt
    have e : ((33 : Int32).toInt64.toUInt64 &&& Int64.toUInt64 63).toNat % 64 = 33 := by decide +kernel
    rw [e]
    omega
  unfold seV
  generalize s.toUInt64 >>> ((33 : Int32).toInt64.toUInt64 &&& Int64.toUInt64 63) = u at hs
  have e1 : u.toInt64.toInt = (u.toNat : Int) := by
    show u.toBitVec.toInt = _
    rw [BitVec.toInt_eq_toNat_of_lt (by show 2 * u.toNat < _; omega)]
    rfl
  refine ⟨u.toNat, hs, Int32.toInt_inj.mp ?_⟩
  rw [nIt hs, Int64.toInt_toInt32, e1]
  exact Int.bmod_eq_of_le (by omega) (by omega)
def lnk (v : Int32) (L : Nat) : Nat := (v - v / nI L * nI L).toNatClampNeg
theorem lnk_n {a L : Nat} (ha : a < 2147483648) (hL : 0 < L) (hL7 : L ≤ 7) : nI a - nI a / nI L * nI L = nI (lnk (nI a) L) ∧ lnk (nI a) L < L := by
  have hy : 0 < (nI L).toInt := by rw [nIt (by omega)]; omega
  obtain ⟨d1, d2, d3⟩ := z_divI (x := nI a) hy
  rw [nIt ha, nIt (n := L) (by omega), Int.tdiv_eq_ediv_of_nonneg (by omega)] at d3
  have m1 := Int.emod_add_mul_ediv (a : Int) (L : Int)
  have m2 := Int.emod_nonneg (a : Int) (show (L : Int) ≠ 0 by omega)
  have m3 := Int.emod_lt_of_pos (a : Int) (show (0 : Int) < (L : Int) by omega)
  rw [Int.mul_comm] at m1
  obtain ⟨j, hj, e⟩ := IR_n (x := nI a - nI a / nI L * nI L) (n := L) ⟨by omega, by omega⟩ (by omega)
  unfold lnk
  rw [e, nIc (by omega)]
  exact ⟨rfl, hj⟩
def drS (p : PLN) (v : Int32) (sv : SV) : SV := pas p (if 0 < pL p ∧ (v / 16) - (v / 16) / 2 * 2 = 0 then flS sv (lnk v (pL p)) else sv)
def drwM (p : PLN) : Nat → Int32 → Int64 → SV → Int32 × Int64
  | 0, s, e, _ => (s, e)
  | d + 1, s, e, sv => drwM p d (s + nI (pop (setN (inT p (drS p (seV (seN e)) sv)) (pN p)))) (seN e) (drS p (seV (seN e)) sv)
def EL (P : Nat → Prop) (k : Nat) (σ τ : MT) : Prop := (∀ c, ¬ P c → τ.1 c = σ.1 c) ∧ ∀ j, j ≠ k → τ.2 j = σ.2 j
theorem EL.tr {P : Nat → Prop} {k : Nat} {a b c : MT} (h1 : EL P k a b) (h2 : EL P k b c) : EL P k a c := ⟨fun x hx => (h2.1 x hx).trans (h1.1 x hx), fun j hj => (h2.2 j hj).trans (h1.2 j hj)⟩
theorem EO.el {P : Nat → Prop} {k : Nat} {a b : MT} (h : EO P a b) : EL P k a b := ⟨h.1, fun j _ => by rw [h.2]⟩
theorem ok_drS {p : PLN} {T : Nat} {sv : SV} {v : Int32} (hp : okP p) (ok : okS p T sv) (hT : T < 90000000) {a : Nat} (ha : a < 2147483648) (hv : v = nI a) : okS p (T + 32) (drS p v sv) := by
  unfold drS
  refine ok_pas hp ?_ (by omega)
  split
  · next h => exact ok.fl hp (by rw [hv]; exact (lnk_n ha h.1 hp.2.1).2)
  · exact ok
theorem A_drawn_loop {m : Nat} {p : PLN} (hp : okP p) (hm : m < 1000) : ∀ (d i T fuel : Nat) (σ : MT) (sv : SV) (s : Int32) (e : Int64), i + d = m → d < fuel → pA σ 15 p → hA σ 83 (pN p) sv → okS p T sv → T + 32 * d < 80000000 → σ.2 0 = e → ∃ τ, f_TF_drawn_29 fuel (nI m) s (nI i) σ = some ((drwM p d s e sv).1, τ) ∧ τ.2 0 = (drwM p d s e sv).2 ∧ EL PT 0 σ τ
  | 0, i, T, fuel, σ, sv, s, e, hi, hf, hpA, h, ok, hT, he => by
    obtain ⟨f, rfl⟩ : ∃ f, fuel = f + 1 := ⟨fuel - 1, by omega⟩
    refine ⟨σ, ?_, he, EO.rf.el⟩
    rw [f_TF_drawn_29, if_pos ((nIle (by omega) (by omega)).mpr (by omega))]
    rfl
  | d + 1, i, T, fuel, σ, sv, s, e, hi, hf, hpA, h, ok, hT, he => by
    obtain ⟨f, rfl⟩ : ∃ f, fuel = f + 1 := ⟨fuel - 1, by omega⟩
    have hL : pL p ≤ 7 := hp.2.1
    have hN : pN p ≤ 5 := hp.1
    rw [f_TF_drawn_29, if_neg (fun q => absurd ((nIle (by omega) (by omega)).mp q) (by omega))]
    unfold f_TF_drawn_50
    rw [he, show (sL σ 0 (e * (6364136223846793005 : Int64) + (1442695040888963407 : Int64))).2 0 = seN e by simp [sL_r, seN]]
    have hvv : ((((seN e).toUInt64 >>> ((33 : Int32).toInt64.toUInt64 &&& Int64.toUInt64 63)).toInt64).toInt32) = seV (seN e) := rfl
    rw [hvv]
    generalize hσ1 : sL σ 0 (e * (6364136223846793005 : Int64) + (1442695040888963407 : Int64)) = σ1
    have l1 : EL PT 0 σ σ1 := ⟨fun c _ => by rw [← hσ1]; rfl, fun j hj => by rw [← hσ1]; simp [sL_r, hj]⟩
    have s1 : σ1.2 0 = seN e := by rw [← hσ1]; simp [sL_r, seN]
    have pA1 : pA σ1 15 p := by rw [← hσ1]; exact hpA
    have h1 : hA σ1 83 (pN p) sv := by rw [← hσ1]; exact h
    obtain ⟨a, ha, hv⟩ := seV_n (seN e)
    have okd := ok_drS (v := seV (seN e)) hp ok (by omega) ha hv
    have k97 : ∀ σ2 sw, pA σ2 15 p → hA σ2 83 (pN p) sw → okS p T sw → pas p sw = drS p (seV (seN e)) sv → σ2.2 0 = seN e → EL PT 0 σ σ2 → ∃ τ, f_TF_drawn_97 (f_TF_drawn_29 f) (nI m) s (nI i) σ2 = some ((drwM p (d + 1) s e sv).1, τ) ∧ τ.2 0 = (drwM p (d + 1) s e sv).2 ∧ EL PT 0 σ τ := by
      intro σ2 sw g1 g2 g3 g4 g5 g6
      unfold f_TF_drawn_97
      obtain ⟨τ, q1, q2, q3⟩ := A_pass hp g1 g2 (by omega) g3 (by omega)
      rw [g4] at q2
      have e3 := q3.mo PP83
      rw [q1, Option.bind_some, A_inTime hp (g1.pt e3) q2 okd (by omega), Option.bind_some, A_bits hp, Option.bind_some, nIs]
      obtain ⟨τ2, p1, p2, p3⟩ := A_drawn_loop hp hm d (i + 1) (T + 32) f τ _ (s + nI (pop (setN (inT p (drS p (seV (seN e)) sv)) (pN p)))) (seN e) (by omega) (by omega) (g1.pt e3) q2 okd (by omega) (by rw [q3.2]; exact g5)
      exact ⟨τ2, p1, p2, g6.tr (e3.el.tr p3)⟩
    unfold f_TF_drawn_60
    rw [pA1.2.2.1]
    by_cases hL0 : pL p = 0
    · rw [if_pos ((nle_0 (by omega)).mpr (by omega))]
      refine k97 σ1 sv pA1 h1 ok ?_ s1 l1
      unfold drS
      rw [if_neg (fun q => by omega)]
    · rw [if_neg (fun q => by have := (nle_0 (by omega)).mp q; omega)]
      by_cases hev : (seV (seN e) / 16) - (seV (seN e) / 16) / 2 * 2 = 0
      · rw [if_pos hev, if_pos (fun q => hL0 ((neq_0 (by omega)).mp q))]
        obtain ⟨w1, w2⟩ := lnk_n ha (show 0 < pL p by omega) hL
        rw [← hv] at w1 w2
        rw [w1]
        obtain ⟨τ1, q1, q2, q3⟩ := A_flip (l := lnk (seV (seN e)) (pL p)) h1 hN
        rw [q1, Option.bind_some]
        have e3 : EO PT σ1 τ1 := q3.mo (fun c hc => by unfold PT; omega)
        refine k97 τ1 _ (pA1.pt e3) q2 (ok.fl hp w2) ?_ (by rw [q3.2]; exact s1) (l1.tr e3.el)
        unfold drS
        rw [if_pos ⟨by omega, hev⟩]
      · rw [if_neg hev]
        refine k97 σ1 sv pA1 h1 ok ?_ s1 l1
        unfold drS
        rw [if_neg (fun q => hev q.2)]
theorem B_drawn_loop {m : Nat} {p : PLN} (hp : okP p) (hm : m < 1000) : ∀ (d i T fuel : Nat) (σ : MT) (sv : SV) (s : Int32) (e : Int64), i + d = m → d < fuel → pB σ p → hR σ 44 (pN p) sv → okS p T sv → T + 32 * d < 80000000 → σ.2 38 = e → ∃ τ, f_M_drawn_30 fuel (nI m) s (nI i) σ = some ((drwM p d s e sv).1, τ) ∧ τ.2 38 = (drwM p d s e sv).2 ∧ EL PU 38 σ τ
  | 0, i, T, fuel, σ, sv, s, e, hi, hf, hpB, h, ok, hT, he => by
    obtain ⟨f, rfl⟩ : ∃ f, fuel = f + 1 := ⟨fuel - 1, by omega⟩
    refine ⟨σ, ?_, he, EO.rf.el⟩
    rw [f_M_drawn_30, if_pos ((nIle (by omega) (by omega)).mpr (by omega))]
    rfl
  | d + 1, i, T, fuel, σ, sv, s, e, hi, hf, hpB, h, ok, hT, he => by
    obtain ⟨f, rfl⟩ : ∃ f, fuel = f + 1 := ⟨fuel - 1, by omega⟩
    have hL : pL p ≤ 7 := hp.2.1
    have hN : pN p ≤ 5 := hp.1
    obtain ⟨dn, hd1, hd2⟩ := ok.2.2
    rw [f_M_drawn_30, if_neg (fun q => absurd ((nIle (by omega) (by omega)).mp q) (by omega))]
    unfold f_M_drawn_51
    rw [he, show (sL σ 38 (e * (6364136223846793005 : Int64) + (1442695040888963407 : Int64))).2 38 = seN e by simp [sL_r, seN]]
    have hvv : ((((seN e).toUInt64 >>> ((33 : Int32).toInt64.toUInt64 &&& Int64.toUInt64 63)).toInt64).toInt32) = seV (seN e) := rfl
    rw [hvv]
    generalize hσ1 : sL σ 38 (e * (6364136223846793005 : Int64) + (1442695040888963407 : Int64)) = σ1
    have l1 : EL PU 38 σ σ1 := ⟨fun c _ => by rw [← hσ1]; rfl, fun j hj => by rw [← hσ1]; simp [sL_r, hj]⟩
    have s1 : σ1.2 38 = seN e := by rw [← hσ1]; simp [sL_r, seN]
    have pB1 : pB σ1 p := by rw [← hσ1]; exact hpB
    have h1 : hR σ1 44 (pN p) sv := by rw [← hσ1]; exact h
    obtain ⟨a, ha, hv⟩ := seV_n (seN e)
    have okd := ok_drS (v := seV (seN e)) hp ok (by omega) ha hv
    have k97 : ∀ σ2 sw, pB σ2 p → hR σ2 44 (pN p) sw → okS p T sw → pas p sw = drS p (seV (seN e)) sv → σ2.2 38 = seN e → EL PU 38 σ σ2 → ∃ τ, f_M_drawn_109 (f_M_drawn_30 f) (nI m) s (nI i) σ2 = some ((drwM p (d + 1) s e sv).1, τ) ∧ τ.2 38 = (drwM p (d + 1) s e sv).2 ∧ EL PU 38 σ τ := by
      intro σ2 sw g1 g2 g3 g4 g5 g6
      unfold f_M_drawn_109
      obtain ⟨τ, q1, q2, q3⟩ := B_pass hp g1 g2 (Or.inr rfl) g3 (by omega)
      rw [g4] at q2
      have e3 := q3.mo SR44
      rw [q1, Option.bind_some, B_inTime hp (g1.pu e3) q2 okd (by omega), Option.bind_some, v_ones (lt_128 (setN_b _ _) (by omega)), Option.bind_some, nIs]
      obtain ⟨τ2, p1, p2, p3⟩ := B_drawn_loop hp hm d (i + 1) (T + 32) f τ _ (s + nI (pop (setN (inT p (drS p (seV (seN e)) sv)) (pN p)))) (seN e) (by omega) (by omega) (g1.pu e3) q2 okd (by omega) (by rw [q3.2]; exact g5)
      exact ⟨τ2, p1, p2, g6.tr (e3.el.tr p3)⟩
    unfold f_M_drawn_61
    rw [pB1.2.2.1]
    by_cases hL0 : pL p = 0
    · rw [if_pos ((nle_0 (by omega)).mpr (by omega))]
      refine k97 σ1 sv pB1 h1 ok ?_ s1 l1
      unfold drS
      rw [if_neg (fun q => by omega)]
    · rw [if_neg (fun q => by have := (nle_0 (by omega)).mp q; omega)]
      by_cases hev : (seV (seN e) / 16) - (seV (seN e) / 16) / 2 * 2 = 0
      · rw [if_pos hev, if_pos (fun q => hL0 ((neq_0 (by omega)).mp q))]
        obtain ⟨w1, w2⟩ := lnk_n ha (show 0 < pL p by omega) hL
        rw [← hv] at w1 w2
        rw [w1, ad95, inb_n (m := 95 + lnk (seV (seN e)) (pL p)) (by omega) (by decide), if_pos rfl, if_pos rfl, nIc (by omega)]
        obtain ⟨r1, -⟩ := B_flip (l := lnk (seV (seN e)) (pL p)) h1 hN (by omega) hd1 (lt_128 hd2 hL)
        have e3 : EO PU σ1 (sI σ1 44 (95 + lnk (seV (seN e)) (pL p)) (1 - σ1.1 44 (95 + lnk (seV (seN e)) (pL p)))) := EO.i (P := PU) EO.rf (Or.inl rfl)
        refine k97 _ _ (pB1.pu e3) r1 (ok.fl hp w2) ?_ (by rw [e3.2]; exact s1) (l1.tr e3.el)
        unfold drS
        rw [if_pos ⟨by omega, hev⟩]
      · rw [if_neg hev]
        refine k97 σ1 sv pB1 h1 ok ?_ s1 l1
        unfold drS
        rw [if_neg (fun q => hev q.2)]
theorem RA.sd {σ τ : MT} {t : TX} {p : PLN} {sv : SV} {K : Nat → SV × Bool} {J : JR} {G : SG} {d d' : Int64} (h : RA σ (t, p, sv, K, J, G, d)) (hN : pN p ≤ 5) (e : ∀ c, keA c → τ.1 c = σ.1 c) (hd : τ.2 0 = d') : RA τ (t, p, sv, K, J, G, d') := by
  obtain ⟨h1, h2, h3, h4, h5, h6, -⟩ := RA.fr (τ := (τ.1, σ.2)) h hN ⟨e, rfl⟩
  exact ⟨h1, h2, h3, h4, h5, h6, hd⟩
theorem RB.sd {σ τ : MT} {t : TX} {p : PLN} {sv : SV} {K : Nat → SV × Bool} {J : JR} {G : SG} {d d' : Int64} (h : RB σ (t, p, sv, K, J, G, d)) (hN : pN p ≤ 5) (e : ∀ c, keB c → τ.1 c = σ.1 c) (e1 : ∀ j, j < 28 → τ.1 38 j = σ.1 38 j) (hd : τ.2 38 = d') : RB τ (t, p, sv, K, J, G, d') := by
  obtain ⟨h1, h2, h3, h4, h5, h6, -⟩ := RB.fr (τ := (τ.1, σ.2)) h hN ⟨e, e1, rfl⟩
  exact ⟨h1, h2, h3, h4, h5, h6, hd⟩
theorem op_drawn {S : AS} {B : Nat} (ok : okA S B) (hB : B < 70000000) (x : Int32) : op (f_TF_drawn x) (f_M_drawn x) S B := by
  have hp := ok.1
  have hN5 : pN (aP S) ≤ 5 := ok.1.1
  have hx0 : x < (1 : Int32) ↔ x.toInt < 1 := Int32.lt_iff_toInt_lt
  have hx1 : x ≤ (20 : Int32) ↔ x.toInt ≤ 20 := Int32.le_iff_toInt_le
  have z1 : (1 : Int64).toInt = 1 := rfl
  have z20 : (20 : Int64).toInt = 20 := rfl
  by_cases hx : 1 ≤ x.toInt ∧ x.toInt ≤ 20
  · obtain ⟨m, hm, rfl⟩ := IR_n (x := x) (n := 21) ⟨by omega, by show x.toInt < 21; omega⟩ (by omega)
    obtain ⟨t, p, sv, K, J, G, d⟩ := S
    refine ⟨(t, p, sv, K, J, G, (drwM p m 0 d sv).2), ok.le (by omega), (drwM p m 0 d sv).1, fun σ h => ?_, fun σ h => ?_⟩
    · unfold f_TF_drawn
      obtain ⟨τ1, q1, q2, q3⟩ := A_trial h ok
      obtain ⟨τ2, r1, r2, r3⟩ := A_drawn_loop (m := m) hp (by omega) m 0 B 1100 τ1 sv 0 d (by omega) (by omega) (h.2.1.pt q3) q2 ok.2.1 (by omega) (by rw [q3.2]; exact h.2.2.2.2.2.2)
      rw [show nI 0 = (0 : Int32) from rfl] at r1
      rw [if_neg (fun q => by have := hx0.mp q; omega), if_pos (hx1.mpr hx.2), q1, Option.bind_some, r1]
      have e := (q3.el (k := 0)).tr r3
      exact ⟨τ2, rfl, h.sd hN5 (fun c hc => e.1 c (by unfold keA at hc; unfold PT; omega)) r2, ⟨fun c _ _ => e.1 c (by unfold PT; omega), e.2 38 (by omega)⟩⟩
    · unfold f_M_drawn
      obtain ⟨τ1, q1, q2, q3⟩ := B_trial h ok
      obtain ⟨τ2, r1, r2, r3⟩ := B_drawn_loop (m := m) hp (by omega) m 0 B 1100 τ1 sv 0 d (by omega) (by omega) (h.2.1.pu q3) q2 ok.2.1 (by omega) (by rw [q3.2]; exact h.2.2.2.2.2.2)
      rw [show nI 0 = (0 : Int32) from rfl] at r1
      rw [v_in, Option.bind_some, Int32.toInt_toInt64, z1, z20, if_pos hx, if_neg (by decide), q1, Option.bind_some, r1]
      have e := (q3.el (k := 38)).tr r3
      exact ⟨τ2, rfl, h.sd hN5 (fun c hc => e.1 c (by unfold keB at hc; unfold PU; omega)) (fun j _ => by rw [e.1 38 (by unfold PU; omega)]) r2, ⟨fun c _ => e.1 c (by unfold PU; omega), e.2 0 (by omega)⟩⟩
  · refine op_rf ok (-2) (fun σ h => ?_) (fun σ h => ?_)
    · unfold f_TF_drawn
      by_cases q : x.toInt < 1
      · rw [if_pos (hx0.mpr q)]
      · rw [if_neg (fun z => q (hx0.mp z)), if_neg (fun z => hx ⟨by omega, hx1.mp z⟩)]
    · unfold f_M_drawn
      rw [v_in, Option.bind_some, Int32.toInt_toInt64, z1, z20, if_neg hx, if_pos rfl]
