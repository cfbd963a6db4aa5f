/-! turn, power, drift, period: acts -/
theorem RA.v {σ τ : MT} {t : TX} {p : PLN} {sv sw : SV} {K : Nat → SV × Bool} {J : JR} {G : SG} {d : Int64} (h : RA σ (t, p, sv, K, J, G, d)) (hN : pN p ≤ 5) (hv : hA τ 61 (pN p) sw) (e : ∀ c, keA c → ¬ (61 ≤ c ∧ c < 83) → τ.1 c = σ.1 c) (e2 : τ.2 = σ.2) : RA τ (t, p, sw, K, J, G, d) := by
  obtain ⟨h1, h2, h3, h4, h5, h6, h7⟩ := h
  have k : ∀ c, (c < 2 ∨ (15 ≤ c ∧ c < 26) ∨ (30 ≤ c ∧ c < 38) ∨ 105 ≤ c) → τ.1 c = σ.1 c := fun c hc => e c (by unfold keA; omega) (by omega)
  exact ⟨h1.e (k _ (by omega)) (k _ (by omega)), h2.e (fun a _ _ => k a (by omega)), hv, h4.e hN (k _ (by omega)) (fun a _ _ => k a (by omega)), h5.e hN (k _ (by omega)) (fun a _ => k a (by omega)), h6.e (k _ (by omega)) (k _ (by omega)) (k _ (by omega)) (k _ (by omega)), by rw [e2]; exact h7⟩
theorem RB.v {σ τ : MT} {t : TX} {p : PLN} {sv sw : SV} {K : Nat → SV × Bool} {J : JR} {G : SG} {d : Int64} (h : RB σ (t, p, sv, K, J, G, d)) (hN : pN p ≤ 5) (hv : hR τ 43 (pN p) sw) (e : ∀ c, keB c → c ≠ 43 → τ.1 c = σ.1 c) (e1 : ∀ j, j < 28 → τ.1 38 j = σ.1 38 j) (e2 : τ.2 = σ.2) : RB τ (t, p, sw, K, J, G, d) := by
  obtain ⟨h1, h2, h3, h4, h5, h6, h7⟩ := h
  have k : ∀ c, 39 ≤ c → c < 51 → c ≠ 43 → c ≠ 44 → τ.1 c = σ.1 c := fun c a b d g => e c ⟨a, b, g⟩ d
  exact ⟨h1.e (e1 _ (by omega)) (k _ (by omega) (by omega) (by omega) (by omega)), h2.e (fun j _ _ => e1 j (by omega)) (k _ (by omega) (by omega) (by omega) (by omega)) (k _ (by omega) (by omega) (by omega) (by omega)) (k _ (by omega) (by omega) (by omega) (by omega)), hv, h4.e hN (k _ (by omega) (by omega) (by omega) (by omega)) (k _ (by omega) (by omega) (by omega) (by omega)), h5.e hN (e1 _ (by omega)) (e1 _ (by omega)) (k _ (by omega) (by omega) (by omega) (by omega)), h6.e (e1 _ (by omega)) (k _ (by omega) (by omega) (by omega) (by omega)) (k _ (by omega) (by omega) (by omega) (by omega)) (k _ (by omega) (by omega) (by omega) (by omega)), by rw [e2]; exact h7⟩
theorem okA.v {B B' : Nat} {t : TX} {p : PLN} {sv sw : SV} {K : Nat → SV × Bool} {J : JR} {G : SG} {d : Int64} (h : okA (t, p, sv, K, J, G, d) B) (hv : okS p B' sw) (hB : B ≤ B') : okA (t, p, sw, K, J, G, d) B' := by
  obtain ⟨a, -, c, e, f⟩ := h.le hB
  exact ⟨a, hv, c, e, f⟩
theorem okA.push {B : Nat} {t : TX} {p : PLN} {sv : SV} {K : Nat → SV × Bool} {J : JR} {G : SG} {d : Int64} (h : okA (t, p, sv, K, J, G, d) B) : okA (t, p, sv, K, pushJ J sv, G, d) B := by
  obtain ⟨a, b, c, e, f, ⟨g1, g2⟩, i⟩ := h
  refine ⟨a, b, c, fun x hx => ?_, f, ⟨?_, ?_⟩, i⟩
  · rcases vR_push g1 g2 hx with q | ⟨q, hv⟩
    · show okS p B (if x = J.2.1 then sv else J.1 x)
      rw [if_pos q]; exact b
    · show okS p B (if x = J.2.1 then sv else J.1 x)
      rw [if_neg q]; exact e x hv
  · show (J.2.1 + 1) % 14 < 14
    omega
  · show (if J.2.2 < 14 then J.2.2 + 1 else 14) ≤ 14
    split <;> omega
theorem A_pushed {σ : MT} {B : Nat} {t : TX} {p : PLN} {sv : SV} {K : Nat → SV × Bool} {J : JR} {G : SG} {d : Int64} (h : RA σ (t, p, sv, K, J, G, d)) (ok : okA (t, p, sv, K, J, G, d) B) : ∃ τ, f_Jr_push 61 σ = some τ ∧ RA τ (t, p, sv, K, pushJ J sv, G, d) ∧ CA σ τ := by
  have hN : pN p ≤ 5 := ok.1.1
  obtain ⟨h1, h2, h3, h4, h5, h6, h7⟩ := h
  obtain ⟨a, b, c, e, f, ⟨g1, g2⟩, i⟩ := ok
  obtain ⟨τ, q1, q2, q3⟩ := A_push h5 h3 b.1 hN g1 g2
  have k : ∀ c, c ≠ 30 → c < 149 → τ.1 c = σ.1 c := fun c x y => q3.1 c (by omega)
  exact ⟨τ, q1, ⟨h1.e (k _ (by omega) (by omega)) (k _ (by omega) (by omega)), h2.e (fun a _ _ => k a (by omega) (by omega)), h3.e hN (fun a _ _ => k a (by omega) (by omega)), h4.e hN (k _ (by omega) (by omega)) (fun a _ _ => k a (by omega) (by omega)), q2, h6.e (k _ (by omega) (by omega)) (k _ (by omega) (by omega)) (k _ (by omega) (by omega)) (k _ (by omega) (by omega)), by rw [q3.2]; exact h7⟩, q3.ca (fun c _ _ => by omega)⟩
theorem B_noted {σ : MT} {B : Nat} {t : TX} {p : PLN} {sv : SV} {K : Nat → SV × Bool} {J : JR} {G : SG} {d : Int64} (h : RB σ (t, p, sv, K, J, G, d)) (ok : okA (t, p, sv, K, J, G, d) B) : ∃ τ, f_M_note σ = some τ ∧ RB τ (t, p, sv, K, pushJ J sv, G, d) ∧ CB σ τ := by
  have hN : pN p ≤ 5 := ok.1.1
  obtain ⟨h1, h2, h3, h4, h5, h6, h7⟩ := h
  obtain ⟨a, b, c, e, f, ⟨g1, g2⟩, i⟩ := ok
  obtain ⟨τ, q1, q2, q3, q4⟩ := B_note h5 h3 hN g1 g2
  have k : ∀ c, c ≠ 45 → c ≠ 38 → τ.1 c = σ.1 c := fun c x y => q4.1 c (by omega)
  exact ⟨τ, q1, ⟨h1.e (q3 1 (by omega)) (k _ (by omega) (by omega)), h2.e (fun j _ _ => q3 j (by omega)) (k _ (by omega) (by omega)) (k _ (by omega) (by omega)) (k _ (by omega) (by omega)), h3.e hN (k _ (by omega) (by omega)), h4.e hN (k _ (by omega) (by omega)) (k _ (by omega) (by omega)), q2, h6.e (q3 20 (by omega)) (k _ (by omega) (by omega)) (k _ (by omega) (by omega)) (k _ (by omega) (by omega)), by rw [q4.2]; exact h7⟩, q4.cb (fun c _ => by omega)⟩
theorem op_turn {S : AS} {B : Nat} (ok : okA S B) (x : Int32) : op (f_TF_turn x) (f_M_turn x) S B := by
  have hp := ok.1
  have hN5 : pN (aP S) ≤ 5 := ok.1.1
  have hL : pL (aP S) ≤ 7 := ok.1.2.1
  cases hx : isI x (pL (aP S)) with
  | false =>
    refine op_rf ok (-1) (fun σ h => ?_) (fun σ h => ?_)
    · unfold f_TF_turn
      rw [A_hasLink x hp h.2.1, Option.bind_some, hx, if_pos bI_f]
    · unfold f_M_turn
      rw [B_isLink x hp h.2.1, Option.bind_some, hx, if_pos bI_f]
  | true =>
    obtain ⟨l, hl, rfl⟩ := isI_t (by omega) hx
    obtain ⟨t, p, sv, K, J, G, d⟩ := S
    have hl' : l < pL p := hl
    have hL' : pL p ≤ 7 := hL
    have okv : okS p B sv := ok.2.1
    obtain ⟨dn, hd1, hd2⟩ := okv.2.2
    have d128 := lt_128 hd2 hL'
    have hb := bit01 d128 (show l < 7 by omega)
    obtain ⟨w1, w2⟩ := bit_flip (m := l) d128 (show l < 7 by omega) (show l < 7 by omega)
    rw [if_pos rfl] at w2
    have nf : bit (flS sv l).2.1 l = 1 - bit (nI dn) l := by
      show bit (sv.2.1 ^^^ ((1 : Int32) <<< (nI l &&& 31))) l = _
      rw [hd1, w1, w2]
    refine ⟨(t, p, flS sv l, K, pushJ J sv, G, d), ok.push.v ((okv.fl hp hl').le (by omega)) (by omega), 1 - bit (nI dn) l, fun σ h => ?_, fun σ h => ?_⟩
    · unfold f_TF_turn
      rw [A_hasLink _ hp h.2.1, Option.bind_some, hx, if_neg (by decide)]
      obtain ⟨τ1, q1, q2, q3⟩ := A_pushed h ok
      obtain ⟨τ2, r1, r2, r3⟩ := A_flip (l := l) q2.2.2.1 hN5
      rw [q1, Option.bind_some, r1, Option.bind_some]
      have e1 : τ2.1 61 1 = nI (dn ^^^ 2 ^ l) := by
        rw [r2.2.1]
        show sv.2.1 ^^^ ((1 : Int32) <<< (nI l &&& 31)) = _
        rw [hd1, w1]
      rw [v_isDown e1 (by omega) (Nat.xor_lt_two_pow (n := 7) d128 (Nat.pow_lt_pow_right (by omega) (by omega))), Option.bind_some, w2]
      refine ⟨τ2, ?_, q2.v hN5 r2 (fun c hc hn => r3.1 c (by omega)) r3.2, q3.tr (r3.ca (fun c _ _ => by omega))⟩
      rcases hb with q | q
      · rw [q]; rfl
      · rw [q]; rfl
    · unfold f_M_turn f_M_turn_34
      rw [B_isLink _ hp h.2.1, Option.bind_some, hx, if_neg (by decide)]
      obtain ⟨τ1, q1, q2, q3⟩ := B_noted h ok
      rw [q1, Option.bind_some, ad95, inb_n (m := 95 + l) (by omega) (by decide), if_pos rfl, if_pos rfl, if_pos rfl, nIc (by omega)]
      obtain ⟨r1, r2⟩ := B_flip (l := l) q2.2.2.1 hN5 (by omega) hd1 d128
      rw [r2, nf]
      refine ⟨_, rfl, q2.v hN5 r1 (fun c hc hn => sI_n hn) (fun j _ => by rw [sI_n (by omega)]) rfl, q3.tr ⟨fun c hc => sI_n (by omega), rfl⟩⟩
theorem op_power {S : AS} {B : Nat} (ok : okA S B) (x : Int32) : op (f_TF_power x) (f_M_power x) S B := by
  have hp := ok.1
  have hN5 : pN (aP S) ≤ 5 := ok.1.1
  cases hx : isI x (pN (aP S)) with
  | false =>
    refine op_rf ok (-1) (fun σ h => ?_) (fun σ h => ?_)
    · unfold f_TF_power
      rw [A_hasNode x hp h.2.1, Option.bind_some, hx, if_pos bI_f]
    · unfold f_M_power
      rw [B_isNode x hp h.2.1, Option.bind_some, hx, if_pos bI_f]
  | true =>
    obtain ⟨i, hi, rfl⟩ := isI_t (by omega) hx
    obtain ⟨t, p, sv, K, J, G, d⟩ := S
    have hi' : i < pN p := hi
    have hN5' : pN p ≤ 5 := hN5
    have okv : okS p B sv := ok.2.1
    have ep : (updV2 sv i (powN (sv.2.2 i))).2.2 i = powN (sv.2.2 i) := by unfold updV2; simp
    have on2 : (powN (sv.2.2 i)).1 0 = if (sv.2.2 i).1 0 = 0 then 1 else 0 := by unfold powN; split <;> simp
    refine ⟨(t, p, updV2 sv i (powN (sv.2.2 i)), K, pushJ J sv, G, d), ok.push.v ((okv.upd (powN_w (okv.1 i hi'))).le (by omega)) (by omega), if (sv.2.2 i).1 0 = 0 then 1 else 0, fun σ h => ?_, fun σ h => ?_⟩
    · unfold f_TF_power
      rw [A_hasNode _ hp h.2.1, Option.bind_some, hx, if_neg (by decide)]
      obtain ⟨τ1, q1, q2, q3⟩ := A_pushed h ok
      obtain ⟨τ2, r1, r2, r3⟩ := A_pow (q2.2.2.1.2.2.1 i hi')
      rw [q1, Option.bind_some, inb_n (m := i) (by omega) (by decide), if_pos rfl, nIc (by omega), show 62 + 1 + 4 * i = 61 + 1 + 1 + 4 * i by omega, r1, Option.bind_some, if_pos rfl, r2.1 0 (by decide), on2]
      refine ⟨τ2, ?_, q2.v hN5 (q2.2.2.1.upd hi' r2 (r3.mo (fun c hc => by unfold PN; omega))) (fun c hc hn => r3.1 c (by omega)) r3.2, q3.tr (r3.ca (fun c _ _ => by omega))⟩
      by_cases h0 : (sv.2.2 i).1 0 = 0
      · rw [if_pos h0]; rfl
      · rw [if_neg h0]; rfl
    · unfold f_M_power
      rw [B_isNode _ hp h.2.1, Option.bind_some, hx, if_neg (by decide)]
      obtain ⟨τ1, q1, q2, q3⟩ := B_noted h ok
      obtain ⟨τ2, r1, r2, r3⟩ := B_pow q2.2.2.1 (Or.inl rfl) hi' hN5 okv.1
      have f0 : τ2.1 43 (19 * i) = (powN (sv.2.2 i)).1 0 := by
        have := (r2.2.2 i hi').1 0 (by decide)
        rw [ep] at this
        exact this
      rw [q1, Option.bind_some, r1, Option.bind_some, ad19, nIp_0, if_pos (inb_n (by omega) (by decide)), nIc (by omega), f0, on2]
      exact ⟨τ2, rfl, q2.v hN5 r2 (fun c hc hn => r3.1 c hn) (fun j _ => by rw [r3.1 38 (by omega)]) r3.2, q3.tr (r3.cb (fun c _ => by omega))⟩
theorem op_drift {S : AS} {B : Nat} (ok : okA S B) (hB : B < 80000000) (x y : Int32) : op (f_TF_drift x y) (f_M_drift x y) S B := by
  have hp := ok.1
  have hN5 : pN (aP S) ≤ 5 := ok.1.1
  have hy0 : y < (-4 : Int32) ↔ y.toInt < -4 := Int32.lt_iff_toInt_lt
  have hy1 : y ≤ (5 : Int32) ↔ y.toInt ≤ 5 := Int32.le_iff_toInt_le
  have z0 : (-4 : Int64).toInt = -4 := rfl
  have z5 : (5 : Int64).toInt = 5 := rfl
  cases hx : isI x (pN (aP S)) with
  | false =>
    refine op_rf ok (-1) (fun σ h => ?_) (fun σ h => ?_)
    · unfold f_TF_drift
      rw [A_hasNode x hp h.2.1, Option.bind_some, hx, if_pos bI_f]
    · unfold f_M_drift
      rw [B_isNode x hp h.2.1, Option.bind_some, hx, if_pos bI_f]
  | true =>
    by_cases hy : -4 ≤ y.toInt ∧ y.toInt ≤ 5
    · obtain ⟨i, hi, rfl⟩ := isI_t (by omega) hx
      obtain ⟨t, p, sv, K, J, G, d⟩ := S
      have hi' : i < pN p := hi
      have hN5' : pN p ≤ 5 := hN5
      have okv : okS p B sv := ok.2.1
      have okw : okS p B (updV2 sv i (drN (sv.2.2 i) y)) := okv.upd (drN_w (okv.1 i hi') ⟨hy.1, by show y.toInt < 6; omega⟩)
      have ep : (updV2 sv i (drN (sv.2.2 i) y)).2.2 i = drN (sv.2.2 i) y := by unfold updV2; simp
      refine ⟨(t, p, updV2 sv i (drN (sv.2.2 i) y), K, pushJ J sv, G, d), ok.push.v (okw.le (by omega)) (by omega), clk sv.1 y (pS p i), fun σ h => ?_, fun σ h => ?_⟩
      · unfold f_TF_drift
        rw [A_hasNode _ hp h.2.1, Option.bind_some, hx, if_neg (by decide), if_neg (fun q => by have := hy0.mp q; omega), if_pos (hy1.mpr hy.2)]
        obtain ⟨τ1, q1, q2, q3⟩ := A_pushed h ok
        have e3 : EO (fun c => c = 61 + 1 + 1 + 4 * i) τ1 (sI τ1 (61 + 1 + 1 + 4 * i) 1 y) := EO.i (P := fun c => c = 61 + 1 + 1 + 4 * i) EO.rf rfl
        have r2 := q2.2.2.1.upd hi' (A_dr (q2.2.2.1.2.2.1 i hi') y) (e3.mo (fun c hc => by unfold PN; omega))
        have R := q2.v (sw := updV2 sv i (drN (sv.2.2 i) y)) hN5 r2 (fun c hc hn => e3.1 c (by omega)) rfl
        rw [q1, Option.bind_some, inb_n (m := i) (by omega) (by decide), if_pos rfl, nIc (by omega), show 62 + 1 + 4 * i = 61 + 1 + 1 + 4 * i by omega, A_clock hp R.2.1 R.2.2.1 okw (by omega) hi', Option.bind_some]
        refine ⟨_, ?_, R, q3.tr (e3.ca (fun c _ _ => by omega))⟩
        rw [show (aV (t, p, updV2 sv i (drN (sv.2.2 i) y), K, pushJ J sv, G, d)).2.2 i = drN (sv.2.2 i) y from ep]
        rfl
      · unfold f_M_drift
        rw [B_isNode _ hp h.2.1, Option.bind_some, hx, if_neg (by decide), v_in, Option.bind_some, Int32.toInt_toInt64, z0, z5, if_pos hy, if_neg (by decide)]
        obtain ⟨τ1, q1, q2, q3⟩ := B_noted h ok
        have e3 : EB 43 (PB (19 * i)) S0 τ1 (sI τ1 43 (19 * i + 1) y) := EB.rf.i ⟨by omega, by omega⟩
        have r2 := q2.2.2.1.upd hi' hN5 (B_dr (q2.2.2.1.2.2 i hi') y) e3
        have R := q2.v (sw := updV2 sv i (drN (sv.2.2 i) y)) hN5 r2 (fun c hc hn => sI_n hn) (fun j _ => by rw [sI_n (by omega)]) rfl
        rw [q1, Option.bind_some, ad19, nIp_1, if_pos (inb_n (by omega) (by decide)), nIc (by omega), B_clock hp R.2.1 R.2.2.1 okw (by omega) hi', Option.bind_some]
        refine ⟨_, ?_, R, q3.tr ⟨fun c hc => sI_n (by omega), rfl⟩⟩
        rw [show (aV (t, p, updV2 sv i (drN (sv.2.2 i) y), K, pushJ J sv, G, d)).2.2 i = drN (sv.2.2 i) y from ep]
        rfl
    · refine op_rf ok (-2) (fun σ h => ?_) (fun σ h => ?_)
      · unfold f_TF_drift
        rw [A_hasNode x hp h.2.1, Option.bind_some, hx, if_neg (by decide)]
        by_cases q : y.toInt < -4
        · rw [if_pos (hy0.mpr q)]
        · rw [if_neg (fun z => q (hy0.mp z)), if_neg (fun z => hy ⟨by omega, hy1.mp z⟩)]
      · unfold f_M_drift
        rw [B_isNode x hp h.2.1, Option.bind_some, hx, if_neg (by decide), v_in, Option.bind_some, Int32.toInt_toInt64, z0, z5, if_neg hy, if_pos rfl]
