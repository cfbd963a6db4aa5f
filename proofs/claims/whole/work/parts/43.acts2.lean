/-! period, undo, keep, again -/
theorem B_period_loop {m : Nat} {p : PLN} (hp : okP p) (hm : m < 1000000) : ∀ (d i T fuel : Nat) (σ : MT) (sv : SV), i + d = m → d < fuel → pB σ p → hR σ 43 (pN p) sv → okS p T sv → T + 32 * d < 90000000 → ∃ τ, f_M_period_21 fuel (nI m) (nI i) σ = some (nI (pop (setN (inT p (rep (pas p) d sv)) (pN p))), τ) ∧ hR τ 43 (pN p) (rep (pas p) d sv) ∧ EO (SR 43) σ τ
  | 0, i, T, fuel, σ, sv, hi, hf, hpB, h, ok, hT => by
    obtain ⟨f, rfl⟩ : ∃ f, fuel = f + 1 := ⟨fuel - 1, by omega⟩
    refine ⟨σ, ?_, h, EO.rf⟩
    rw [f_M_period_21, if_pos ((nIle (by omega) (by omega)).mpr (by omega)), B_inTime hp hpB h ok (by omega), Option.bind_some, v_ones (lt_128 (setN_b _ _) (by have : pN p ≤ 5 := hp.1; omega)), Option.bind_some]
    rfl
  | d + 1, i, T, fuel, σ, sv, hi, hf, hpB, h, ok, hT => by
    obtain ⟨f, rfl⟩ : ∃ f, fuel = f + 1 := ⟨fuel - 1, by omega⟩
    rw [f_M_period_21, if_neg (fun q => absurd ((nIle (by omega) (by omega)).mp q) (by omega))]
    obtain ⟨τ, q1, q2, q3⟩ := B_pass hp hpB h (Or.inl rfl) ok (by omega)
    rw [q1, Option.bind_some, nIs]
    obtain ⟨τ2, p1, p2, p3⟩ := B_period_loop hp hm d (i + 1) (T + 32) f τ _ (by omega) (by omega) (hpB.eo q3 (by unfold SR; omega) (by unfold SR; omega) (by unfold SR; omega) (by unfold SR; omega)) q2 (ok_pas hp ok (by omega)) (by omega)
    exact ⟨τ2, p1, p2, q3.tr p3⟩
theorem nle_99' {b : Nat} (h : b < 2147483648) : nI b ≤ (99 : Int32) ↔ b ≤ 99 := nIle (b := 99) h (by omega)
theorem op_period {S : AS} {B : Nat} (ok : okA S B) (hB : B < 70000000) (x : Int32) : op (f_TF_period x) (f_M_period x) S B := by
  have hp := ok.1
  have hN5 : pN (aP S) ≤ 5 := ok.1.1
  have hx0 : x < (1 : Int32) ↔ x.toInt < 1 := Int32.lt_iff_toInt_lt
  have hx1 : x ≤ (99 : Int32) ↔ x.toInt ≤ 99 := Int32.le_iff_toInt_le
  have z1 : (1 : Int64).toInt = 1 := rfl
  have z99 : (99 : Int64).toInt = 99 := rfl
  by_cases hx : 1 ≤ x.toInt ∧ x.toInt ≤ 99
  · obtain ⟨m, hm, rfl⟩ := IR_n (x := x) (n := 100) ⟨by omega, by show x.toInt < 100; omega⟩ (by omega)
    obtain ⟨t, p, sv, K, J, G, d⟩ := S
    have okv : okS p B sv := ok.2.1
    have okr : okS p (B + 32 * m) (rep (pas p) m sv) := ok_rep hp m B sv okv (by omega)
    refine ⟨(t, p, rep (pas p) m sv, K, pushJ J sv, G, d), ok.push.v (okr.le (by omega)) (by omega), nI (pop (setN (inT p (rep (pas p) m sv)) (pN p))), fun σ h => ?_, fun σ h => ?_⟩
    · unfold f_TF_period
      rw [if_neg (fun q => by have := hx0.mp q; omega), if_pos (hx1.mpr hx.2)]
      obtain ⟨τ1, q1, q2, q3⟩ := A_pushed h ok
      obtain ⟨τ2, r1, r2, r3⟩ := A_many (m := m) hp q2.2.1 q2.2.2.1 (by omega) okv (by omega) (by omega)
      have R := q2.v (sw := rep (pas p) m sv) hN5 r2 (fun c hc hn => r3.1 c (by unfold keA at hc; unfold PP; omega)) r3.2
      rw [q1, Option.bind_some, r1, Option.bind_some, A_inTime hp R.2.1 R.2.2.1 okr (by omega), Option.bind_some, A_bits hp, Option.bind_some]
      exact ⟨τ2, rfl, R, q3.tr (r3.ca (fun c _ _ => by unfold PP; omega))⟩
    · unfold f_M_period
      rw [v_in, Option.bind_some, Int32.toInt_toInt64, z1, z99, if_pos hx, if_neg (by decide)]
      obtain ⟨τ1, q1, q2, q3⟩ := B_noted h ok
      obtain ⟨τ2, r1, r2, r3⟩ := B_period_loop (m := m) hp (by omega) m 0 B 1100 τ1 sv (by omega) (by omega) q2.2.1 q2.2.2.1 okv (by omega)
      rw [show nI 0 = (0 : Int32) from rfl] at r1
      rw [q1, Option.bind_some, r1]
      exact ⟨τ2, rfl, q2.v hN5 r2 (fun c hc hn => r3.1 c (by unfold keB at hc; unfold SR; omega)) (fun j _ => by rw [r3.1 38 (by unfold SR; omega)]) r3.2, q3.tr (r3.cb (fun c _ => by unfold SR; omega))⟩
  · refine op_rf ok (-2) (fun σ h => ?_) (fun σ h => ?_)
    · unfold f_TF_period
      by_cases q : x.toInt < 1
      · rw [if_pos (hx0.mpr q)]
      · rw [if_neg (fun z => q (hx0.mp z)), if_neg (fun z => hx ⟨by omega, hx1.mp z⟩)]
    · unfold f_M_period
      rw [v_in, Option.bind_some, Int32.toInt_toInt64, z1, z99, if_neg hx, if_pos rfl]
-- undo
def popJ (J : JR) : JR := (J.1, (J.2.1 + 13) % 14, J.2.2 - 1)
theorem vR_pop {J : JR} (h1 : J.2.1 < 14) (h2 : J.2.2 ≤ 14) {e : Nat} (h : vR (popJ J) e) : vR J e := by
  unfold vR popJ at h
  obtain ⟨a, b⟩ := h
  simp only at b
  exact ⟨a, by omega⟩
theorem vR_top {J : JR} (h1 : J.2.1 < 14) (h2 : 0 < J.2.2) : vR J ((J.2.1 + 13) % 14) := ⟨by omega, by omega⟩
theorem B_undo_loop {n : Nat} {σ0 : MT} (hn : n < 14) : ∀ (d i fuel : Nat) (σ : MT), i + d = 103 → d < fuel → EO (fun a => a = 43) σ0 σ → σ0.1 38 14 = nI n → (∀ j, j < i → σ.1 43 j = σ0.1 45 (103 * n + j)) → ∃ τ, f_M_undo_38 fuel (nI i) σ = some (σ0.1 38 13, τ) ∧ EO (fun a => a = 43) σ0 τ ∧ ∀ j, j < 103 → τ.1 43 j = σ0.1 45 (103 * n + j)
  | 0, i, fuel, σ, hi, hf, e, h14, hj => by
    obtain ⟨f, rfl⟩ : ∃ f, fuel = f + 1 := ⟨fuel - 1, by omega⟩
    have : i = 103 := by omega
    subst this
    refine ⟨σ, ?_, e, hj⟩
    rw [f_M_undo_38, if_pos ((nge_103 (by omega)).mpr (by omega)), e.1 38 (by omega)]
  | d + 1, i, fuel, σ, hi, hf, e, h14, hj => by
    obtain ⟨f, rfl⟩ : ∃ f, fuel = f + 1 := ⟨fuel - 1, by omega⟩
    have em : (103 : Int32) * nI n + nI i = nI (103 * n + i) := by
      rw [show (103 : Int32) * nI n = nI (103 * n) from pk_mul 103 n, nI_add]
    rw [f_M_undo_38, if_neg (fun q => absurd ((nge_103 (by omega)).mp q) (by omega)), e.1 38 (by omega), h14, em, if_pos (inb_n (by omega) (by decide)), if_pos (inb_n (by omega) (by decide)), nIc (by omega), nIc (by omega), e.1 45 (by omega)]
    unfold f_M_undo_64
    rw [nIs]
    refine B_undo_loop hn d (i + 1) f _ (by omega) (by omega) (EO.i (P := fun a => a = 43) e rfl) h14 (fun j hji => ?_)
    rw [sI_r]
    by_cases q : j = i
    · rw [if_pos ⟨rfl, q⟩, q]
    · rw [if_neg (fun z => q z.2)]
      exact hj j (by omega)
theorem op_undo {S : AS} {B : Nat} (ok : okA S B) : op f_TF_undo f_M_undo S B := by
  have hp := ok.1
  have hN5 : pN (aP S) ≤ 5 := ok.1.1
  by_cases h0 : (aJ S).2.2 = 0
  · refine op_rf ok (-3) (fun σ h => ?_) (fun σ h => ?_)
    · unfold f_TF_undo
      rw [h.2.2.2.2.1.2.1, if_pos ((neq_0 (by omega)).mpr h0)]
    · unfold f_M_undo
      rw [h.2.2.2.2.1.2.1, if_pos ((neq_0 (by omega)).mpr h0)]
  · obtain ⟨t, p, sv, K, J, G, d⟩ := S
    obtain ⟨o1, o2, o3, o4, o5, ⟨g1, g2⟩, o7⟩ := ok.le (B' := B + 4000) (by omega)
    have g1' : J.2.1 < 14 := g1
    have g2' : J.2.2 ≤ 14 := g2
    have h0' : ¬ J.2.2 = 0 := h0
    have hv := vR_top g1' (show 0 < J.2.2 by omega)
    have okt : okS p (B + 4000) (J.1 ((J.2.1 + 13) % 14)) := o4 _ hv
    refine ⟨(t, p, J.1 ((J.2.1 + 13) % 14), K, popJ J, G, d), ⟨o1, okt, o3, fun e he => o4 e (vR_pop g1' g2' he), o5, ⟨?_, ?_⟩, o7⟩, nI (J.2.2 - 1), fun σ h => ?_, fun σ h => ?_⟩
    · show (J.2.1 + 13) % 14 < 14
      omega
    · show J.2.2 - 1 ≤ 14
      omega
    · obtain ⟨h1, h2, h3, h4, ⟨j1, j2, j3⟩, h6, h7⟩ := h
      have j1' : σ.1 30 1 = nI J.2.1 := j1
      have j2' : σ.1 30 2 = nI J.2.2 := j2
      unfold f_TF_undo f_Jr_pop f_Jr_pop_23
      have s1 : ∀ v, (sI σ 30 1 v).1 30 2 = nI J.2.2 := fun v => by rw [sI_r, if_neg (by omega)]; exact j2'
      have s2 : ∀ v w, (sI (sI σ 30 1 v) 30 2 w).1 30 1 = v := fun v w => by simp [sI_r]
      rw [j2', if_neg (fun q => h0' ((neq_0 (by omega)).mp q)), if_neg (fun q => by have := (nle_0 (by omega)).mp q; omega), j1', (mod14 g1').2, s1, nIm_1 (by omega), s2, if_pos (inb_n (by omega) (by decide)), nIc (by omega)]
      generalize hσ1 : sI (sI σ 30 1 (nI ((J.2.1 + 13) % 14))) 30 2 (nI (J.2.2 - 1)) = σ1
      have k1 : ∀ c, c ≠ 30 → σ1.1 c = σ.1 c := fun c hc => by rw [← hσ1, sI_n hc, sI_n hc]
      have a30 : σ1.1 30 1 = nI ((J.2.1 + 13) % 14) := by rw [← hσ1]; simp [sI_r]
      have b30 : σ1.1 30 2 = nI (J.2.2 - 1) := by rw [← hσ1]; simp [sI_r]
      have src : hA σ1 (149 + 22 * ((J.2.1 + 13) % 14)) (pN p) (J.1 ((J.2.1 + 13) % 14)) := (j3 _ hv).e hN5 (fun c _ _ => k1 c (by omega))
      obtain ⟨τ, q1, q2, q3⟩ := A_copy (k := 61) (m := 149 + 22 * ((J.2.1 + 13) % 14)) (by omega) src okt.1 hN5
      have k : ∀ c, c ≠ 30 → ¬ PS 61 c → τ.1 c = σ.1 c := fun c hc hn => (q3.1 c hn).trans (k1 c hc)
      have t30 : τ.1 30 = σ1.1 30 := q3.1 30 (by unfold PS; omega)
      rw [q1, Option.bind_some, Option.bind_some, t30, b30]
      refine ⟨τ, rfl, ⟨h1.e (k _ (by omega) (by unfold PS; omega)) (k _ (by omega) (by unfold PS; omega)), h2.e (fun a _ _ => k a (by omega) (by unfold PS; omega)), q2, h4.e hN5 (k _ (by omega) (by unfold PS; omega)) (fun a _ _ => k a (by omega) (by unfold PS; omega)), ⟨by rw [t30]; exact a30, by rw [t30]; exact b30, fun e he => (j3 e (vR_pop g1' g2' he)).e hN5 (fun c _ _ => k c (by omega) (by unfold PS; omega))⟩, h6.e (k _ (by omega) (by unfold PS; omega)) (k _ (by omega) (by unfold PS; omega)) (k _ (by omega) (by unfold PS; omega)) (k _ (by omega) (by unfold PS; omega)), ?_⟩, ⟨fun c _ _ => k c (by omega) (by unfold PS; omega), ?_⟩⟩
      · rw [q3.2, ← hσ1]; exact h7
      · rw [q3.2, ← hσ1]; rfl
    · obtain ⟨h1, h2, h3, h4, ⟨j1, j2, j3⟩, h6, h7⟩ := h
      have j1' : σ.1 38 14 = nI J.2.1 := j1
      have j2' : σ.1 38 13 = nI J.2.2 := j2
      unfold f_M_undo f_M_undo_36
      have s1 : ∀ v, (sI σ 38 13 v).1 38 14 = nI J.2.1 := fun v => by rw [sI_r, if_neg (by omega)]; exact j1'
      rw [j2', if_neg (fun q => h0' ((neq_0 (by omega)).mp q)), s1, (mod14 g1').2, nIm_1 (by omega)]
      generalize hσ1 : sI (sI σ 38 13 (nI (J.2.2 - 1))) 38 14 (nI ((J.2.1 + 13) % 14)) = σ1
      have k1 : ∀ c, c ≠ 38 → σ1.1 c = σ.1 c := fun c hc => by rw [← hσ1, sI_n hc, sI_n hc]
      have a38 : σ1.1 38 14 = nI ((J.2.1 + 13) % 14) := by rw [← hσ1]; simp [sI_r]
      have b38 : σ1.1 38 13 = nI (J.2.2 - 1) := by rw [← hσ1]; simp [sI_r]
      have f38 : ∀ j, j ≠ 13 → j ≠ 14 → σ1.1 38 j = σ.1 38 j := fun j x y => by rw [← hσ1, sI_r, if_neg (by omega), sI_r, if_neg (by omega)]
      obtain ⟨τ, q1, q2, q3⟩ := B_undo_loop (σ0 := σ1) (n := (J.2.1 + 13) % 14) (by omega) 103 0 1100 σ1 (by omega) (by omega) EO.rf a38 (fun j hj => absurd hj (by omega))
      rw [show nI 0 = (0 : Int32) from rfl] at q1
      have k : ∀ c, c ≠ 38 → c ≠ 43 → τ.1 c = σ.1 c := fun c hc hn => (q2.1 c hn).trans (k1 c hc)
      have t38 : τ.1 38 = σ1.1 38 := q2.1 38 (by omega)
      have src : hRo τ 43 0 (pN p) (J.1 ((J.2.1 + 13) % 14)) := (j3 _ hv).cp hN5 (fun j hj => by rw [Nat.zero_add, q3 j hj, k1 45 (by omega)])
      rw [q1, b38]
      refine ⟨τ, rfl, ⟨h1.e (by rw [t38]; exact f38 _ (by omega) (by omega)) (k _ (by omega) (by omega)), h2.e (fun j _ _ => by rw [t38]; exact f38 _ (by omega) (by omega)) (k _ (by omega) (by omega)) (k _ (by omega) (by omega)) (k _ (by omega) (by omega)), hR_o.mpr src, h4.e hN5 (k _ (by omega) (by omega)) (k _ (by omega) (by omega)), ⟨by rw [t38]; exact a38, by rw [t38]; exact b38, fun e he => (j3 e (vR_pop g1' g2' he)).e hN5 (k _ (by omega) (by omega))⟩, h6.e (by rw [t38]; exact f38 _ (by omega) (by omega)) (k _ (by omega) (by omega)) (k _ (by omega) (by omega)) (k _ (by omega) (by omega)), ?_⟩, ⟨fun c hc => k c (by omega) (by omega), ?_⟩⟩
      · rw [q2.2, ← hσ1]; exact h7
      · rw [q2.2, ← hσ1]; rfl
