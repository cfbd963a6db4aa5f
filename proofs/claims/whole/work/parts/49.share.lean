/-! share -/
def cutS (sv : SV) (c : Nat) : SV := (sv.1, sv.2.1, fun i => if Nat.testBit c i = true then sv.2.2 i else offN (sv.2.2 i))
theorem okS.cut {p : PLN} {T c : Nat} {sv : SV} (h : okS p T sv) : okS p T (cutS sv c) := by
  refine ⟨fun i hi => ?_, h.2.1, h.2.2⟩
  show wfN (pN p) (if Nat.testBit c i = true then sv.2.2 i else offN (sv.2.2 i))
  split
  · exact h.1 i hi
  · exact offN_w (h.1 i hi)
theorem cbit {c i : Nat} (hc : c < 32) (hi : i < 5) : ((nI c >>> (nI i &&& 31)) &&& (1 : Int32)) = 0 ↔ Nat.testBit c i = false := by
  have H : ∀ c, c < 32 → ∀ i, i < 5 → (((nI c >>> (nI i &&& 31)) &&& (1 : Int32)) = 0 ↔ Nat.testBit c i = false) := by decide +kernel
  exact H c hc i hi
theorem A_cut_loop {N c : Nat} {sv : SV} (hN : N ≤ 5) (hc : c < 32) : ∀ (d i fuel : Nat) (σ : MT) (sw : SV), i + d = 5 → d < fuel → hA σ 83 N sw → sw.1 = sv.1 → sw.2.1 = sv.2.1 → (∀ j, j < N → sw.2.2 j = if j < i then (cutS sv c).2.2 j else sv.2.2 j) → ∃ τ, f_St_switchOffAllBut_2 fuel 83 (nI c) (nI i) σ = some τ ∧ hA τ 83 N (cutS sv c) ∧ EO PT σ τ
  | 0, i, fuel, σ, sw, hi, hf, h, h1, h2, h3 => by
    obtain ⟨f, rfl⟩ : ∃ f, fuel = f + 1 := ⟨fuel - 1, by omega⟩
    refine ⟨σ, ?_, h.cg h1 h2 (fun j hj => by rw [h3 j hj, if_pos (by omega)]), EO.rf⟩
    rw [f_St_switchOffAllBut_2, if_pos ((nge_5 (by omega)).mpr (by omega))]
  | d + 1, i, fuel, σ, sw, hi, hf, h, h1, h2, h3 => by
    obtain ⟨f, rfl⟩ : ∃ f, fuel = f + 1 := ⟨fuel - 1, by omega⟩
    rw [f_St_switchOffAllBut_2, if_neg (fun q => absurd ((nge_5 (by omega)).mp q) (by omega))]
    unfold f_St_switchOffAllBut_25
    rw [nIs]
    have cs : ∀ j, (cutS sv c).2.2 j = if Nat.testBit c j = true then sv.2.2 j else offN (sv.2.2 j) := fun j => rfl
    cases hb : Nat.testBit c i with
    | false =>
      rw [if_pos ((cbit hc (by omega)).mpr hb), if_pos (inb_n (by omega) (by decide)), nIc (by omega)]
      have e3 : EO (fun a => a = 83 + 1 + 1 + 4 * i) σ (sI σ (83 + 1 + 1 + 4 * i) 0 0) := EO.i (P := fun a => a = 83 + 1 + 1 + 4 * i) EO.rf rfl
      have e4 := e3.mo (Q := PT) (fun a ha => by unfold PT; omega)
      by_cases hiN : i < N
      · have hs : sw.2.2 i = sv.2.2 i := by rw [h3 i hiN, if_neg (by omega)]
        have r2 := h.upd hiN (A_off (h.2.2.1 i hiN)) (e3.mo (fun a ha => by unfold PN; omega))
        obtain ⟨τ, q1, q2, q3⟩ := A_cut_loop hN hc d (i + 1) f _ _ (by omega) (by omega) r2 h1 h2 (fun j hj => by
          by_cases hji : j = i
          · subst hji
            rw [if_pos (by omega), cs, hb, if_neg Bool.false_ne_true, ← hs]
            unfold updV2; simp
          · have : (updV2 sw i (offN (sw.2.2 i))).2.2 j = sw.2.2 j := by unfold updV2; simp [hji]
            rw [this, h3 j hj]
            by_cases hlt : j < i
            · rw [if_pos hlt, if_pos (by omega)]
            · rw [if_neg hlt, if_neg (by omega)])
        exact ⟨τ, q1, q2, e4.tr q3⟩
      · have r2 : hA (sI σ (83 + 1 + 1 + 4 * i) 0 0) 83 N sw := by
          obtain ⟨a, b, g, k⟩ := h
          refine ⟨by rw [sI_n (by omega)]; exact a, by rw [sI_n (by omega)]; exact b, fun j hj => (g j hj).eo e3 (by omega) (by omega) (by omega) (by omega), fun j h1 h2 => ?_⟩
          rw [sI_r]
          split
          · rfl
          · exact k j h1 h2
        obtain ⟨τ, q1, q2, q3⟩ := A_cut_loop hN hc d (i + 1) f _ sw (by omega) (by omega) r2 h1 h2 (fun j hj => by
          rw [h3 j hj, if_pos (by omega), if_pos (by omega)])
        exact ⟨τ, q1, q2, e4.tr q3⟩
    | true =>
      rw [if_neg (fun q => by rw [(cbit hc (by omega)).mp q] at hb; cases hb)]
      exact A_cut_loop hN hc d (i + 1) f σ sw (by omega) (by omega) h h1 h2 (fun j hj => by
        by_cases hji : j = i
        · subst hji
          rw [if_pos (by omega), h3 j hj, if_neg (by omega), cs, hb, if_pos rfl]
        · rw [h3 j hj]
          by_cases hlt : j < i
          · rw [if_pos hlt, if_pos (by omega)]
          · rw [if_neg hlt, if_neg (by omega)])
def wor (p : PLN) (sv : SV) (c : Nat) : Nat := pop (setN (inT p (rep (pas p) 12 (cutS sv c))) (pN p))
theorem pop_5 {a : Nat} (ha : a < 32) : pop a < 6 := by
  have H : ∀ a, a < 32 → pop a < 6 := by decide +kernel
  exact H a ha
theorem wor_b {p : PLN} (hp : okP p) (sv : SV) (c : Nat) : wor p sv c < 6 := pop_5 (lt_32 (setN_b _ _) hp.1)
theorem A_worth {σ : MT} {S : AS} {B c : Nat} (h : RA σ S) (ok : okA S B) (hB : B < 70000000) (hc : c < 32) : ∃ τ, f_TF_worth (nI c) σ = some (nI (wor (aP S) (aV S) c), τ) ∧ EO PT σ τ := by
  have hp := ok.1
  have hN : pN (aP S) ≤ 5 := ok.1.1
  obtain ⟨τ1, q1, q2, q3⟩ := A_trial h ok
  obtain ⟨τ2, r1, r2, r3⟩ := A_cut_loop (sv := aV S) hN hc 5 0 1100 τ1 _ (by omega) (by omega) q2 rfl rfl (fun j hj => by rw [if_neg (by omega)])
  have e2 := q3.tr r3
  have okc : okS (aP S) B (cutS (aV S) c) := ok.2.1.cut
  obtain ⟨τ3, s1, s2, s3⟩ := A_many (m := 12) hp (h.2.1.pt e2) r2 (by omega) okc (by omega) (by omega)
  have e3 := e2.tr (s3.mo PP83)
  unfold f_TF_worth f_St_switchOffAllBut
  rw [show nI 0 = (0 : Int32) from rfl] at r1
  rw [show nI 12 = (12 : Int32) from rfl] at s1
  rw [q1, Option.bind_some, r1, Option.bind_some, s1, Option.bind_some, A_inTime hp (h.2.1.pt e3) s2 (ok_rep hp 12 B _ okc (by omega)) (by omega), Option.bind_some, A_bits hp, Option.bind_some]
  exact ⟨τ3, rfl, e3⟩
theorem B_cut_loop {p : PLN} {c : Nat} {sv : SV} (hp : okP p) (hc : c < 32) {T : Nat} (okc : okS p T (cutS sv c)) (hT : T < 70000000) : ∀ (d i fuel : Nat) (σ : MT) (sw : SV), i + d = pN p → d < fuel → pB σ p → hR σ 44 (pN p) sw → sw.1 = sv.1 → sw.2.1 = sv.2.1 → (∀ j, j < pN p → sw.2.2 j = if j < i then (cutS sv c).2.2 j else sv.2.2 j) → ∃ τ, f_M_inTimeBy_13 fuel (nI c) (nI i) σ = some (nI (wor p sv c), τ) ∧ EO PU σ τ
  | 0, i, fuel, σ, sw, hi, hf, hpB, h, h1, h2, h3 => by
    obtain ⟨f, rfl⟩ : ∃ f, fuel = f + 1 := ⟨fuel - 1, by omega⟩
    have hN : pN p ≤ 5 := hp.1
    have hc' : hR σ 44 (pN p) (cutS sv c) := ⟨h.1.trans h1, fun l hl => by rw [h.2.1 l hl, h2]; rfl, fun j hj => by have := h.2.2 j hj; rw [h3 j hj, if_pos (by omega)] at this; exact this⟩
    obtain ⟨τ, q1, q2, q3⟩ := B_many (m := 12) hp hpB hc' okc (by omega) (by omega)
    have e := q3.mo SR44
    rw [show nI 12 = (12 : Int32) from rfl] at q1
    rw [f_M_inTimeBy_13, hpB.2.1, if_pos ((nIle (by omega) (by omega)).mpr (by omega)), q1, Option.bind_some, B_inTime hp (hpB.pu e) q2 (ok_rep hp 12 T _ okc (by omega)) (by omega), Option.bind_some, v_ones (lt_128 (setN_b _ _) (by omega)), Option.bind_some]
    exact ⟨τ, rfl, e⟩
  | d + 1, i, fuel, σ, sw, hi, hf, hpB, h, h1, h2, h3 => by
    obtain ⟨f, rfl⟩ : ∃ f, fuel = f + 1 := ⟨fuel - 1, by omega⟩
    have hN : pN p ≤ 5 := hp.1
    have hiN : i < pN p := by omega
    have cs : ∀ j, (cutS sv c).2.2 j = if Nat.testBit c j = true then sv.2.2 j else offN (sv.2.2 j) := fun j => rfl
    rw [f_M_inTimeBy_13, hpB.2.1, if_neg (fun q => absurd ((nIle (by omega) (by omega)).mp q) (by omega)), v_has (by omega) (by omega), Option.bind_some, decide_eq_true (show i < 7 by omega), Bool.true_and, ad19, nIp_0, if_pos (inb_n (by omega) (by decide)), nIc (n := 19 * i) (by omega)]
    unfold f_M_inTimeBy_54
    rw [if_pos (inb_n (by omega) (by decide)), if_pos (inb_n (by omega) (by decide)), nIs, nIc (n := 19 * i) (by omega)]
    have e4 : ∀ v, EO PU σ (sI σ 44 (19 * i) v) := fun v => EO.i (P := PU) EO.rf (Or.inl rfl)
    cases hb : Nat.testBit c i with
    | false =>
      rw [if_pos bI_f]
      have hs : sw.2.2 i = sv.2.2 i := by rw [h3 i hiN, if_neg (by omega)]
      have r2 := h.upd hiN hN (B_off (h.2.2 i hiN)) (EB.rf.i ⟨by omega, by omega⟩ : EB 44 (PB (19 * i)) S0 σ (sI σ 44 (19 * i) 0))
      obtain ⟨τ, q1, q3⟩ := B_cut_loop hp hc okc hT d (i + 1) f _ _ (by omega) (by omega) (hpB.pu (e4 0)) r2 h1 h2 (fun j hj => by
        by_cases hji : j = i
        · subst hji
          rw [if_pos (by omega), cs, hb, if_neg Bool.false_ne_true, ← hs]
          unfold updV2; simp
        · have : (updV2 sw i (offN (sw.2.2 i))).2.2 j = sw.2.2 j := by unfold updV2; simp [hji]
          rw [this, h3 j hj]
          by_cases hlt : j < i
          · rw [if_pos hlt, if_pos (by omega)]
          · rw [if_neg hlt, if_neg (by omega)])
      exact ⟨τ, q1, (e4 0).tr q3⟩
    | true =>
      rw [if_neg (by decide)]
      have r2 : hR (sI σ 44 (19 * i) (σ.1 44 (19 * i))) 44 (pN p) sw := hR_o.mpr ((hR_o.mp h).cp hN (fun j _ => by
        rw [sI_r]
        split
        · next q => rw [q.2]
        · rfl))
      obtain ⟨τ, q1, q3⟩ := B_cut_loop hp hc okc hT d (i + 1) f _ sw (by omega) (by omega) (hpB.pu (e4 _)) r2 h1 h2 (fun j hj => by
        by_cases hji : j = i
        · subst hji
          rw [if_pos (by omega), h3 j hj, if_neg (by omega), cs, hb, if_pos rfl]
        · rw [h3 j hj]
          by_cases hlt : j < i
          · rw [if_pos hlt, if_pos (by omega)]
          · rw [if_neg hlt, if_neg (by omega)])
      exact ⟨τ, q1, (e4 _).tr q3⟩
theorem B_worth {σ : MT} {S : AS} {B c : Nat} (h : RB σ S) (ok : okA S B) (hB : B < 70000000) (hc : c < 32) : ∃ τ, f_M_inTimeBy (nI c) σ = some (nI (wor (aP S) (aV S) c), τ) ∧ EO PU σ τ := by
  have hN : pN (aP S) ≤ 5 := ok.1.1
  obtain ⟨τ1, q1, q2, q3⟩ := B_trial h ok
  obtain ⟨τ2, r1, r3⟩ := B_cut_loop (sv := aV S) ok.1 hc (T := B) ok.2.1.cut hB (pN (aP S)) 0 1100 τ1 _ (by omega) (by omega) (h.2.1.pu q3) q2 rfl rfl (fun j hj => by rw [if_neg (by omega)])
  rw [show nI 0 = (0 : Int32) from rfl] at r1
  unfold f_M_inTimeBy
  rw [q1, Option.bind_some, r1]
  exact ⟨τ2, rfl, q3.tr r3⟩
