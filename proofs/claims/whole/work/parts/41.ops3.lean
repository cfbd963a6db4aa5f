/-! see, unsee, turn, power, drift, undo, keep, again, period -/
theorem RA.gx {σ τ : MT} {t : TX} {p : PLN} {sv : SV} {K : Nat → SV × Bool} {J : JR} {G G' : SG} {d : Int64} (h : RA σ (t, p, sv, K, J, G, d)) (hN : pN p ≤ 5) (hg : gA τ G') (e : ∀ c, (c < 34 ∨ 38 ≤ c) → τ.1 c = σ.1 c) (e2 : τ.2 = σ.2) : RA τ (t, p, sv, K, J, G', d) := by
  obtain ⟨h1, h2, h3, h4, h5, h6, h7⟩ := h
  exact ⟨h1.e (e _ (by omega)) (e _ (by omega)), h2.e (fun a _ _ => e a (by omega)), h3.e hN (fun a _ _ => e a (by omega)), h4.e hN (e _ (by omega)) (fun a _ _ => e a (by omega)), h5.e hN (e _ (by omega)) (fun a _ => e a (by omega)), hg, by rw [e2]; exact h7⟩
theorem RB.gx {σ τ : MT} {t : TX} {p : PLN} {sv : SV} {K : Nat → SV × Bool} {J : JR} {G G' : SG} {d : Int64} (h : RB σ (t, p, sv, K, J, G, d)) (hN : pN p ≤ 5) (hg : gB τ G') (e : ∀ c, (39 ≤ c ∧ c < 48) → τ.1 c = σ.1 c) (e1 : ∀ j, j ≠ 20 → τ.1 38 j = σ.1 38 j) (e2 : τ.2 = σ.2) : RB τ (t, p, sv, K, J, G', d) := by
  obtain ⟨h1, h2, h3, h4, h5, h6, h7⟩ := h
  exact ⟨h1.e (e1 _ (by omega)) (e _ (by omega)), h2.e (fun j _ _ => e1 j (by omega)) (e _ (by omega)) (e _ (by omega)) (e _ (by omega)), h3.e hN (e _ (by omega)), h4.e hN (e _ (by omega)) (e _ (by omega)), h5.e hN (e1 _ (by omega)) (e1 _ (by omega)) (e _ (by omega)), hg, by rw [e2]; exact h7⟩
theorem op_unsee {S : AS} {B : Nat} (ok : okA S B) : op f_TF_unsee f_M_unsee S B := by
  have hN5 : pN (aP S) ≤ 5 := ok.1.1
  obtain ⟨t, p, sv, K, J, G, d⟩ := S
  obtain ⟨a, b, c, e, f, g, -, -⟩ := ok.le (B' := B + 4000) (by omega)
  refine ⟨(t, p, sv, K, J, (G.1, 0), d), ⟨a, b, c, e, f, g, by show 0 ≤ 6; omega, fun j hj => absurd hj (by show ¬ j < 0; omega)⟩, nI G.2, fun σ h => ?_, fun σ h => ?_⟩
  · unfold f_TF_unsee
    rw [show σ.1 34 3 = nI G.2 from h.2.2.2.2.2.1.1]
    exact ⟨_, rfl, h.gx hN5 ⟨by simp [sI_r]; rfl, fun j hj => absurd hj (by show ¬ j < 0; omega)⟩ (fun c hc => sI_n (by omega)) rfl, ⟨fun c _ _ => sI_n (by omega), rfl⟩⟩
  · unfold f_M_unsee
    rw [show σ.1 38 20 = nI G.2 from h.2.2.2.2.2.1.1]
    exact ⟨_, rfl, h.gx hN5 ⟨by simp [sI_r]; rfl, fun j hj => absurd hj (by show ¬ j < 0; omega)⟩ (fun c hc => sI_n (by omega)) (fun j hj => by rw [sI_r, if_neg (fun z => hj z.2)]) rfl, ⟨fun c _ => sI_n (by omega), rfl⟩⟩
theorem nlt_6' {b : Nat} (h : b < 2147483648) : nI b < (6 : Int32) ↔ b < 6 := nIlt (b := 6) h (by omega)
theorem ngt_20' {b : Nat} (h : b < 2147483648) : (20 : Int32) < nI b ↔ 20 < b := nIlt (a := 20) (by omega) h
theorem op_see {S : AS} {B : Nat} (ok : okA S B) (x y z : Int32) : op (f_TF_see x y z) (f_M_see x y z) S B := by
  have hp := ok.1
  have hN5 : pN (aP S) ≤ 5 := ok.1.1
  have w0 : (0 : Int64).toInt = 0 := rfl
  have w20 : (20 : Int64).toInt = 20 := rfl
  have hy0 : y < 0 ↔ y.toInt < 0 := by rw [Int32.lt_iff_toInt_lt, Int32.toInt_zero]
  have hy1 : 20 < y ↔ 20 < y.toInt := Int32.lt_iff_toInt_lt
  cases hx : isI x (pN (aP S)) with
  | false =>
    refine op_rf ok (-1) (fun σ h => ?_) (fun σ h => ?_)
    · unfold f_TF_see
      rw [A_hasNode x hp h.2.1, Option.bind_some, hx, if_pos bI_f]
    · unfold f_M_see
      rw [B_isNode x hp h.2.1, Option.bind_some, hx, if_pos bI_f]
  | true =>
    by_cases hy : 0 ≤ y.toInt ∧ y.toInt ≤ 20
    · have y0 : ¬ y < 0 := fun q => by have := hy0.mp q; omega
      have y1 : ¬ 20 < y := fun q => by have := hy1.mp q; omega
      have toA : ∀ σ, RA σ S → (z = -9 ∨ isI z (pN (aP S)) = true) → f_TF_see x y z σ = f_TF_see_37 x y z σ := fun σ h hz => by
        unfold f_TF_see
        rw [A_hasNode x hp h.2.1, Option.bind_some, hx, if_neg (by decide), if_neg y0, if_neg y1, A_hasNode z hp h.2.1, Option.bind_some]
        rcases hz with q | q
        · rw [if_pos q]
        · rw [q, if_neg (c := bI true = 0) (by decide)]
          split <;> rfl
      have toB : ∀ σ, RB σ S → (z = -9 ∨ isI z (pN (aP S)) = true) → f_M_see x y z σ = f_M_see_39 x y z σ := fun σ h hz => by
        unfold f_M_see
        rw [B_isNode x hp h.2.1, Option.bind_some, hx, if_neg (by decide), v_in, Option.bind_some, Int32.toInt_toInt64, w0, w20, if_pos hy, if_neg (by decide), B_isNode z hp h.2.1, Option.bind_some]
        rcases hz with q | q
        · rw [if_pos q]
          split <;> rfl
        · rw [q, if_neg (c := bI true = 0) (by decide)]
      by_cases hz : z = -9 ∨ isI z (pN (aP S)) = true
      · by_cases hf : (aG S).2 = 6
        · refine op_rf ok (-4) (fun σ h => ?_) (fun σ h => ?_)
          · rw [toA σ h hz]
            unfold f_TF_see_37
            rw [h.2.2.2.2.2.1.1, if_neg (fun q => absurd ((nlt_6' (by omega)).mp q) (by omega))]
          · rw [toB σ h hz]
            unfold f_M_see_39
            rw [h.2.2.2.2.2.1.1, if_pos ((neq_6 (by omega)).mpr hf)]
        · obtain ⟨t, p, sv, K, J, G, d⟩ := S
          obtain ⟨o1, o2, o3, o4, o5, o6, o7, o8⟩ := ok.le (B' := B + 4000) (by omega)
          have hG6 : G.2 ≤ 6 := o7
          have hf' : ¬ G.2 = 6 := hf
          have hx' : isI x (pN p) = true := hx
          refine ⟨(t, p, sv, K, J, (fun j => if j = G.2 then (x, y, z) else G.1 j, G.2 + 1), d), ⟨o1, o2, o3, o4, o5, o6, by show G.2 + 1 ≤ 6; omega, fun j hj => ?_⟩, nI (G.2 + 1), fun σ h => ?_, fun σ h => ?_⟩
          · show IR 0 5 (if j = G.2 then (x, y, z) else G.1 j).1 ∧ IR 0 21 (if j = G.2 then (x, y, z) else G.1 j).2.1
            have hj' : j < G.2 + 1 := hj
            by_cases q : j = G.2
            · rw [if_pos q]
              unfold isI at hx'
              simp only [Bool.and_eq_true, decide_eq_true_eq] at hx'
              have hN5' : pN p ≤ 5 := hN5
              exact ⟨⟨hx'.1, by show x.toInt < 5; omega⟩, ⟨hy.1, by show y.toInt < 21; omega⟩⟩
            · rw [if_neg q]; exact o8 j (by show j < G.2; omega)
          · rw [toA σ h hz]
            have g0 : σ.1 34 3 = nI G.2 := h.2.2.2.2.2.1.1
            unfold f_TF_see_37 f_Sg_add f_Sg_add_29 f_Sg_add_49
            have s1 : (sI σ 35 G.2 x).1 34 3 = nI G.2 := by rw [sI_n (by omega)]; exact g0
            have s2 : (sI (sI σ 35 G.2 x) 36 G.2 y).1 34 3 = nI G.2 := by rw [sI_n (by omega)]; exact s1
            have s3 : (sI (sI (sI σ 35 G.2 x) 36 G.2 y) 37 G.2 z).1 34 3 = nI G.2 := by rw [sI_n (by omega)]; exact s2
            rw [g0, if_pos ((nlt_6' (by omega)).mpr (by omega)), if_neg (fun q => absurd ((nge_6 (by omega)).mp q) (by omega)), if_pos (inb_n (by omega) (by decide)), nIc (by omega), s1, if_pos (inb_n (by omega) (by decide)), nIc (by omega), s2, if_pos (inb_n (by omega) (by decide)), nIc (by omega), s3, nIs, Option.bind_some, show (sI (sI (sI (sI σ 35 G.2 x) 36 G.2 y) 37 G.2 z) 34 3 (nI (G.2 + 1))).1 34 3 = nI (G.2 + 1) by simp [sI_r]]
            refine ⟨_, rfl, h.gx hN5 ⟨by simp [sI_r], fun j hj => ?_⟩ (fun c hc => by rw [sI_n (by omega), sI_n (by omega), sI_n (by omega), sI_n (by omega)]) rfl, ⟨fun c _ _ => by rw [sI_n (by omega), sI_n (by omega), sI_n (by omega), sI_n (by omega)], rfl⟩⟩
            show _ = (if j = G.2 then (x, y, z) else G.1 j).1 ∧ _ = (if j = G.2 then (x, y, z) else G.1 j).2.1 ∧ _ = (if j = G.2 then (x, y, z) else G.1 j).2.2
            have hj' : j < G.2 + 1 := hj
            by_cases q : j = G.2
            · subst q; simp [sI_r]
            · have := h.2.2.2.2.2.1.2 j (by show j < G.2; omega)
              rw [if_neg q]
              simpa [sI_r, q] using this
          · rw [toB σ h hz]
            have g0 : σ.1 38 20 = nI G.2 := h.2.2.2.2.2.1.1
            unfold f_M_see_39 f_M_see_71 f_M_see_91
            have s1 : (sI σ 48 G.2 x).1 38 20 = nI G.2 := by rw [sI_n (by omega)]; exact g0
            have s2 : (sI (sI σ 48 G.2 x) 49 G.2 y).1 38 20 = nI G.2 := by rw [sI_n (by omega)]; exact s1
            have s3 : (sI (sI (sI σ 48 G.2 x) 49 G.2 y) 50 G.2 z).1 38 20 = nI G.2 := by rw [sI_n (by omega)]; exact s2
            rw [g0, if_neg (fun q => hf' ((neq_6 (by omega)).mp q)), if_pos (inb_n (by omega) (by decide)), nIc (by omega), s1, if_pos (inb_n (by omega) (by decide)), nIc (by omega), s2, if_pos (inb_n (by omega) (by decide)), nIc (by omega), s3, nIs, show (sI (sI (sI (sI σ 48 G.2 x) 49 G.2 y) 50 G.2 z) 38 20 (nI (G.2 + 1))).1 38 20 = nI (G.2 + 1) by simp [sI_r]]
            refine ⟨_, rfl, h.gx hN5 ⟨by simp [sI_r], fun j hj => ?_⟩ (fun c hc => by rw [sI_n (by omega), sI_n (by omega), sI_n (by omega), sI_n (by omega)]) (fun j hj => by rw [sI_r, if_neg (fun z => hj z.2), sI_n (by omega), sI_n (by omega), sI_n (by omega)]) rfl, ⟨fun c _ => by rw [sI_n (by omega), sI_n (by omega), sI_n (by omega), sI_n (by omega)], rfl⟩⟩
            show _ = (if j = G.2 then (x, y, z) else G.1 j).1 ∧ _ = (if j = G.2 then (x, y, z) else G.1 j).2.1 ∧ _ = (if j = G.2 then (x, y, z) else G.1 j).2.2
            have hj' : j < G.2 + 1 := hj
            by_cases q : j = G.2
            · subst q; simp [sI_r]
            · have := h.2.2.2.2.2.1.2 j (by show j < G.2; omega)
              rw [if_neg q]
              simpa [sI_r, q] using this
      · have hz1 : ¬ z = -9 := fun q => hz (Or.inl q)
        have hz2 : isI z (pN (aP S)) = false := by
          cases q : isI z (pN (aP S)) with
          | false => rfl
          | true => exact absurd (Or.inr q) hz
        refine op_rf ok (-2) (fun σ h => ?_) (fun σ h => ?_)
        · unfold f_TF_see
          rw [A_hasNode x hp h.2.1, Option.bind_some, hx, if_neg (by decide), if_neg y0, if_neg y1, if_neg hz1, A_hasNode z hp h.2.1, Option.bind_some, hz2, if_pos bI_f]
        · unfold f_M_see
          rw [B_isNode x hp h.2.1, Option.bind_some, hx, if_neg (by decide), v_in, Option.bind_some, Int32.toInt_toInt64, w0, w20, if_pos hy, if_neg (by decide), B_isNode z hp h.2.1, Option.bind_some, hz2, if_pos bI_f, if_neg hz1]
    · refine op_rf ok (-2) (fun σ h => ?_) (fun σ h => ?_)
      · unfold f_TF_see
        rw [A_hasNode x hp h.2.1, Option.bind_some, hx, if_neg (by decide)]
        by_cases q : y.toInt < 0
        · rw [if_pos (hy0.mpr q)]
        · rw [if_neg (fun z => q (hy0.mp z)), if_pos (hy1.mpr (by omega))]
      · unfold f_M_see
        rw [B_isNode x hp h.2.1, Option.bind_some, hx, if_neg (by decide), v_in, Option.bind_some, Int32.toInt_toInt64, w0, w20, if_neg hy, if_pos rfl]
