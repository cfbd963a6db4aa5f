/-! THE CALLS that only look, and the small ones -/
def op {α : Type} (f g : MT → Option (α × MT)) (S : AS) (B : Nat) : Prop := ∃ S', okA S' (B + 4000) ∧ same f g S S'
def opQ (f g : MT → Option Int32) (S : AS) : Prop := ∃ a, (∀ σ, RA σ S → f σ = some a) ∧ ∀ σ, RB σ S → g σ = some a
theorem op_rf {α : Type} {f g : MT → Option (α × MT)} {S : AS} {B : Nat} (ok : okA S B) (a : α) (h1 : ∀ σ, RA σ S → f σ = some (a, σ)) (h2 : ∀ σ, RB σ S → g σ = some (a, σ)) : op f g S B := ⟨S, ok.le (by omega), a, fun σ h => ⟨σ, h1 σ h, h, CA.rf⟩, fun σ h => ⟨σ, h2 σ h, h, CB.rf⟩⟩
theorem RA.tx {σ τ : MT} {S : AS} {t : TX} (h : RA σ S) (hN : pN (aP S) ≤ 5) (ht : tA τ t) (e : ∀ c, 2 ≤ c → τ.1 c = σ.1 c) (e2 : τ.2 = σ.2) : RA τ (t, S.2) := by
  obtain ⟨h1, h2, h3, h4, h5, h6, h7⟩ := h
  exact ⟨ht, h2.e (fun a _ _ => e a (by omega)), h3.e hN (fun a _ _ => e a (by omega)), h4.e hN (e _ (by omega)) (fun a _ _ => e a (by omega)), h5.e hN (e _ (by omega)) (fun a _ => e a (by omega)), h6.e (e _ (by omega)) (e _ (by omega)) (e _ (by omega)) (e _ (by omega)), by rw [e2]; exact h7⟩
theorem RB.tx {σ τ : MT} {S : AS} {t : TX} (h : RB σ S) (hN : pN (aP S) ≤ 5) (ht : tB τ t) (e : ∀ c, 40 ≤ c → τ.1 c = σ.1 c) (e1 : ∀ j, j ≠ 1 → τ.1 38 j = σ.1 38 j) (e2 : τ.2 = σ.2) : RB τ (t, S.2) := by
  obtain ⟨h1, h2, h3, h4, h5, h6, h7⟩ := h
  exact ⟨ht, h2.e (fun j _ _ => e1 j (by omega)) (e _ (by omega)) (e _ (by omega)) (e _ (by omega)), h3.e hN (e _ (by omega)), h4.e hN (e _ (by omega)) (e _ (by omega)), h5.e hN (e1 _ (by omega)) (e1 _ (by omega)) (e _ (by omega)), h6.e (e1 _ (by omega)) (e _ (by omega)) (e _ (by omega)) (e _ (by omega)), by rw [e2]; exact h7⟩
theorem okA.tx {S : AS} {B : Nat} {t : TX} (h : okA S B) (h1 : t.2 ≤ 60) (h2 : ∀ j, j < t.2 → IR 0 256 (t.1 j)) : okA (t, S.2) (B + 4000) := by
  obtain ⟨a, b, c, d, -, f⟩ := h.le (B' := B + 4000) (by omega)
  exact ⟨a, b, c, d, ⟨h1, h2⟩, f⟩
theorem op_wipe {S : AS} {B : Nat} (ok : okA S B) : op f_TF_wipe f_M_wipe S B := by
  have hN := ok.1.1
  refine ⟨(((aT S).1, 0), S.2), ok.tx (by show 0 ≤ 60; omega) (fun j hj => absurd hj (by show ¬ j < 0; omega)), nI (aT S).2, fun σ h => ?_, fun σ h => ?_⟩
  · unfold f_TF_wipe
    rw [h.1.1]
    exact ⟨_, rfl, h.tx hN ⟨by simp [sI_r]; rfl, fun j hj => absurd hj (by show ¬ j < 0; omega)⟩ (fun c hc => sI_n (by omega)) rfl, ⟨fun c _ _ => sI_n (by omega), rfl⟩⟩
  · unfold f_M_wipe
    rw [h.1.1]
    exact ⟨_, rfl, h.tx hN ⟨by simp [sI_r]; rfl, fun j hj => absurd hj (by show ¬ j < 0; omega)⟩ (fun c hc => sI_n (by omega)) (fun j hj => by rw [sI_r, if_neg (fun z => hj z.2)]) rfl, ⟨fun c _ => sI_n (by omega), rfl⟩⟩
theorem chr {n : Nat} (hn : n < 256) : vp_nar .char (((nI n).toUInt32 % 65536).toInt32) = nI n := by
  have H : ∀ n, n < 256 → vp_nar .char (((nI n).toUInt32 % 65536).toInt32) = nI n := by decide +kernel
  exact H n hn
theorem op_write {S : AS} {B : Nat} (ok : okA S B) (x : Int32) : op (f_TF_write x) (f_M_write x) S B := by
  have hN := ok.1.1
  have ok2 := ok
  obtain ⟨-, -, -, -, ⟨hl, hc⟩, -⟩ := ok2
  have hx0 : x < 0 ↔ x.toInt < 0 := by rw [Int32.lt_iff_toInt_lt, Int32.toInt_zero]
  have hx1 : x ≤ 255 ↔ x.toInt ≤ 255 := Int32.le_iff_toInt_le
  have e0 : ((0 : Int64)).toInt = 0 := rfl
  have e255 : ((255 : Int64)).toInt = 255 := rfl
  by_cases hx : 0 ≤ x.toInt ∧ x.toInt ≤ 255
  · obtain ⟨n, hn, rfl⟩ := IR_n (x := x) (n := 256) ⟨hx.1, by show x.toInt < 256; omega⟩ (by omega)
    by_cases hf : (aT S).2 = 60
    · refine op_rf ok (-4) (fun σ h => ?_) (fun σ h => ?_)
      · unfold f_TF_write
        rw [if_neg (fun q => absurd (hx0.mp q) (by omega)), if_pos (hx1.mpr hx.2), h.1.1, if_neg (fun q => absurd ((nlt_60 (by omega)).mp q) (by omega))]
      · unfold f_M_write
        rw [v_in, Option.bind_some, Int32.toInt_toInt64, e0, e255, if_pos hx, if_neg (by decide), h.1.1, if_pos ((neq_60 (by omega)).mpr hf)]
    · refine ⟨((fun j => if j = (aT S).2 then nI n else (aT S).1 j, (aT S).2 + 1), S.2), ok.tx (by show (aT S).2 + 1 ≤ 60; omega) (fun j hj => ?_), nI ((aT S).2 + 1), fun σ h => ?_, fun σ h => ?_⟩
      · show IR 0 256 (if j = (aT S).2 then nI n else (aT S).1 j)
        have hj' : j < (aT S).2 + 1 := hj
        by_cases q : j = (aT S).2
        · rw [if_pos q]; unfold IR; rw [nIt (by omega)]; omega
        · rw [if_neg q]; exact hc j (by omega)
      · unfold f_TF_write f_TF_write_37
        rw [if_neg (fun q => absurd (hx0.mp q) (by omega)), if_pos (hx1.mpr hx.2), h.1.1, if_pos ((nlt_60 (by omega)).mpr (by omega)), if_pos (inb_n (by omega) (by decide)), nIc (by omega), chr hn]
        have e1 : (sI σ 1 (aT S).2 (nI n)).1 0 1 = nI (aT S).2 := by rw [sI_n (by omega)]; exact h.1.1
        rw [e1, nIs, show ∀ v, (sI (sI σ 1 (aT S).2 (nI n)) 0 1 v).1 0 1 = v from fun v => by simp [sI_r]]
        refine ⟨_, rfl, h.tx hN ⟨by simp [sI_r], fun j hj => ?_⟩ (fun c hc => by rw [sI_n (by omega), sI_n (by omega)]) rfl, ⟨fun c _ _ => by rw [sI_n (by omega), sI_n (by omega)], rfl⟩⟩
        rw [sI_n (by omega), sI_r]
        show _ = (if j = (aT S).2 then nI n else (aT S).1 j)
        have hj' : j < (aT S).2 + 1 := hj
        by_cases q : j = (aT S).2
        · rw [if_pos q, if_pos ⟨rfl, q⟩]
        · rw [if_neg q, if_neg (fun z => q z.2)]; exact h.1.2 j (by omega)
      · unfold f_M_write f_M_write_47
        rw [v_in, Option.bind_some, Int32.toInt_toInt64, e0, e255, if_pos hx, if_neg (by decide), h.1.1, if_neg (fun q => hf ((neq_60 (by omega)).mp q)), if_pos (inb_n (by omega) (by decide)), nIc (by omega)]
        have e1 : (sI σ 39 (aT S).2 (nI n)).1 38 1 = nI (aT S).2 := by rw [sI_n (by omega)]; exact h.1.1
        rw [e1, nIs, show ∀ v, (sI (sI σ 39 (aT S).2 (nI n)) 38 1 v).1 38 1 = v from fun v => by simp [sI_r]]
        refine ⟨_, rfl, h.tx hN ⟨by simp [sI_r], fun j hj => ?_⟩ (fun c hc => by rw [sI_n (by omega), sI_n (by omega)]) (fun j hj => by rw [sI_r, if_neg (fun z => hj z.2), sI_n (by omega)]) rfl, ⟨fun c _ => by rw [sI_n (by omega), sI_n (by omega)], rfl⟩⟩
        rw [sI_n (by omega), sI_r]
        show _ = (if j = (aT S).2 then nI n else (aT S).1 j)
        have hj' : j < (aT S).2 + 1 := hj
        by_cases q : j = (aT S).2
        · rw [if_pos q, if_pos ⟨rfl, q⟩]
        · rw [if_neg q, if_neg (fun z => q z.2)]; exact h.1.2 j (by omega)
  · refine op_rf ok (-2) (fun σ h => ?_) (fun σ h => ?_)
    · unfold f_TF_write
      by_cases q : x.toInt < 0
      · rw [if_pos (hx0.mpr q)]
      · rw [if_neg (fun z => q (hx0.mp z)), if_neg (fun z => hx ⟨by omega, hx1.mp z⟩)]
    · unfold f_M_write
      rw [v_in, Option.bind_some, Int32.toInt_toInt64, e0, e255, if_neg hx, if_pos rfl]
theorem ites {c : Prop} [Decidable c] {a b : Int32} {x f : Option Int32} (h0 : x = some a) (h : f = some b) : (if c then x else f) = some (if c then a else b) := by
  by_cases q : c
  · rw [if_pos q, if_pos q]; exact h0
  · rw [if_neg q, if_neg q]; exact h
def abM (S : AS) (dn : Nat) (x : Int32) : Int32 := if x = 0 then nI (pN (aP S)) else if x = 1 then nI (pL (aP S)) else if x = 2 then (aP S).1 0 else if x = 3 then (aP S).1 1 else if x = 4 then (aP S).1 2 else if x = 5 then (aV S).1 else if x = 6 then nI (setN (onM (aV S)) (pN (aP S))) else if x = 7 then nI (setN (ownM (aV S)) (pN (aP S))) else if x = 8 then nI (setN (inT (aP S) (aV S)) (pN (aP S))) else if x = 9 then nI dn else if x = 10 then bI (uniM (pN (aP S)) (aV S)) else if x = 11 then nI (aJ S).2.2 else if x = 12 then nI (aG S).2 else if x = 13 then nI (aT S).2 else -2
theorem nle_10 {b : Nat} (h : b < 2147483648) : nI b ≤ (10 : Int32) ↔ b ≤ 10 := nIle (b := 10) h (by omega)
theorem op_about {S : AS} {B : Nat} (ok : okA S B) (hB : B < 80000000) (x : Int32) : opQ (f_TF_about x) (f_M_about x) S := by
  have hp := ok.1
  have hN := ok.1.1
  have okv := ok.2.1
  obtain ⟨dn, hd1, hd2⟩ := okv.2.2
  refine ⟨abM S dn x, fun σ h => ?_, fun σ h => ?_⟩
  rotate_left
  · unfold f_M_about
    obtain ⟨h1, h2, h3, h4, h5, h6, h7⟩ := h
    rw [B_on h3 hN okv.1 h2.2.1, B_own h3 hN okv.1 h2.2.1, B_inTime hp h2 h3 okv (by omega), B_downs hp.2.1 hd2 (by have := h3.2.1; rw [hd1] at this; exact this) h2.2.2.1, B_united h3 hN okv.1 h2.2.1, i102, c102, if_pos rfl, Option.bind_some, Option.bind_some, Option.bind_some, Option.bind_some, Option.bind_some]
    refine ites (congrArg some h2.2.1) (ites (congrArg some h2.2.2.1) (ites (congrArg some h2.1.1) (ites (congrArg some h2.1.2.1) (ites (congrArg some h2.1.2.2) (ites (congrArg some h3.1) (ites rfl (ites rfl (ites rfl (ites rfl (ites (a := bI (uniM (pN (aP S)) (aV S))) ?_ (ites (congrArg some h5.2.1) (ites (congrArg some h6.1) (ites (congrArg some h1.1) rfl)))))))))))))
    cases uniM (pN (aP S)) (aV S) <;> rfl
  · unfold f_TF_about
    obtain ⟨h1, h2, h3, h4, h5, h6, h7⟩ := h
    rw [A_onSet h3 hN, A_ownSet h3 hN, A_inTime hp h2 h3 okv (by omega), A_united h3 hN, Option.bind_some, Option.bind_some, Option.bind_some, Option.bind_some]
    refine ites (congrArg some h2.2.1) (ites (congrArg some h2.2.2.1) (ites (congrArg some h2.1.1) (ites (congrArg some h2.1.2.1) (ites (congrArg some h2.1.2.2) (ites (congrArg some h3.1) (ites rfl (ites rfl (ites rfl (ites (congrArg some (h3.2.1.trans hd1)) (ites ?_ (ites (congrArg some h5.2.1) (ites (congrArg some h6.1) (ites (congrArg some h1.1) rfl)))))))))))))
    cases uniM (pN (aP S)) (aV S) <;> rfl
theorem op_node {S : AS} {B : Nat} (ok : okA S B) (hB : B < 80000000) (x w : Int32) : opQ (f_TF_node x w) (f_M_node x w) S := by
  have hp := ok.1
  have hN := ok.1.1
  have okv := ok.2.1
  cases hx : isI x (pN (aP S)) with
  | false =>
    refine ⟨-1, fun σ h => ?_, fun σ h => ?_⟩
    · unfold f_TF_node
      rw [A_hasNode x hp h.2.1, Option.bind_some, hx, if_pos (by decide)]
    · unfold f_M_node
      rw [B_isNode x hp h.2.1, Option.bind_some, hx, if_pos (by decide)]
  | true =>
    obtain ⟨i, hi, rfl⟩ := isI_t (by omega) hx
    rcases rngI w 11 (by omega) with ⟨n, hn, rfl⟩ | hw
    · refine ⟨prM (aP S) (aV S) i n, fun σ h => ?_, fun σ h => ?_⟩
      · unfold f_TF_node
        rw [A_hasNode _ hp h.2.1, Option.bind_some, hx, if_neg (by decide), if_neg (fun q => absurd ((nlt_0 (by omega)).mp q) (by omega)), if_pos ((nle_10 (by omega)).mpr (by omega)), A_prop hp h.2.1 h.2.2.1 okv (by omega) hi (by omega), Option.bind_some]
      · unfold f_M_node
        rw [B_isNode _ hp h.2.1, Option.bind_some, hx, if_neg (by decide), B_tell hp h.2.1 h.2.2.1 okv (by omega) hi (by omega), Option.bind_some]
    · have hw' : w.toInt < 0 ∨ 10 < w.toInt := by omega
      refine ⟨-2, fun σ h => ?_, fun σ h => ?_⟩
      · unfold f_TF_node
        rw [A_hasNode _ hp h.2.1, Option.bind_some, hx, if_neg (by decide)]
        by_cases q : w.toInt < 0
        · rw [if_pos (by rw [Int32.lt_iff_toInt_lt, Int32.toInt_zero]; exact q)]
        · rw [if_neg (by rw [Int32.lt_iff_toInt_lt, Int32.toInt_zero]; exact q), if_neg (by rw [Int32.le_iff_toInt_le]; show ¬ w.toInt ≤ 10; omega)]
      · unfold f_M_node
        rw [B_isNode _ hp h.2.1, Option.bind_some, hx, if_neg (by decide), B_tell_bad (by omega) hw', Option.bind_some]
theorem op_seed {S : AS} {B : Nat} (ok : okA S B) (v : Int64) : op (f_TF_seed v) (f_M_seed v) S B := by
  have hN := ok.1.1
  obtain ⟨t, p, sv, K, J, G, d⟩ := S
  refine ⟨(t, p, sv, K, J, G, v), ok.le (by omega), d, fun σ h => ?_, fun σ h => ?_⟩
  · unfold f_TF_seed
    obtain ⟨h1, h2, h3, h4, h5, h6, h7⟩ := h
    refine ⟨sL σ 0 v, by rw [h7], ⟨h1, h2, h3, h4, h5, h6, by simp [sL_r]⟩, ⟨fun _ _ _ => rfl, by simp [sL_r]⟩⟩
  · unfold f_M_seed
    obtain ⟨h1, h2, h3, h4, h5, h6, h7⟩ := h
    refine ⟨sL σ 38 v, by rw [h7], ⟨h1, h2, h3, h4, h5, h6, by simp [sL_r]⟩, ⟨fun _ _ => rfl, by simp [sL_r]⟩⟩
