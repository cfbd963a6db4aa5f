/-! COPIES of a state -/
theorem nge_103 {b : Nat} (h : b < 2147483648) : (103 : Int32) ≤ nI b ↔ 103 ≤ b := nIle (a := 103) (by omega) h
theorem cpy4 (f g : Nat → Int32) {j : Nat} (hj : j < 4) : va_cpy f g 0 0 4 j = f j := by
  unfold va_cpy
  rw [if_pos ⟨by omega, by omega⟩]
  congr 1
  omega
theorem zb01 {x : Int32} (h : x = 0 ∨ x = 1) : zbb x = true := decide_eq_true h
/-- node n is as node m -/
def cpN (τ σ : MT) (n m : Nat) : Prop := (∀ j, j < 7 → τ.1 n j = σ.1 m j) ∧ ∀ j, j < 4 → τ.1 (n + 1) j = σ.1 (m + 1) j ∧ τ.1 (n + 2) j = σ.1 (m + 2) j ∧ τ.1 (n + 3) j = σ.1 (m + 3) j
theorem hN.cp {σ τ : MT} {n m : Nat} {nd : ND} (c : cpN τ σ n m) (h : hN σ m nd) : hN τ n nd := by
  obtain ⟨c1, c2⟩ := c
  obtain ⟨h1, h2, h3, h4⟩ := h
  refine ⟨fun j hj => (c1 j (by omega)).trans (h1 j hj), (c1 6 (by omega)).trans h2, h3, fun j s hs => ?_⟩
  have hj := (List.getElem?_eq_some_iff.mp hs).1
  obtain ⟨g1, g2, g3⟩ := c2 j (by omega)
  rw [g1, g2, g3]
  exact h4 j s hs
theorem v_copyN {σ : MT} {n m : Nat} (hd : n + 4 ≤ m ∨ m + 4 ≤ n) (h0 : σ.1 m 0 = 0 ∨ σ.1 m 0 = 1) : ∃ τ, f_Nd_copyFrom n m σ = some τ ∧ cpN τ σ n m ∧ EO (PN n) σ τ := by
  unfold f_Nd_copyFrom f_Nd_copyFrom_24 f_Nd_copyFrom_48 f_Nd_copyFrom_70 f_Nd_copyFrom_98
  rw [if_pos (zb01 h0)]
  refine ⟨_, rfl, ⟨fun j hj => ?_, fun j hj => ⟨?_, ?_, ?_⟩⟩, ?_⟩
  · rw [sA_n (by omega), sA_n (by omega), sA_n (by omega)]
    obtain rfl | rfl | rfl | rfl | rfl | rfl | rfl : j = 0 ∨ j = 1 ∨ j = 2 ∨ j = 3 ∨ j = 4 ∨ j = 5 ∨ j = 6 := by omega
    all_goals simp [sI_r, show ¬ m = n by omega]
  · rw [sA_n (by omega), sA_n (by omega), sA_s, cpy4 _ _ hj, sI_n (by omega), sI_n (by omega), sI_n (by omega), sI_n (by omega), sI_n (by omega), sI_n (by omega), sI_n (by omega)]
  · rw [sA_n (by omega), sA_s, cpy4 _ _ hj, sA_n (by omega), sI_n (by omega), sI_n (by omega), sI_n (by omega), sI_n (by omega), sI_n (by omega), sI_n (by omega), sI_n (by omega)]
  · rw [sA_s, cpy4 _ _ hj, sA_n (by omega), sA_n (by omega), sI_n (by omega), sI_n (by omega), sI_n (by omega), sI_n (by omega), sI_n (by omega), sI_n (by omega), sI_n (by omega)]
  · exact ((((((((((EO.rf.i ⟨by omega, by omega⟩).i ⟨by omega, by omega⟩).i ⟨by omega, by omega⟩).i ⟨by omega, by omega⟩).i ⟨by omega, by omega⟩).i ⟨by omega, by omega⟩).i ⟨by omega, by omega⟩).a ⟨by omega, by omega⟩).a ⟨by omega, by omega⟩).a ⟨by omega, by omega⟩)
def PS (k : Nat) : Nat → Prop := fun c => k ≤ c ∧ c < k + 22
theorem A_copy_loop {k m : Nat} {σ0 : MT} (hd : k + 22 ≤ m ∨ m + 22 ≤ k) (h0 : ∀ i, i < 5 → σ0.1 (m + 1 + 1 + 4 * i) 0 = 0 ∨ σ0.1 (m + 1 + 1 + 4 * i) 0 = 1) : ∀ (d i fuel : Nat) (σ : MT), i + d = 5 → d < fuel → EO (PS k) σ0 σ → (∀ j, j < i → cpN σ σ0 (k + 1 + 1 + 4 * j) (m + 1 + 1 + 4 * j)) → (∀ j, j < 2 → σ.1 k j = σ0.1 m j) → ∃ τ, f_St_copyFrom_18 fuel k m (nI i) σ = some τ ∧ EO (PS k) σ0 τ ∧ (∀ j, j < 5 → cpN τ σ0 (k + 1 + 1 + 4 * j) (m + 1 + 1 + 4 * j)) ∧ ∀ j, j < 2 → τ.1 k j = σ0.1 m j
  | 0, i, fuel, σ, hi, hf, e, hc, h2 => by
    obtain ⟨f, rfl⟩ : ∃ f, fuel = f + 1 := ⟨fuel - 1, by omega⟩
    have : i = 5 := by omega
    subst this
    refine ⟨σ, ?_, e, hc, h2⟩
    rw [f_St_copyFrom_18, if_pos ((nge_5 (by omega)).mpr (by omega))]
  | d + 1, i, fuel, σ, hi, hf, e, hc, h2 => by
    obtain ⟨f, rfl⟩ : ∃ f, fuel = f + 1 := ⟨fuel - 1, by omega⟩
    have src : ∀ c, m ≤ c → c < m + 22 → σ.1 c = σ0.1 c := fun c a b => e.1 c (by unfold PS; omega)
    rw [f_St_copyFrom_18, if_neg (fun q => absurd ((nge_5 (by omega)).mp q) (by omega)), if_pos (inb_n (by omega) (by decide)), if_pos (inb_n (by omega) (by decide)), nIc (by omega)]
    obtain ⟨τ, q1, q2, q3⟩ := v_copyN (σ := σ) (n := k + 1 + 1 + 4 * i) (m := m + 1 + 1 + 4 * i) (by omega) (by rw [src _ (by omega) (by omega)]; exact h0 i (by omega))
    rw [q1, Option.bind_some, nIs]
    have np : ∀ c, c < k + 1 + 1 + 4 * i → τ.1 c = σ.1 c := fun c hcc => q3.1 c (by unfold PN; omega)
    refine A_copy_loop hd h0 d (i + 1) f τ (by omega) (by omega) (e.tr (q3.mo (fun c hcc => by unfold PN at hcc; unfold PS; omega))) (fun j hj => ?_) (fun j hj => by rw [np k (by omega)]; exact h2 j hj)
    by_cases hji : j = i
    · subst hji
      obtain ⟨g1, g2⟩ := q2
      refine ⟨fun l hl => by rw [g1 l hl, src _ (by omega) (by omega)], fun l hl => ?_⟩
      rw [← src (m + 1 + 1 + 4 * j + 1) (by omega) (by omega), ← src (m + 1 + 1 + 4 * j + 2) (by omega) (by omega), ← src (m + 1 + 1 + 4 * j + 3) (by omega) (by omega)]
      exact g2 l hl
    · obtain ⟨g1, g2⟩ := hc j (by omega)
      unfold cpN
      rw [np (k + 1 + 1 + 4 * j) (by omega), np (k + 1 + 1 + 4 * j + 1) (by omega), np (k + 1 + 1 + 4 * j + 2) (by omega), np (k + 1 + 1 + 4 * j + 3) (by omega)]
      exact ⟨g1, g2⟩
theorem A_copy {σ : MT} {k m N : Nat} {sv : SV} (hd : k + 22 ≤ m ∨ m + 22 ≤ k) (h : hA σ m N sv) (hw : wfS N sv) (hN : N ≤ 5) : ∃ τ, f_St_copyFrom k m σ = some τ ∧ hA τ k N sv ∧ EO (PS k) σ τ := by
  obtain ⟨a, b, c, d⟩ := h
  have h0 : ∀ i, i < 5 → σ.1 (m + 1 + 1 + 4 * i) 0 = 0 ∨ σ.1 (m + 1 + 1 + 4 * i) 0 = 1 := fun i hi => by
    by_cases hiN : i < N
    · rw [(c i hiN).1 0 (by decide)]; exact (hw i hiN).1
    · exact Or.inl (d i (by omega) hi)
  unfold f_St_copyFrom
  have e2 : EO (PS k) σ (sI (sI σ k 0 (σ.1 m 0)) k 1 ((sI σ k 0 (σ.1 m 0)).1 m 1)) := (EO.rf.i (by unfold PS; omega)).i (by unfold PS; omega)
  obtain ⟨τ, q1, q2, q3, q4⟩ := A_copy_loop hd h0 5 0 1100 _ (by omega) (by omega) e2 (fun j hj => absurd hj (by omega)) (fun j hj => by
    have hmk : ¬ m = k := by omega
    obtain rfl | rfl : j = 0 ∨ j = 1 := by omega
    all_goals simp [sI_r, hmk])
  refine ⟨τ, q1, ⟨(q4 0 (by omega)).trans a, (q4 1 (by omega)).trans b, fun i hi => (c i hi).cp (q3 i (by omega)), fun i hi hi5 => ((q3 i hi5).1 0 (by omega)).trans (d i hi hi5)⟩, q2⟩
-- the reference's rows
theorem B_copy_loop {c c' : Nat} {σ0 : MT} (hc : c' ≠ c) : ∀ (d i fuel : Nat) (σ : MT), i + d = 103 → d < fuel → EO (fun a => a = c') σ0 σ → (∀ j, j < i → σ.1 c' j = σ0.1 c j) → ∃ τ, f_M_copy_2 fuel c c' (nI i) σ = some τ ∧ EO (fun a => a = c') σ0 τ ∧ ∀ j, j < 103 → τ.1 c' j = σ0.1 c j
  | 0, i, fuel, σ, hi, hf, e, hj => by
    obtain ⟨f, rfl⟩ : ∃ f, fuel = f + 1 := ⟨fuel - 1, by omega⟩
    have : i = 103 := by omega
    subst this
    refine ⟨σ, ?_, e, hj⟩
    rw [f_M_copy_2, if_pos ((nge_103 (by omega)).mpr (by omega))]
  | d + 1, i, fuel, σ, hi, hf, e, hj => by
    obtain ⟨f, rfl⟩ : ∃ f, fuel = f + 1 := ⟨fuel - 1, by omega⟩
    rw [f_M_copy_2, if_neg (fun q => absurd ((nge_103 (by omega)).mp q) (by omega)), if_pos (inb_n (by omega) (by decide)), if_pos (inb_n (by omega) (by decide)), nIc (by omega), nIs]
    refine B_copy_loop hc d (i + 1) f _ (by omega) (by omega) (e.i rfl) (fun j hji => ?_)
    rw [sI_r, e.1 c (Ne.symm hc)]
    by_cases q : j = i
    · rw [if_pos ⟨rfl, q⟩, q]
    · rw [if_neg (fun z => q z.2)]
      exact hj j (by omega)
theorem B_copy {σ : MT} {N : Nat} {sv : SV} (h : hR σ 43 N sv) (hN : N ≤ 5) : ∃ τ, f_M_copy 43 44 σ = some τ ∧ hR τ 44 N sv ∧ EO (fun a => a = 44) σ τ := by
  obtain ⟨τ, q1, q2, q3⟩ := B_copy_loop (c := 43) (c' := 44) (σ0 := σ) (by omega) 103 0 1100 σ (by omega) (by omega) EO.rf (fun j hj => absurd hj (by omega))
  refine ⟨τ, q1, hR_o.mpr ((hR_o.mp h).cp hN (fun j hj => ?_)), q2⟩
  rw [Nat.zero_add]
  exact q3 j hj
-- the journal
def pushJ (J : JR) (sv : SV) : JR := (fun e => if e = J.2.1 then sv else J.1 e, (J.2.1 + 1) % 14, if J.2.2 < 14 then J.2.2 + 1 else 14)
theorem vR_push {J : JR} {sv : SV} (h1 : J.2.1 < 14) (h2 : J.2.2 ≤ 14) {e : Nat} (h : vR (pushJ J sv) e) : e = J.2.1 ∨ (e ≠ J.2.1 ∧ vR J e) := by
  unfold vR pushJ at h
  obtain ⟨a, b⟩ := h
  simp only at b
  by_cases q : e = J.2.1
  · exact Or.inl q
  · refine Or.inr ⟨q, a, ?_⟩
    split at b <;> omega
theorem v_min14 {n : Nat} (hn : n ≤ 14) : f_Mt_min (nI n + 1) 14 = some (nI (if n < 14 then n + 1 else 14)) := by
  have H : ∀ n, n ≤ 14 → f_Mt_min (nI n + 1) 14 = some (nI (if n < 14 then n + 1 else 14)) := by decide +kernel
  exact H n hn
theorem mod14 {n : Nat} (hn : n < 14) : (nI n + 1) - (nI n + 1) / 14 * 14 = nI ((n + 1) % 14) ∧ (nI n + 14 - 1) - (nI n + 14 - 1) / 14 * 14 = nI ((n + 13) % 14) := by
  have H : ∀ n, n < 14 → (nI n + 1) - (nI n + 1) / 14 * 14 = nI ((n + 1) % 14) ∧ (nI n + 14 - 1) - (nI n + 14 - 1) / 14 * 14 = nI ((n + 13) % 14) := by decide +kernel
  exact H n hn
theorem A_push {σ : MT} {N : Nat} {J : JR} {sv : SV} (hj : jA σ N J) (h : hA σ 61 N sv) (hw : wfS N sv) (hN : N ≤ 5) (h1 : J.2.1 < 14) (h2 : J.2.2 ≤ 14) : ∃ τ, f_Jr_push 61 σ = some τ ∧ jA τ N (pushJ J sv) ∧ EO (fun c => c = 30 ∨ 149 ≤ c) σ τ := by
  obtain ⟨a, b, c⟩ := hj
  unfold f_Jr_push f_Jr_push_26
  rw [a, if_pos (inb_n h1 (by decide)), nIc (by omega)]
  obtain ⟨τ, q1, q2, q3⟩ := A_copy (k := 149 + 22 * J.2.1) (m := 61) (by omega) h hw hN
  have e30 : τ.1 30 = σ.1 30 := q3.1 30 (by unfold PS; omega)
  rw [q1, Option.bind_some, e30, a, (mod14 h1).1, show (sI τ 30 1 (nI ((J.2.1 + 1) % 14))).1 30 2 = τ.1 30 2 by simp [sI_r], e30, b, v_min14 h2, Option.bind_some]
  refine ⟨_, rfl, ⟨by simp [sI_r, pushJ], by simp [sI_r, pushJ], fun e he => ?_⟩, ((q3.mo (fun c hc => by unfold PS at hc; exact Or.inr (by omega))).i (Or.inl rfl)).i (Or.inl rfl)⟩
  have ek : ∀ c, 149 ≤ c → (sI (sI τ 30 1 (nI ((J.2.1 + 1) % 14))) 30 2 (nI (if J.2.2 < 14 then J.2.2 + 1 else 14))).1 c = τ.1 c := fun c hc => by rw [sI_n (by omega), sI_n (by omega)]
  rcases vR_push h1 h2 he with q | ⟨q, hv⟩
  · subst q
    have e0 : (pushJ J sv).1 J.2.1 = sv := by unfold pushJ; simp
    rw [e0]
    exact q2.e hN (fun c h1 _ => ek c (by omega))
  · have e0 : (pushJ J sv).1 e = J.1 e := by unfold pushJ; simp [q]
    rw [e0]
    refine (c e hv).e hN (fun c h1 h2 => ?_)
    rw [ek c (by omega), q3.1 c (by unfold PS; omega)]
theorem B_note_loop {N n cnt : Nat} {σ0 : MT} (hn : n < 14) (hc : cnt ≤ 14) : ∀ (d i fuel : Nat) (σ : MT), i + d = 103 → d < fuel → EO (fun a => a = 45) σ0 σ → σ0.1 38 14 = nI n → σ0.1 38 13 = nI cnt → (∀ j, j < i → σ.1 45 (103 * n + j) = σ0.1 43 j) → (∀ b, b < 103 * n ∨ 103 * n + 103 ≤ b → σ.1 45 b = σ0.1 45 b) → ∃ τ, f_M_note_2 fuel (nI i) σ = some τ ∧ τ.1 38 14 = nI ((n + 1) % 14) ∧ τ.1 38 13 = nI (if cnt < 14 then cnt + 1 else 14) ∧ (∀ j, ¬ (j = 13 ∨ j = 14) → τ.1 38 j = σ0.1 38 j) ∧ (∀ j, j < 103 → τ.1 45 (103 * n + j) = σ0.1 43 j) ∧ (∀ b, b < 103 * n ∨ 103 * n + 103 ≤ b → τ.1 45 b = σ0.1 45 b) ∧ EO (fun a => a = 45 ∨ a = 38) σ0 τ
  | 0, i, fuel, σ, hi, hf, e, h14, h13, hj, ho => by
    obtain ⟨f, rfl⟩ : ∃ f, fuel = f + 1 := ⟨fuel - 1, by omega⟩
    have : i = 103 := by omega
    subst this
    have e38 : σ.1 38 = σ0.1 38 := e.1 38 (by omega)
    rw [f_M_note_2, if_pos ((nge_103 (by omega)).mpr (by omega)), e38, h14, (mod14 hn).1, show (sI σ 38 14 (nI ((n + 1) % 14))).1 38 13 = σ.1 38 13 by simp [sI_r], e38, h13, nIs]
    by_cases hlt : cnt < 14
    · rw [if_neg (fun q => absurd ((nge_14 (by omega)).mp q) (by omega)), if_pos hlt]
      refine ⟨_, rfl, by simp [sI_r], by simp [sI_r], fun j hj => ?_, fun j hj2 => ?_, fun b hb => ?_, EO.i (P := fun a => a = 45 ∨ a = 38) (EO.i (P := fun a => a = 45 ∨ a = 38) (e.mo (fun a ha => Or.inl ha)) (Or.inr rfl)) (Or.inr rfl)⟩
      · rw [sI_r, if_neg (by omega), sI_r, if_neg (by omega), e38]
      · rw [sI_n (by omega), sI_n (by omega)]; exact hj j hj2
      · rw [sI_n (by omega), sI_n (by omega)]; exact ho b hb
    · rw [if_pos ((nge_14 (by omega)).mpr (by omega)), if_neg hlt]
      refine ⟨_, rfl, by simp [sI_r], by simp [sI_r]; rfl, fun j hj => ?_, fun j hj2 => ?_, fun b hb => ?_, EO.i (P := fun a => a = 45 ∨ a = 38) (EO.i (P := fun a => a = 45 ∨ a = 38) (e.mo (fun a ha => Or.inl ha)) (Or.inr rfl)) (Or.inr rfl)⟩
      · rw [sI_r, if_neg (by omega), sI_r, if_neg (by omega), e38]
      · rw [sI_n (by omega), sI_n (by omega)]; exact hj j hj2
      · rw [sI_n (by omega), sI_n (by omega)]; exact ho b hb
  | d + 1, i, fuel, σ, hi, hf, e, h14, h13, hj, ho => by
    obtain ⟨f, rfl⟩ : ∃ f, fuel = f + 1 := ⟨fuel - 1, by omega⟩
    have e38 : σ.1 38 = σ0.1 38 := e.1 38 (by omega)
    have e43 : σ.1 43 = σ0.1 43 := e.1 43 (by omega)
    have em : (103 : Int32) * nI n + nI i = nI (103 * n + i) := by
      rw [show (103 : Int32) * nI n = nI (103 * n) from pk_mul 103 n, nI_add]
    rw [f_M_note_2, if_neg (fun q => absurd ((nge_103 (by omega)).mp q) (by omega)), e38, h14, em, if_pos (inb_n (by omega) (by decide)), if_pos (inb_n (by omega) (by decide)), nIc (by omega), nIc (by omega)]
    unfold f_M_note_28
    rw [nIs]
    refine B_note_loop (N := N) hn hc d (i + 1) f _ (by omega) (by omega) (e.i rfl) h14 h13 (fun j hji => ?_) (fun b hb => ?_)
    · rw [sI_r, e43]
      by_cases q : j = i
      · rw [if_pos ⟨rfl, by rw [q]⟩, q]
      · rw [if_neg (fun z => q (by omega))]
        exact hj j (by omega)
    · rw [sI_r, if_neg (by omega)]
      exact ho b hb
theorem B_note {σ : MT} {N : Nat} {J : JR} {sv : SV} (hj : jB σ N J) (h : hR σ 43 N sv) (hN : N ≤ 5) (h1 : J.2.1 < 14) (h2 : J.2.2 ≤ 14) : ∃ τ, f_M_note σ = some τ ∧ jB τ N (pushJ J sv) ∧ (∀ j, ¬ (j = 13 ∨ j = 14) → τ.1 38 j = σ.1 38 j) ∧ EO (fun a => a = 45 ∨ a = 38) σ τ := by
  obtain ⟨a, b, c⟩ := hj
  obtain ⟨τ, q1, q2, q3, q4, q5, q6, q7⟩ := B_note_loop (N := N) (σ0 := σ) h1 h2 103 0 1100 σ (by omega) (by omega) EO.rf a b (fun j hj => absurd hj (by omega)) (fun _ _ => rfl)
  refine ⟨τ, q1, ⟨q2, q3, fun e he => ?_⟩, q4, q7⟩
  rcases vR_push h1 h2 he with q | ⟨q, hv⟩
  · subst q
    have e0 : (pushJ J sv).1 J.2.1 = sv := by unfold pushJ; simp
    rw [e0]
    refine (hR_o.mp h).cp hN (fun j hj => ?_)
    rw [Nat.zero_add]
    exact q5 j hj
  · have e0 : (pushJ J sv).1 e = J.1 e := by unfold pushJ; simp [q]
    rw [e0]
    exact (c e hv).cp hN (fun j hj => q6 _ (by omega))
