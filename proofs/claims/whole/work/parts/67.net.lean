/-! THE NEW NETWORK -/
def fsN (d : Int32) : ND := ((fun j => if j = 0 then 1 else if j = 1 then d else if j = 2 then -9 else 0), [])
theorem fsN_w {N : Nat} {d : Int32} (h : IR (-4) 6 d) : wfN N (fsN d) := ⟨Or.inr rfl, h, Or.inl rfl, (⟨by decide, by decide⟩ : IR 0 64 (0 : Int32)), (⟨by decide, by decide⟩ : IR 0 10 (0 : Int32)), fun s hs => absurd hs (List.not_mem_nil)⟩
def PBg : Nat → Prop := fun c => 61 ≤ c ∧ c < 83
theorem begin_fin {σ : MT} {k N i : Nat} {dr : Nat → Int32} {x : Int32} (hi : i < 5) (hk : k = 61 + 1 + 1 + 4 * i) (h16 : ∀ j, j < N → σ.1 16 j = dr j) (hx : (i < N → x = 1) ∧ (N ≤ i → x = 0)) (e2 : σ.1 k 2 = -9) (e3 : σ.1 k 3 = 0) (e4 : σ.1 k 4 = 0) (e5 : σ.1 k 5 = 0) (e6 : σ.1 k 6 = nI 0) : (i < N → hN (sI (sI σ k 0 x) k 1 (σ.1 16 i)) k (fsN (dr i))) ∧ (N ≤ i → (sI (sI σ k 0 x) k 1 (σ.1 16 i)).1 k 0 = 0) := by
  constructor
  · intro h
    refine ⟨?_, by rw [sI_r, if_neg (by omega), sI_r, if_neg (by omega)]; exact e6, by show 0 ≤ 4; omega, fun j s hs => (by cases hs)⟩
    have x1 := hx.1 h
    have d1 := h16 i h
    refine lt6 ?_ ?_ ?_ ?_ ?_ ?_
    · rw [sI_r, if_neg (by omega), sI_r, if_pos ⟨rfl, rfl⟩, x1]; rfl
    · rw [sI_r, if_pos ⟨rfl, rfl⟩, d1]; rfl
    · rw [sI_r, if_neg (by omega), sI_r, if_neg (by omega), e2]; rfl
    · rw [sI_r, if_neg (by omega), sI_r, if_neg (by omega), e3]; rfl
    · rw [sI_r, if_neg (by omega), sI_r, if_neg (by omega), e4]; rfl
    · rw [sI_r, if_neg (by omega), sI_r, if_neg (by omega), e5]; rfl
  · intro h
    rw [sI_r, if_neg (by omega), sI_r, if_pos ⟨rfl, rfl⟩]
    exact hx.2 h
theorem A_begin_loop {N : Nat} {dr : Nat → Int32} (hN5 : N ≤ 5) : ∀ (d i fuel : Nat) (σ : MT), i + d = 5 → d < fuel → σ.1 15 3 = nI N → (∀ j, j < N → σ.1 16 j = dr j) → (∀ j, j < i → (j < N → hN σ (61 + 1 + 1 + 4 * j) (fsN (dr j))) ∧ (N ≤ j → σ.1 (61 + 1 + 1 + 4 * j) 0 = 0)) → ∃ τ, f_St_begin_12 fuel 61 15 (nI i) σ = some τ ∧ (∀ j, j < 5 → (j < N → hN τ (61 + 1 + 1 + 4 * j) (fsN (dr j))) ∧ (N ≤ j → τ.1 (61 + 1 + 1 + 4 * j) 0 = 0)) ∧ EO PBg σ τ ∧ τ.1 61 = σ.1 61
  | 0, i, fuel, σ, hi, hf, h3, h16, h => by
    obtain ⟨f, rfl⟩ : ∃ f, fuel = f + 1 := ⟨fuel - 1, by omega⟩
    have : i = 5 := by omega
    subst this
    refine ⟨σ, ?_, h, EO.rf, rfl⟩
    rw [f_St_begin_12, if_pos ((nge_5 (by omega)).mpr (by omega))]
  | d + 1, i, fuel, σ, hi, hf, h3, h16, h => by
    obtain ⟨f, rfl⟩ : ∃ f, fuel = f + 1 := ⟨fuel - 1, by omega⟩
    rw [f_St_begin_12, if_neg (fun z => absurd ((nge_5 (by omega)).mp z) (by omega)), if_pos (inb_n (by omega) (by decide)), nIc (by omega)]
    unfold f_Nd_forget f_Nd_forget_21
    rw [Option.bind_some, if_pos (inb_n (by omega) (by decide))]
    generalize hk : 61 + 1 + 1 + 4 * i = k
    have k1 : 61 < k ∧ k < 83 ∧ k ≠ 61 := by omega
    generalize hσ : sI (sI (sI (sI (sI σ k 2 (-9)) k 3 0) k 4 0) k 5 0) k 6 0 = υ
    have ev : EO (fun c => c = k) σ υ := by
      rw [← hσ]
      exact (((((EO.rf (P := fun c => c = k)).i rfl).i rfl).i rfl).i rfl).i rfl
    have e2 : υ.1 k 2 = -9 := by rw [← hσ]; simp [sI_r]
    have e3 : υ.1 k 3 = 0 := by rw [← hσ]; simp [sI_r]
    have e4 : υ.1 k 4 = 0 := by rw [← hσ]; simp [sI_r]
    have e5 : υ.1 k 5 = 0 := by rw [← hσ]; simp [sI_r]
    have e6 : υ.1 k 6 = nI 0 := by rw [← hσ]; simp [sI_r]; rfl
    have u15 : υ.1 15 3 = nI N := by rw [ev.1 15 (by omega)]; exact h3
    have u16 : ∀ j, j < N → υ.1 16 j = dr j := fun j hj => by rw [ev.1 16 (by omega)]; exact h16 j hj
    have step : ∀ x : Int32, zbb x = true → ((i < N → x = 1) ∧ (N ≤ i → x = 0)) → ∃ τ, f_St_begin_45 (f_St_begin_12 f) 61 15 (nI i) x k υ = some τ ∧ (∀ j, j < 5 → (j < N → hN τ (61 + 1 + 1 + 4 * j) (fsN (dr j))) ∧ (N ≤ j → τ.1 (61 + 1 + 1 + 4 * j) 0 = 0)) ∧ EO PBg σ τ ∧ τ.1 61 = σ.1 61 := fun x hz hx => by
      unfold f_St_begin_45 f_St_begin_63
      have e16 : (sI υ k 0 x).1 (15 + 1) i = υ.1 16 i := by rw [sI_n (by omega)]
      rw [if_pos hz, if_pos (inb_n (by omega) (by decide)), if_pos (inb_n (by omega) (by decide)), nIc (by omega), e16, nIs, hk]
      have ek : EO (fun c => c = k) σ (sI (sI υ k 0 x) k 1 (υ.1 16 i)) := (ev.i rfl).i rfl
      have fin := begin_fin (N := N) (dr := dr) (x := x) (σ := υ) (k := k) (show i < 5 by omega) hk.symm u16 hx e2 e3 e4 e5 e6
      obtain ⟨τ, p1, p2, p3, p4⟩ := A_begin_loop (dr := dr) hN5 d (i + 1) f (sI (sI υ k 0 x) k 1 (υ.1 16 i)) (by omega) (by omega) (by rw [ek.1 15 (by omega)]; exact h3) (fun j hj => by rw [ek.1 16 (by omega)]; exact h16 j hj) (fun j hj => by
        by_cases z : j = i
        · subst z
          rw [hk]
          exact fin
        · obtain ⟨g1, g2⟩ := h j (by omega)
          exact ⟨fun q => (g1 q).eo ek (by omega) (by omega) (by omega) (by omega), fun q => by rw [ek.1 _ (by omega)]; exact g2 q⟩)
      exact ⟨τ, p1, p2, (ek.mo (fun c hc => by unfold PBg; omega)).tr p3, p4.trans (ek.1 61 (by omega))⟩
    rw [u15]
    by_cases g : N ≤ i
    · rw [if_pos ((nIle (by omega) (by omega)).mpr g)]
      exact step 0 (by decide) ⟨fun z => absurd z (by omega), fun _ => rfl⟩
    · rw [if_neg (fun z => g ((nIle (by omega) (by omega)).mp z))]
      exact step 1 (by decide) ⟨fun _ => rfl, fun z => absurd z g⟩
theorem A_begin {σ : MT} {N : Nat} {dr : Nat → Int32} (hN5 : N ≤ 5) (h3 : σ.1 15 3 = nI N) (h16 : ∀ j, j < N → σ.1 16 j = dr j) : ∃ τ, f_St_begin 61 15 σ = some τ ∧ hA τ 61 N (0, 0, fun i => fsN (dr i)) ∧ EO PBg σ τ := by
  unfold f_St_begin
  have e : EO PBg σ (sI (sI σ 61 0 0) 61 1 0) := EO.i (P := PBg) (EO.i (P := PBg) EO.rf (by unfold PBg; omega)) (by unfold PBg; omega)
  obtain ⟨τ, q1, q2, q3, q4⟩ := A_begin_loop (dr := dr) hN5 5 0 1100 (sI (sI σ 61 0 0) 61 1 0) (by omega) (by omega) (by rw [e.1 15 (by unfold PBg; omega)]; exact h3) (fun j hj => by rw [e.1 16 (by unfold PBg; omega)]; exact h16 j hj) (fun j hj => absurd hj (by omega))
  rw [show nI 0 = (0 : Int32) from rfl] at q1
  refine ⟨τ, q1, ⟨?_, ?_, fun i hi => (q2 i (by omega)).1 hi, fun i h1 h2 => (q2 i h2).2 h1⟩, e.tr q3⟩
  · show τ.1 61 0 = 0
    rw [q4, sI_r, if_neg (by omega), sI_r, if_pos ⟨rfl, rfl⟩]
  · show τ.1 61 1 = 0
    rw [q4, sI_r, if_pos ⟨rfl, rfl⟩]
theorem A_flags : ∀ (d i fuel : Nat) (σ : MT), i + d = 2 → d < fuel → (∀ j, j < i → σ.1 33 j = 0) → ∃ τ, f_TF_net_57 fuel (nI i) σ = some (σ.1 15 3, τ) ∧ (∀ j, j < 2 → τ.1 33 j = 0) ∧ EO (fun c => c = 33) σ τ
  | 0, i, fuel, σ, hi, hf, h => by
    obtain ⟨f, rfl⟩ : ∃ f, fuel = f + 1 := ⟨fuel - 1, by omega⟩
    refine ⟨σ, ?_, fun j hj => h j (by omega), EO.rf⟩
    rw [f_TF_net_57, if_pos ((nge_2 (by omega)).mpr (by omega))]
  | d + 1, i, fuel, σ, hi, hf, h => by
    obtain ⟨f, rfl⟩ : ∃ f, fuel = f + 1 := ⟨fuel - 1, by omega⟩
    rw [f_TF_net_57, if_neg (fun z => absurd ((nge_2 (by omega)).mp z) (by omega)), if_pos (inb_n (by omega) (by decide)), nIc (by omega), nIs, nz0]
    obtain ⟨τ, q1, q2, q3⟩ := A_flags d (i + 1) f (sI σ 33 i 0) (by omega) (by omega) (fun j hj => by
      rw [sI_r]
      by_cases z : j = i
      · rw [if_pos ⟨rfl, z⟩]
      · rw [if_neg (fun w => z w.2)]; exact h j (by omega))
    rw [sI_n (show (15 : Nat) ≠ 33 by omega)] at q1
    exact ⟨τ, q1, q2, (EO.i (P := fun c => c = 33) EO.rf rfl).tr q3⟩
