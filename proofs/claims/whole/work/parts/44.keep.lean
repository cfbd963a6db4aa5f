/-! keep, again, ahead, agree -/
theorem nlt_2' {b : Nat} (h : b < 2147483648) : nI b < (2 : Int32) ↔ b < 2 := nIlt (b := 2) h (by omega)
def putK (K : Nat → SV × Bool) (x : Nat) (sv : SV) : Nat → SV × Bool := fun s => if s = x then (sv, true) else K s
theorem B_keep_loop {x : Nat} {σ0 : MT} (hx : x < 2) : ∀ (d i fuel : Nat) (σ : MT), i + d = 103 → d < fuel → EO (fun a => a = 46) σ0 σ → (∀ j, j < i → σ.1 46 (103 * x + j) = σ0.1 43 j) → (∀ b, b < 103 * x ∨ 103 * x + 103 ≤ b → σ.1 46 b = σ0.1 46 b) → ∃ τ, f_M_keep_21 fuel (nI x) (nI i) σ = some (σ0.1 43 102, τ) ∧ EO (fun a => a = 46) σ0 τ ∧ (∀ j, j < 103 → τ.1 46 (103 * x + j) = σ0.1 43 j) ∧ ∀ b, b < 103 * x ∨ 103 * x + 103 ≤ b → τ.1 46 b = σ0.1 46 b
  | 0, i, fuel, σ, hi, hf, e, hj, ho => by
    obtain ⟨f, rfl⟩ : ∃ f, fuel = f + 1 := ⟨fuel - 1, by omega⟩
    have : i = 103 := by omega
    subst this
    refine ⟨σ, ?_, e, hj, ho⟩
    rw [f_M_keep_21, if_pos ((nge_103 (by omega)).mpr (by omega)), i102, c102, if_pos rfl, e.1 43 (by omega)]
  | d + 1, i, fuel, σ, hi, hf, e, hj, ho => by
    obtain ⟨f, rfl⟩ : ∃ f, fuel = f + 1 := ⟨fuel - 1, by omega⟩
    have em : (103 : Int32) * nI x + nI i = nI (103 * x + i) := by
      rw [show (103 : Int32) * nI x = nI (103 * x) from pk_mul 103 x, nI_add]
    rw [f_M_keep_21, if_neg (fun q => absurd ((nge_103 (by omega)).mp q) (by omega)), em, if_pos (inb_n (by omega) (by decide)), if_pos (inb_n (by omega) (by decide)), nIc (by omega), nIc (by omega), e.1 43 (by omega)]
    unfold f_M_keep_44
    rw [nIs]
    refine B_keep_loop hx d (i + 1) f _ (by omega) (by omega) (EO.i (P := fun a => a = 46) e rfl) (fun j hji => ?_) (fun b hb => ?_)
    · rw [sI_r]
      by_cases q : j = i
      · rw [if_pos ⟨rfl, by rw [q]⟩, q]
      · rw [if_neg (fun z => q (by omega))]
        exact hj j (by omega)
    · rw [sI_r, if_neg (by omega)]
      exact ho b hb
theorem slotI (x : Int32) : (∃ n, n < 2 ∧ x = nI n) ∨ (x.toInt < 0 ∨ 2 ≤ x.toInt) := rngI x 2 (by omega)
theorem A_slot {x : Int32} (h : x.toInt < 0 ∨ 2 ≤ x.toInt) : x < 0 ∨ (¬ x < 0 ∧ ¬ x < 2) := by
  rw [Int32.lt_iff_toInt_lt, Int32.lt_iff_toInt_lt, Int32.toInt_zero, show (2 : Int32).toInt = 2 from rfl]
  omega
theorem op_keep {S : AS} {B : Nat} (ok : okA S B) (x : Int32) : op (f_TF_keep x) (f_M_keep x) S B := by
  have hp := ok.1
  have hN5 : pN (aP S) ≤ 5 := ok.1.1
  have z0 : (0 : Int64).toInt = 0 := rfl
  have z1 : (1 : Int64).toInt = 1 := rfl
  rcases slotI x with ⟨n, hn, rfl⟩ | hx
  · obtain ⟨t, p, sv, K, J, G, d⟩ := S
    obtain ⟨o1, o2, o3, o4⟩ := ok.le (B' := B + 4000) (by omega)
    refine ⟨(t, p, sv, putK K n sv, J, G, d), ⟨o1, o2, fun s hs hk => ?_, o4⟩, sv.1, fun σ h => ?_, fun σ h => ?_⟩
    · show okS p (B + 4000) (if s = n then (sv, true) else K s).1
      by_cases q : s = n
      · rw [if_pos q]; exact o2
      · rw [if_neg q]
        refine o3 s hs ?_
        have : (if s = n then (sv, true) else K s).2 = true := hk
        rwa [if_neg q] at this
    · unfold f_TF_keep
      rw [if_neg (fun q => absurd ((nlt_0 (by omega)).mp q) (by omega)), if_pos ((nlt_2' (by omega)).mpr hn), inb_n hn (by decide), if_pos rfl, nIc (by omega), nz1]
      obtain ⟨h1, h2, h3, h4, h5, h6, h7⟩ := h
      obtain ⟨τ, q1, q2, q3⟩ := A_copy (k := 105 + 22 * n) (m := 61) (by omega) h3 o2.1 hN5
      rw [q1, Option.bind_some, if_pos rfl, sI_n (by omega)]
      have k : ∀ c, c ≠ 33 → ¬ PS (105 + 22 * n) c → (sI τ 33 n 1).1 c = σ.1 c := fun c hc hn => (sI_n hc).trans (q3.1 c hn)
      refine ⟨_, by rw [q3.1 61 (by unfold PS; omega)]; exact congrArg some (congrArg (fun a => (a, _)) h3.1), ⟨h1.e (k _ (by omega) (by unfold PS; omega)) (k _ (by omega) (by unfold PS; omega)), h2.e (fun a _ _ => k a (by omega) (by unfold PS; omega)), h3.e hN5 (fun a _ _ => k a (by omega) (by unfold PS; omega)), fun s hs => ?_, h5.e hN5 (k _ (by omega) (by unfold PS; omega)) (fun a _ => k a (by omega) (by unfold PS; omega)), h6.e (k _ (by omega) (by unfold PS; omega)) (k _ (by omega) (by unfold PS; omega)) (k _ (by omega) (by unfold PS; omega)) (k _ (by omega) (by unfold PS; omega)), by show τ.2 0 = _; rw [q3.2]; exact h7⟩, ⟨fun c _ _ => k c (by omega) (by unfold PS; omega), by show τ.2 38 = _; rw [q3.2]⟩⟩
      by_cases q : s = n
      · subst q
        have e0 : putK K s sv s = (sv, true) := by unfold putK; simp
        rw [show aK (t, p, sv, putK K s sv, J, G, d) = putK K s sv from rfl, e0]
        exact ⟨by simp [sI_r, bI], fun _ => q2.e hN5 (fun c _ _ => sI_n (by omega))⟩
      · have e0 : putK K n sv s = K s := by unfold putK; simp [q]
        rw [show aK (t, p, sv, putK K n sv, J, G, d) = putK K n sv from rfl, e0]
        obtain ⟨a, b⟩ := h4 s hs
        exact ⟨by rw [sI_r, if_neg (fun z => q z.2), q3.1 33 (by unfold PS; omega)]; exact a, fun z => (b z).e hN5 (fun c _ _ => k c (by omega) (by unfold PS; omega))⟩
    · unfold f_M_keep
      rw [v_in, Option.bind_some, Int32.toInt_toInt64, nIt (by omega), z0, z1, if_pos (c := (0 : Int) ≤ (n : Int) ∧ (n : Int) ≤ 1) (by omega), if_neg (by decide), inb_n hn (by decide), if_pos rfl, nIc (by omega), nz1]
      obtain ⟨h1, h2, h3, h4, h5, h6, h7⟩ := h
      obtain ⟨τ, q1, q2, q3, q4⟩ := B_keep_loop (σ0 := sI σ 47 n 1) hn 103 0 1100 (sI σ 47 n 1) (by omega) (by omega) EO.rf (fun j hj => absurd hj (by omega)) (fun _ _ => rfl)
      rw [show nI 0 = (0 : Int32) from rfl] at q1
      have k : ∀ c, c ≠ 46 → c ≠ 47 → τ.1 c = σ.1 c := fun c a b => (q2.1 c a).trans (sI_n b)
      have e43 : (sI σ 47 n 1).1 43 = σ.1 43 := sI_n (by omega)
      have e46 : (sI σ 47 n 1).1 46 = σ.1 46 := sI_n (by omega)
      rw [q1, e43, show σ.1 43 102 = sv.1 from h3.1]
      refine ⟨τ, rfl, ⟨h1.e (by rw [k 38 (by omega) (by omega)]) (k _ (by omega) (by omega)), h2.e (fun j _ _ => by rw [k 38 (by omega) (by omega)]) (k _ (by omega) (by omega)) (k _ (by omega) (by omega)) (k _ (by omega) (by omega)), h3.e hN5 (k _ (by omega) (by omega)), fun s hs => ?_, h5.e hN5 (by rw [k 38 (by omega) (by omega)]) (by rw [k 38 (by omega) (by omega)]) (k _ (by omega) (by omega)), h6.e (by rw [k 38 (by omega) (by omega)]) (k _ (by omega) (by omega)) (k _ (by omega) (by omega)) (k _ (by omega) (by omega)), by rw [q2.2]; exact h7⟩, ⟨fun c hc => k c (by omega) (by omega), by rw [q2.2]; rfl⟩⟩
      have e47 : τ.1 47 = (sI σ 47 n 1).1 47 := q2.1 47 (by omega)
      by_cases q : s = n
      · subst q
        have e0 : putK K s sv s = (sv, true) := by unfold putK; simp
        rw [show aK (t, p, sv, putK K s sv, J, G, d) = putK K s sv from rfl, e0, e47]
        exact ⟨by simp [sI_r, bI], fun _ => (hR_o.mp h3).cp hN5 (fun j hj => by rw [q3 j hj, e43, Nat.zero_add])⟩
      · have e0 : putK K n sv s = K s := by unfold putK; simp [q]
        rw [show aK (t, p, sv, putK K n sv, J, G, d) = putK K n sv from rfl, e0, e47]
        obtain ⟨a, b⟩ := h4 s hs
        exact ⟨by rw [sI_r, if_neg (fun z => q z.2)]; exact a, fun z => (b z).cp hN5 (fun j hj => by rw [q4 _ (by omega), e46])⟩
  · refine op_rf ok (-1) (fun σ h => ?_) (fun σ h => ?_)
    · unfold f_TF_keep
      rcases A_slot hx with q | ⟨q1, q2⟩
      · rw [if_pos q]
      · rw [if_neg q1, if_neg q2]
    · unfold f_M_keep
      rw [v_in, Option.bind_some, Int32.toInt_toInt64, z0, z1, if_neg (c := 0 ≤ x.toInt ∧ x.toInt ≤ 1) (by omega), if_pos rfl]
theorem B_again_loop {x : Nat} {σ0 : MT} (hx : x < 2) : ∀ (d i fuel : Nat) (σ : MT), i + d = 103 → d < fuel → EO (fun a => a = 43) σ0 σ → (∀ j, j < i → σ.1 43 j = σ0.1 46 (103 * x + j)) → ∃ τ, f_M_again_26 fuel (nI x) (nI i) σ = some (σ0.1 46 (103 * x + 102), sI τ 38 13 0) ∧ EO (fun a => a = 43) σ0 τ ∧ ∀ j, j < 103 → τ.1 43 j = σ0.1 46 (103 * x + j)
  | 0, i, fuel, σ, hi, hf, e, hj => by
    obtain ⟨f, rfl⟩ : ∃ f, fuel = f + 1 := ⟨fuel - 1, by omega⟩
    have : i = 103 := by omega
    subst this
    refine ⟨σ, ?_, e, hj⟩
    rw [f_M_again_26, if_pos ((nge_103 (by omega)).mpr (by omega)), i102, c102, if_pos rfl, sI_n (by omega), hj 102 (by omega)]
  | d + 1, i, fuel, σ, hi, hf, e, hj => by
    obtain ⟨f, rfl⟩ : ∃ f, fuel = f + 1 := ⟨fuel - 1, by omega⟩
    have em : (103 : Int32) * nI x + nI i = nI (103 * x + i) := by
      rw [show (103 : Int32) * nI x = nI (103 * x) from pk_mul 103 x, nI_add]
    rw [f_M_again_26, if_neg (fun q => absurd ((nge_103 (by omega)).mp q) (by omega)), em, if_pos (inb_n (by omega) (by decide)), if_pos (inb_n (by omega) (by decide)), nIc (by omega), nIc (by omega), e.1 46 (by omega)]
    unfold f_M_again_49
    rw [nIs]
    refine B_again_loop hx d (i + 1) f _ (by omega) (by omega) (EO.i (P := fun a => a = 43) e rfl) (fun j hji => ?_)
    rw [sI_r]
    by_cases q : j = i
    · rw [if_pos ⟨rfl, q⟩, q]
    · rw [if_neg (fun z => q z.2)]
      exact hj j (by omega)
theorem vR_0 {r : Nat → SV} {n e : Nat} : ¬ vR (r, n, 0) e := fun q => absurd q.2 (by show ¬ _ < 0; omega)
theorem op_again {S : AS} {B : Nat} (ok : okA S B) (x : Int32) : op (f_TF_again x) (f_M_again x) S B := by
  have hp := ok.1
  have hN5 : pN (aP S) ≤ 5 := ok.1.1
  have z0 : (0 : Int64).toInt = 0 := rfl
  have z1 : (1 : Int64).toInt = 1 := rfl
  rcases slotI x with ⟨n, hn, rfl⟩ | hx
  · cases hk : (aK S n).2 with
    | false =>
      refine op_rf ok (-3) (fun σ h => ?_) (fun σ h => ?_)
      · unfold f_TF_again
        rw [if_neg (fun q => absurd ((nlt_0 (by omega)).mp q) (by omega)), if_pos ((nlt_2' (by omega)).mpr hn), inb_n hn (by decide), if_pos rfl, nIc (by omega), (h.2.2.2.1 n hn).1, hk, if_pos bI_f]
      · unfold f_M_again
        rw [v_in, Option.bind_some, Int32.toInt_toInt64, nIt (by omega), z0, z1, if_pos (c := (0 : Int) ≤ (n : Int) ∧ (n : Int) ≤ 1) (by omega), if_neg (by decide), inb_n hn (by decide), if_pos rfl, nIc (by omega), (h.2.2.2.1 n hn).1, hk, if_pos bI_f]
    | true =>
      obtain ⟨t, p, sv, K, J, G, d⟩ := S
      have hk' : (K n).2 = true := hk
      obtain ⟨o1, o2, o3, o4, o5, ⟨o6, o6'⟩, o7⟩ := ok.le (B' := B + 4000) (by omega)
      have okn : okS p (B + 4000) (K n).1 := o3 n hn hk'
      refine ⟨(t, p, (K n).1, K, (J.1, J.2.1, 0), G, d), ⟨o1, okn, o3, fun e he => absurd he vR_0, o5, ⟨o6, by show 0 ≤ 14; omega⟩, o7⟩, (K n).1.1, fun σ h => ?_, fun σ h => ?_⟩
      · obtain ⟨h1, h2, h3, h4, h5, h6, h7⟩ := h
        obtain ⟨a, b⟩ := h4 n hn
        have a' : σ.1 33 n = bI (K n).2 := a
        unfold f_TF_again f_Jr_clear
        rw [if_neg (fun q => absurd ((nlt_0 (by omega)).mp q) (by omega)), if_pos ((nlt_2' (by omega)).mpr hn), inb_n hn (by decide), if_pos rfl, if_pos rfl, nIc (by omega), a', hk', if_neg (by decide)]
        obtain ⟨τ, q1, q2, q3⟩ := A_copy (k := 61) (m := 105 + 22 * n) (by omega) (b hk') okn.1 hN5
        rw [q1, Option.bind_some, Option.bind_some, sI_n (by omega)]
        have k : ∀ c, c ≠ 30 → ¬ PS 61 c → (sI τ 30 2 0).1 c = σ.1 c := fun c hc hn => (sI_n hc).trans (q3.1 c hn)
        have e30 : τ.1 30 = σ.1 30 := q3.1 30 (by unfold PS; omega)
        refine ⟨sI τ 30 2 0, congrArg some (congrArg (fun a => (a, _)) q2.1), ⟨h1.e (k _ (by omega) (by unfold PS; omega)) (k _ (by omega) (by unfold PS; omega)), h2.e (fun a _ _ => k a (by omega) (by unfold PS; omega)), q2.e hN5 (fun c _ _ => sI_n (by omega)), h4.e hN5 (k _ (by omega) (by unfold PS; omega)) (fun a _ _ => k a (by omega) (by unfold PS; omega)), ⟨?_, by simp [sI_r]; rfl, fun e he => absurd he vR_0⟩, h6.e (k _ (by omega) (by unfold PS; omega)) (k _ (by omega) (by unfold PS; omega)) (k _ (by omega) (by unfold PS; omega)) (k _ (by omega) (by unfold PS; omega)), by show τ.2 0 = _; rw [q3.2]; exact h7⟩, ⟨fun c _ _ => k c (by omega) (by unfold PS; omega), by show τ.2 38 = _; rw [q3.2]⟩⟩
        rw [sI_r, if_neg (by omega), e30]; exact h5.1
      · obtain ⟨h1, h2, h3, h4, h5, h6, h7⟩ := h
        obtain ⟨a, b⟩ := h4 n hn
        have a' : σ.1 47 n = bI (K n).2 := a
        have bb := b hk'
        unfold f_M_again
        rw [v_in, Option.bind_some, Int32.toInt_toInt64, nIt (by omega), z0, z1, if_pos (c := (0 : Int) ≤ (n : Int) ∧ (n : Int) ≤ 1) (by omega), if_neg (by decide), inb_n hn (by decide), if_pos rfl, nIc (by omega), a', hk', if_neg (by decide)]
        obtain ⟨τ, q1, q2, q3⟩ := B_again_loop (σ0 := σ) hn 103 0 1100 σ (by omega) (by omega) EO.rf (fun j hj => absurd hj (by omega))
        rw [show nI 0 = (0 : Int32) from rfl] at q1
        have k : ∀ c, c ≠ 38 → c ≠ 43 → (sI τ 38 13 0).1 c = σ.1 c := fun c x y => (sI_n x).trans (q2.1 c y)
        have k38 : ∀ j, j ≠ 13 → (sI τ 38 13 0).1 38 j = σ.1 38 j := fun j hj => by rw [sI_r, if_neg (fun z => hj z.2), q2.1 38 (by omega)]
        have bt : σ.1 46 (103 * n + 102) = (K n).1.1 := bb.1
        rw [q1, bt]
        have src : hRo (sI τ 38 13 0) 43 0 (pN p) (K n).1 := bb.cp hN5 (fun j hj => by rw [Nat.zero_add, sI_n (by omega), q3 j hj])
        exact ⟨_, rfl, ⟨h1.e (k38 _ (by omega)) (k _ (by omega) (by omega)), h2.e (fun j _ _ => k38 _ (by omega)) (k _ (by omega) (by omega)) (k _ (by omega) (by omega)) (k _ (by omega) (by omega)), hR_o.mpr src, h4.e hN5 (k _ (by omega) (by omega)) (k _ (by omega) (by omega)), ⟨(k38 14 (by omega)).trans h5.1, by simp [sI_r]; rfl, fun e he => absurd he vR_0⟩, h6.e (k38 _ (by omega)) (k _ (by omega) (by omega)) (k _ (by omega) (by omega)) (k _ (by omega) (by omega)), by show τ.2 38 = _; rw [q2.2]; exact h7⟩, ⟨fun c hc => k c (by omega) (by omega), by show τ.2 0 = _; rw [q2.2]⟩⟩
  · refine op_rf ok (-1) (fun σ h => ?_) (fun σ h => ?_)
    · unfold f_TF_again
      rcases A_slot hx with q | ⟨q1, q2⟩
      · rw [if_pos q]
      · rw [if_neg q1, if_neg q2]
    · unfold f_M_again
      rw [v_in, Option.bind_some, Int32.toInt_toInt64, z0, z1, if_neg (c := 0 ≤ x.toInt ∧ x.toInt ≤ 1) (by omega), if_pos rfl]
-- the trial state
def PT : Nat → Prop := fun c => (83 ≤ c ∧ c < 105) ∨ (26 ≤ c ∧ c < 30)
def PU : Nat → Prop := fun c => c = 44 ∨ (51 ≤ c ∧ c < 56)
theorem RA.tr {σ τ : MT} {S : AS} (h : RA σ S) (hN : pN (aP S) ≤ 5) (e : EO PT σ τ) : RA τ S ∧ CA σ τ := ⟨h.fr hN (e.fa (fun c hc => by unfold keA at hc; unfold PT; omega)), e.ca (fun c _ _ => by unfold PT; omega)⟩
theorem RB.tr {σ τ : MT} {S : AS} (h : RB σ S) (hN : pN (aP S) ≤ 5) (e : EO PU σ τ) : RB τ S ∧ CB σ τ := ⟨h.fr hN (e.fb (fun c hc => by unfold keB at hc; unfold PU; omega)), e.cb (fun c _ => by unfold PU; omega)⟩
theorem A_trial {σ : MT} {S : AS} {B : Nat} (h : RA σ S) (ok : okA S B) : ∃ τ, f_St_copyFrom 83 61 σ = some τ ∧ hA τ 83 (pN (aP S)) (aV S) ∧ EO PT σ τ := by
  obtain ⟨τ, q1, q2, q3⟩ := A_copy (k := 83) (m := 61) (by omega) h.2.2.1 ok.2.1.1 ok.1.1
  exact ⟨τ, q1, q2, q3.mo (fun c hc => by unfold PS at hc; unfold PT; omega)⟩
theorem B_trial {σ : MT} {S : AS} {B : Nat} (h : RB σ S) (ok : okA S B) : ∃ τ, f_M_copy 43 44 σ = some τ ∧ hR τ 44 (pN (aP S)) (aV S) ∧ EO PU σ τ := by
  obtain ⟨τ, q1, q2, q3⟩ := B_copy h.2.2.1 ok.1.1
  exact ⟨τ, q1, q2, q3.mo (fun c hc => Or.inl hc)⟩
theorem pA.pt {σ τ : MT} {p : PLN} (h : pA σ 15 p) (e : EO PT σ τ) : pA τ 15 p := h.eo e (fun a _ _ => by unfold PT; omega)
theorem pB.pu {σ τ : MT} {p : PLN} (h : pB σ p) (e : EO PU σ τ) : pB τ p := h.eo e (by unfold PU; omega) (by unfold PU; omega) (by unfold PU; omega) (by unfold PU; omega)
theorem PP83 : ∀ c, PP 83 c → PT c := fun c hc => by unfold PP at hc; unfold PT; omega
theorem SR44 : ∀ c, SR 44 c → PU c := fun c hc => by unfold SR at hc; unfold PU; omega
