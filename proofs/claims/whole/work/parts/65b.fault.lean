/-! THE FAULT of the text -/
/-- the reading begins -/
def rd0 (h : Nat → Int32) : RS := (0, 0, 0, (h, 0, 0, fun _ => 0, fun _ => (0, 0)), fun _ => 0)
theorem okR_0 (h : Nat → Int32) : okR (rd0 h) := ⟨by show 0 ≤ 10; omega, ⟨by show 0 ≤ 5; omega, by show 0 ≤ 7; omega, fun i hi => absurd hi (by show ¬ i < 0; omega), fun l hl => absurd hl (by show ¬ l < 0; omega), fun l hl => absurd hl (by show ¬ l < 0; omega)⟩, rfl, fun z => absurd z (by show ¬ 3 ≤ 0; omega), fun z => absurd z (by show ¬ 4 ≤ 0; omega), fun z => absurd z (by show ¬ 5 ≤ 0; omega), fun z => absurd z (by show ¬ 0 = 2; omega), fun z => absurd z (by show ¬ 6 ≤ 0; omega), fun z => absurd z (by show ¬ 7 ≤ 0; omega), fun z => absurd z (by show ¬ 0 = 8; omega), fun z => absurd z (by show ¬ 9 ≤ 0; omega), fun z => absurd z (by show ¬ 0 = 10; omega), fun i hi => absurd hi (by show ¬ i < 0; omega)⟩
def chT (t : TX) (j : Nat) : Nat := (t.1 j).toNatClampNeg
theorem chT_t {t : TX} {j : Nat} (h : IR 0 256 (t.1 j)) : chT t j < 256 ∧ t.1 j = nI (chT t j) := by
  obtain ⟨m, hm, e⟩ := IR_n (n := 256) h (by omega)
  unfold chT
  rw [e, nIc (by omega)]
  exact ⟨hm, rfl⟩
/-- what is read of a text -/
def rdT (t : TX) : Nat × Option RS := rdL (chT t) t.2 0 (rd0 fun _ => 0)
theorem A_read {σ : MT} {t : TX} (h : tA σ t) (hl : t.2 ≤ 60) (hc : ∀ j, j < t.2 → IR 0 256 (t.1 j)) : ∃ τ, f_Rd_read 1 (nI t.2) σ = some (rdV t.2 (rdT t), τ) ∧ EO PRd σ τ ∧ ∀ k w, rdT t = (k, some w) → w.1 = 5 → pF τ 3 w.2.2.2.1 ∧ ∀ i, i < pN w.2.2.2.1 → τ.1 4 i = w.2.2.2.2 i := by
  obtain ⟨τ1, c1, c2, c3, c4, c5, c6⟩ := v_clear (σ := σ) (c := 3)
  unfold f_Rd_read
  rw [c1, Option.bind_some]
  have e1 : EO PRd σ (sI τ1 2 1 0) := EO.i (P := PRd) (c6.mo (fun a ha => by unfold PC at ha; unfold PRd; omega)) (by unfold PRd; omega)
  have r0 : rdA (sI τ1 2 1 0) (rd0 fun j => τ1.1 3 j) := by
    refine ⟨by show (sI τ1 2 1 0).1 2 1 = nI 0; rw [sI_r, if_pos ⟨rfl, rfl⟩]; rfl, fun z => absurd z (by show ¬ (0 = 2 ∨ 0 = 8 ∨ 0 = 10); omega), fun z => absurd z (by show ¬ (0 = 7 ∨ 0 = 8); omega), ⟨⟨by rw [sI_n (by omega)]; rfl, by rw [sI_n (by omega)]; rfl, by rw [sI_n (by omega)]; rfl⟩, by rw [sI_n (by omega)]; exact c3, by rw [sI_n (by omega)]; exact c4, fun i hi => absurd hi (by show ¬ i < 0; omega), fun l hl => absurd hl (by show ¬ l < 0; omega), fun a ha b hb => ⟨fun l hl => absurd hl (by show ¬ l < 0; omega), fun _ => by rw [sI_n (by omega)]; exact c2 a ha b hb⟩⟩, fun i hi => absurd hi (by show ¬ i < 0; omega)⟩
  have hch : ∀ j, j < t.2 → chT t j < 256 := fun j hj => (chT_t (hc j hj)).1
  obtain ⟨τ, q1, q2, q3⟩ := A_read_loop (ch := chT t) hl hch t.2 0 1100 (sI τ1 2 1 0) (rd0 fun j => τ1.1 3 j) (by omega) (by omega) (fun j hj => by rw [e1.1 1 (by unfold PRd; omega), h.2 j hj]; exact (chT_t (hc j hj)).2) r0 (okR_0 _)
  rw [show nI 0 = (0 : Int32) from rfl] at q1
  have sm : simR (rd0 fun j => τ1.1 3 j) (rd0 fun _ => 0) := ⟨0, 0, 0, _, _, _, _, rfl, rfl, fun z => absurd z (by omega), fun z => absurd z (by omega), fun z => absurd z (by omega)⟩
  refine ⟨τ, ?_, e1.tr q2, fun k w hw h5 => ?_⟩
  · rw [q1]
    unfold rdT
    rcases simR_rdL (ch := chT t) t.2 0 _ _ sm with ⟨k, h1, h2⟩ | ⟨k, v, w, h1, h2, h3⟩
    · rw [h1, h2]
    · rw [h1, h2]
      obtain ⟨ph, hd, hdr, f, g, r, dr, rfl, rfl, -⟩ := h3
      rfl
  · unfold rdT at hw
    rcases simR_rdL (ch := chT t) t.2 0 _ _ sm with ⟨k2, h1, h2⟩ | ⟨k2, v, u, h1, h2, h3⟩
    · rw [h2] at hw; cases hw
    · rw [h2] at hw
      cases hw
      obtain ⟨x, -⟩ := q3 _ v h1
      obtain ⟨ph, hd, hdr, f, g, r, dr, rfl, rfl, s0, s1, s2⟩ := h3
      have p5 : ph = 5 := h5
      obtain ⟨-, -, -, x4, x5⟩ := x
      refine ⟨?_, x5⟩
      obtain ⟨⟨y0, y1, y2⟩, y⟩ := x4
      exact ⟨⟨y0.trans (s0 (by omega)), y1.trans (s1 (by omega)), y2.trans (s2 (by omega))⟩, y⟩
theorem B_read {σ : MT} {t : TX} (h : tB σ t) (hl : t.2 ≤ 60) (hc : ∀ j, j < t.2 → IR 0 256 (t.1 j)) : ∃ τ, f_M_readText σ = some (rdV t.2 (rdT t), τ) ∧ FRB σ τ ∧ ∀ k w, rdT t = (k, some w) → w.1 = 5 → rdB τ w := by
  have hch : ∀ j, j < t.2 → chT t j < 256 := fun j hj => (chT_t (hc j hj)).1
  unfold f_M_readText f_M_readText_21
  have fr : FRB σ (sI (sI (sI (sI σ 38 31 0) 38 34 0) 38 37 70) 38 38 0) := (((FRB.rf.f (by omega)).f (by omega)).f (by omega)).f (by omega)
  have e1 : (sI (sI (sI (sI σ 38 31 0) 38 34 0) 38 37 70) 38 38 0).1 38 1 = nI t.2 := (fr.2.1 1 (by omega)).trans h.1
  have e39 : ∀ j, j < t.2 → (sI (sI (sI (sI σ 38 31 0) 38 34 0) 38 37 70) 38 38 0).1 39 j = nI (chT t j) := fun j hj => by
    rw [fr.1 39 (by omega) (by omega), h.2 j hj]; exact (chT_t (hc j hj)).2
  rw [e1]
  by_cases h0 : t.2 = 0
  · have ev : rdT t = (0, some (rd0 fun _ => 0)) := by
      unfold rdT
      rw [h0]; rfl
    rw [if_pos ((neq_0 (by omega)).mpr h0), ev]
    refine ⟨_, ?_, fr, fun k w hw h5 => ?_⟩
    · show _ = some (nI t.2, _)
      rw [h0]; rfl
    · cases hw
      exact absurd h5 (by show ¬ 0 = 5; omega)
  · obtain ⟨d, hd⟩ : ∃ d, t.2 = d + 1 := ⟨t.2 - 1, by omega⟩
    have e0 : (sI (sI (sI (sI σ 38 31 0) 38 34 0) 38 37 70) 38 38 0).1 39 (0 : Int32).toNatClampNeg = nI (chT t 0) := e39 0 (by omega)
    have c0 := hch 0 (by omega)
    have ev : rdT t = (match stp (chT t 0) (rd0 fun _ => 0) with | none => (0, none) | some w => rdL (chT t) d 1 w) := by
      unfold rdT
      rw [hd]; rfl
    have es : stp (chT t 0) (rd0 fun _ => 0) = if chT t 0 = 70 then some (1, (rd0 fun _ => 0).2) else none := rfl
    rw [if_neg (fun z => h0 ((neq_0 (by omega)).mp z)), if_pos (by decide), e0]
    by_cases g : chT t 0 = 70
    · rw [es, if_pos g] at ev
      rw [if_pos ((neq_70 (by omega)).mpr g)]
      have ev' : rdT t = rdL (chT t) d 1 (1, (rd0 fun _ => 0).2) := ev
      have r0 : rdB (sI (sI (sI (sI σ 38 31 0) 38 34 0) 38 37 70) 38 38 0) (1, (rd0 fun _ => 0).2) := by
        refine ⟨⟨by simp [sI_r]; rfl, by simp [sI_r]; rfl, fun i hi => absurd hi (by show ¬ i < 0; omega), fun l hl => absurd hl (by show ¬ l < 0; omega)⟩, fun i hi => absurd hi (by show ¬ i < 0; omega), ?_⟩
        show (sI (sI (sI (sI σ 38 31 0) 38 34 0) 38 37 70) 38 38 0).1 38 37 = 70 ∧ (sI (sI (sI (sI σ 38 31 0) 38 34 0) 38 37 70) 38 38 0).1 38 38 = nI 0
        exact ⟨by simp [sI_r], by simp [sI_r]; rfl⟩
      obtain ⟨τ, q1, q2, q3⟩ := B_read_loop (ch := chT t) hl hch d 1 1100 _ _ (by omega) (by omega) e1 e39 r0 (okR_stp (n := 70) (okR_0 fun _ => 0) rfl) (by show 1 ≤ 1; omega)
      rw [show nI 1 = (1 : Int32) from rfl] at q1
      rw [q1, ev']
      exact ⟨τ, rfl, fr.tr q2, fun k w hw _ => (q3 k w hw).1⟩
    · rw [es, if_neg g] at ev
      rw [if_neg (fun z => g ((neq_70 (by omega)).mp z))]
      have ev' : rdT t = (0, none) := ev
      rw [ev']
      exact ⟨_, rfl, fr, fun k w hw => (by cases hw)⟩
theorem FRB.fb {σ τ : MT} (h : FRB σ τ) : FB σ τ := ⟨fun c hc => h.1 c (by unfold keB at hc; omega) (by unfold keB at hc; omega), h.2.1, by rw [h.2.2]⟩
theorem FRB.cb {σ τ : MT} (h : FRB σ τ) : CB σ τ := ⟨fun c hc => h.1 c (by omega) (by omega), by rw [h.2.2]⟩
theorem PRd_fa {σ τ : MT} (h : EO PRd σ τ) : FA σ τ := h.fa (fun c hc => by unfold keA at hc; unfold PRd; omega)
theorem PRd_ca {σ τ : MT} (h : EO PRd σ τ) : CA σ τ := h.ca (fun c h1 h2 => by unfold PRd; omega)
theorem op_fault {S : AS} {B : Nat} (ok : okA S B) : op f_TF_fault f_M_fault S B := by
  have hN := ok.1.1
  have ok2 := ok
  obtain ⟨-, -, -, -, ⟨hl, hc⟩, -⟩ := ok2
  refine ⟨S, ok.le (by omega), rdV (aT S).2 (rdT (aT S)), fun σ h => ?_, fun σ h => ?_⟩
  · obtain ⟨τ, q1, q2, -⟩ := A_read h.1 hl hc
    unfold f_TF_fault
    rw [h.1.1, q1, Option.bind_some]
    exact ⟨τ, rfl, h.fr hN (PRd_fa q2), PRd_ca q2⟩
  · obtain ⟨τ, q1, q2, -⟩ := B_read h.1 hl hc
    unfold f_M_fault
    rw [q1, Option.bind_some]
    exact ⟨τ, rfl, h.fr hN q2.fb, q2.cb⟩
