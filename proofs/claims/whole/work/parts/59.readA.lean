/-! THE CLASS as it reads -/
def rdA (σ : MT) (s : RS) : Prop := σ.1 2 1 = nI s.1 ∧ ((s.1 = 2 ∨ s.1 = 8 ∨ s.1 = 10) → σ.1 2 2 = nI s.2.1) ∧ ((s.1 = 7 ∨ s.1 = 8) → σ.1 2 3 = s.2.2.1) ∧ pF σ 3 s.2.2.2.1 ∧ ∀ i, i < pN s.2.2.2.1 → σ.1 4 i = s.2.2.2.2 i
def PRd : Nat → Prop := fun c => 2 ≤ c ∧ c < 14
theorem pF.f {σ : MT} {c : Nat} {q : PLN} {j : Nat} {v : Int32} (h : pF σ c q) (hj : j < 3) : pF (sI σ c j v) c (setF q j v) := by
  obtain ⟨⟨f0, f1, f2⟩, h3, h4, h5, h6, h7⟩ := h
  have g : ∀ i, i < 3 → (sI σ c j v).1 c i = (setF q j v).1 i := fun i hi => by
    rw [sI_r]
    show _ = (if i = j then v else q.1 i)
    by_cases z : i = j
    · rw [if_pos ⟨rfl, z⟩, if_pos z]
    · rw [if_neg (fun w => z w.2), if_neg z]
      obtain rfl | rfl | rfl : i = 0 ∨ i = 1 ∨ i = 2 := by omega
      · exact f0
      · exact f1
      · exact f2
  exact ⟨⟨g 0 (by omega), g 1 (by omega), g 2 (by omega)⟩, by rw [sI_r, if_neg (by omega)]; exact h3, by rw [sI_r, if_neg (by omega)]; exact h4, fun i hi => by rw [sI_n (by omega)]; exact h5 i hi, fun l hl => by rw [sI_n (by omega), sI_n (by omega)]; exact h6 l hl, fun a ha b hb => by rw [sI_n (by omega)]; exact h7 a ha b hb⟩
theorem pF.w2 {σ : MT} {q : PLN} {j : Nat} {v : Int32} (h : pF σ 3 q) : pF (sI σ 2 j v) 3 q := h.eo (P := fun a => a = 2) (EO.i (P := fun a => a = 2) EO.rf rfl) (fun a h1 h2 => by omega)
theorem ngt_32 {b : Nat} (h : b < 2147483648) : (32 : Int32) < nI b ↔ 32 < b := nIlt (a := 32) (by omega) h
theorem A_head {σ : MT} {ph hd f : Nat} {hdr : Int32} {q : PLN} {dr : Nat → Int32} (h : rdA σ (ph, hd, hdr, q, dr)) (hf : f < 10) (hh : ph = 2 → hd ≤ 3) (h1 : 1 ≤ ph) (h4 : ph ≤ 4) : ∃ τ r, f_Rd_takesOfHead (nI f) σ = some (r, τ) ∧ EO PRd σ τ ∧ (dgt f (ph, hd, hdr, q, dr) = none → r = 0) ∧ ∀ w, dgt f (ph, hd, hdr, q, dr) = some w → r = 1 ∧ rdA τ w := by
  obtain ⟨a1, a2, a3, a4, a5⟩ := h
  simp only at a1 a2 a3 a4 a5
  have frm : ∀ k j v k2 j2 v2, PRd k → PRd k2 → EO PRd σ (sI (sI σ k j v) k2 j2 v2) := fun k j v k2 j2 v2 h1 h2 => EO.i (P := PRd) (EO.i (P := PRd) EO.rf h1) h2
  unfold f_Rd_takesOfHead
  rw [a1]
  obtain rfl | rfl | rfl | rfl : ph = 1 ∨ ph = 2 ∨ ph = 3 ∨ ph = 4 := by omega
  · rw [if_pos (by decide)]
    have e : dgt f (1, hd, hdr, q, dr) = if f ≤ 3 then some (2, f, hdr, q, dr) else none := rfl
    by_cases g : f ≤ 3
    · rw [if_neg (fun z => by have := (ngt_3 (by omega)).mp z; omega)]
      refine ⟨_, _, rfl, frm _ _ _ _ _ _ (by unfold PRd; omega) (by unfold PRd; omega), fun z => (by rw [e, if_pos g] at z; cases z), fun w hw => ?_⟩
      rw [e, if_pos g] at hw
      cases hw
      exact ⟨rfl, by show (sI (sI σ 2 2 (nI f)) 2 1 2).1 2 1 = nI 2; simp [sI_r]; rfl, fun _ => by simp [sI_r], fun z => absurd z (by show ¬ (2 = 7 ∨ 2 = 8); omega), a4.w2.w2, fun i hi => by rw [sI_n (by omega), sI_n (by omega)]; exact a5 i hi⟩
    · rw [if_pos ((ngt_3 (by omega)).mpr (by omega))]
      exact ⟨_, _, rfl, frm _ _ _ _ _ _ (by unfold PRd; omega) (by unfold PRd; omega), fun _ => rfl, fun w hw => (by rw [e, if_neg g] at hw; cases hw)⟩
  · have e : dgt f (2, hd, hdr, q, dr) = if 8 ≤ 10 * hd + f ∧ 10 * hd + f ≤ 32 then some (3, hd, hdr, setF q 0 (nI (10 * hd + f)), dr) else none := rfl
    have hd3 := hh rfl
    have r0 : (sI (sI σ 3 0 (nI (10 * hd + f))) 2 1 3).1 3 0 = nI (10 * hd + f) := by rw [sI_n (by omega), sI_r, if_pos ⟨rfl, rfl⟩]
    rw [if_neg (by decide), if_pos (by decide), a2 (Or.inl rfl), ten, r0]
    by_cases g : 8 ≤ 10 * hd + f ∧ 10 * hd + f ≤ 32
    · rw [if_neg (fun z => by have := (nlt_8 (by omega)).mp z; omega), if_neg (fun z => by have := (ngt_32 (by omega)).mp z; omega)]
      refine ⟨_, _, rfl, frm _ _ _ _ _ _ (by unfold PRd; omega) (by unfold PRd; omega), fun z => (by rw [e, if_pos g] at z; cases z), fun w hw => ?_⟩
      rw [e, if_pos g] at hw
      cases hw
      exact ⟨rfl, by show (sI (sI σ 3 0 (nI (10 * hd + f))) 2 1 3).1 2 1 = nI 3; simp [sI_r]; rfl, fun z => absurd z (by show ¬ (3 = 2 ∨ 3 = 8 ∨ 3 = 10); omega), fun z => absurd z (by show ¬ (3 = 7 ∨ 3 = 8); omega), (a4.f (by omega)).w2, fun i hi => by rw [sI_n (by omega), sI_n (by omega)]; exact a5 i hi⟩
    · refine ⟨_, 0, ?_, frm 3 0 (nI (10 * hd + f)) 2 1 3 (by unfold PRd; omega) (by unfold PRd; omega), fun _ => rfl, fun w hw => (by rw [e, if_neg g] at hw; cases hw)⟩
      by_cases g8 : 10 * hd + f < 8
      · rw [if_pos ((nlt_8 (by omega)).mpr g8)]
      · rw [if_neg (fun z => g8 ((nlt_8 (by omega)).mp z)), if_pos ((ngt_32 (by omega)).mpr (by omega))]
  · have e : dgt f (3, hd, hdr, q, dr) = if 1 ≤ f then some (4, hd, hdr, setF q 1 (nI f), dr) else none := rfl
    rw [if_neg (by decide), if_neg (by decide), if_pos (by decide)]
    by_cases g : 1 ≤ f
    · rw [if_neg (fun z => by have := (nlt_1 (by omega)).mp z; omega)]
      refine ⟨_, _, rfl, frm _ _ _ _ _ _ (by unfold PRd; omega) (by unfold PRd; omega), fun z => (by rw [e, if_pos g] at z; cases z), fun w hw => ?_⟩
      rw [e, if_pos g] at hw
      cases hw
      exact ⟨rfl, by show (sI (sI σ 3 1 (nI f)) 2 1 4).1 2 1 = nI 4; simp [sI_r]; rfl, fun z => absurd z (by show ¬ (4 = 2 ∨ 4 = 8 ∨ 4 = 10); omega), fun z => absurd z (by show ¬ (4 = 7 ∨ 4 = 8); omega), (a4.f (by omega)).w2, fun i hi => by rw [sI_n (by omega), sI_n (by omega)]; exact a5 i hi⟩
    · rw [if_pos ((nlt_1 (by omega)).mpr (by omega))]
      exact ⟨_, _, rfl, frm _ _ _ _ _ _ (by unfold PRd; omega) (by unfold PRd; omega), fun _ => rfl, fun w hw => (by rw [e, if_neg g] at hw; cases hw)⟩
  · have e : dgt f (4, hd, hdr, q, dr) = some (5, hd, hdr, setF q 2 (nI f), dr) := rfl
    rw [if_neg (by decide), if_neg (by decide), if_neg (by decide)]
    refine ⟨_, _, rfl, frm _ _ _ _ _ _ (by unfold PRd; omega) (by unfold PRd; omega), fun z => (by rw [e] at z; cases z), fun w hw => ?_⟩
    rw [e] at hw
    cases hw
    exact ⟨rfl, by show (sI (sI σ 3 2 (nI f)) 2 1 5).1 2 1 = nI 5; simp [sI_r]; rfl, fun z => absurd z (by show ¬ (5 = 2 ∨ 5 = 8 ∨ 5 = 10); omega), fun z => absurd z (by show ¬ (5 = 7 ∨ 5 = 8); omega), (a4.f (by omega)).w2, fun i hi => by rw [sI_n (by omega), sI_n (by omega)]; exact a5 i hi⟩
