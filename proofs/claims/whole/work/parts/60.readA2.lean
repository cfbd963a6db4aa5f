/-! THE CLASS as it reads: digits of a node, of a link -/
theorem m4 {f : Nat} (x : Int32) : x + (-4 : Int32) = x - 4 := by
  rw [Int32.sub_eq_add_neg]
theorem A_item {σ : MT} {ph hd f : Nat} {hdr : Int32} {q : PLN} {dr : Nat → Int32} (h : rdA σ (ph, hd, hdr, q, dr)) (ok : okR (ph, hd, hdr, q, dr)) (hf : f < 10) (h1 : 6 ≤ ph) : ∃ τ r, f_Rd_takesOfItem (nI f) σ = some (r, τ) ∧ EO PRd σ τ ∧ (dgt f (ph, hd, hdr, q, dr) = none → r = 0) ∧ ∀ w, dgt f (ph, hd, hdr, q, dr) = some w → r = 1 ∧ rdA τ w := by
  obtain ⟨a1, a2, a3, a4, a5⟩ := h
  obtain ⟨o0, o1, o2, o3, o4, o5, o6, o7, o8, o9, o10, o11, o12⟩ := ok
  simp only at a1 a2 a3 a4 a5 o0 o1 o2 o3 o4 o5 o6 o7 o8 o9 o10 o11 o12
  have frm : ∀ k j v k2 j2 v2, PRd k → PRd k2 → EO PRd σ (sI (sI σ k j v) k2 j2 v2) := fun k j v k2 j2 v2 h1 h2 => EO.i (P := PRd) (EO.i (P := PRd) EO.rf h1) h2
  unfold f_Rd_takesOfItem
  rw [a1]
  obtain rfl | rfl | rfl | rfl | rfl : ph = 6 ∨ ph = 7 ∨ ph = 8 ∨ ph = 9 ∨ ph = 10 := by omega
  · have e : dgt f (6, hd, hdr, q, dr) = some (7, hd, nI f - 4, q, dr) := rfl
    rw [if_pos (by decide), m4 (f := f)]
    refine ⟨_, _, rfl, frm _ _ _ _ _ _ (by unfold PRd; omega) (by unfold PRd; omega), fun z => (by rw [e] at z; cases z), fun w hw => ?_⟩
    rw [e] at hw
    cases hw
    exact ⟨rfl, by show (sI (sI σ 2 3 (nI f - 4)) 2 1 7).1 2 1 = nI 7; simp [sI_r]; rfl, fun z => absurd z (by show ¬ (7 = 2 ∨ 7 = 8 ∨ 7 = 10); omega), fun _ => by simp [sI_r], a4.w2.w2, fun i hi => by rw [sI_n (by omega), sI_n (by omega)]; exact a5 i hi⟩
  · have e : dgt f (7, hd, hdr, q, dr) = if f ≤ 6 then some (8, f, hdr, q, dr) else none := rfl
    rw [if_neg (by decide), if_pos (by decide)]
    by_cases g : f ≤ 6
    · rw [if_neg (fun z => by have := (ngt_6 (by omega)).mp z; omega)]
      refine ⟨_, _, rfl, frm _ _ _ _ _ _ (by unfold PRd; omega) (by unfold PRd; omega), fun z => (by rw [e, if_pos g] at z; cases z), fun w hw => ?_⟩
      rw [e, if_pos g] at hw
      cases hw
      exact ⟨rfl, by show (sI (sI σ 2 2 (nI f)) 2 1 8).1 2 1 = nI 8; simp [sI_r]; rfl, fun _ => by simp [sI_r], fun _ => by rw [sI_r, if_neg (by omega), sI_r, if_neg (by omega)]; exact a3 (Or.inl rfl), a4.w2.w2, fun i hi => by rw [sI_n (by omega), sI_n (by omega)]; exact a5 i hi⟩
    · rw [if_pos ((ngt_6 (by omega)).mpr (by omega))]
      exact ⟨_, _, rfl, frm _ _ _ _ _ _ (by unfold PRd; omega) (by unfold PRd; omega), fun _ => rfl, fun w hw => (by rw [e, if_neg g] at hw; cases hw)⟩
  · have e : dgt f (8, hd, hdr, q, dr) = if 10 * hd + f ≤ 63 then some (5, hd, hdr, adN q (nI (10 * hd + f)), fun i => if i = pN q then hdr else dr i) else none := rfl
    have hd6 := o9 rfl
    obtain ⟨τ, q1, q2, q3, q4, q5⟩ := v_addNode (d := hdr) (s := nI (10 * hd + f)) a4 (o7 (by omega) (by omega))
    have e22 : τ.1 2 = σ.1 2 := q5.1 2 (by unfold PC; omega)
    have s22 : (sI τ 2 1 5).1 2 2 = nI hd := by rw [sI_r, if_neg (by omega), e22]; exact a2 (Or.inr (Or.inl rfl))
    have fr : EO PRd σ (sI τ 2 1 5) := EO.i (P := PRd) (q5.mo (fun c hc => by unfold PC at hc; unfold PRd; omega)) (by unfold PRd; omega)
    rw [if_neg (by decide), if_neg (by decide), if_pos (by decide), a2 (Or.inr (Or.inl rfl)), a3 (Or.inr rfl), ten, q1, Option.bind_some, s22, ten]
    by_cases g : 10 * hd + f ≤ 63
    · rw [if_neg (fun z => by have := (ngt_63 (by omega)).mp z; omega)]
      refine ⟨_, _, rfl, fr, fun z => (by rw [e, if_pos g] at z; cases z), fun w hw => ?_⟩
      rw [e, if_pos g] at hw
      cases hw
      refine ⟨rfl, by show (sI τ 2 1 5).1 2 1 = nI 5; simp [sI_r]; rfl, fun z => absurd z (by show ¬ (5 = 2 ∨ 5 = 8 ∨ 5 = 10); omega), fun z => absurd z (by show ¬ (5 = 7 ∨ 5 = 8); omega), q2.w2, fun i hi => ?_⟩
      rw [sI_n (by omega)]
      show _ = (if i = pN q then hdr else dr i)
      have hi' : i < pN q + 1 := hi
      by_cases z : i = pN q
      · rw [if_pos z, z]; exact q3
      · rw [if_neg z]; exact (q4 i z).trans (a5 i (by omega))
    · rw [if_pos ((ngt_63 (by omega)).mpr (by omega))]
      exact ⟨_, _, rfl, fr, fun _ => rfl, fun w hw => (by rw [e, if_neg g] at hw; cases hw)⟩
  · have e : dgt f (9, hd, hdr, q, dr) = if mayF q f = true then some (10, f, hdr, q, dr) else none := rfl
    have p2 : pF (sI (sI σ 2 2 (nI f)) 2 1 10) 3 q := a4.w2.w2
    rw [if_neg (by decide), if_neg (by decide), if_neg (by decide), if_pos (by decide), v_linkFrom p2 o1.1 o1.2.1 hf, Option.bind_some, if_pos (bI_z _)]
    refine ⟨_, _, rfl, frm _ _ _ _ _ _ (by unfold PRd; omega) (by unfold PRd; omega), fun z => ?_, fun w hw => ?_⟩
    · cases g : mayF q f with
      | false => rfl
      | true => rw [e, if_pos g] at z; cases z
    · cases g : mayF q f with
      | false => rw [e, if_neg (by rw [g]; decide)] at hw; cases hw
      | true =>
        rw [e, if_pos g] at hw
        cases hw
        exact ⟨rfl, by show (sI (sI σ 2 2 (nI f)) 2 1 10).1 2 1 = nI 10; simp [sI_r]; rfl, fun _ => by simp [sI_r], fun z => absurd z (by show ¬ (10 = 7 ∨ 10 = 8); omega), p2, fun i hi => by rw [sI_n (by omega), sI_n (by omega)]; exact a5 i hi⟩
  · have e : dgt f (10, hd, hdr, q, dr) = if mayL q hd f = true then some (5, hd, hdr, adL q hd f, dr) else none := rfl
    have hN := o1.1
    have hd10 := o11 rfl
    have p2 : pF (sI σ 2 1 5) 3 q := a4.w2
    have s22 : (sI σ 2 1 5).1 2 2 = nI hd := by rw [sI_r, if_neg (by omega)]; exact a2 (Or.inr (Or.inr rfl))
    obtain ⟨v1, v2⟩ := v_addLink (a := hd) (b := f) p2 o1.1 o1.2.1 (by omega) hf
    have e0 : EO PRd σ (sI σ 2 1 5) := EO.i (P := PRd) EO.rf (by unfold PRd; omega)
    rw [if_neg (by decide), if_neg (by decide), if_neg (by decide), if_neg (by decide), s22]
    by_cases g : mayL q hd f = true
    · obtain ⟨τ, t1, t2, t3, t4⟩ := v1 ⟨o10 (by omega), g⟩
      rw [t1, Option.bind_some, if_pos (show zbb (1 : Int32) = true by decide)]
      refine ⟨_, _, rfl, e0.tr (t4.mo (fun c hc => by unfold PC at hc; unfold PRd; omega)), fun z => (by rw [e, if_pos g] at z; cases z), fun w hw => ?_⟩
      rw [e, if_pos g] at hw
      cases hw
      have k2 : τ.1 2 = (sI σ 2 1 5).1 2 := t4.1 2 (by unfold PC; omega)
      exact ⟨rfl, by show τ.1 2 1 = nI 5; rw [k2]; simp [sI_r]; rfl, fun z => absurd z (by show ¬ (5 = 2 ∨ 5 = 8 ∨ 5 = 10); omega), fun z => absurd z (by show ¬ (5 = 7 ∨ 5 = 8); omega), t2, fun i hi => by show τ.1 4 i = _; rw [t3, sI_n (by omega)]; exact a5 i hi⟩
    · rw [v2 (fun z => g z.2), Option.bind_some, if_pos (show zbb (0 : Int32) = true by decide)]
      exact ⟨_, _, rfl, e0, fun _ => rfl, fun w hw => (by rw [e, if_neg g] at hw; cases hw)⟩
