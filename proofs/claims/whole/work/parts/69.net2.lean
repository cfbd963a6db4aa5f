/-! net: both answer alike, and the new network stands -/
def netS (S : AS) (w : RS) : AS := (aT S, w.2.2.2.1, (0, 0, fun i => fsN (w.2.2.2.2 i)), (fun _ => ((0, 0, fun _ => fsN 0), false)), ((aJ S).1, (aJ S).2.1, 0), aG S, aD S)
theorem net_ok {S : AS} {B : Nat} {w : RS} (ok : okA S B) (hw : okR w) (h5 : w.1 = 5) : okA (netS S w) (B + 4000) := by
  obtain ⟨o0, o1, o2, o3, o4, o5, o6, o7, o8, o9, o10, o11, o12⟩ := hw
  obtain ⟨-, -, -, -, t1, ⟨t2, t3⟩, t4⟩ := ok
  obtain ⟨x1, x2, x3, x4, x5⟩ := o1
  refine ⟨⟨x1, x2, o3 (by omega), o4 (by omega), o5 (by omega), x3, x4, x5⟩, ⟨fun i hi => fsN_w (o12 i hi), ?_, 0, rfl, Nat.pos_of_ne_zero (by show 2 ^ _ ≠ 0; exact Nat.pos_iff_ne_zero.mp (Nat.pow_pos (by omega)))⟩, fun s hs q => (by cases q), fun e he => ?_, t1, ⟨t2, by show 0 ≤ 14; omega⟩, t4⟩
  · show IR 0 _ (0 : Int32)
    unfold IR
    rw [Int32.toInt_zero]
    omega
  · have h2 : (((aJ S).2.1 + 13 - e) % 14) < 0 := he.2
    omega
theorem rdV_9 {t : TX} (hl : t.2 ≤ 60) : (rdV t.2 (rdT t) = -9 ∧ ∃ k w, rdT t = (k, some w) ∧ w.1 = 5) ∨ (¬ rdV t.2 (rdT t) = -9) := by
  have hk : ∀ k, rdT t = (k, none) → k < t.2 := fun k h => by
    have := rdL_lt _ _ _ _ h
    omega
  match h : rdT t with
  | (k, none) =>
    right
    show ¬ nI k = -9
    have := hk k h
    exact fun z => nI_9 (i := k) (by omega) z.symm
  | (k, some w) =>
    by_cases g : w.1 = 5
    · left
      exact ⟨by show (if w.1 = 5 then (-9 : Int32) else nI t.2) = -9; rw [if_pos g], k, w, rfl, g⟩
    · right
      show ¬ (if w.1 = 5 then (-9 : Int32) else nI t.2) = -9
      rw [if_neg g]
      exact fun z => nI_9 (i := t.2) (by omega) z.symm
theorem bit0 {l : Nat} (h : l < 7) : bit 0 l = 0 := by
  have H : ∀ l, l < 7 → bit 0 l = 0 := by decide +kernel
  exact H l h
theorem op_net {S : AS} {B : Nat} (ok : okA S B) : op f_TF_net f_M_net S B := by
  have hN := ok.1.1
  have ok2 := ok
  obtain ⟨-, -, -, -, ⟨hl, hc⟩, -⟩ := ok2
  rcases rdV_9 (t := aT S) hl with ⟨hv, k, w, hw, h5⟩ | hv
  · have okw : okR w := okR_rdL _ _ _ _ _ (okR_0 _) hw
    refine ⟨netS S w, net_ok ok okw h5, nI (pN w.2.2.2.1), fun σ h => ?_, fun σ h => ?_⟩
    · obtain ⟨τ, q1, q2, q3⟩ := A_read h.1 hl hc
      obtain ⟨r1, r2⟩ := q3 k w hw h5
      have h0 := h.fr hN (PRd_fa q2)
      unfold f_TF_net
      rw [h.1.1, q1, Option.bind_some, if_pos hv]
      obtain ⟨τ2, s1, s2, s3, s4⟩ := A_copyPlan okw.2.1 r1 r2
      obtain ⟨τ3, u1, u2, u3⟩ := A_begin (σ := τ2) okw.2.1.1 s2.2.1 s3
      rw [s1, Option.bind_some, u1, Option.bind_some]
      unfold f_Jr_clear
      rw [Option.bind_some]
      obtain ⟨τ4, v1, v2, v3⟩ := A_flags 2 0 1100 (sI τ3 30 2 0) (by omega) (by omega) (fun j hj => absurd hj (by omega))
      rw [show nI 0 = (0 : Int32) from rfl] at v1
      have e15 : (sI τ3 30 2 0).1 15 = τ2.1 15 := by rw [sI_n (by omega), u3.1 15 (by unfold PBg; omega)]
      rw [v1, e15, s2.2.1]
      have fr : ∀ c, c ≠ 33 → c ≠ 30 → (c < 15 ∨ 83 ≤ c ∨ (26 ≤ c ∧ c < 61)) → τ4.1 c = τ.1 c := fun c h1 h2 h3 => by
        rw [v3.1 c (fun z => h1 z), sI_n h2, u3.1 c (by unfold PBg; omega), s4.1 c (by unfold PC; omega)]
      have fr2 : ∀ c, 15 ≤ c → c < 26 → τ4.1 c = τ2.1 c := fun c h1 h2 => by
        rw [v3.1 c (by omega), sI_n (by omega), u3.1 c (by unfold PBg; omega)]
      have fr3 : ∀ c, 61 ≤ c → τ4.1 c = τ3.1 c := fun c h1 => by
        rw [v3.1 c (by omega), sI_n (by omega)]
      have e2 : τ4.2 = τ.2 := by rw [v3.2]; show τ3.2 = _; rw [u3.2, s4.2]
      have c30 : ∀ j, j ≠ 2 → τ4.1 30 j = τ.1 30 j := fun j hj => by
        rw [v3.1 30 (by omega), sI_r, if_neg (fun z => hj z.2), u3.1 30 (by unfold PBg; omega), s4.1 30 (by unfold PC; omega)]
      have c30b : τ4.1 30 2 = 0 := by rw [v3.1 30 (by omega), sI_r, if_pos ⟨rfl, rfl⟩]
      obtain ⟨g1, g2, g3, g4, g5, g6, g7⟩ := h0
      refine ⟨τ4, rfl, ⟨g1.e (fr 0 (by omega) (by omega) (by omega)) (fr 1 (by omega) (by omega) (by omega)), s2.a.e (fun a h1 h2 => fr2 a h1 (by omega)), u2.e okw.2.1.1 (fun c h1 h2 => fr3 c h1), fun s hs => ⟨(v2 s hs).trans rfl, fun z => (by cases z)⟩, ⟨(c30 1 (by omega)).trans g5.1, c30b.trans rfl, fun e he => ?_⟩, g6.e (fr 34 (by omega) (by omega) (by omega)) (fr 35 (by omega) (by omega) (by omega)) (fr 36 (by omega) (by omega) (by omega)) (fr 37 (by omega) (by omega) (by omega)), by rw [e2]; exact g7⟩, ?_⟩
      · have h2 : (((aJ S).2.1 + 13 - e) % 14) < 0 := he.2
        omega
      · exact (PRd_ca q2).tr ⟨fun c h1 h2 => fr c (by omega) (by omega) (by omega), by rw [e2]⟩
    · obtain ⟨τ, q1, q2, q3⟩ := B_read h.1 hl hc
      have r := q3 k w hw h5
      have h0 := h.fr hN q2.fb
      obtain ⟨ph, hd, hdr, q, dr⟩ := w
      have h5' : ph = 5 := h5
      subst h5'
      obtain ⟨b1, b2, b3⟩ := r
      obtain ⟨⟨p0, p1, p2⟩, -⟩ : (τ.1 38 28 = q.1 0 ∧ τ.1 38 29 = q.1 1 ∧ τ.1 38 30 = q.1 2) ∧ τ.1 38 37 = 0 := b3
      obtain ⟨b31, b34, b58, b59⟩ := b1
      simp only at b2 b31 b34 b58 b59
      have okq : okQ q := okw.2.1
      unfold f_M_net f_M_net_28 f_M_net_52
      have rd : ∀ {υ : MT} {a v : Nat} {x : Int32}, a ≠ v → (sI υ 38 v x).1 38 a = υ.1 38 a := fun {υ a v x} hne => by rw [sI_r, if_neg (fun z => hne z.2)]
      rw [q1, Option.bind_some, if_pos hv]
      simp only [p0]
      rw [rd (a := 29) (v := 2) (by omega), p1, rd (a := 30) (v := 3) (by omega), rd (a := 30) (v := 2) (by omega), p2, rd (a := 31) (v := 4) (by omega), rd (a := 31) (v := 3) (by omega), rd (a := 31) (v := 2) (by omega), b31, rd (a := 34) (v := 5) (by omega), rd (a := 34) (v := 4) (by omega), rd (a := 34) (v := 3) (by omega), rd (a := 34) (v := 2) (by omega), b34]
      generalize hυ : sI (sI (sI (sI (sI τ 38 2 (q.1 0)) 38 3 (q.1 1)) 38 4 (q.1 2)) 38 5 (nI (pN q))) 38 7 (nI (pL q)) = υ
      have un : ∀ c, c ≠ 38 → υ.1 c = τ.1 c := fun c hc => by rw [← hυ, sI_n hc, sI_n hc, sI_n hc, sI_n hc, sI_n hc]
      have u2 : υ.1 38 2 = q.1 0 := by rw [← hυ]; simp [sI_r]
      have u3 : υ.1 38 3 = q.1 1 := by rw [← hυ]; simp [sI_r]
      have u4 : υ.1 38 4 = q.1 2 := by rw [← hυ]; simp [sI_r]
      have u5 : υ.1 38 5 = nI (pN q) := by rw [← hυ]; simp [sI_r]
      have u7 : υ.1 38 7 = nI (pL q) := by rw [← hυ]; simp [sI_r]
      have uo : ∀ j, j ≠ 2 → j ≠ 3 → j ≠ 4 → j ≠ 5 → j ≠ 7 → υ.1 38 j = τ.1 38 j := fun j h1 h2 h3 h4 h5 => by
        rw [← hυ, rd h5, rd h4, rd h3, rd h2, rd h1]
      have us : υ.2 = τ.2 := by rw [← hυ]; rfl
      obtain ⟨τ1, n1, n2, n3⟩ := B_net_nodes (K := f_M_net_107 1100) (dr := dr) (st := pS q) okq.1 (pN q) 0 1100 υ (by omega) (by have := okq.1; omega) u5 (fun j hj => by rw [un 57 (by omega)]; exact b2 j hj) (fun j hj => by rw [un 58 (by omega)]; exact b58 j hj) (fun j hj => absurd hj (by omega))
      have o38 : τ1.1 38 = υ.1 38 := n3.1 38 (by unfold P4; omega)
      obtain ⟨τ2, m1, m2, m3, m4, m5, ⟨m6, m6'⟩, m7, m8, m9, m10⟩ := B_net_links (N := pN q) (L := pL q) (e := pE q) okq.2.1 7 0 1100 τ1 (by omega) (by omega) (by rw [o38]; exact u5) (by rw [o38]; exact u7) (fun j hj => by rw [n3.1 59 (by unfold P4; omega), n3.1 60 (by unfold P4; omega), un 59 (by omega), un 60 (by omega)]; exact b59 j hj) (fun j hj => absurd hj (by omega)) (fun j hj => absurd hj (by omega))
      rw [show nI 0 = (0 : Int32) from rfl] at n1 m1
      rw [n1, m1]
      have fr : ∀ c, c ≠ 38 → c ≠ 40 → c ≠ 41 → c ≠ 42 → c ≠ 43 → c ≠ 47 → τ2.1 c = τ.1 c := fun c h1 h2 h3 h4 h5 h6 => by
        rw [m9 c h1 h3 h4 h5 h6, n3.1 c (by unfold P4; omega), un c h1]
      have f38 : ∀ j, j ≠ 13 → τ2.1 38 j = υ.1 38 j := fun j hj => by rw [m8 j hj, o38]
      have f38b : ∀ j, j ≠ 2 → j ≠ 3 → j ≠ 4 → j ≠ 5 → j ≠ 7 → j ≠ 13 → τ2.1 38 j = τ.1 38 j := fun j h1 h2 h3 h4 h5 h6 => (f38 j h6).trans (uo j h1 h2 h3 h4 h5)
      have e2 : τ2.2 = τ.2 := by rw [m10, n3.2, us]
      have i40 : τ2.1 40 = τ1.1 40 := m9 40 (by omega) (by omega) (by omega) (by omega) (by omega)
      obtain ⟨g1, g2, g3, g4, g5, g6, g7⟩ := h0
      refine ⟨τ2, rfl, ⟨g1.e (f38b 1 (by omega) (by omega) (by omega) (by omega) (by omega) (by omega)) (fr 39 (by omega) (by omega) (by omega) (by omega) (by omega) (by omega)), ⟨⟨(f38 2 (by omega)).trans u2, (f38 3 (by omega)).trans u3, (f38 4 (by omega)).trans u4⟩, (f38 5 (by omega)).trans u5, (f38 7 (by omega)).trans u7, fun i hi => by rw [i40]; exact (n2 i hi).2, m5⟩, ⟨m3, fun l hl7 => (m2 l hl7).trans (bit0 hl7).symm, fun i hi => ?_⟩, fun s hs => ⟨?_, fun z => (by cases z)⟩, ⟨(f38b 14 (by omega) (by omega) (by omega) (by omega) (by omega) (by omega)).trans g5.1, m7.trans rfl, fun e he => ?_⟩, g6.e (f38b 20 (by omega) (by omega) (by omega) (by omega) (by omega) (by omega)) (fr 48 (by omega) (by omega) (by omega) (by omega) (by omega) (by omega)) (fr 49 (by omega) (by omega) (by omega) (by omega) (by omega) (by omega)) (fr 50 (by omega) (by omega) (by omega) (by omega) (by omega) (by omega)), by rw [e2]; exact g7⟩, ?_⟩
      · have hi' : i < pN q := hi
        have := okq.1
        refine (n2 i hi).1.cp (fun j hj => ?_)
        exact m4 _ (by omega)
      · obtain rfl | rfl : s = 0 ∨ s = 1 := by omega
        · exact m6
        · exact m6'
      · have h2 : (((aJ S).2.1 + 13 - e) % 14) < 0 := he.2
        omega
      · exact q2.cb.tr ⟨fun c hc => fr c (by omega) (by omega) (by omega) (by omega) (by omega) (by omega), by rw [e2]⟩
  · refine ⟨S, ok.le (by omega), -3, fun σ h => ?_, fun σ h => ?_⟩
    · obtain ⟨τ, q1, q2, -⟩ := A_read h.1 hl hc
      unfold f_TF_net
      rw [h.1.1, q1, Option.bind_some, if_neg hv]
      exact ⟨τ, rfl, h.fr hN (PRd_fa q2), PRd_ca q2⟩
    · obtain ⟨τ, q1, q2, -⟩ := B_read h.1 hl hc
      unfold f_M_net
      rw [q1, Option.bind_some, if_neg hv]
      exact ⟨τ, rfl, h.fr hN q2.fb, q2.cb⟩
