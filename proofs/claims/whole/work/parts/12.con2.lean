set_option maxHeartbeats 4000000 in
set_option maxRecDepth 100000 in
theorem b_Fl_receive_58 {X : XT} {G : GT} {z : MT} {K2 : Nat → Int32 → Int32 → MT → Option MT} (C : CX X G b_Fl_receive 5 "TimeFlood$Flood" 3 70) (hr : XR X none) (hK2 : ∀ (k1 : Nat) (x2 : Int32) (x3 : Int32) (hk1 : kdf k1 = 4) (σ : MT), K2 k1 x2 x3 σ = some z → JW X G (QX X (PV G z) G) 5 2 [(0, rf G 14), (1, rf G k1), (2, .int x2), (3, .int x3)] [] σ) (k1 : Nat) (x2 : Int32) (x3 : Int32) (hk1 : kdf k1 = 4) (σ : MT) (hF : f_Fl_receive_58 K2 k1 x2 x3 σ = some z) : JW X G (QX X (PV G z) G) 5 58 [(0, rf G 14), (1, rf G k1), (2, .int x2), (3, .int x3)] [] σ := by
  unfold f_Fl_receive_58 at hF
  refine j_iinc C (v := x3 + (1 : Int32)) (lv' := [(3, .int (x3 + (1 : Int32))), (0, rf G 14), (1, rf G k1), (2, .int x2)]) d_Fl_receive_58 3 rfl rfl (by decide) rfl ?_
  refine j_goto C 2 d_Fl_receive_61 (by decide) ?_
  refine j_sub C [(0, rf G 14), (1, rf G k1), (2, .int x2), (3, .int (x3 + (1 : Int32)))] [1, 2, 3, 0] rfl ?_
  exact hK2 k1 x2 (x3 + (1 : Int32)) hk1 σ hF
set_option maxHeartbeats 4000000 in
set_option maxRecDepth 100000 in
theorem b_Fl_receive_2 {X : XT} {G : GT} {z : MT} (C : CX X G b_Fl_receive 5 "TimeFlood$Flood" 3 70) (hr : XR X none) : ∀ (n : Nat) (k1 : Nat) (x2 : Int32) (x3 : Int32) (hk1 : kdf k1 = 4) (σ : MT), f_Fl_receive_2 n k1 x2 x3 σ = some z → JW X G (QX X (PV G z) G) 5 2 [(0, rf G 14), (1, rf G k1), (2, .int x2), (3, .int x3)] [] σ := by
  intro n
  induction n with
  | zero =>
    intro k1 x2 x3 hk1 σ hF
    rw [f_Fl_receive_2] at hF
    cases hF
  | succ n ih =>
    intro k1 x2 x3 hk1 σ hF
    rw [f_Fl_receive_2] at hF
    refine j_iload_n C d_Fl_receive_2 rfl 3 rfl ?_
    refine j_aload_n C d_Fl_receive_3 rfl 0 rfl ?_
    refine g_Fl_plan C (rfl : kdf 14 = 3) wd_109 d_Fl_receive_4 ?_
    refine g_Pl_nodeCount C (rfl : kdf 15 = 2) wd_48 d_Fl_receive_7 ?_
    refine j_icmp_ge C 64 d_Fl_receive_10 (by decide) hF (fun q10 hF => ?_) (fun q10 hF => ?_)
    · cases hF
      exact j_vret C hr d_Fl_receive_64 rfl
    · refine j_aload_n C d_Fl_receive_13 rfl 0 rfl ?_
      refine g_Fl_sent C (rfl : kdf 14 = 3) wd_111 d_Fl_receive_14 ?_
      refine j_iload_n C d_Fl_receive_17 rfl 3 rfl ?_
      obtain ⟨q18, hF⟩ := g_if hF
      refine j_zald C (rfl : kdf 26 = 21) (by decide) rfl (inb_v q18) d_Fl_receive_18 ?_
      refine j_if_eq C 58 d_Fl_receive_19 (by decide) hF (fun q19 hF => ?_) (fun q19 hF => ?_)
      · exact b_Fl_receive_58 C hr ih k1 x2 x3 hk1 σ hF
      · refine j_aload_n C d_Fl_receive_22 rfl 0 rfl ?_
        refine g_Fl_plan C (rfl : kdf 14 = 3) wd_109 d_Fl_receive_23 ?_
        refine g_Pl_links C (rfl : kdf 15 = 2) wd_63 d_Fl_receive_26 ?_
        refine j_iload_n C d_Fl_receive_29 rfl 3 rfl ?_
        obtain ⟨q30, hF⟩ := g_if hF
        refine e_links C (rfl : kdf 20 = 33) (inb_v q30) d_Fl_receive_30 ?_
        refine j_iload_n C d_Fl_receive_31 rfl 2 rfl ?_
        obtain ⟨q32, hF⟩ := g_if hF
        refine j_iald C (kd_row (rfl : kdf 20 = 33) (inb_v q30)) (by decide) rfl (inb_v q32) d_Fl_receive_32 ?_
        refine j_istore C (lv' := [(4, .int (σ.1 (20 + 1 + x3.toNatClampNeg) x2.toNatClampNeg)), (0, rf G 14), (1, rf G k1), (2, .int x2), (3, .int x3)]) d_Fl_receive_33 (by decide) rfl ?_
        refine j_iload C d_Fl_receive_35 0 rfl ?_
        refine j_bipush C (v := -9) d_Fl_receive_37 (by decide) ?_
        refine j_icmp_eq C 58 d_Fl_receive_39 (by decide) hF (fun q39 hF => ?_) (fun q39 hF => ?_)
        · refine j_sub C [(0, rf G 14), (1, rf G k1), (2, .int x2), (3, .int x3)] [1, 2, 3, 4] rfl ?_
          exact b_Fl_receive_58 C hr ih k1 x2 x3 hk1 σ hF
        · refine j_aload_n C d_Fl_receive_42 rfl 2 rfl ?_
          refine j_iload C d_Fl_receive_43 0 rfl ?_
          obtain ⟨r45, h45, hF⟩ := g_bind hF
          refine j_vi C (As := [.int (σ.1 (20 + 1 + x3.toNatClampNeg) x2.toNatClampNeg)]) (st := []) (c_St_isDown (XL X) G k1 (σ.1 (20 + 1 + x3.toNatClampNeg) x2.toNatClampNeg) σ hk1 h45) hk1 (by decide) rfl rfl m_St_isDown wd_497 rfl rfl (Nat.le_of_ble_eq_true rfl) ⟨by decide, by decide⟩ d_Fl_receive_45 ?_
          refine j_if_ne C 58 d_Fl_receive_48 (by decide) hF (fun q48 hF => ?_) (fun q48 hF => ?_)
          · refine j_sub C [(0, rf G 14), (1, rf G k1), (2, .int x2), (3, .int x3)] [1, 2, 3, 4] rfl ?_
            exact b_Fl_receive_58 C hr ih k1 x2 x3 hk1 σ hF
          · refine j_aload_n C d_Fl_receive_51 rfl 1 rfl ?_
            refine j_aload_n C d_Fl_receive_52 rfl 2 rfl ?_
            refine j_iload_n C d_Fl_receive_53 rfl 3 rfl ?_
            refine j_iload_n C d_Fl_receive_54 rfl 4 rfl ?_
            obtain ⟨r55, h55, hF⟩ := g_bind hF
            refine j_vv C (As := [rf G k1, .int x2, .int x3]) (st := []) (c_Fl_hear (XL X) G k1 x2 x3 σ hk1 h55) (rfl : kdf 14 = 3) (by decide) rfl rfl m_Fl_hear wd_498 rfl rfl (Nat.le_of_ble_eq_true rfl) ⟨by decide, by decide⟩ d_Fl_receive_55 ?_
            refine j_sub C [(0, rf G 14), (1, rf G k1), (2, .int x2), (3, .int x3)] [1, 2, 3, 4] rfl ?_
            exact b_Fl_receive_58 C hr ih k1 x2 x3 hk1 r55 hF
set_option maxHeartbeats 4000000 in
set_option maxRecDepth 100000 in
theorem c_Fl_receive (l : Launch) (G : GT) (k1 : Nat) (x2 : Int32) (σ : MT) (hk1 : kdf k1 = 4) {z : MT} (hF : f_Fl_receive k1 x2 σ = some z) : CTV l G y_Fl_receive b_Fl_receive 5 none 3 70 [rf G 14, rf G k1, .int x2] σ z := by
  refine entX [(0, rf G 14), (1, rf G k1), (2, .int x2)] "TimeFlood$Flood" (by decide +kernel) rfl rfl (Nat.le_of_ble_eq_true rfl) (fun X hXl hr C => ?_)
  unfold f_Fl_receive at hF
  refine j_iconst C (v := 0) d_Fl_receive_0 (by decide) ?_
  refine j_istore_n C (lv' := [(3, .int (0 : Int32)), (0, rf G 14), (1, rf G k1), (2, .int x2)]) d_Fl_receive_1 rfl (by decide) rfl ?_
  refine j_sub C [(0, rf G 14), (1, rf G k1), (2, .int x2), (3, .int (0 : Int32))] [1, 2, 3, 0] rfl ?_
  exact b_Fl_receive_2 C hr 1100 k1 x2 (0 : Int32) hk1 σ hF
set_option maxHeartbeats 4000000 in
set_option maxRecDepth 100000 in
theorem b_Fl_pass_113 {X : XT} {G : GT} {z : MT} {K18 : Nat → Int32 → MT → Option MT} (C : CX X G b_Fl_pass 4 "TimeFlood$Flood" 4 94) (hr : XR X none) (hK18 : ∀ (k1 : Nat) (x2 : Int32) (hk1 : kdf k1 = 4) (σ : MT), K18 k1 x2 σ = some z → JW X G (QX X (PV G z) G) 4 18 [(0, rf G 14), (1, rf G k1), (2, .int x2)] [] σ) (k1 : Nat) (x2 : Int32) (hk1 : kdf k1 = 4) (σ : MT) (hF : f_Fl_pass_113 K18 k1 x2 σ = some z) : JW X G (QX X (PV G z) G) 4 113 [(0, rf G 14), (1, rf G k1), (2, .int x2)] [] σ := by
  unfold f_Fl_pass_113 at hF
  refine j_iinc C (v := x2 + (1 : Int32)) (lv' := [(2, .int (x2 + (1 : Int32))), (0, rf G 14), (1, rf G k1)]) d_Fl_pass_113 2 rfl rfl (by decide) rfl ?_
  refine j_goto C 18 d_Fl_pass_116 (by decide) ?_
  refine j_sub C [(0, rf G 14), (1, rf G k1), (2, .int (x2 + (1 : Int32)))] [1, 2, 0] rfl ?_
  exact hK18 k1 (x2 + (1 : Int32)) hk1 σ hF
set_option maxHeartbeats 4000000 in
set_option maxRecDepth 100000 in
theorem b_Fl_pass_86 {X : XT} {G : GT} {z : MT} {K18 : Nat → Int32 → MT → Option MT} (C : CX X G b_Fl_pass 4 "TimeFlood$Flood" 4 94) (hr : XR X none) (hK18 : ∀ (k1 : Nat) (x2 : Int32) (hk1 : kdf k1 = 4) (σ : MT), K18 k1 x2 σ = some z → JW X G (QX X (PV G z) G) 4 18 [(0, rf G 14), (1, rf G k1), (2, .int x2)] [] σ) (k1 : Nat) (x2 : Int32) (k3 : Nat) (hk1 : kdf k1 = 4) (hk3 : kdf k3 = 5) (σ : MT) (hF : f_Fl_pass_86 K18 k1 x2 k3 σ = some z) : JW X G (QX X (PV G z) G) 4 86 [(0, rf G 14), (1, rf G k1), (2, .int x2), (3, rf G k3)] [] σ := by
  unfold f_Fl_pass_86 at hF
  refine j_aload_n C d_Fl_pass_86 rfl 0 rfl ?_
  refine g_Fl_sentNumbers C (rfl : kdf 14 = 3) wd_113 d_Fl_pass_87 ?_
  refine j_iload_n C d_Fl_pass_90 rfl 2 rfl ?_
  refine j_aload_n C d_Fl_pass_91 rfl 3 rfl ?_
  refine g_Nd_number C hk3 wd_152 d_Fl_pass_92 ?_
  obtain ⟨q95, hF⟩ := g_if hF
  refine j_iast C (rfl : kdf 28 = 11) (by decide) (fun _ => rfl) (inb_v q95) d_Fl_pass_95 ?_
  refine j_aload_n C d_Fl_pass_96 rfl 0 rfl ?_
  refine g_Fl_sentEstimates C (rfl : kdf 14 = 3) wd_114 d_Fl_pass_97 ?_
  refine j_iload_n C d_Fl_pass_100 rfl 2 rfl ?_
  refine j_aload_n C d_Fl_pass_101 rfl 3 rfl ?_
  refine j_iload_n C d_Fl_pass_102 rfl 2 rfl ?_
  refine j_aload_n C d_Fl_pass_103 rfl 0 rfl ?_
  refine j_aload_n C d_Fl_pass_104 rfl 1 rfl ?_
  refine j_iload_n C d_Fl_pass_105 rfl 2 rfl ?_
  obtain ⟨r106, h106, hF⟩ := g_bind hF
  refine j_vi C (As := [rf G k1, .int x2]) (st := [.int x2, rf G k3, .int x2, rf G 29]) (c_Fl_clock (XL X) G k1 x2 (sI σ 28 x2.toNatClampNeg (σ.1 k3 3)) hk1 h106) (rfl : kdf 14 = 3) (by decide) rfl rfl m_Fl_clock wd_390 rfl rfl (Nat.le_of_ble_eq_true rfl) ⟨by decide, by decide⟩ d_Fl_pass_106 ?_
  obtain ⟨r109, h109, hF⟩ := g_bind hF
  refine j_vi C (As := [.int x2, .int r106]) (st := [.int x2, rf G 29]) (c_Nd_estimate (XL X) G k3 x2 r106 (sI σ 28 x2.toNatClampNeg (σ.1 k3 3)) hk3 h109) hk3 (by decide) rfl rfl m_Nd_estimate wd_400 rfl rfl (Nat.le_of_ble_eq_true rfl) ⟨by decide, by decide⟩ d_Fl_pass_109 ?_
  obtain ⟨q112, hF⟩ := g_if hF
  refine j_iast C (rfl : kdf 29 = 11) (by decide) (fun _ => rfl) (inb_v q112) d_Fl_pass_112 ?_
  refine j_sub C [(0, rf G 14), (1, rf G k1), (2, .int x2)] [0, 1, 2] rfl ?_
  exact b_Fl_pass_113 C hr hK18 k1 x2 hk1 (sI (sI σ 28 x2.toNatClampNeg (σ.1 k3 3)) 29 x2.toNatClampNeg r109) hF
set_option maxHeartbeats 4000000 in
set_option maxRecDepth 100000 in
theorem b_Fl_pass_56 {X : XT} {G : GT} {z : MT} {K18 : Nat → Int32 → MT → Option MT} (C : CX X G b_Fl_pass 4 "TimeFlood$Flood" 4 94) (hr : XR X none) (hK18 : ∀ (k1 : Nat) (x2 : Int32) (hk1 : kdf k1 = 4) (σ : MT), K18 k1 x2 σ = some z → JW X G (QX X (PV G z) G) 4 18 [(0, rf G 14), (1, rf G k1), (2, .int x2)] [] σ) (k1 : Nat) (x2 : Int32) (k3 : Nat) (hk1 : kdf k1 = 4) (hk3 : kdf k3 = 5) (σ : MT) (hF : f_Fl_pass_56 K18 k1 x2 k3 σ = some z) : JW X G (QX X (PV G z) G) 4 56 [(0, rf G 14), (1, rf G k1), (2, .int x2), (3, rf G k3)] [] σ := by
  unfold f_Fl_pass_56 at hF
  refine j_aload_n C d_Fl_pass_56 rfl 0 rfl ?_
  refine g_Fl_sent C (rfl : kdf 14 = 3) wd_111 d_Fl_pass_57 ?_
  refine j_iload_n C d_Fl_pass_60 rfl 2 rfl ?_
  refine j_aload_n C d_Fl_pass_61 rfl 3 rfl ?_
  refine j_iload_n C d_Fl_pass_62 rfl 2 rfl ?_
  obtain ⟨r63, h63, hF⟩ := g_bind hF
  refine j_vi C (As := [.int x2]) (st := [.int x2, rf G 26]) (c_Nd_sends (XL X) G k3 x2 σ hk3 h63) hk3 (by decide) rfl rfl m_Nd_sends wd_489 rfl rfl (Nat.le_of_ble_eq_true rfl) ⟨by decide, by decide⟩ d_Fl_pass_63 ?_
  obtain ⟨q66, hF⟩ := g_if hF
  refine j_zast C (rfl : kdf 26 = 21) (by decide) (fun _ => rfl) (inb_v q66) d_Fl_pass_66 ?_
  refine j_aload_n C d_Fl_pass_67 rfl 0 rfl ?_
  refine g_Fl_sent C (rfl : kdf 14 = 3) wd_111 d_Fl_pass_68 ?_
  refine j_iload_n C d_Fl_pass_71 rfl 2 rfl ?_
  obtain ⟨q72, hF⟩ := g_if hF
  refine j_zald C (rfl : kdf 26 = 21) (by decide) rfl (inb_v q72) d_Fl_pass_72 ?_
  refine j_if_eq C 113 d_Fl_pass_73 (by decide) hF (fun q73 hF => ?_) (fun q73 hF => ?_)
  · refine j_sub C [(0, rf G 14), (1, rf G k1), (2, .int x2)] [0, 1, 2] rfl ?_
    exact b_Fl_pass_113 C hr hK18 k1 x2 hk1 (sI σ 26 x2.toNatClampNeg (vp_nar .boolean r63)) hF
  · refine j_aload_n C d_Fl_pass_76 rfl 0 rfl ?_
    refine g_Fl_sentRoots C (rfl : kdf 14 = 3) wd_112 d_Fl_pass_77 ?_
    refine j_iload_n C d_Fl_pass_80 rfl 2 rfl ?_
    refine j_aload_n C d_Fl_pass_81 rfl 3 rfl ?_
    refine g_Nd_root C hk3 wd_149 d_Fl_pass_82 ?_
    obtain ⟨q85, hF⟩ := g_if hF
    refine j_iast C (rfl : kdf 27 = 11) (by decide) (fun _ => rfl) (inb_v q85) d_Fl_pass_85 ?_
    exact b_Fl_pass_86 C hr hK18 k1 x2 k3 hk1 hk3 (sI (sI σ 26 x2.toNatClampNeg (vp_nar .boolean r63)) 27 x2.toNatClampNeg ((sI σ 26 x2.toNatClampNeg (vp_nar .boolean r63)).1 k3 2)) hF
set_option maxHeartbeats 4000000 in
set_option maxRecDepth 100000 in
theorem b_Fl_pass_18 {X : XT} {G : GT} {z : MT} {K121 : Nat → Int32 → MT → Option MT} (C : CX X G b_Fl_pass 4 "TimeFlood$Flood" 4 94) (hr : XR X none) (hK121 : ∀ (k1 : Nat) (x2 : Int32) (hk1 : kdf k1 = 4) (σ : MT), K121 k1 x2 σ = some z → JW X G (QX X (PV G z) G) 4 121 [(0, rf G 14), (1, rf G k1), (2, .int x2)] [] σ) : ∀ (n : Nat) (k1 : Nat) (x2 : Int32) (hk1 : kdf k1 = 4) (σ : MT), f_Fl_pass_18 K121 n k1 x2 σ = some z → JW X G (QX X (PV G z) G) 4 18 [(0, rf G 14), (1, rf G k1), (2, .int x2)] [] σ := by
  intro n
  induction n with
  | zero =>
    intro k1 x2 hk1 σ hF
    rw [f_Fl_pass_18] at hF
    cases hF
  | succ n ih =>
    intro k1 x2 hk1 σ hF
    rw [f_Fl_pass_18] at hF
    refine j_iload_n C d_Fl_pass_18 rfl 2 rfl ?_
    refine j_aload_n C d_Fl_pass_19 rfl 0 rfl ?_
    refine g_Fl_plan C (rfl : kdf 14 = 3) wd_109 d_Fl_pass_20 ?_
    refine g_Pl_nodeCount C (rfl : kdf 15 = 2) wd_48 d_Fl_pass_23 ?_
    refine j_icmp_ge C 119 d_Fl_pass_26 (by decide) hF (fun q26 hF => ?_) (fun q26 hF => ?_)
    · refine j_iconst C (v := 0) d_Fl_pass_119 (by decide) ?_
      refine j_istore_n C (lv' := [(2, .int (0 : Int32)), (0, rf G 14), (1, rf G k1)]) d_Fl_pass_120 rfl (by decide) rfl ?_
      refine j_sub C [(0, rf G 14), (1, rf G k1), (2, .int (0 : Int32))] [1, 2, 0] rfl ?_
      exact hK121 k1 (0 : Int32) hk1 σ hF
    · refine j_aload_n C d_Fl_pass_29 rfl 1 rfl ?_
      refine g_St_nodes C hk1 wd_190 d_Fl_pass_30 ?_
      refine j_iload_n C d_Fl_pass_33 rfl 2 rfl ?_
      obtain ⟨q34, hF⟩ := g_if hF
      refine e_nodes C (kd_St_nodes hk1) (inb_v q34) d_Fl_pass_34 ?_
      refine j_astore_n C (lv' := [(3, rf G ((k1 + 1) + 1 + 4 * x2.toNatClampNeg)), (0, rf G 14), (1, rf G k1), (2, .int x2)]) d_Fl_pass_35 rfl (by decide) rfl ?_
      refine j_aload_n C d_Fl_pass_36 rfl 0 rfl ?_
      refine g_Nd_on C (kd_node (kd_St_nodes hk1) (inb_v q34)) wd_141 d_Fl_pass_37 ?_
      refine j_if_eq C 56 d_Fl_pass_40 (by decide) hF (fun q40 hF => ?_) (fun q40 hF => ?_)
      · refine j_sub C [(0, rf G 14), (1, rf G k1), (2, .int x2), (3, rf G ((k1 + 1) + 1 + 4 * x2.toNatClampNeg))] [1, 2, 3, 0] rfl ?_
        exact b_Fl_pass_56 C hr ih k1 x2 ((k1 + 1) + 1 + 4 * x2.toNatClampNeg) hk1 (kd_node (kd_St_nodes hk1) (inb_v q34)) σ hF
      · refine j_aload_n C d_Fl_pass_43 rfl 0 rfl ?_
        obtain ⟨r44, h44, hF⟩ := g_bind hF
        refine j_vv C (As := []) (st := []) (c_Nd_grow (XL X) G ((k1 + 1) + 1 + 4 * x2.toNatClampNeg) σ (kd_node (kd_St_nodes hk1) (inb_v q34)) h44) (kd_node (kd_St_nodes hk1) (inb_v q34)) (by decide) rfl rfl m_Nd_grow wd_481 rfl rfl (Nat.le_of_ble_eq_true rfl) ⟨by decide, by decide⟩ d_Fl_pass_44 ?_
        refine j_aload_n C d_Fl_pass_47 rfl 0 rfl ?_
        refine j_iload_n C d_Fl_pass_48 rfl 3 rfl ?_
        refine j_aload_n C d_Fl_pass_49 rfl 1 rfl ?_
        refine g_Fl_plan C (rfl : kdf 14 = 3) wd_109 d_Fl_pass_50 ?_
        obtain ⟨r53, h53, hF⟩ := g_bind hF
        refine j_vv C (As := [.int x2, rf G 15]) (st := []) (c_Nd_lead (XL X) G ((k1 + 1) + 1 + 4 * x2.toNatClampNeg) x2 15 r44 (kd_node (kd_St_nodes hk1) (inb_v q34)) (rfl : kdf 15 = 2) h53) (kd_node (kd_St_nodes hk1) (inb_v q34)) (by decide) rfl rfl m_Nd_lead wd_485 rfl rfl (Nat.le_of_ble_eq_true rfl) ⟨by decide, by decide⟩ d_Fl_pass_53 ?_
        refine j_sub C [(0, rf G 14), (1, rf G k1), (2, .int x2), (3, rf G ((k1 + 1) + 1 + 4 * x2.toNatClampNeg))] [1, 2, 3, 0] rfl ?_
        exact b_Fl_pass_56 C hr ih k1 x2 ((k1 + 1) + 1 + 4 * x2.toNatClampNeg) hk1 (kd_node (kd_St_nodes hk1) (inb_v q34)) r53 hF
set_option maxHeartbeats 4000000 in
set_option maxRecDepth 100000 in
theorem b_Fl_pass_150 {X : XT} {G : GT} {z : MT} {K121 : Nat → Int32 → MT → Option MT} (C : CX X G b_Fl_pass 4 "TimeFlood$Flood" 4 94) (hr : XR X none) (hK121 : ∀ (k1 : Nat) (x2 : Int32) (hk1 : kdf k1 = 4) (σ : MT), K121 k1 x2 σ = some z → JW X G (QX X (PV G z) G) 4 121 [(0, rf G 14), (1, rf G k1), (2, .int x2)] [] σ) (k1 : Nat) (x2 : Int32) (hk1 : kdf k1 = 4) (σ : MT) (hF : f_Fl_pass_150 K121 k1 x2 σ = some z) : JW X G (QX X (PV G z) G) 4 150 [(0, rf G 14), (1, rf G k1), (2, .int x2)] [] σ := by
  unfold f_Fl_pass_150 at hF
  refine j_iinc C (v := x2 + (1 : Int32)) (lv' := [(2, .int (x2 + (1 : Int32))), (0, rf G 14), (1, rf G k1)]) d_Fl_pass_150 2 rfl rfl (by decide) rfl ?_
  refine j_goto C 121 d_Fl_pass_153 (by decide) ?_
  refine j_sub C [(0, rf G 14), (1, rf G k1), (2, .int (x2 + (1 : Int32)))] [1, 2, 0] rfl ?_
  exact hK121 k1 (x2 + (1 : Int32)) hk1 σ hF
set_option maxHeartbeats 4000000 in
set_option maxRecDepth 100000 in
theorem b_Fl_pass_121 {X : XT} {G : GT} {z : MT} (C : CX X G b_Fl_pass 4 "TimeFlood$Flood" 4 94) (hr : XR X none) : ∀ (n : Nat) (k1 : Nat) (x2 : Int32) (hk1 : kdf k1 = 4) (σ : MT), f_Fl_pass_121 n k1 x2 σ = some z → JW X G (QX X (PV G z) G) 4 121 [(0, rf G 14), (1, rf G k1), (2, .int x2)] [] σ := by
  intro n
  induction n with
  | zero =>
    intro k1 x2 hk1 σ hF
    rw [f_Fl_pass_121] at hF
    cases hF
  | succ n ih =>
    intro k1 x2 hk1 σ hF
    rw [f_Fl_pass_121] at hF
    refine j_iload_n C d_Fl_pass_121 rfl 2 rfl ?_
    refine j_aload_n C d_Fl_pass_122 rfl 0 rfl ?_
    refine g_Fl_plan C (rfl : kdf 14 = 3) wd_109 d_Fl_pass_123 ?_
    refine g_Pl_nodeCount C (rfl : kdf 15 = 2) wd_48 d_Fl_pass_126 ?_
    refine j_icmp_ge C 156 d_Fl_pass_129 (by decide) hF (fun q129 hF => ?_) (fun q129 hF => ?_)
    · cases hF
      exact j_vret C hr d_Fl_pass_156 rfl
    · refine j_aload_n C d_Fl_pass_132 rfl 1 rfl ?_
      refine g_St_nodes C hk1 wd_190 d_Fl_pass_133 ?_
      refine j_iload_n C d_Fl_pass_136 rfl 2 rfl ?_
      obtain ⟨q137, hF⟩ := g_if hF
      refine e_nodes C (kd_St_nodes hk1) (inb_v q137) d_Fl_pass_137 ?_
      refine g_Nd_on C (kd_node (kd_St_nodes hk1) (inb_v q137)) wd_141 d_Fl_pass_138 ?_
      refine j_if_eq C 150 d_Fl_pass_141 (by decide) hF (fun q141 hF => ?_) (fun q141 hF => ?_)
      · exact b_Fl_pass_150 C hr ih k1 x2 hk1 σ hF
      · refine j_aload_n C d_Fl_pass_144 rfl 0 rfl ?_
        refine j_aload_n C d_Fl_pass_145 rfl 1 rfl ?_
        refine j_iload_n C d_Fl_pass_146 rfl 2 rfl ?_
        obtain ⟨r147, h147, hF⟩ := g_bind hF
        refine j_vv C (As := [rf G k1, .int x2]) (st := []) (c_Fl_receive (XL X) G k1 x2 σ hk1 h147) (rfl : kdf 14 = 3) (by decide) rfl rfl m_Fl_receive wd_493 rfl rfl (Nat.le_of_ble_eq_true rfl) ⟨by decide, by decide⟩ d_Fl_pass_147 ?_
        exact b_Fl_pass_150 C hr ih k1 x2 hk1 r147 hF
set_option maxHeartbeats 4000000 in
set_option maxRecDepth 100000 in
theorem c_Fl_pass (l : Launch) (G : GT) (k1 : Nat) (σ : MT) (hk1 : kdf k1 = 4) {z : MT} (hF : f_Fl_pass k1 σ = some z) : CTV l G y_Fl_pass b_Fl_pass 4 none 4 94 [rf G 14, rf G k1] σ z := by
  refine entX [(0, rf G 14), (1, rf G k1)] "TimeFlood$Flood" (by decide +kernel) rfl rfl (Nat.le_of_ble_eq_true rfl) (fun X hXl hr C => ?_)
  unfold f_Fl_pass at hF
  refine j_aload_n C d_Fl_pass_0 rfl 1 rfl ?_
  refine j_dup C d_Fl_pass_1 rfl ?_
  refine g_St_time C hk1 wd_185 d_Fl_pass_2 ?_
  refine j_aload_n C d_Fl_pass_5 rfl 0 rfl ?_
  refine g_Fl_plan C (rfl : kdf 14 = 3) wd_109 d_Fl_pass_6 ?_
  refine g_Pl_unit C (rfl : kdf 15 = 2) wd_36 d_Fl_pass_9 ?_
  refine j_iadd C d_Fl_pass_12 ?_
  refine p_St_time C hk1 wd_185 d_Fl_pass_13 ?_
  refine j_iconst C (v := 0) d_Fl_pass_16 (by decide) ?_
  refine j_istore_n C (lv' := [(2, .int (0 : Int32)), (0, rf G 14), (1, rf G k1)]) d_Fl_pass_17 rfl (by decide) rfl ?_
  refine j_sub C [(0, rf G 14), (1, rf G k1), (2, .int (0 : Int32))] [1, 2, 0] rfl ?_
  exact b_Fl_pass_18 C hr (b_Fl_pass_121 C hr 1100) 1100 k1 (0 : Int32) hk1 (sI σ k1 0 ((σ.1 k1 0) + (σ.1 15 0))) hF
set_option maxHeartbeats 4000000 in
set_option maxRecDepth 100000 in
theorem b_Fl_passMany_2 {X : XT} {G : GT} {z : MT} (C : CX X G b_Fl_passMany 4 "TimeFlood$Flood" 5 117) (hr : XR X none) : ∀ (n : Nat) (k1 : Nat) (x2 : Int32) (x3 : Int32) (hk1 : kdf k1 = 4) (σ : MT), f_Fl_passMany_2 n k1 x2 x3 σ = some z → JW X G (QX X (PV G z) G) 4 2 [(0, rf G 14), (1, rf G k1), (2, .int x2), (3, .int x3)] [] σ := by
  intro n
  induction n with
  | zero =>
    intro k1 x2 x3 hk1 σ hF
    rw [f_Fl_passMany_2] at hF
    cases hF
  | succ n ih =>
    intro k1 x2 x3 hk1 σ hF
    rw [f_Fl_passMany_2] at hF
    refine j_iload_n C d_Fl_passMany_2 rfl 3 rfl ?_
    refine j_iload_n C d_Fl_passMany_3 rfl 2 rfl ?_
    refine j_icmp_ge C 18 d_Fl_passMany_4 (by decide) hF (fun q4 hF => ?_) (fun q4 hF => ?_)
    · cases hF
      exact j_vret C hr d_Fl_passMany_18 rfl
    · refine j_aload_n C d_Fl_passMany_7 rfl 0 rfl ?_
      refine j_aload_n C d_Fl_passMany_8 rfl 1 rfl ?_
      obtain ⟨r9, h9, hF⟩ := g_bind hF
      refine j_vv C (As := [rf G k1]) (st := []) (c_Fl_pass (XL X) G k1 σ hk1 h9) (rfl : kdf 14 = 3) (by decide) rfl rfl m_Fl_pass wd_477 rfl rfl (Nat.le_of_ble_eq_true rfl) ⟨by decide, by decide⟩ d_Fl_passMany_9 ?_
      refine j_iinc C (v := x3 + (1 : Int32)) (lv' := [(3, .int (x3 + (1 : Int32))), (0, rf G 14), (1, rf G k1), (2, .int x2)]) d_Fl_passMany_12 3 rfl rfl (by decide) rfl ?_
      refine j_goto C 2 d_Fl_passMany_15 (by decide) ?_
      refine j_sub C [(0, rf G 14), (1, rf G k1), (2, .int x2), (3, .int (x3 + (1 : Int32)))] [1, 2, 3, 0] rfl ?_
      exact ih k1 x2 (x3 + (1 : Int32)) hk1 r9 hF
set_option maxHeartbeats 4000000 in
set_option maxRecDepth 100000 in
theorem c_Fl_passMany (l : Launch) (G : GT) (k1 : Nat) (x2 : Int32) (σ : MT) (hk1 : kdf k1 = 4) {z : MT} (hF : f_Fl_passMany k1 x2 σ = some z) : CTV l G y_Fl_passMany b_Fl_passMany 4 none 5 117 [rf G 14, rf G k1, .int x2] σ z := by
  refine entX [(0, rf G 14), (1, rf G k1), (2, .int x2)] "TimeFlood$Flood" (by decide +kernel) rfl rfl (Nat.le_of_ble_eq_true rfl) (fun X hXl hr C => ?_)
  unfold f_Fl_passMany at hF
  refine j_iconst C (v := 0) d_Fl_passMany_0 (by decide) ?_
  refine j_istore_n C (lv' := [(3, .int (0 : Int32)), (0, rf G 14), (1, rf G k1), (2, .int x2)]) d_Fl_passMany_1 rfl (by decide) rfl ?_
  refine j_sub C [(0, rf G 14), (1, rf G k1), (2, .int x2), (3, .int (0 : Int32))] [1, 2, 3, 0] rfl ?_
  exact b_Fl_passMany_2 C hr 1100 k1 x2 (0 : Int32) hk1 σ hF
set_option maxHeartbeats 4000000 in
set_option maxRecDepth 100000 in
theorem b_In_bitCount_48 {X : XT} {G : GT} {z : Int32} {σ : MT} (C : CX X G b_In_bitCount 1 "java/lang/Integer" 0 0) (hr : XR X (some .int)) (x0 : Int32) (hF : f_In_bitCount_48 x0 = some z) : JW X G (QX X (PI G z σ) G) 1 48 [(0, .int x0)] [] σ := by
  unfold f_In_bitCount_48 at hF
  refine j_iload_n C d_In_bitCount_48 rfl 0 rfl ?_
  refine j_bipush C (v := 63) d_In_bitCount_49 (by decide) ?_
  refine j_iand C d_In_bitCount_51 ?_
  cases hF
  exact j_iret (st := []) C hr d_In_bitCount_52 rfl rfl
set_option maxHeartbeats 4000000 in
set_option maxRecDepth 100000 in
theorem b_In_bitCount_34 {X : XT} {G : GT} {z : Int32} {σ : MT} (C : CX X G b_In_bitCount 1 "java/lang/Integer" 0 0) (hr : XR X (some .int)) (x0 : Int32) (hF : f_In_bitCount_34 x0 = some z) : JW X G (QX X (PI G z σ) G) 1 34 [(0, .int x0)] [] σ := by
  unfold f_In_bitCount_34 at hF
  refine j_iload_n C d_In_bitCount_34 rfl 0 rfl ?_
  refine j_iload_n C d_In_bitCount_35 rfl 0 rfl ?_
  refine j_bipush C (v := 8) d_In_bitCount_36 (by decide) ?_
  refine j_iushr C d_In_bitCount_38 ?_
  refine j_iadd C d_In_bitCount_39 ?_
  refine j_istore_n C (lv' := [(0, .int (x0 + ((x0.toUInt32 >>> ((8 : Int32).toUInt32 &&& Int32.toUInt32 31)).toInt32)))]) d_In_bitCount_40 rfl (by decide) rfl ?_
  refine j_iload_n C d_In_bitCount_41 rfl 0 rfl ?_
  refine j_iload_n C d_In_bitCount_42 rfl 0 rfl ?_
  refine j_bipush C (v := 16) d_In_bitCount_43 (by decide) ?_
  refine j_iushr C d_In_bitCount_45 ?_
  refine j_iadd C d_In_bitCount_46 ?_
  refine j_istore_n C (lv' := [(0, .int ((x0 + ((x0.toUInt32 >>> ((8 : Int32).toUInt32 &&& Int32.toUInt32 31)).toInt32)) + (((x0 + ((x0.toUInt32 >>> ((8 : Int32).toUInt32 &&& Int32.toUInt32 31)).toInt32)).toUInt32 >>> ((16 : Int32).toUInt32 &&& Int32.toUInt32 31)).toInt32)))]) d_In_bitCount_47 rfl (by decide) rfl ?_
  exact b_In_bitCount_48 C hr ((x0 + ((x0.toUInt32 >>> ((8 : Int32).toUInt32 &&& Int32.toUInt32 31)).toInt32)) + (((x0 + ((x0.toUInt32 >>> ((8 : Int32).toUInt32 &&& Int32.toUInt32 31)).toInt32)).toUInt32 >>> ((16 : Int32).toUInt32 &&& Int32.toUInt32 31)).toInt32)) hF
set_option maxHeartbeats 4000000 in
set_option maxRecDepth 100000 in
theorem b_In_bitCount_24 {X : XT} {G : GT} {z : Int32} {σ : MT} (C : CX X G b_In_bitCount 1 "java/lang/Integer" 0 0) (hr : XR X (some .int)) (x0 : Int32) (hF : f_In_bitCount_24 x0 = some z) : JW X G (QX X (PI G z σ) G) 1 24 [(0, .int x0)] [] σ := by
  unfold f_In_bitCount_24 at hF
  refine j_iload_n C d_In_bitCount_24 rfl 0 rfl ?_
  refine j_iload_n C d_In_bitCount_25 rfl 0 rfl ?_
  refine j_iconst C (v := 4) d_In_bitCount_26 (by decide) ?_
  refine j_iushr C d_In_bitCount_27 ?_
  refine j_iadd C d_In_bitCount_28 ?_
  refine j_ldcw C wd_520 d_In_bitCount_29 ?_
  refine j_iand C d_In_bitCount_32 ?_
  refine j_istore_n C (lv' := [(0, .int ((x0 + ((x0.toUInt32 >>> ((4 : Int32).toUInt32 &&& Int32.toUInt32 31)).toInt32)) &&& (252645135 : Int32)))]) d_In_bitCount_33 rfl (by decide) rfl ?_
  exact b_In_bitCount_34 C hr ((x0 + ((x0.toUInt32 >>> ((4 : Int32).toUInt32 &&& Int32.toUInt32 31)).toInt32)) &&& (252645135 : Int32)) hF
set_option maxHeartbeats 4000000 in
set_option maxRecDepth 100000 in
theorem b_In_bitCount_10 {X : XT} {G : GT} {z : Int32} {σ : MT} (C : CX X G b_In_bitCount 1 "java/lang/Integer" 0 0) (hr : XR X (some .int)) (x0 : Int32) (hF : f_In_bitCount_10 x0 = some z) : JW X G (QX X (PI G z σ) G) 1 10 [(0, .int x0)] [] σ := by
  unfold f_In_bitCount_10 at hF
  refine j_iload_n C d_In_bitCount_10 rfl 0 rfl ?_
  refine j_ldcw C wd_519 d_In_bitCount_11 ?_
  refine j_iand C d_In_bitCount_14 ?_
  refine j_iload_n C d_In_bitCount_15 rfl 0 rfl ?_
  refine j_iconst C (v := 2) d_In_bitCount_16 (by decide) ?_
  refine j_iushr C d_In_bitCount_17 ?_
  refine j_ldcw C wd_519 d_In_bitCount_18 ?_
  refine j_iand C d_In_bitCount_21 ?_
  refine j_iadd C d_In_bitCount_22 ?_
  refine j_istore_n C (lv' := [(0, .int ((x0 &&& (858993459 : Int32)) + (((x0.toUInt32 >>> ((2 : Int32).toUInt32 &&& Int32.toUInt32 31)).toInt32) &&& (858993459 : Int32))))]) d_In_bitCount_23 rfl (by decide) rfl ?_
  exact b_In_bitCount_24 C hr ((x0 &&& (858993459 : Int32)) + (((x0.toUInt32 >>> ((2 : Int32).toUInt32 &&& Int32.toUInt32 31)).toInt32) &&& (858993459 : Int32))) hF
set_option maxHeartbeats 4000000 in
set_option maxRecDepth 100000 in
theorem c_In_bitCount (l : Launch) (G : GT) (x0 : Int32)  (σ : MT) {z : Int32} (hF : f_In_bitCount x0 = some z) : CTI l G y_In_bitCount b_In_bitCount 1 (some .int) 0 0 [.int x0] σ z σ := by
  refine entX [(0, .int x0)] "java/lang/Integer" (by decide +kernel) rfl rfl (Nat.le_of_ble_eq_true rfl) (fun X hXl hr C => ?_)
  unfold f_In_bitCount at hF
  refine j_iload_n C d_In_bitCount_0 rfl 0 rfl ?_
  refine j_iload_n C d_In_bitCount_1 rfl 0 rfl ?_
  refine j_iconst C (v := 1) d_In_bitCount_2 (by decide) ?_
  refine j_iushr C d_In_bitCount_3 ?_
  refine j_ldcw C wd_518 d_In_bitCount_4 ?_
  refine j_iand C d_In_bitCount_7 ?_
  refine j_isub C d_In_bitCount_8 ?_
  refine j_istore_n C (lv' := [(0, .int (x0 - (((x0.toUInt32 >>> ((1 : Int32).toUInt32 &&& Int32.toUInt32 31)).toInt32) &&& (1431655765 : Int32))))]) d_In_bitCount_9 rfl (by decide) rfl ?_
  exact b_In_bitCount_10 C hr (x0 - (((x0.toUInt32 >>> ((1 : Int32).toUInt32 &&& Int32.toUInt32 31)).toInt32) &&& (1431655765 : Int32))) hF
set_option maxHeartbeats 4000000 in
set_option maxRecDepth 100000 in
theorem c_TF_period (l : Launch) (G : GT) (x1 : Int32) (σ : MT)  {z : (Int32 × MT)} (hF : f_TF_period x1 σ = some z) : CTI l G y_TF_period b_TF_period 2 (some .int) 6 152 [rf G 0, .int x1] σ z.1 z.2 := by
  refine entX [(0, rf G 0), (1, .int x1)] "TimeFlood" (by decide +kernel) rfl rfl (Nat.le_of_ble_eq_true rfl) (fun X hXl hr C => ?_)
  unfold f_TF_period at hF
  refine j_iload_n C d_TF_period_0 rfl 1 rfl ?_
  refine j_iconst C (v := 1) d_TF_period_1 (by decide) ?_
  refine j_icmp_lt C 11 d_TF_period_2 (by decide) hF (fun q2 hF => ?_) (fun q2 hF => ?_)
  · refine j_bipush C (v := -2) d_TF_period_11 (by decide) ?_
    cases hF
    exact j_iret (st := []) C hr d_TF_period_13 rfl rfl
  · refine j_iload_n C d_TF_period_5 rfl 1 rfl ?_
    refine j_bipush C (v := 99) d_TF_period_6 (by decide) ?_
    refine j_icmp_le C 14 d_TF_period_8 (by decide) hF (fun q8 hF => ?_) (fun q8 hF => ?_)
    · refine j_aload_n C d_TF_period_14 rfl 0 rfl ?_
      refine g_TF_journal C (rfl : kdf 0 = 0) wd_246 d_TF_period_15 ?_
      refine j_aload_n C d_TF_period_18 rfl 0 rfl ?_
      refine g_TF_now C (rfl : kdf 0 = 0) wd_244 d_TF_period_19 ?_
      obtain ⟨r22, h22, hF⟩ := g_bind hF
      refine j_vv C (As := [rf G 61]) (st := []) (c_Jr_push (XL X) G 61 σ (rfl : kdf 61 = 4) h22) (rfl : kdf 30 = 6) (by decide) rfl rfl m_Jr_push wd_457 rfl rfl (Nat.le_of_ble_eq_true rfl) ⟨by decide, by decide⟩ d_TF_period_22 ?_
      refine j_aload_n C d_TF_period_25 rfl 0 rfl ?_
      refine g_TF_flood C (rfl : kdf 0 = 0) wd_242 d_TF_period_26 ?_
      refine j_aload_n C d_TF_period_29 rfl 0 rfl ?_
      refine g_TF_now C (rfl : kdf 0 = 0) wd_244 d_TF_period_30 ?_
      refine j_iload_n C d_TF_period_33 rfl 1 rfl ?_
      obtain ⟨r34, h34, hF⟩ := g_bind hF
      refine j_vv C (As := [rf G 61, .int x1]) (st := []) (c_Fl_passMany (XL X) G 61 x1 r22 (rfl : kdf 61 = 4) h34) (rfl : kdf 14 = 3) (by decide) rfl rfl m_Fl_passMany wd_473 rfl rfl (Nat.le_of_ble_eq_true rfl) ⟨by decide, by decide⟩ d_TF_period_34 ?_
      refine j_aload_n C d_TF_period_37 rfl 0 rfl ?_
      refine g_TF_flood C (rfl : kdf 0 = 0) wd_242 d_TF_period_38 ?_
      refine j_aload_n C d_TF_period_41 rfl 0 rfl ?_
      refine g_TF_now C (rfl : kdf 0 = 0) wd_244 d_TF_period_42 ?_
      obtain ⟨r45, h45, hF⟩ := g_bind hF
      refine j_vi C (As := [rf G 61]) (st := []) (c_Fl_inTimeSet (XL X) G 61 r34 (rfl : kdf 61 = 4) h45) (rfl : kdf 14 = 3) (by decide) rfl rfl m_Fl_inTimeSet wd_377 rfl rfl (Nat.le_of_ble_eq_true rfl) ⟨by decide, by decide⟩ d_TF_period_45 ?_
      obtain ⟨r48, h48, hF⟩ := g_bind hF
      refine j_si C (As := [.int r45]) (st := []) (c_In_bitCount (XL X) G r45 r34 h48) m_In_bitCount wd_515 rfl rfl (Nat.le_of_ble_eq_true rfl) ⟨by decide, by decide⟩ d_TF_period_48 ?_
      cases hF
      exact j_iret (st := []) C hr d_TF_period_51 rfl rfl
    · refine j_bipush C (v := -2) d_TF_period_11 (by decide) ?_
      cases hF
      exact j_iret (st := []) C hr d_TF_period_13 rfl rfl
set_option maxHeartbeats 4000000 in
set_option maxRecDepth 100000 in
theorem c_St_flipLink (l : Launch) (G : GT) (k0 : Nat) (x1 : Int32) (σ : MT) (hk0 : kdf k0 = 4) {z : MT} (hF : f_St_flipLink k0 x1 σ = some z) : CTV l G y_St_flipLink b_St_flipLink 2 none 0 0 [rf G k0, .int x1] σ z := by
  refine entX [(0, rf G k0), (1, .int x1)] "TimeFlood$State" (by decide +kernel) rfl rfl (Nat.le_of_ble_eq_true rfl) (fun X hXl hr C => ?_)
  unfold f_St_flipLink at hF
  refine j_aload_n C d_St_flipLink_0 rfl 0 rfl ?_
  refine j_dup C d_St_flipLink_1 rfl ?_
  refine g_St_downSet C hk0 wd_187 d_St_flipLink_2 ?_
  refine j_iconst C (v := 1) d_St_flipLink_5 (by decide) ?_
  refine j_iload_n C d_St_flipLink_6 rfl 1 rfl ?_
  refine j_ishl C d_St_flipLink_7 ?_
  refine j_ixor C d_St_flipLink_8 ?_
  refine p_St_downSet C hk0 wd_187 d_St_flipLink_9 ?_
  cases hF
  exact j_vret C hr d_St_flipLink_12 rfl
set_option maxHeartbeats 4000000 in
set_option maxRecDepth 100000 in
theorem c_TF_turn (l : Launch) (G : GT) (x1 : Int32) (σ : MT)  {z : (Int32 × MT)} (hF : f_TF_turn x1 σ = some z) : CTI l G y_TF_turn b_TF_turn 2 (some .int) 4 94 [rf G 0, .int x1] σ z.1 z.2 := by
  refine entX [(0, rf G 0), (1, .int x1)] "TimeFlood" (by decide +kernel) rfl rfl (Nat.le_of_ble_eq_true rfl) (fun X hXl hr C => ?_)
  unfold f_TF_turn at hF
  refine j_aload_n C d_TF_turn_0 rfl 0 rfl ?_
  refine j_iload_n C d_TF_turn_1 rfl 1 rfl ?_
  obtain ⟨r2, h2, hF⟩ := g_bind hF
  refine j_vi C (As := [.int x1]) (st := []) (c_TF_hasLink (XL X) G x1 σ h2) (rfl : kdf 0 = 0) (by decide) rfl rfl m_TF_hasLink wd_445 rfl rfl (Nat.le_of_ble_eq_true rfl) ⟨by decide, by decide⟩ d_TF_turn_2 ?_
  refine j_if_ne C 10 d_TF_turn_5 (by decide) hF (fun q5 hF => ?_) (fun q5 hF => ?_)
  · refine j_aload_n C d_TF_turn_10 rfl 0 rfl ?_
    refine g_TF_journal C (rfl : kdf 0 = 0) wd_246 d_TF_turn_11 ?_
    refine j_aload_n C d_TF_turn_14 rfl 0 rfl ?_
    refine g_TF_now C (rfl : kdf 0 = 0) wd_244 d_TF_turn_15 ?_
    obtain ⟨r18, h18, hF⟩ := g_bind hF
    refine j_vv C (As := [rf G 61]) (st := []) (c_Jr_push (XL X) G 61 σ (rfl : kdf 61 = 4) h18) (rfl : kdf 30 = 6) (by decide) rfl rfl m_Jr_push wd_457 rfl rfl (Nat.le_of_ble_eq_true rfl) ⟨by decide, by decide⟩ d_TF_turn_18 ?_
    refine j_aload_n C d_TF_turn_21 rfl 0 rfl ?_
    refine g_TF_now C (rfl : kdf 0 = 0) wd_244 d_TF_turn_22 ?_
    refine j_iload_n C d_TF_turn_25 rfl 1 rfl ?_
    obtain ⟨r26, h26, hF⟩ := g_bind hF
    refine j_vv C (As := [.int x1]) (st := []) (c_St_flipLink (XL X) G 61 x1 r18 (rfl : kdf 61 = 4) h26) (rfl : kdf 61 = 4) (by decide) rfl rfl m_St_flipLink wd_525 rfl rfl (Nat.le_of_ble_eq_true rfl) ⟨by decide, by decide⟩ d_TF_turn_26 ?_
    refine j_aload_n C d_TF_turn_29 rfl 0 rfl ?_
    refine g_TF_now C (rfl : kdf 0 = 0) wd_244 d_TF_turn_30 ?_
    refine j_iload_n C d_TF_turn_33 rfl 1 rfl ?_
    obtain ⟨r34, h34, hF⟩ := g_bind hF
    refine j_vi C (As := [.int x1]) (st := []) (c_St_isDown (XL X) G 61 x1 r26 (rfl : kdf 61 = 4) h34) (rfl : kdf 61 = 4) (by decide) rfl rfl m_St_isDown wd_449 rfl rfl (Nat.le_of_ble_eq_true rfl) ⟨by decide, by decide⟩ d_TF_turn_34 ?_
    refine j_if_eq C 44 d_TF_turn_37 (by decide) hF (fun q37 hF => ?_) (fun q37 hF => ?_)
    · refine j_iconst C (v := 0) d_TF_turn_44 (by decide) ?_
      cases hF
      exact j_iret (st := []) C hr d_TF_turn_45 rfl rfl
    · refine j_iconst C (v := 1) d_TF_turn_40 (by decide) ?_
      refine j_goto C 45 d_TF_turn_41 (by decide) ?_
      cases hF
      exact j_iret (st := []) C hr d_TF_turn_45 rfl rfl
  · refine j_iconst C (v := -1) d_TF_turn_8 (by decide) ?_
    cases hF
    exact j_iret (st := []) C hr d_TF_turn_9 rfl rfl
set_option maxHeartbeats 4000000 in
set_option maxRecDepth 100000 in
theorem b_Nd_flipPower_13 {X : XT} {G : GT} {z : MT} (C : CX X G b_Nd_flipPower 1 "TimeFlood$Node" 1 20) (hr : XR X none) (k0 : Nat) (xs0 : Int32) (ks1 : Nat) (hk0 : kdf k0 = 5) (hks1 : kdf ks1 = 5) (σ : MT) (hF : f_Nd_flipPower_13 k0 xs0 ks1 σ = some z) : JW X G (QX X (PV G z) G) 1 13 [(0, rf G k0)] [.int xs0, rf G ks1] σ := by
  unfold f_Nd_flipPower_13 at hF
  obtain ⟨qz13, hF⟩ := g_if hF
  refine p_Nd_on C hks1 (zbb_z qz13) wd_140 d_Nd_flipPower_13 ?_
  refine j_aload_n C d_Nd_flipPower_16 rfl 0 rfl ?_
  refine g_Nd_on C hk0 wd_140 d_Nd_flipPower_17 ?_
  refine j_if_eq C 27 d_Nd_flipPower_20 (by decide) hF (fun q20 hF => ?_) (fun q20 hF => ?_)
  · cases hF
    exact j_vret C hr d_Nd_flipPower_27 rfl
  · refine j_aload_n C d_Nd_flipPower_23 rfl 0 rfl ?_
    obtain ⟨r24, h24, hF⟩ := g_bind hF
    refine j_vv C (As := []) (st := []) (c_Nd_forget (XL X) G k0 (sI σ ks1 0 xs0) hk0 h24) hk0 (by decide) rfl rfl m_Nd_forget wd_537 rfl rfl (Nat.le_of_ble_eq_true rfl) ⟨by decide, by decide⟩ d_Nd_flipPower_24 ?_
    cases hF
    exact j_vret C hr d_Nd_flipPower_27 rfl
set_option maxHeartbeats 4000000 in
set_option maxRecDepth 100000 in
theorem c_Nd_flipPower (l : Launch) (G : GT) (k0 : Nat) (σ : MT) (hk0 : kdf k0 = 5) {z : MT} (hF : f_Nd_flipPower k0 σ = some z) : CTV l G y_Nd_flipPower b_Nd_flipPower 1 none 1 20 [rf G k0] σ z := by
  refine entX [(0, rf G k0)] "TimeFlood$Node" (by decide +kernel) rfl rfl (Nat.le_of_ble_eq_true rfl) (fun X hXl hr C => ?_)
  unfold f_Nd_flipPower at hF
  refine j_aload_n C d_Nd_flipPower_0 rfl 0 rfl ?_
  refine j_aload_n C d_Nd_flipPower_1 rfl 0 rfl ?_
  refine g_Nd_on C hk0 wd_140 d_Nd_flipPower_2 ?_
  refine j_if_ne C 12 d_Nd_flipPower_5 (by decide) hF (fun q5 hF => ?_) (fun q5 hF => ?_)
  · refine j_iconst C (v := 0) d_Nd_flipPower_12 (by decide) ?_
    exact b_Nd_flipPower_13 C hr k0 (0 : Int32) k0 hk0 hk0 σ hF
  · refine j_iconst C (v := 1) d_Nd_flipPower_8 (by decide) ?_
    refine j_goto C 13 d_Nd_flipPower_9 (by decide) ?_
    exact b_Nd_flipPower_13 C hr k0 (1 : Int32) k0 hk0 hk0 σ hF
set_option maxHeartbeats 4000000 in
set_option maxRecDepth 100000 in
theorem c_TF_power (l : Launch) (G : GT) (x1 : Int32) (σ : MT)  {z : (Int32 × MT)} (hF : f_TF_power x1 σ = some z) : CTI l G y_TF_power b_TF_power 2 (some .int) 4 94 [rf G 0, .int x1] σ z.1 z.2 := by
  refine entX [(0, rf G 0), (1, .int x1)] "TimeFlood" (by decide +kernel) rfl rfl (Nat.le_of_ble_eq_true rfl) (fun X hXl hr C => ?_)
  unfold f_TF_power at hF
  refine j_aload_n C d_TF_power_0 rfl 0 rfl ?_
  refine j_iload_n C d_TF_power_1 rfl 1 rfl ?_
  obtain ⟨r2, h2, hF⟩ := g_bind hF
  refine j_vi C (As := [.int x1]) (st := []) (c_TF_hasNode (XL X) G x1 σ h2) (rfl : kdf 0 = 0) (by decide) rfl rfl m_TF_hasNode wd_425 rfl rfl (Nat.le_of_ble_eq_true rfl) ⟨by decide, by decide⟩ d_TF_power_2 ?_
  refine j_if_ne C 10 d_TF_power_5 (by decide) hF (fun q5 hF => ?_) (fun q5 hF => ?_)
  · refine j_aload_n C d_TF_power_10 rfl 0 rfl ?_
    refine g_TF_journal C (rfl : kdf 0 = 0) wd_246 d_TF_power_11 ?_
    refine j_aload_n C d_TF_power_14 rfl 0 rfl ?_
    refine g_TF_now C (rfl : kdf 0 = 0) wd_244 d_TF_power_15 ?_
    obtain ⟨r18, h18, hF⟩ := g_bind hF
    refine j_vv C (As := [rf G 61]) (st := []) (c_Jr_push (XL X) G 61 σ (rfl : kdf 61 = 4) h18) (rfl : kdf 30 = 6) (by decide) rfl rfl m_Jr_push wd_457 rfl rfl (Nat.le_of_ble_eq_true rfl) ⟨by decide, by decide⟩ d_TF_power_18 ?_
    refine j_aload_n C d_TF_power_21 rfl 0 rfl ?_
    refine g_TF_now C (rfl : kdf 0 = 0) wd_244 d_TF_power_22 ?_
    refine g_St_nodes C (rfl : kdf 61 = 4) wd_191 d_TF_power_25 ?_
    refine j_iload_n C d_TF_power_28 rfl 1 rfl ?_
    obtain ⟨q29, hF⟩ := g_if hF
    refine e_nodes C (rfl : kdf 62 = 32) (inb_v q29) d_TF_power_29 ?_
    obtain ⟨r30, h30, hF⟩ := g_bind hF
    refine j_vv C (As := []) (st := []) (c_Nd_flipPower (XL X) G (62 + 1 + 4 * x1.toNatClampNeg) r18 (kd_node (rfl : kdf 62 = 32) (inb_v q29)) h30) (kd_node (rfl : kdf 62 = 32) (inb_v q29)) (by decide) rfl rfl m_Nd_flipPower wd_533 rfl rfl (Nat.le_of_ble_eq_true rfl) ⟨by decide, by decide⟩ d_TF_power_30 ?_
    refine j_aload_n C d_TF_power_33 rfl 0 rfl ?_
    refine g_TF_now C (rfl : kdf 0 = 0) wd_244 d_TF_power_34 ?_
    refine g_St_nodes C (rfl : kdf 61 = 4) wd_191 d_TF_power_37 ?_
    refine j_iload_n C d_TF_power_40 rfl 1 rfl ?_
    obtain ⟨q41, hF⟩ := g_if hF
    refine e_nodes C (rfl : kdf 62 = 32) (inb_v q41) d_TF_power_41 ?_
    refine g_Nd_on C (kd_node (rfl : kdf 62 = 32) (inb_v q41)) wd_143 d_TF_power_42 ?_
    refine j_if_eq C 52 d_TF_power_45 (by decide) hF (fun q45 hF => ?_) (fun q45 hF => ?_)
    · refine j_iconst C (v := 0) d_TF_power_52 (by decide) ?_
      cases hF
      exact j_iret (st := []) C hr d_TF_power_53 rfl rfl
    · refine j_iconst C (v := 1) d_TF_power_48 (by decide) ?_
      refine j_goto C 53 d_TF_power_49 (by decide) ?_
      cases hF
      exact j_iret (st := []) C hr d_TF_power_53 rfl rfl
  · refine j_iconst C (v := -1) d_TF_power_8 (by decide) ?_
    cases hF
    exact j_iret (st := []) C hr d_TF_power_9 rfl rfl
set_option maxHeartbeats 4000000 in
set_option maxRecDepth 100000 in
theorem c_TF_drift (l : Launch) (G : GT) (x1 : Int32) (x2 : Int32) (σ : MT)  {z : (Int32 × MT)} (hF : f_TF_drift x1 x2 σ = some z) : CTI l G y_TF_drift b_TF_drift 3 (some .int) 4 94 [rf G 0, .int x1, .int x2] σ z.1 z.2 := by
  refine entX [(0, rf G 0), (1, .int x1), (2, .int x2)] "TimeFlood" (by decide +kernel) rfl rfl (Nat.le_of_ble_eq_true rfl) (fun X hXl hr C => ?_)
  unfold f_TF_drift at hF
  refine j_aload_n C d_TF_drift_0 rfl 0 rfl ?_
  refine j_iload_n C d_TF_drift_1 rfl 1 rfl ?_
  obtain ⟨r2, h2, hF⟩ := g_bind hF
  refine j_vi C (As := [.int x1]) (st := []) (c_TF_hasNode (XL X) G x1 σ h2) (rfl : kdf 0 = 0) (by decide) rfl rfl m_TF_hasNode wd_425 rfl rfl (Nat.le_of_ble_eq_true rfl) ⟨by decide, by decide⟩ d_TF_drift_2 ?_
  refine j_if_ne C 10 d_TF_drift_5 (by decide) hF (fun q5 hF => ?_) (fun q5 hF => ?_)
  · refine j_iload_n C d_TF_drift_10 rfl 2 rfl ?_
    refine j_bipush C (v := -4) d_TF_drift_11 (by decide) ?_
    refine j_icmp_lt C 21 d_TF_drift_13 (by decide) hF (fun q13 hF => ?_) (fun q13 hF => ?_)
    · refine j_bipush C (v := -2) d_TF_drift_21 (by decide) ?_
      cases hF
      exact j_iret (st := []) C hr d_TF_drift_23 rfl rfl
    · refine j_iload_n C d_TF_drift_16 rfl 2 rfl ?_
      refine j_iconst C (v := 5) d_TF_drift_17 (by decide) ?_
      refine j_icmp_le C 24 d_TF_drift_18 (by decide) hF (fun q18 hF => ?_) (fun q18 hF => ?_)
      · refine j_aload_n C d_TF_drift_24 rfl 0 rfl ?_
        refine g_TF_journal C (rfl : kdf 0 = 0) wd_246 d_TF_drift_25 ?_
        refine j_aload_n C d_TF_drift_28 rfl 0 rfl ?_
        refine g_TF_now C (rfl : kdf 0 = 0) wd_244 d_TF_drift_29 ?_
        obtain ⟨r32, h32, hF⟩ := g_bind hF
        refine j_vv C (As := [rf G 61]) (st := []) (c_Jr_push (XL X) G 61 σ (rfl : kdf 61 = 4) h32) (rfl : kdf 30 = 6) (by decide) rfl rfl m_Jr_push wd_457 rfl rfl (Nat.le_of_ble_eq_true rfl) ⟨by decide, by decide⟩ d_TF_drift_32 ?_
        refine j_aload_n C d_TF_drift_35 rfl 0 rfl ?_
        refine g_TF_now C (rfl : kdf 0 = 0) wd_244 d_TF_drift_36 ?_
        refine g_St_nodes C (rfl : kdf 61 = 4) wd_191 d_TF_drift_39 ?_
        refine j_iload_n C d_TF_drift_42 rfl 1 rfl ?_
        obtain ⟨q43, hF⟩ := g_if hF
        refine e_nodes C (rfl : kdf 62 = 32) (inb_v q43) d_TF_drift_43 ?_
        refine j_iload_n C d_TF_drift_44 rfl 2 rfl ?_
        refine p_Nd_drift C (kd_node (rfl : kdf 62 = 32) (inb_v q43)) wd_147 d_TF_drift_45 ?_
        refine j_aload_n C d_TF_drift_48 rfl 0 rfl ?_
        refine g_TF_flood C (rfl : kdf 0 = 0) wd_242 d_TF_drift_49 ?_
        refine j_aload_n C d_TF_drift_52 rfl 0 rfl ?_
        refine g_TF_now C (rfl : kdf 0 = 0) wd_244 d_TF_drift_53 ?_
        refine j_iload_n C d_TF_drift_56 rfl 1 rfl ?_
        obtain ⟨r57, h57, hF⟩ := g_bind hF
        refine j_vi C (As := [rf G 61, .int x1]) (st := []) (c_Fl_clock (XL X) G 61 x1 (sI r32 (62 + 1 + 4 * x1.toNatClampNeg) 1 x2) (rfl : kdf 61 = 4) h57) (rfl : kdf 14 = 3) (by decide) rfl rfl m_Fl_clock wd_542 rfl rfl (Nat.le_of_ble_eq_true rfl) ⟨by decide, by decide⟩ d_TF_drift_57 ?_
        cases hF
        exact j_iret (st := []) C hr d_TF_drift_60 rfl rfl
      · refine j_bipush C (v := -2) d_TF_drift_21 (by decide) ?_
        cases hF
        exact j_iret (st := []) C hr d_TF_drift_23 rfl rfl
  · refine j_iconst C (v := -1) d_TF_drift_8 (by decide) ?_
    cases hF
    exact j_iret (st := []) C hr d_TF_drift_9 rfl rfl
set_option maxHeartbeats 4000000 in
set_option maxRecDepth 100000 in
theorem b_Jr_pop_23 {X : XT} {G : GT} {z : MT} (C : CX X G b_Jr_pop 2 "TimeFlood$Journal" 3 73) (hr : XR X none) (k1 : Nat) (hk1 : kdf k1 = 4) (σ : MT) (hF : f_Jr_pop_23 k1 σ = some z) : JW X G (QX X (PV G z) G) 2 23 [(0, rf G 30), (1, rf G k1)] [] σ := by
  unfold f_Jr_pop_23 at hF
  refine j_aload_n C d_Jr_pop_23 rfl 0 rfl ?_
  refine j_dup C d_Jr_pop_24 rfl ?_
  refine g_Jr_count C (rfl : kdf 30 = 6) wd_210 d_Jr_pop_25 ?_
  refine j_iconst C (v := 1) d_Jr_pop_28 (by decide) ?_
  refine j_isub C d_Jr_pop_29 ?_
  refine p_Jr_count C (rfl : kdf 30 = 6) wd_210 d_Jr_pop_30 ?_
  refine j_aload_n C d_Jr_pop_33 rfl 1 rfl ?_
  refine j_aload_n C d_Jr_pop_34 rfl 0 rfl ?_
  refine g_Jr_states C (rfl : kdf 30 = 6) wd_208 d_Jr_pop_35 ?_
  refine j_aload_n C d_Jr_pop_38 rfl 0 rfl ?_
  refine g_Jr_next C (rfl : kdf 30 = 6) wd_209 d_Jr_pop_39 ?_
  obtain ⟨q42, hF⟩ := g_if hF
  refine e_states C (rfl : kdf 31 = 31) (inb_v q42) d_Jr_pop_42 ?_
  obtain ⟨r43, h43, hF⟩ := g_bind hF
  refine j_vv C (As := [rf G (149 + 22 * ((sI σ 30 2 ((σ.1 30 2) - (1 : Int32))).1 30 1).toNatClampNeg)]) (st := []) (c_St_copyFrom (XL X) G k1 (149 + 22 * ((sI σ 30 2 ((σ.1 30 2) - (1 : Int32))).1 30 1).toNatClampNeg) (sI σ 30 2 ((σ.1 30 2) - (1 : Int32))) hk1 (kd_state (inb_v q42)) h43) hk1 (by decide) rfl rfl m_St_copyFrom wd_461 rfl rfl (Nat.le_of_ble_eq_true rfl) ⟨by decide, by decide⟩ d_Jr_pop_43 ?_
  cases hF
  exact j_vret C hr d_Jr_pop_46 rfl
set_option maxHeartbeats 4000000 in
set_option maxRecDepth 100000 in
theorem c_Jr_pop (l : Launch) (G : GT) (k1 : Nat) (σ : MT) (hk1 : kdf k1 = 4) {z : MT} (hF : f_Jr_pop k1 σ = some z) : CTV l G y_Jr_pop b_Jr_pop 2 none 3 73 [rf G 30, rf G k1] σ z := by
  refine entX [(0, rf G 30), (1, rf G k1)] "TimeFlood$Journal" (by decide +kernel) rfl rfl (Nat.le_of_ble_eq_true rfl) (fun X hXl hr C => ?_)
  unfold f_Jr_pop at hF
  refine j_aload_n C d_Jr_pop_0 rfl 0 rfl ?_
  refine g_Jr_count C (rfl : kdf 30 = 6) wd_210 d_Jr_pop_1 ?_
  refine j_if_le C 46 d_Jr_pop_4 (by decide) hF (fun q4 hF => ?_) (fun q4 hF => ?_)
  · cases hF
    exact j_vret C hr d_Jr_pop_46 rfl
  · refine j_aload_n C d_Jr_pop_7 rfl 0 rfl ?_
    refine j_aload_n C d_Jr_pop_8 rfl 0 rfl ?_
    refine g_Jr_next C (rfl : kdf 30 = 6) wd_209 d_Jr_pop_9 ?_
    refine j_bipush C (v := 14) d_Jr_pop_12 (by decide) ?_
    refine j_iadd C d_Jr_pop_14 ?_
    refine j_iconst C (v := 1) d_Jr_pop_15 (by decide) ?_
    refine j_isub C d_Jr_pop_16 ?_
    refine j_bipush C (v := 14) d_Jr_pop_17 (by decide) ?_
    refine j_irem C d_Jr_pop_19 (by decide) ?_
    refine p_Jr_next C (rfl : kdf 30 = 6) wd_209 d_Jr_pop_20 ?_
    exact b_Jr_pop_23 C hr k1 hk1 (sI σ 30 1 ((((σ.1 30 1) + (14 : Int32)) - (1 : Int32)) - (((σ.1 30 1) + (14 : Int32)) - (1 : Int32)) / (14 : Int32) * (14 : Int32))) hF
set_option maxHeartbeats 4000000 in
set_option maxRecDepth 100000 in
theorem c_TF_undo (l : Launch) (G : GT) (σ : MT)  {z : (Int32 × MT)} (hF : f_TF_undo σ = some z) : CTI l G y_TF_undo b_TF_undo 1 (some .int) 4 94 [rf G 0] σ z.1 z.2 := by
  refine entX [(0, rf G 0)] "TimeFlood" (by decide +kernel) rfl rfl (Nat.le_of_ble_eq_true rfl) (fun X hXl hr C => ?_)
  unfold f_TF_undo at hF
  refine j_aload_n C d_TF_undo_0 rfl 0 rfl ?_
  refine g_TF_journal C (rfl : kdf 0 = 0) wd_246 d_TF_undo_1 ?_
  refine g_Jr_count C (rfl : kdf 30 = 6) wd_211 d_TF_undo_4 ?_
  refine j_if_ne C 13 d_TF_undo_7 (by decide) hF (fun q7 hF => ?_) (fun q7 hF => ?_)
  · refine j_aload_n C d_TF_undo_13 rfl 0 rfl ?_
    refine g_TF_journal C (rfl : kdf 0 = 0) wd_246 d_TF_undo_14 ?_
    refine j_aload_n C d_TF_undo_17 rfl 0 rfl ?_
    refine g_TF_now C (rfl : kdf 0 = 0) wd_244 d_TF_undo_18 ?_
    obtain ⟨r21, h21, hF⟩ := g_bind hF
    refine j_vv C (As := [rf G 61]) (st := []) (c_Jr_pop (XL X) G 61 σ (rfl : kdf 61 = 4) h21) (rfl : kdf 30 = 6) (by decide) rfl rfl m_Jr_pop wd_547 rfl rfl (Nat.le_of_ble_eq_true rfl) ⟨by decide, by decide⟩ d_TF_undo_21 ?_
    refine j_aload_n C d_TF_undo_24 rfl 0 rfl ?_
    refine g_TF_journal C (rfl : kdf 0 = 0) wd_246 d_TF_undo_25 ?_
    refine g_Jr_count C (rfl : kdf 30 = 6) wd_211 d_TF_undo_28 ?_
    cases hF
    exact j_iret (st := []) C hr d_TF_undo_31 rfl rfl
  · refine j_bipush C (v := -3) d_TF_undo_10 (by decide) ?_
    cases hF
    exact j_iret (st := []) C hr d_TF_undo_12 rfl rfl
set_option maxHeartbeats 4000000 in
set_option maxRecDepth 100000 in
theorem c_TF_ahead (l : Launch) (G : GT) (x1 : Int32) (x2 : Int32) (x3 : Int32) (σ : MT)  {z : (Int32 × MT)} (hF : f_TF_ahead x1 x2 x3 σ = some z) : CTI l G y_TF_ahead b_TF_ahead 4 (some .int) 6 140 [rf G 0, .int x1, .int x2, .int x3] σ z.1 z.2 := by
  refine entX [(0, rf G 0), (1, .int x1), (2, .int x2), (3, .int x3)] "TimeFlood" (by decide +kernel) rfl rfl (Nat.le_of_ble_eq_true rfl) (fun X hXl hr C => ?_)
  unfold f_TF_ahead at hF
  refine j_aload_n C d_TF_ahead_0 rfl 0 rfl ?_
  refine j_iload_n C d_TF_ahead_1 rfl 2 rfl ?_
  obtain ⟨r2, h2, hF⟩ := g_bind hF
  refine j_vi C (As := [.int x2]) (st := []) (c_TF_hasNode (XL X) G x2 σ h2) (rfl : kdf 0 = 0) (by decide) rfl rfl m_TF_hasNode wd_425 rfl rfl (Nat.le_of_ble_eq_true rfl) ⟨by decide, by decide⟩ d_TF_ahead_2 ?_
  refine j_if_ne C 10 d_TF_ahead_5 (by decide) hF (fun q5 hF => ?_) (fun q5 hF => ?_)
  · refine j_iload_n C d_TF_ahead_10 rfl 1 rfl ?_
    refine j_if_lt C 31 d_TF_ahead_11 (by decide) hF (fun q11 hF => ?_) (fun q11 hF => ?_)
    · refine j_bipush C (v := -2) d_TF_ahead_31 (by decide) ?_
      cases hF
      exact j_iret (st := []) C hr d_TF_ahead_33 rfl rfl
    · refine j_iload_n C d_TF_ahead_14 rfl 1 rfl ?_
      refine j_bipush C (v := 99) d_TF_ahead_15 (by decide) ?_
      refine j_icmp_gt C 31 d_TF_ahead_17 (by decide) hF (fun q17 hF => ?_) (fun q17 hF => ?_)
      · refine j_bipush C (v := -2) d_TF_ahead_31 (by decide) ?_
        cases hF
        exact j_iret (st := []) C hr d_TF_ahead_33 rfl rfl
      · refine j_iload_n C d_TF_ahead_20 rfl 3 rfl ?_
        refine j_iconst C (v := 2) d_TF_ahead_21 (by decide) ?_
        refine j_icmp_lt C 31 d_TF_ahead_22 (by decide) hF (fun q22 hF => ?_) (fun q22 hF => ?_)
        · refine j_bipush C (v := -2) d_TF_ahead_31 (by decide) ?_
          cases hF
          exact j_iret (st := []) C hr d_TF_ahead_33 rfl rfl
        · refine j_iload_n C d_TF_ahead_25 rfl 3 rfl ?_
          refine j_bipush C (v := 10) d_TF_ahead_26 (by decide) ?_
          refine j_icmp_le C 34 d_TF_ahead_28 (by decide) hF (fun q28 hF => ?_) (fun q28 hF => ?_)
          · refine j_aload_n C d_TF_ahead_34 rfl 0 rfl ?_
            refine g_TF_trial C (rfl : kdf 0 = 0) wd_245 d_TF_ahead_35 ?_
            refine j_aload_n C d_TF_ahead_38 rfl 0 rfl ?_
            refine g_TF_now C (rfl : kdf 0 = 0) wd_244 d_TF_ahead_39 ?_
            obtain ⟨r42, h42, hF⟩ := g_bind hF
            refine j_vv C (As := [rf G 61]) (st := []) (c_St_copyFrom (XL X) G 83 61 σ (rfl : kdf 83 = 4) (rfl : kdf 61 = 4) h42) (rfl : kdf 83 = 4) (by decide) rfl rfl m_St_copyFrom wd_555 rfl rfl (Nat.le_of_ble_eq_true rfl) ⟨by decide, by decide⟩ d_TF_ahead_42 ?_
            refine j_aload_n C d_TF_ahead_45 rfl 0 rfl ?_
            refine g_TF_flood C (rfl : kdf 0 = 0) wd_242 d_TF_ahead_46 ?_
            refine j_aload_n C d_TF_ahead_49 rfl 0 rfl ?_
            refine g_TF_trial C (rfl : kdf 0 = 0) wd_245 d_TF_ahead_50 ?_
            refine j_iload_n C d_TF_ahead_53 rfl 1 rfl ?_
            obtain ⟨r54, h54, hF⟩ := g_bind hF
            refine j_vv C (As := [rf G 83, .int x1]) (st := []) (c_Fl_passMany (XL X) G 83 x1 r42 (rfl : kdf 83 = 4) h54) (rfl : kdf 14 = 3) (by decide) rfl rfl m_Fl_passMany wd_473 rfl rfl (Nat.le_of_ble_eq_true rfl) ⟨by decide, by decide⟩ d_TF_ahead_54 ?_
            refine j_aload_n C d_TF_ahead_57 rfl 0 rfl ?_
            refine g_TF_flood C (rfl : kdf 0 = 0) wd_242 d_TF_ahead_58 ?_
            refine j_aload_n C d_TF_ahead_61 rfl 0 rfl ?_
            refine g_TF_trial C (rfl : kdf 0 = 0) wd_245 d_TF_ahead_62 ?_
            refine j_iload_n C d_TF_ahead_65 rfl 2 rfl ?_
            refine j_iload_n C d_TF_ahead_66 rfl 3 rfl ?_
            obtain ⟨r67, h67, hF⟩ := g_bind hF
            refine j_vi C (As := [rf G 83, .int x2, .int x3]) (st := []) (c_Fl_property (XL X) G 83 x2 x3 r54 (rfl : kdf 83 = 4) h67) (rfl : kdf 14 = 3) (by decide) rfl rfl m_Fl_property wd_429 rfl rfl (Nat.le_of_ble_eq_true rfl) ⟨by decide, by decide⟩ d_TF_ahead_67 ?_
            cases hF
            exact j_iret (st := []) C hr d_TF_ahead_70 rfl rfl
          · refine j_bipush C (v := -2) d_TF_ahead_31 (by decide) ?_
            cases hF
            exact j_iret (st := []) C hr d_TF_ahead_33 rfl rfl
  · refine j_iconst C (v := -1) d_TF_ahead_8 (by decide) ?_
    cases hF
    exact j_iret (st := []) C hr d_TF_ahead_9 rfl rfl
set_option maxHeartbeats 4000000 in
set_option maxRecDepth 100000 in
theorem b_TF_agree_13 {X : XT} {G : GT} {z : (Int32 × MT)} (C : CX X G b_TF_agree 2 "TimeFlood" 5 117) (hr : XR X (some .int)) : ∀ (n : Nat) (x1 : Int32) (σ : MT), f_TF_agree_13 n x1 σ = some z → JW X G (QX X (PI G z.1 z.2) G) 2 13 [(0, rf G 0), (1, .int x1)] [] σ := by
  intro n
  induction n with
  | zero =>
    intro x1 σ hF
    rw [f_TF_agree_13] at hF
    cases hF
  | succ n ih =>
    intro x1 σ hF
    rw [f_TF_agree_13] at hF
    refine j_iload_n C d_TF_agree_13 rfl 1 rfl ?_
    refine j_bipush C (v := 60) d_TF_agree_14 (by decide) ?_
    refine j_icmp_gt C 48 d_TF_agree_16 (by decide) hF (fun q16 hF => ?_) (fun q16 hF => ?_)
    · refine j_bipush C (v := -9) d_TF_agree_48 (by decide) ?_
      cases hF
      exact j_iret (st := []) C hr d_TF_agree_50 rfl rfl
    · refine j_aload_n C d_TF_agree_19 rfl 0 rfl ?_
      refine g_TF_trial C (rfl : kdf 0 = 0) wd_245 d_TF_agree_20 ?_
      obtain ⟨r23, h23, hF⟩ := g_bind hF
      refine j_vi C (As := []) (st := []) (c_St_isUnited (XL X) G 83 σ (rfl : kdf 83 = 4) h23) (rfl : kdf 83 = 4) (by decide) rfl rfl m_St_isUnited wd_417 rfl rfl (Nat.le_of_ble_eq_true rfl) ⟨by decide, by decide⟩ d_TF_agree_23 ?_
      refine j_if_eq C 31 d_TF_agree_26 (by decide) hF (fun q26 hF => ?_) (fun q26 hF => ?_)
      · refine j_aload_n C d_TF_agree_31 rfl 0 rfl ?_
        refine g_TF_flood C (rfl : kdf 0 = 0) wd_242 d_TF_agree_32 ?_
        refine j_aload_n C d_TF_agree_35 rfl 0 rfl ?_
        refine g_TF_trial C (rfl : kdf 0 = 0) wd_245 d_TF_agree_36 ?_
        obtain ⟨r39, h39, hF⟩ := g_bind hF
        refine j_vv C (As := [rf G 83]) (st := []) (c_Fl_pass (XL X) G 83 σ (rfl : kdf 83 = 4) h39) (rfl : kdf 14 = 3) (by decide) rfl rfl m_Fl_pass wd_560 rfl rfl (Nat.le_of_ble_eq_true rfl) ⟨by decide, by decide⟩ d_TF_agree_39 ?_
        refine j_iinc C (v := x1 + (1 : Int32)) (lv' := [(1, .int (x1 + (1 : Int32))), (0, rf G 0)]) d_TF_agree_42 1 rfl rfl (by decide) rfl ?_
        refine j_goto C 13 d_TF_agree_45 (by decide) ?_
        refine j_sub C [(0, rf G 0), (1, .int (x1 + (1 : Int32)))] [1, 0] rfl ?_
        exact ih (x1 + (1 : Int32)) r39 hF
      · refine j_iload_n C d_TF_agree_29 rfl 1 rfl ?_
        cases hF
        exact j_iret (st := []) C hr d_TF_agree_30 rfl rfl
set_option maxHeartbeats 4000000 in
set_option maxRecDepth 100000 in
theorem c_TF_agree (l : Launch) (G : GT) (σ : MT)  {z : (Int32 × MT)} (hF : f_TF_agree σ = some z) : CTI l G y_TF_agree b_TF_agree 2 (some .int) 5 117 [rf G 0] σ z.1 z.2 := by
  refine entX [(0, rf G 0)] "TimeFlood" (by decide +kernel) rfl rfl (Nat.le_of_ble_eq_true rfl) (fun X hXl hr C => ?_)
  unfold f_TF_agree at hF
  refine j_aload_n C d_TF_agree_0 rfl 0 rfl ?_
  refine g_TF_trial C (rfl : kdf 0 = 0) wd_245 d_TF_agree_1 ?_
  refine j_aload_n C d_TF_agree_4 rfl 0 rfl ?_
  refine g_TF_now C (rfl : kdf 0 = 0) wd_244 d_TF_agree_5 ?_
  obtain ⟨r8, h8, hF⟩ := g_bind hF
  refine j_vv C (As := [rf G 61]) (st := []) (c_St_copyFrom (XL X) G 83 61 σ (rfl : kdf 83 = 4) (rfl : kdf 61 = 4) h8) (rfl : kdf 83 = 4) (by decide) rfl rfl m_St_copyFrom wd_555 rfl rfl (Nat.le_of_ble_eq_true rfl) ⟨by decide, by decide⟩ d_TF_agree_8 ?_
  refine j_iconst C (v := 0) d_TF_agree_11 (by decide) ?_
  refine j_istore_n C (lv' := [(1, .int (0 : Int32)), (0, rf G 0)]) d_TF_agree_12 rfl (by decide) rfl ?_
  refine j_sub C [(0, rf G 0), (1, .int (0 : Int32))] [1, 0] rfl ?_
  exact b_TF_agree_13 C hr 1100 (0 : Int32) r8 hF
set_option maxHeartbeats 4000000 in
set_option maxRecDepth 100000 in
theorem c_TF_holdsOnTrial (l : Launch) (G : GT) (x1 : Int32) (x2 : Int32) (x3 : Int32) (σ : MT)  {z : (Int32 × MT)} (hF : f_TF_holdsOnTrial x1 x2 x3 σ = some z) : CTI l G y_TF_holdsOnTrial b_TF_holdsOnTrial 4 (some .boolean) 6 140 [rf G 0, .int x1, .int x2, .int x3] σ z.1 z.2 := by
  refine entX [(0, rf G 0), (1, .int x1), (2, .int x2), (3, .int x3)] "TimeFlood" (by decide +kernel) rfl rfl (Nat.le_of_ble_eq_true rfl) (fun X hXl hr C => ?_)
  unfold f_TF_holdsOnTrial at hF
  refine j_iload_n C d_TF_holdsOnTrial_0 rfl 1 rfl ?_
  refine g_ite hF (fun q hF => ?_) (fun q1_0 hF => ?_)
  · refine j_tabIn C 40 q d_TF_holdsOnTrial_1 (by decide) (by decide) (off := 39) rfl (by decide) ?_
    refine j_aload_n C d_TF_holdsOnTrial_40 rfl 0 rfl ?_
    refine g_TF_flood C (rfl : kdf 0 = 0) wd_242 d_TF_holdsOnTrial_41 ?_
    refine j_aload_n C d_TF_holdsOnTrial_44 rfl 0 rfl ?_
    refine g_TF_trial C (rfl : kdf 0 = 0) wd_245 d_TF_holdsOnTrial_45 ?_
    refine j_bipush C (v := 10) d_TF_holdsOnTrial_48 (by decide) ?_
    refine j_iload_n C d_TF_holdsOnTrial_50 rfl 2 rfl ?_
    refine j_imul C d_TF_holdsOnTrial_51 ?_
    refine j_iload_n C d_TF_holdsOnTrial_52 rfl 3 rfl ?_
    refine j_iadd C d_TF_holdsOnTrial_53 ?_
    obtain ⟨r54, h54, hF⟩ := g_bind hF
    refine j_vv C (As := [rf G 83, .int (((10 : Int32) * x2) + x3)]) (st := []) (c_Fl_passMany (XL X) G 83 (((10 : Int32) * x2) + x3) σ (rfl : kdf 83 = 4) h54) (rfl : kdf 14 = 3) (by decide) rfl rfl m_Fl_passMany wd_473 rfl rfl (Nat.le_of_ble_eq_true rfl) ⟨by decide, by decide⟩ d_TF_holdsOnTrial_54 ?_
    refine j_bipush C (v := 10) d_TF_holdsOnTrial_57 (by decide) ?_
    refine j_iload_n C d_TF_holdsOnTrial_59 rfl 2 rfl ?_
    refine j_imul C d_TF_holdsOnTrial_60 ?_
    refine j_iload_n C d_TF_holdsOnTrial_61 rfl 3 rfl ?_
    refine j_iadd C d_TF_holdsOnTrial_62 ?_
    refine j_if_le C 70 d_TF_holdsOnTrial_63 (by decide) hF (fun q63 hF => ?_) (fun q63 hF => ?_)
    · refine j_iconst C (v := 0) d_TF_holdsOnTrial_70 (by decide) ?_
      cases hF
      exact j_zret (st := []) C hr rfl d_TF_holdsOnTrial_71 rfl rfl
    · refine j_iconst C (v := 1) d_TF_holdsOnTrial_66 (by decide) ?_
      refine j_goto C 71 d_TF_holdsOnTrial_67 (by decide) ?_
      cases hF
      exact j_zret (st := []) C hr rfl d_TF_holdsOnTrial_71 rfl rfl
  refine g_ite hF (fun q hF => ?_) (fun q1_1 hF => ?_)
  · refine j_tabIn C 72 q d_TF_holdsOnTrial_1 (by decide) (by decide) (off := 71) rfl (by decide) ?_
    refine j_iload_n C d_TF_holdsOnTrial_72 rfl 2 rfl ?_
    refine j_if_ne C 84 d_TF_holdsOnTrial_73 (by decide) hF (fun q73 hF => ?_) (fun q73 hF => ?_)
    · refine j_iconst C (v := 0) d_TF_holdsOnTrial_84 (by decide) ?_
      cases hF
      exact j_zret (st := []) C hr rfl d_TF_holdsOnTrial_85 rfl rfl
    · refine j_aload_n C d_TF_holdsOnTrial_76 rfl 0 rfl ?_
      refine j_iload_n C d_TF_holdsOnTrial_77 rfl 3 rfl ?_
      obtain ⟨r78, h78, hF⟩ := g_bind hF
      refine j_vi C (As := [.int x3]) (st := []) (c_TF_hasLink (XL X) G x3 σ h78) (rfl : kdf 0 = 0) (by decide) rfl rfl m_TF_hasLink wd_445 rfl rfl (Nat.le_of_ble_eq_true rfl) ⟨by decide, by decide⟩ d_TF_holdsOnTrial_78 ?_
      refine j_if_ne C 86 d_TF_holdsOnTrial_81 (by decide) hF (fun q81 hF => ?_) (fun q81 hF => ?_)
      · refine j_aload_n C d_TF_holdsOnTrial_86 rfl 0 rfl ?_
        refine g_TF_trial C (rfl : kdf 0 = 0) wd_245 d_TF_holdsOnTrial_87 ?_
        refine j_iload_n C d_TF_holdsOnTrial_90 rfl 3 rfl ?_
        obtain ⟨r91, h91, hF⟩ := g_bind hF
        refine j_vv C (As := [.int x3]) (st := []) (c_St_flipLink (XL X) G 83 x3 σ (rfl : kdf 83 = 4) h91) (rfl : kdf 83 = 4) (by decide) rfl rfl m_St_flipLink wd_525 rfl rfl (Nat.le_of_ble_eq_true rfl) ⟨by decide, by decide⟩ d_TF_holdsOnTrial_91 ?_
        refine j_iconst C (v := 1) d_TF_holdsOnTrial_94 (by decide) ?_
        cases hF
        exact j_zret (st := []) C hr rfl d_TF_holdsOnTrial_95 rfl rfl
      · refine j_iconst C (v := 0) d_TF_holdsOnTrial_84 (by decide) ?_
        cases hF
        exact j_zret (st := []) C hr rfl d_TF_holdsOnTrial_85 rfl rfl
  refine g_ite hF (fun q hF => ?_) (fun q1_2 hF => ?_)
  · refine j_tabIn C 96 q d_TF_holdsOnTrial_1 (by decide) (by decide) (off := 95) rfl (by decide) ?_
    refine j_iload_n C d_TF_holdsOnTrial_96 rfl 2 rfl ?_
    refine j_if_ne C 108 d_TF_holdsOnTrial_97 (by decide) hF (fun q97 hF => ?_) (fun q97 hF => ?_)
    · refine j_iconst C (v := 0) d_TF_holdsOnTrial_108 (by decide) ?_
      cases hF
      exact j_zret (st := []) C hr rfl d_TF_holdsOnTrial_109 rfl rfl
    · refine j_aload_n C d_TF_holdsOnTrial_100 rfl 0 rfl ?_
      refine j_iload_n C d_TF_holdsOnTrial_101 rfl 3 rfl ?_
      obtain ⟨r102, h102, hF⟩ := g_bind hF
      refine j_vi C (As := [.int x3]) (st := []) (c_TF_hasNode (XL X) G x3 σ h102) (rfl : kdf 0 = 0) (by decide) rfl rfl m_TF_hasNode wd_425 rfl rfl (Nat.le_of_ble_eq_true rfl) ⟨by decide, by decide⟩ d_TF_holdsOnTrial_102 ?_
      refine j_if_ne C 110 d_TF_holdsOnTrial_105 (by decide) hF (fun q105 hF => ?_) (fun q105 hF => ?_)
      · refine j_aload_n C d_TF_holdsOnTrial_110 rfl 0 rfl ?_
        refine g_TF_trial C (rfl : kdf 0 = 0) wd_245 d_TF_holdsOnTrial_111 ?_
        refine g_St_nodes C (rfl : kdf 83 = 4) wd_191 d_TF_holdsOnTrial_114 ?_
        refine j_iload_n C d_TF_holdsOnTrial_117 rfl 3 rfl ?_
        obtain ⟨q118, hF⟩ := g_if hF
        refine e_nodes C (rfl : kdf 84 = 32) (inb_v q118) d_TF_holdsOnTrial_118 ?_
        obtain ⟨r119, h119, hF⟩ := g_bind hF
        refine j_vv C (As := []) (st := []) (c_Nd_flipPower (XL X) G (84 + 1 + 4 * x3.toNatClampNeg) σ (kd_node (rfl : kdf 84 = 32) (inb_v q118)) h119) (kd_node (rfl : kdf 84 = 32) (inb_v q118)) (by decide) rfl rfl m_Nd_flipPower wd_533 rfl rfl (Nat.le_of_ble_eq_true rfl) ⟨by decide, by decide⟩ d_TF_holdsOnTrial_119 ?_
        refine j_iconst C (v := 1) d_TF_holdsOnTrial_122 (by decide) ?_
        cases hF
        exact j_zret (st := []) C hr rfl d_TF_holdsOnTrial_123 rfl rfl
      · refine j_iconst C (v := 0) d_TF_holdsOnTrial_108 (by decide) ?_
        cases hF
        exact j_zret (st := []) C hr rfl d_TF_holdsOnTrial_109 rfl rfl
  refine g_ite hF (fun q hF => ?_) (fun q1_3 hF => ?_)
  · refine j_tabIn C 124 q d_TF_holdsOnTrial_1 (by decide) (by decide) (off := 123) rfl (by decide) ?_
    refine j_aload_n C d_TF_holdsOnTrial_124 rfl 0 rfl ?_
    refine j_iload_n C d_TF_holdsOnTrial_125 rfl 2 rfl ?_
    obtain ⟨r126, h126, hF⟩ := g_bind hF
    refine j_vi C (As := [.int x2]) (st := []) (c_TF_hasNode (XL X) G x2 σ h126) (rfl : kdf 0 = 0) (by decide) rfl rfl m_TF_hasNode wd_425 rfl rfl (Nat.le_of_ble_eq_true rfl) ⟨by decide, by decide⟩ d_TF_holdsOnTrial_126 ?_
    refine j_if_eq C 156 d_TF_holdsOnTrial_129 (by decide) hF (fun q129 hF => ?_) (fun q129 hF => ?_)
    · refine j_iconst C (v := 0) d_TF_holdsOnTrial_156 (by decide) ?_
      cases hF
      exact j_zret (st := []) C hr rfl d_TF_holdsOnTrial_157 rfl rfl
    · refine j_aload_n C d_TF_holdsOnTrial_132 rfl 0 rfl ?_
      refine j_iload_n C d_TF_holdsOnTrial_133 rfl 3 rfl ?_
      obtain ⟨r134, h134, hF⟩ := g_bind hF
      refine j_vi C (As := [.int x3]) (st := []) (c_TF_hasNode (XL X) G x3 σ h134) (rfl : kdf 0 = 0) (by decide) rfl rfl m_TF_hasNode wd_425 rfl rfl (Nat.le_of_ble_eq_true rfl) ⟨by decide, by decide⟩ d_TF_holdsOnTrial_134 ?_
      refine j_if_eq C 156 d_TF_holdsOnTrial_137 (by decide) hF (fun q137 hF => ?_) (fun q137 hF => ?_)
      · refine j_iconst C (v := 0) d_TF_holdsOnTrial_156 (by decide) ?_
        cases hF
        exact j_zret (st := []) C hr rfl d_TF_holdsOnTrial_157 rfl rfl
      · refine j_aload_n C d_TF_holdsOnTrial_140 rfl 0 rfl ?_
        refine g_TF_trial C (rfl : kdf 0 = 0) wd_245 d_TF_holdsOnTrial_141 ?_
        refine j_iload_n C d_TF_holdsOnTrial_144 rfl 2 rfl ?_
        obtain ⟨r145, h145, hF⟩ := g_bind hF
        refine j_vi C (As := [.int x2]) (st := []) (c_St_shownRoot (XL X) G 83 x2 σ (rfl : kdf 83 = 4) h145) (rfl : kdf 83 = 4) (by decide) rfl rfl m_St_shownRoot wd_572 rfl rfl (Nat.le_of_ble_eq_true rfl) ⟨by decide, by decide⟩ d_TF_holdsOnTrial_145 ?_
        refine j_iload_n C d_TF_holdsOnTrial_148 rfl 3 rfl ?_
        refine j_icmp_ne C 156 d_TF_holdsOnTrial_149 (by decide) hF (fun q149 hF => ?_) (fun q149 hF => ?_)
        · refine j_iconst C (v := 0) d_TF_holdsOnTrial_156 (by decide) ?_
          cases hF
          exact j_zret (st := []) C hr rfl d_TF_holdsOnTrial_157 rfl rfl
        · refine j_iconst C (v := 1) d_TF_holdsOnTrial_152 (by decide) ?_
          refine j_goto C 157 d_TF_holdsOnTrial_153 (by decide) ?_
          cases hF
          exact j_zret (st := []) C hr rfl d_TF_holdsOnTrial_157 rfl rfl
  refine g_ite hF (fun q hF => ?_) (fun q1_4 hF => ?_)
  · refine j_tabIn C 158 q d_TF_holdsOnTrial_1 (by decide) (by decide) (off := 157) rfl (by decide) ?_
    refine j_iload_n C d_TF_holdsOnTrial_158 rfl 2 rfl ?_
    refine j_if_ne C 189 d_TF_holdsOnTrial_159 (by decide) hF (fun q159 hF => ?_) (fun q159 hF => ?_)
    · refine j_iconst C (v := 0) d_TF_holdsOnTrial_189 (by decide) ?_
      cases hF
      exact j_zret (st := []) C hr rfl d_TF_holdsOnTrial_190 rfl rfl
    · refine j_aload_n C d_TF_holdsOnTrial_162 rfl 0 rfl ?_
      refine j_iload_n C d_TF_holdsOnTrial_163 rfl 3 rfl ?_
      obtain ⟨r164, h164, hF⟩ := g_bind hF
      refine j_vi C (As := [.int x3]) (st := []) (c_TF_hasNode (XL X) G x3 σ h164) (rfl : kdf 0 = 0) (by decide) rfl rfl m_TF_hasNode wd_425 rfl rfl (Nat.le_of_ble_eq_true rfl) ⟨by decide, by decide⟩ d_TF_holdsOnTrial_164 ?_
      refine j_if_eq C 189 d_TF_holdsOnTrial_167 (by decide) hF (fun q167 hF => ?_) (fun q167 hF => ?_)
      · refine j_iconst C (v := 0) d_TF_holdsOnTrial_189 (by decide) ?_
        cases hF
        exact j_zret (st := []) C hr rfl d_TF_holdsOnTrial_190 rfl rfl
      · refine j_aload_n C d_TF_holdsOnTrial_170 rfl 0 rfl ?_
        refine g_TF_flood C (rfl : kdf 0 = 0) wd_242 d_TF_holdsOnTrial_171 ?_
        refine j_aload_n C d_TF_holdsOnTrial_174 rfl 0 rfl ?_
        refine g_TF_trial C (rfl : kdf 0 = 0) wd_245 d_TF_holdsOnTrial_175 ?_
        refine j_iload_n C d_TF_holdsOnTrial_178 rfl 3 rfl ?_
        obtain ⟨r179, h179, hF⟩ := g_bind hF
        refine j_vi C (As := [rf G 83, .int x3]) (st := []) (c_Fl_isInTime (XL X) G 83 x3 σ (rfl : kdf 83 = 4) h179) (rfl : kdf 14 = 3) (by decide) rfl rfl m_Fl_isInTime wd_573 rfl rfl (Nat.le_of_ble_eq_true rfl) ⟨by decide, by decide⟩ d_TF_holdsOnTrial_179 ?_
        refine j_if_eq C 189 d_TF_holdsOnTrial_182 (by decide) hF (fun q182 hF => ?_) (fun q182 hF => ?_)
        · refine j_iconst C (v := 0) d_TF_holdsOnTrial_189 (by decide) ?_
          cases hF
          exact j_zret (st := []) C hr rfl d_TF_holdsOnTrial_190 rfl rfl
        · refine j_iconst C (v := 1) d_TF_holdsOnTrial_185 (by decide) ?_
          refine j_goto C 190 d_TF_holdsOnTrial_186 (by decide) ?_
          cases hF
          exact j_zret (st := []) C hr rfl d_TF_holdsOnTrial_190 rfl rfl
  refine g_ite hF (fun q hF => ?_) (fun q1_5 hF => ?_)
  · refine j_tabIn C 191 q d_TF_holdsOnTrial_1 (by decide) (by decide) (off := 190) rfl (by decide) ?_
    refine j_aload_n C d_TF_holdsOnTrial_191 rfl 0 rfl ?_
    refine j_iload_n C d_TF_holdsOnTrial_192 rfl 2 rfl ?_
    obtain ⟨r193, h193, hF⟩ := g_bind hF
    refine j_vi C (As := [.int x2]) (st := []) (c_TF_hasNode (XL X) G x2 σ h193) (rfl : kdf 0 = 0) (by decide) rfl rfl m_TF_hasNode wd_425 rfl rfl (Nat.le_of_ble_eq_true rfl) ⟨by decide, by decide⟩ d_TF_holdsOnTrial_193 ?_
    refine j_if_eq C 234 d_TF_holdsOnTrial_196 (by decide) hF (fun q196 hF => ?_) (fun q196 hF => ?_)
    · refine j_iconst C (v := 0) d_TF_holdsOnTrial_234 (by decide) ?_
      cases hF
      exact j_zret (st := []) C hr rfl d_TF_holdsOnTrial_235 rfl rfl
    · refine j_aload_n C d_TF_holdsOnTrial_199 rfl 0 rfl ?_
      refine g_TF_trial C (rfl : kdf 0 = 0) wd_245 d_TF_holdsOnTrial_200 ?_
      refine g_St_nodes C (rfl : kdf 83 = 4) wd_191 d_TF_holdsOnTrial_203 ?_
      refine j_iload_n C d_TF_holdsOnTrial_206 rfl 2 rfl ?_
      obtain ⟨q207, hF⟩ := g_if hF
      refine e_nodes C (rfl : kdf 84 = 32) (inb_v q207) d_TF_holdsOnTrial_207 ?_
      refine g_Nd_on C (kd_node (rfl : kdf 84 = 32) (inb_v q207)) wd_143 d_TF_holdsOnTrial_208 ?_
      refine j_if_eq C 234 d_TF_holdsOnTrial_211 (by decide) hF (fun q211 hF => ?_) (fun q211 hF => ?_)
      · refine j_iconst C (v := 0) d_TF_holdsOnTrial_234 (by decide) ?_
        cases hF
        exact j_zret (st := []) C hr rfl d_TF_holdsOnTrial_235 rfl rfl
      · refine j_aload_n C d_TF_holdsOnTrial_214 rfl 0 rfl ?_
        refine g_TF_trial C (rfl : kdf 0 = 0) wd_245 d_TF_holdsOnTrial_215 ?_
        refine g_St_nodes C (rfl : kdf 83 = 4) wd_191 d_TF_holdsOnTrial_218 ?_
        refine j_iload_n C d_TF_holdsOnTrial_221 rfl 2 rfl ?_
        obtain ⟨q222, hF⟩ := g_if hF
        refine e_nodes C (rfl : kdf 84 = 32) (inb_v q222) d_TF_holdsOnTrial_222 ?_
        refine g_Nd_stampCount C (kd_node (rfl : kdf 84 = 32) (inb_v q222)) wd_159 d_TF_holdsOnTrial_223 ?_
        refine j_iload_n C d_TF_holdsOnTrial_226 rfl 3 rfl ?_
        refine j_icmp_ne C 234 d_TF_holdsOnTrial_227 (by decide) hF (fun q227 hF => ?_) (fun q227 hF => ?_)
        · refine j_iconst C (v := 0) d_TF_holdsOnTrial_234 (by decide) ?_
          cases hF
          exact j_zret (st := []) C hr rfl d_TF_holdsOnTrial_235 rfl rfl
        · refine j_iconst C (v := 1) d_TF_holdsOnTrial_230 (by decide) ?_
          refine j_goto C 235 d_TF_holdsOnTrial_231 (by decide) ?_
          cases hF
          exact j_zret (st := []) C hr rfl d_TF_holdsOnTrial_235 rfl rfl
  refine j_tabOut C 236 d_TF_holdsOnTrial_1 (by have t0 := lv_neT q1_0 (a := 1) rfl; have t1 := lv_neT q1_1 (a := 2) rfl; have t2 := lv_neT q1_2 (a := 3) rfl; have t3 := lv_neT q1_3 (a := 4) rfl; have t4 := lv_neT q1_4 (a := 5) rfl; have t5 := lv_neT q1_5 (a := 6) rfl; omega) (by decide) ?_
  refine j_iconst C (v := 0) d_TF_holdsOnTrial_236 (by decide) ?_
  cases hF
  exact j_zret (st := []) C hr rfl d_TF_holdsOnTrial_237 rfl rfl
set_option maxHeartbeats 4000000 in
set_option maxRecDepth 100000 in
theorem b_TF_judge_71 {X : XT} {G : GT} {z : (Int32 × MT)} {K46 : Int32 → Int64 → Int32 → MT → Option (Int32 × MT)} (C : CX X G b_TF_judge 6 "TimeFlood" 7 163) (hr : XR X (some .int)) (hK46 : ∀ (x1 : Int32) (y2 : Int64) (x4 : Int32) (σ : MT), K46 x1 y2 x4 σ = some z → JW X G (QX X (PI G z.1 z.2) G) 6 46 [(0, rf G 0), (1, .int x1), (2, .long y2), (4, .int x4)] [] σ) (x1 : Int32) (y2 : Int64) (x4 : Int32) (x5 : Int32) (σ : MT) (hF : f_TF_judge_71 K46 x1 y2 x4 x5 σ = some z) : JW X G (QX X (PI G z.1 z.2) G) 6 71 [(0, rf G 0), (1, .int x1), (2, .long y2), (4, .int x4), (5, .int x5)] [] σ := by
  unfold f_TF_judge_71 at hF
  refine j_aload_n C d_TF_judge_71 rfl 0 rfl ?_
  refine j_iload C d_TF_judge_72 4 rfl ?_
  refine j_bipush C (v := 100) d_TF_judge_74 (by decide) ?_
  refine j_idiv C d_TF_judge_76 (by decide) ?_
  refine j_iload C d_TF_judge_77 4 rfl ?_
  refine j_bipush C (v := 10) d_TF_judge_79 (by decide) ?_
  refine j_idiv C d_TF_judge_81 (by decide) ?_
  refine j_bipush C (v := 10) d_TF_judge_82 (by decide) ?_
  refine j_irem C d_TF_judge_84 (by decide) ?_
  refine j_iload C d_TF_judge_85 4 rfl ?_
  refine j_bipush C (v := 10) d_TF_judge_87 (by decide) ?_
  refine j_irem C d_TF_judge_89 (by decide) ?_
  obtain ⟨r90, h90, hF⟩ := g_bind hF
  refine j_vi C (As := [.int (x5 / (100 : Int32)), .int ((x5 / (10 : Int32)) - (x5 / (10 : Int32)) / (10 : Int32) * (10 : Int32)), .int (x5 - x5 / (10 : Int32) * (10 : Int32))]) (st := []) (c_TF_holdsOnTrial (XL X) G (x5 / (100 : Int32)) ((x5 / (10 : Int32)) - (x5 / (10 : Int32)) / (10 : Int32) * (10 : Int32)) (x5 - x5 / (10 : Int32) * (10 : Int32)) σ h90) (rfl : kdf 0 = 0) (by decide) rfl rfl m_TF_holdsOnTrial wd_568 rfl rfl (Nat.le_of_ble_eq_true rfl) ⟨by decide, by decide⟩ d_TF_judge_90 ?_
  refine j_if_ne C 99 d_TF_judge_93 (by decide) hF (fun q93 hF => ?_) (fun q93 hF => ?_)
  · refine j_iinc C (v := x4 + (1 : Int32)) (lv' := [(4, .int (x4 + (1 : Int32))), (0, rf G 0), (1, .int x1), (2, .long y2), (5, .int x5)]) d_TF_judge_99 3 rfl rfl (by decide) rfl ?_
    refine j_goto C 46 d_TF_judge_102 (by decide) ?_
    refine j_sub C [(0, rf G 0), (1, .int x1), (2, .long y2), (4, .int (x4 + (1 : Int32)))] [1, 2, 3, 0] rfl ?_
    exact hK46 x1 y2 (x4 + (1 : Int32)) r90.2 hF
  · refine j_iload C d_TF_judge_96 3 rfl ?_
    cases hF
    exact j_iret (st := []) C hr d_TF_judge_98 rfl rfl
set_option maxHeartbeats 4000000 in
set_option maxRecDepth 100000 in
theorem b_TF_judge_46 {X : XT} {G : GT} {z : (Int32 × MT)} (C : CX X G b_TF_judge 6 "TimeFlood" 7 163) (hr : XR X (some .int)) : ∀ (n : Nat) (x1 : Int32) (y2 : Int64) (x4 : Int32) (σ : MT), f_TF_judge_46 n x1 y2 x4 σ = some z → JW X G (QX X (PI G z.1 z.2) G) 6 46 [(0, rf G 0), (1, .int x1), (2, .long y2), (4, .int x4)] [] σ := by
  intro n
  induction n with
  | zero =>
    intro x1 y2 x4 σ hF
    rw [f_TF_judge_46] at hF
    cases hF
  | succ n ih =>
    intro x1 y2 x4 σ hF
    rw [f_TF_judge_46] at hF
    refine j_iload C d_TF_judge_46 3 rfl ?_
    refine j_iload_n C d_TF_judge_48 rfl 1 rfl ?_
    refine j_icmp_ge C 105 d_TF_judge_49 (by decide) hF (fun q49 hF => ?_) (fun q49 hF => ?_)
    · refine j_bipush C (v := -9) d_TF_judge_105 (by decide) ?_
      cases hF
      exact j_iret (st := []) C hr d_TF_judge_107 rfl rfl
    · refine j_lload_n C d_TF_judge_52 rfl 2 rfl ?_
      refine j_th C wd_565 d_TF_judge_53 (fun t53 a53 => ?_)
      refine j_iload_n C d_TF_judge_56 rfl 1 rfl ?_
      refine j_iconst C (v := 1) d_TF_judge_57 (by decide) ?_
      refine j_isub C d_TF_judge_58 ?_
      refine j_iload C d_TF_judge_59 3 rfl ?_
      refine j_isub C d_TF_judge_61 ?_
      obtain ⟨q62, hF⟩ := g_if hF
      refine a53 _ _ _ _ _ (inb_v q62) d_TF_judge_62 ?_
      obtain ⟨q63, hF⟩ := g_if hF
      refine j_ldiv C d_TF_judge_63 q63 ?_
      refine j_ldc2 C wd_567 d_TF_judge_64 ?_
      refine j_lrem C d_TF_judge_67 (by decide) ?_
      refine j_l2i C d_TF_judge_68 ?_
      refine j_istore C (lv' := [(5, .int (((y2 / (thV ((x1 - (1 : Int32)) - x4).toNatClampNeg)) - (y2 / (thV ((x1 - (1 : Int32)) - x4).toNatClampNeg)) / (1000 : Int64) * (1000 : Int64)).toInt32)), (0, rf G 0), (1, .int x1), (2, .long y2), (4, .int x4)]) d_TF_judge_69 (by decide) rfl ?_
      refine j_sub C [(0, rf G 0), (1, .int x1), (2, .long y2), (4, .int x4), (5, .int (((y2 / (thV ((x1 - (1 : Int32)) - x4).toNatClampNeg)) - (y2 / (thV ((x1 - (1 : Int32)) - x4).toNatClampNeg)) / (1000 : Int64) * (1000 : Int64)).toInt32))] [1, 2, 3, 4, 0] rfl ?_
      exact b_TF_judge_71 C hr ih x1 y2 x4 (((y2 / (thV ((x1 - (1 : Int32)) - x4).toNatClampNeg)) - (y2 / (thV ((x1 - (1 : Int32)) - x4).toNatClampNeg)) / (1000 : Int64) * (1000 : Int64)).toInt32) σ hF
set_option maxHeartbeats 4000000 in
set_option maxRecDepth 100000 in
theorem c_TF_judge (l : Launch) (G : GT) (x1 : Int32) (y2 : Int64) (σ : MT)  {z : (Int32 × MT)} (hF : f_TF_judge x1 y2 σ = some z) : CTI l G y_TF_judge b_TF_judge 6 (some .int) 7 163 [rf G 0, .int x1, .long y2] σ z.1 z.2 := by
  refine entX [(0, rf G 0), (1, .int x1), (2, .long y2)] "TimeFlood" (by decide +kernel) rfl rfl (Nat.le_of_ble_eq_true rfl) (fun X hXl hr C => ?_)
  unfold f_TF_judge at hF
  refine j_iload_n C d_TF_judge_0 rfl 1 rfl ?_
  refine j_iconst C (v := 1) d_TF_judge_1 (by decide) ?_
  refine j_icmp_lt C 10 d_TF_judge_2 (by decide) hF (fun q2 hF => ?_) (fun q2 hF => ?_)
  · refine j_bipush C (v := -2) d_TF_judge_10 (by decide) ?_
    cases hF
    exact j_iret (st := []) C hr d_TF_judge_12 rfl rfl
  · refine j_iload_n C d_TF_judge_5 rfl 1 rfl ?_
    refine j_iconst C (v := 4) d_TF_judge_6 (by decide) ?_
    refine j_icmp_le C 13 d_TF_judge_7 (by decide) hF (fun q7 hF => ?_) (fun q7 hF => ?_)
    · refine j_lload_n C d_TF_judge_13 rfl 2 rfl ?_
      refine j_lconst C (v := 0) d_TF_judge_14 (by decide) ?_
      refine j_lcmp C d_TF_judge_15 ?_
      refine j_if_lt C 29 d_TF_judge_16 (by decide) hF (fun q16 hF => ?_) (fun q16 hF => ?_)
      · refine j_bipush C (v := -2) d_TF_judge_29 (by decide) ?_
        cases hF
        exact j_iret (st := []) C hr d_TF_judge_31 rfl rfl
      · refine j_lload_n C d_TF_judge_19 rfl 2 rfl ?_
        refine j_th C wd_565 d_TF_judge_20 (fun t20 a20 => ?_)
        refine j_iload_n C d_TF_judge_23 rfl 1 rfl ?_
        obtain ⟨q24, hF⟩ := g_if hF
        refine a20 _ _ _ _ _ (inb_v q24) d_TF_judge_24 ?_
        refine j_lcmp C d_TF_judge_25 ?_
        refine j_if_lt C 32 d_TF_judge_26 (by decide) hF (fun q26 hF => ?_) (fun q26 hF => ?_)
        · refine j_aload_n C d_TF_judge_32 rfl 0 rfl ?_
          refine g_TF_trial C (rfl : kdf 0 = 0) wd_245 d_TF_judge_33 ?_
          refine j_aload_n C d_TF_judge_36 rfl 0 rfl ?_
          refine g_TF_now C (rfl : kdf 0 = 0) wd_244 d_TF_judge_37 ?_
          obtain ⟨r40, h40, hF⟩ := g_bind hF
          refine j_vv C (As := [rf G 61]) (st := []) (c_St_copyFrom (XL X) G 83 61 σ (rfl : kdf 83 = 4) (rfl : kdf 61 = 4) h40) (rfl : kdf 83 = 4) (by decide) rfl rfl m_St_copyFrom wd_555 rfl rfl (Nat.le_of_ble_eq_true rfl) ⟨by decide, by decide⟩ d_TF_judge_40 ?_
          refine j_iconst C (v := 0) d_TF_judge_43 (by decide) ?_
          refine j_istore C (lv' := [(4, .int (0 : Int32)), (0, rf G 0), (1, .int x1), (2, .long y2)]) d_TF_judge_44 (by decide) rfl ?_
          refine j_sub C [(0, rf G 0), (1, .int x1), (2, .long y2), (4, .int (0 : Int32))] [1, 2, 3, 0] rfl ?_
          exact b_TF_judge_46 C hr 1100 x1 y2 (0 : Int32) r40 hF
        · refine j_bipush C (v := -2) d_TF_judge_29 (by decide) ?_
          cases hF
          exact j_iret (st := []) C hr d_TF_judge_31 rfl rfl
    · refine j_bipush C (v := -2) d_TF_judge_10 (by decide) ?_
      cases hF
      exact j_iret (st := []) C hr d_TF_judge_12 rfl rfl
set_option maxHeartbeats 4000000 in
set_option maxRecDepth 100000 in
theorem b_Sg_add_49 {X : XT} {G : GT} {z : MT} (C : CX X G b_Sg_add 4 "TimeFlood$Sightings" 0 0) (hr : XR X none) (σ : MT) (hF : f_Sg_add_49 σ = some z) : JW X G (QX X (PV G z) G) 4 49 [] [] σ := by
  unfold f_Sg_add_49 at hF
  cases hF
  exact j_vret C hr d_Sg_add_49 rfl
set_option maxHeartbeats 4000000 in
set_option maxRecDepth 100000 in
theorem b_Sg_add_29 {X : XT} {G : GT} {z : MT} (C : CX X G b_Sg_add 4 "TimeFlood$Sightings" 0 0) (hr : XR X none) (x3 : Int32) (σ : MT) (hF : f_Sg_add_29 x3 σ = some z) : JW X G (QX X (PV G z) G) 4 29 [(0, rf G 34), (3, .int x3)] [] σ := by
  unfold f_Sg_add_29 at hF
  refine j_aload_n C d_Sg_add_29 rfl 0 rfl ?_
  refine g_Sg_roots C (rfl : kdf 34 = 7) wd_227 d_Sg_add_30 ?_
  refine j_aload_n C d_Sg_add_33 rfl 0 rfl ?_
  refine g_Sg_count C (rfl : kdf 34 = 7) wd_228 d_Sg_add_34 ?_
  refine j_iload_n C d_Sg_add_37 rfl 1 rfl ?_
  obtain ⟨q38, hF⟩ := g_if hF
  refine j_iast C (rfl : kdf 37 = 12) (by decide) (fun _ => rfl) (inb_v q38) d_Sg_add_38 ?_
  refine j_aload_n C d_Sg_add_39 rfl 0 rfl ?_
  refine j_dup C d_Sg_add_40 rfl ?_
  refine g_Sg_count C (rfl : kdf 34 = 7) wd_228 d_Sg_add_41 ?_
  refine j_iconst C (v := 1) d_Sg_add_44 (by decide) ?_
  refine j_iadd C d_Sg_add_45 ?_
  refine p_Sg_count C (rfl : kdf 34 = 7) wd_228 d_Sg_add_46 ?_
  refine j_sub C [] [] rfl ?_
  exact b_Sg_add_49 C hr (sI (sI σ 37 (σ.1 34 3).toNatClampNeg x3) 34 3 (((sI σ 37 (σ.1 34 3).toNatClampNeg x3).1 34 3) + (1 : Int32))) hF
set_option maxHeartbeats 4000000 in
set_option maxRecDepth 100000 in
theorem c_Sg_add (l : Launch) (G : GT) (x1 : Int32) (x2 : Int32) (x3 : Int32) (σ : MT)  {z : MT} (hF : f_Sg_add x1 x2 x3 σ = some z) : CTV l G y_Sg_add b_Sg_add 4 none 0 0 [rf G 34, .int x1, .int x2, .int x3] σ z := by
  refine entX [(0, rf G 34), (1, .int x1), (2, .int x2), (3, .int x3)] "TimeFlood$Sightings" (by decide +kernel) rfl rfl (Nat.le_of_ble_eq_true rfl) (fun X hXl hr C => ?_)
  unfold f_Sg_add at hF
  refine j_aload_n C d_Sg_add_0 rfl 0 rfl ?_
  refine g_Sg_count C (rfl : kdf 34 = 7) wd_228 d_Sg_add_1 ?_
  refine j_bipush C (v := 6) d_Sg_add_4 (by decide) ?_
  refine j_icmp_ge C 49 d_Sg_add_6 (by decide) hF (fun q6 hF => ?_) (fun q6 hF => ?_)
  · cases hF
    exact j_vret C hr d_Sg_add_49 rfl
  · refine j_aload_n C d_Sg_add_9 rfl 0 rfl ?_
    refine g_Sg_nodes C (rfl : kdf 34 = 7) wd_225 d_Sg_add_10 ?_
    refine j_aload_n C d_Sg_add_13 rfl 0 rfl ?_
    refine g_Sg_count C (rfl : kdf 34 = 7) wd_228 d_Sg_add_14 ?_
    refine j_iload_n C d_Sg_add_17 rfl 1 rfl ?_
    obtain ⟨q18, hF⟩ := g_if hF
    refine j_iast C (rfl : kdf 35 = 12) (by decide) (fun _ => rfl) (inb_v q18) d_Sg_add_18 ?_
    refine j_aload_n C d_Sg_add_19 rfl 0 rfl ?_
    refine g_Sg_periods C (rfl : kdf 34 = 7) wd_226 d_Sg_add_20 ?_
    refine j_aload_n C d_Sg_add_23 rfl 0 rfl ?_
    refine g_Sg_count C (rfl : kdf 34 = 7) wd_228 d_Sg_add_24 ?_
    refine j_iload_n C d_Sg_add_27 rfl 2 rfl ?_
    obtain ⟨q28, hF⟩ := g_if hF
    refine j_iast C (rfl : kdf 36 = 12) (by decide) (fun _ => rfl) (inb_v q28) d_Sg_add_28 ?_
    refine j_sub C [(0, rf G 34), (3, .int x3)] [0, 3] rfl ?_
    exact b_Sg_add_29 C hr x3 (sI (sI σ 35 (σ.1 34 3).toNatClampNeg x1) 36 ((sI σ 35 (σ.1 34 3).toNatClampNeg x1).1 34 3).toNatClampNeg x2) hF
set_option maxHeartbeats 4000000 in
set_option maxRecDepth 100000 in
theorem b_TF_see_37 {X : XT} {G : GT} {z : (Int32 × MT)} (C : CX X G b_TF_see 4 "TimeFlood" 1 23) (hr : XR X (some .int)) (x1 : Int32) (x2 : Int32) (x3 : Int32) (σ : MT) (hF : f_TF_see_37 x1 x2 x3 σ = some z) : JW X G (QX X (PI G z.1 z.2) G) 4 37 [(0, rf G 0), (1, .int x1), (2, .int x2), (3, .int x3)] [] σ := by
  unfold f_TF_see_37 at hF
  refine j_aload_n C d_TF_see_37 rfl 0 rfl ?_
  refine g_TF_sightings C (rfl : kdf 0 = 0) wd_249 d_TF_see_38 ?_
  refine g_Sg_count C (rfl : kdf 34 = 7) wd_229 d_TF_see_41 ?_
  refine j_bipush C (v := 6) d_TF_see_44 (by decide) ?_
  refine j_icmp_lt C 52 d_TF_see_46 (by decide) hF (fun q46 hF => ?_) (fun q46 hF => ?_)
  · refine j_aload_n C d_TF_see_52 rfl 0 rfl ?_
    refine g_TF_sightings C (rfl : kdf 0 = 0) wd_249 d_TF_see_53 ?_
    refine j_iload_n C d_TF_see_56 rfl 1 rfl ?_
    refine j_iload_n C d_TF_see_57 rfl 2 rfl ?_
    refine j_iload_n C d_TF_see_58 rfl 3 rfl ?_
    obtain ⟨r59, h59, hF⟩ := g_bind hF
    refine j_vv C (As := [.int x1, .int x2, .int x3]) (st := []) (c_Sg_add (XL X) G x1 x2 x3 σ h59) (rfl : kdf 34 = 7) (by decide) rfl rfl m_Sg_add wd_578 rfl rfl (Nat.le_of_ble_eq_true rfl) ⟨by decide, by decide⟩ d_TF_see_59 ?_
    refine j_aload_n C d_TF_see_62 rfl 0 rfl ?_
    refine g_TF_sightings C (rfl : kdf 0 = 0) wd_249 d_TF_see_63 ?_
    refine g_Sg_count C (rfl : kdf 34 = 7) wd_229 d_TF_see_66 ?_
    cases hF
    exact j_iret (st := []) C hr d_TF_see_69 rfl rfl
  · refine j_bipush C (v := -4) d_TF_see_49 (by decide) ?_
    cases hF
    exact j_iret (st := []) C hr d_TF_see_51 rfl rfl
set_option maxHeartbeats 4000000 in
set_option maxRecDepth 100000 in
theorem c_TF_see (l : Launch) (G : GT) (x1 : Int32) (x2 : Int32) (x3 : Int32) (σ : MT)  {z : (Int32 × MT)} (hF : f_TF_see x1 x2 x3 σ = some z) : CTI l G y_TF_see b_TF_see 4 (some .int) 1 23 [rf G 0, .int x1, .int x2, .int x3] σ z.1 z.2 := by
  refine entX [(0, rf G 0), (1, .int x1), (2, .int x2), (3, .int x3)] "TimeFlood" (by decide +kernel) rfl rfl (Nat.le_of_ble_eq_true rfl) (fun X hXl hr C => ?_)
  unfold f_TF_see at hF
  refine j_aload_n C d_TF_see_0 rfl 0 rfl ?_
  refine j_iload_n C d_TF_see_1 rfl 1 rfl ?_
  obtain ⟨r2, h2, hF⟩ := g_bind hF
  refine j_vi C (As := [.int x1]) (st := []) (c_TF_hasNode (XL X) G x1 σ h2) (rfl : kdf 0 = 0) (by decide) rfl rfl m_TF_hasNode wd_425 rfl rfl (Nat.le_of_ble_eq_true rfl) ⟨by decide, by decide⟩ d_TF_see_2 ?_
  refine j_if_ne C 10 d_TF_see_5 (by decide) hF (fun q5 hF => ?_) (fun q5 hF => ?_)
  · refine j_iload_n C d_TF_see_10 rfl 2 rfl ?_
    refine j_if_lt C 34 d_TF_see_11 (by decide) hF (fun q11 hF => ?_) (fun q11 hF => ?_)
    · refine j_bipush C (v := -2) d_TF_see_34 (by decide) ?_
      cases hF
      exact j_iret (st := []) C hr d_TF_see_36 rfl rfl
    · refine j_iload_n C d_TF_see_14 rfl 2 rfl ?_
      refine j_bipush C (v := 20) d_TF_see_15 (by decide) ?_
      refine j_icmp_gt C 34 d_TF_see_17 (by decide) hF (fun q17 hF => ?_) (fun q17 hF => ?_)
      · refine j_bipush C (v := -2) d_TF_see_34 (by decide) ?_
        cases hF
        exact j_iret (st := []) C hr d_TF_see_36 rfl rfl
      · refine j_iload_n C d_TF_see_20 rfl 3 rfl ?_
        refine j_bipush C (v := -9) d_TF_see_21 (by decide) ?_
        refine j_icmp_eq C 37 d_TF_see_23 (by decide) hF (fun q23 hF => ?_) (fun q23 hF => ?_)
        · exact b_TF_see_37 C hr x1 x2 x3 σ hF
        · refine j_aload_n C d_TF_see_26 rfl 0 rfl ?_
          refine j_iload_n C d_TF_see_27 rfl 3 rfl ?_
          obtain ⟨r28, h28, hF⟩ := g_bind hF
          refine j_vi C (As := [.int x3]) (st := []) (c_TF_hasNode (XL X) G x3 σ h28) (rfl : kdf 0 = 0) (by decide) rfl rfl m_TF_hasNode wd_425 rfl rfl (Nat.le_of_ble_eq_true rfl) ⟨by decide, by decide⟩ d_TF_see_28 ?_
          refine j_if_ne C 37 d_TF_see_31 (by decide) hF (fun q31 hF => ?_) (fun q31 hF => ?_)
          · exact b_TF_see_37 C hr x1 x2 x3 σ hF
          · refine j_bipush C (v := -2) d_TF_see_34 (by decide) ?_
            cases hF
            exact j_iret (st := []) C hr d_TF_see_36 rfl rfl
  · refine j_iconst C (v := -1) d_TF_see_8 (by decide) ?_
    cases hF
    exact j_iret (st := []) C hr d_TF_see_9 rfl rfl
set_option maxHeartbeats 4000000 in
set_option maxRecDepth 100000 in
theorem c_TF_unsee (l : Launch) (G : GT) (σ : MT)  {z : (Int32 × MT)} (hF : f_TF_unsee σ = some z) : CTI l G y_TF_unsee b_TF_unsee 2 (some .int) 0 0 [rf G 0] σ z.1 z.2 := by
  refine entX [(0, rf G 0)] "TimeFlood" (by decide +kernel) rfl rfl (Nat.le_of_ble_eq_true rfl) (fun X hXl hr C => ?_)
  unfold f_TF_unsee at hF
  refine j_aload_n C d_TF_unsee_0 rfl 0 rfl ?_
  refine g_TF_sightings C (rfl : kdf 0 = 0) wd_249 d_TF_unsee_1 ?_
  refine g_Sg_count C (rfl : kdf 34 = 7) wd_229 d_TF_unsee_4 ?_
  refine j_istore_n C (lv' := [(1, .int (σ.1 34 3)), (0, rf G 0)]) d_TF_unsee_7 rfl (by decide) rfl ?_
  refine j_aload_n C d_TF_unsee_8 rfl 1 rfl ?_
  refine g_TF_sightings C (rfl : kdf 0 = 0) wd_249 d_TF_unsee_9 ?_
  refine j_iconst C (v := 0) d_TF_unsee_12 (by decide) ?_
  refine p_Sg_count C (rfl : kdf 34 = 7) wd_229 d_TF_unsee_13 ?_
  refine j_iload_n C d_TF_unsee_16 rfl 0 rfl ?_
  cases hF
  exact j_iret (st := []) C hr d_TF_unsee_17 rfl rfl
set_option maxHeartbeats 4000000 in
set_option maxRecDepth 100000 in
theorem b_Sg_contradict_69 {X : XT} {G : GT} {z : Int32} {K3 : Nat → Int32 → Int32 → Int32 → MT → Option Int32} {σ : MT} (C : CX X G b_Sg_contradict 6 "TimeFlood$Sightings" 1 21) (hr : XR X (some .boolean)) (hK3 : ∀ (k1 : Nat) (x2 : Int32) (x3 : Int32) (x4 : Int32) (hk1 : kdf k1 = 4), K3 k1 x2 x3 x4 σ = some z → JW X G (QX X (PI G z σ) G) 6 3 [(0, rf G 34), (1, rf G k1), (2, .int x2), (3, .int x3), (4, .int x4)] [] σ) (k1 : Nat) (x2 : Int32) (x3 : Int32) (x4 : Int32) (hk1 : kdf k1 = 4) (hF : f_Sg_contradict_69 K3 k1 x2 x3 x4 σ = some z) : JW X G (QX X (PI G z σ) G) 6 69 [(0, rf G 34), (1, rf G k1), (2, .int x2), (3, .int x3), (4, .int x4)] [] σ := by
  unfold f_Sg_contradict_69 at hF
  refine j_iinc C (v := x4 + (1 : Int32)) (lv' := [(4, .int (x4 + (1 : Int32))), (0, rf G 34), (1, rf G k1), (2, .int x2), (3, .int x3)]) d_Sg_contradict_69 4 rfl rfl (by decide) rfl ?_
  refine j_goto C 3 d_Sg_contradict_72 (by decide) ?_
  refine j_sub C [(0, rf G 34), (1, rf G k1), (2, .int x2), (3, .int x3), (4, .int (x4 + (1 : Int32)))] [1, 2, 3, 4, 0] rfl ?_
  exact hK3 k1 x2 x3 (x4 + (1 : Int32)) hk1 hF
set_option maxHeartbeats 4000000 in
set_option maxRecDepth 100000 in
theorem b_Sg_contradict_39 {X : XT} {G : GT} {z : Int32} {K3 : Nat → Int32 → Int32 → Int32 → MT → Option Int32} {σ : MT} (C : CX X G b_Sg_contradict 6 "TimeFlood$Sightings" 1 21) (hr : XR X (some .boolean)) (hK3 : ∀ (k1 : Nat) (x2 : Int32) (x3 : Int32) (x4 : Int32) (hk1 : kdf k1 = 4), K3 k1 x2 x3 x4 σ = some z → JW X G (QX X (PI G z σ) G) 6 3 [(0, rf G 34), (1, rf G k1), (2, .int x2), (3, .int x3), (4, .int x4)] [] σ) (k1 : Nat) (x2 : Int32) (x3 : Int32) (x4 : Int32) (xs0 : Int32) (hk1 : kdf k1 = 4) (hF : f_Sg_contradict_39 K3 k1 x2 x3 x4 xs0 σ = some z) : JW X G (QX X (PI G z σ) G) 6 39 [(0, rf G 34), (1, rf G k1), (2, .int x2), (3, .int x3), (4, .int x4)] [.int xs0] σ := by
  unfold f_Sg_contradict_39 at hF
  refine j_istore C (lv' := [(5, .int xs0), (0, rf G 34), (1, rf G k1), (2, .int x2), (3, .int x3), (4, .int x4)]) d_Sg_contradict_39 (by decide) rfl ?_
  refine j_iload C d_Sg_contradict_41 0 rfl ?_
  refine j_if_eq C 69 d_Sg_contradict_43 (by decide) hF (fun q43 hF => ?_) (fun q43 hF => ?_)
  · refine j_sub C [(0, rf G 34), (1, rf G k1), (2, .int x2), (3, .int x3), (4, .int x4)] [1, 2, 3, 4, 5] rfl ?_
    exact b_Sg_contradict_69 C hr hK3 k1 x2 x3 x4 hk1 hF
  · refine j_aload_n C d_Sg_contradict_46 rfl 2 rfl ?_
    refine j_aload_n C d_Sg_contradict_47 rfl 1 rfl ?_
    refine g_Sg_nodes C (rfl : kdf 34 = 7) wd_225 d_Sg_contradict_48 ?_
    refine j_iload C d_Sg_contradict_51 5 rfl ?_
    obtain ⟨q53, hF⟩ := g_if hF
    refine j_iald C (rfl : kdf 35 = 12) (by decide) rfl (inb_v q53) d_Sg_contradict_53 ?_
    obtain ⟨r54, h54, hF⟩ := g_bind hF
    refine j_vi C (As := [.int (σ.1 35 x4.toNatClampNeg)]) (st := []) (c_St_shownRoot (XL X) G k1 (σ.1 35 x4.toNatClampNeg) σ hk1 h54) hk1 (by decide) rfl rfl m_St_shownRoot wd_598 rfl rfl (Nat.le_of_ble_eq_true rfl) ⟨by decide, by decide⟩ d_Sg_contradict_54 ?_
    refine j_aload_n C d_Sg_contradict_57 rfl 1 rfl ?_
    refine g_Sg_roots C (rfl : kdf 34 = 7) wd_227 d_Sg_contradict_58 ?_
    refine j_iload C d_Sg_contradict_61 5 rfl ?_
    obtain ⟨q63, hF⟩ := g_if hF
    refine j_iald C (rfl : kdf 37 = 12) (by decide) rfl (inb_v q63) d_Sg_contradict_63 ?_
    refine j_icmp_eq C 69 d_Sg_contradict_64 (by decide) hF (fun q64 hF => ?_) (fun q64 hF => ?_)
    · refine j_sub C [(0, rf G 34), (1, rf G k1), (2, .int x2), (3, .int x3), (4, .int x4)] [1, 2, 3, 4, 5] rfl ?_
      exact b_Sg_contradict_69 C hr hK3 k1 x2 x3 x4 hk1 hF
    · refine j_iconst C (v := 1) d_Sg_contradict_67 (by decide) ?_
      cases hF
      exact j_zret (st := []) C hr rfl d_Sg_contradict_68 rfl rfl
set_option maxHeartbeats 4000000 in
set_option maxRecDepth 100000 in
theorem b_Sg_contradict_38 {X : XT} {G : GT} {z : Int32} {K3 : Nat → Int32 → Int32 → Int32 → MT → Option Int32} {σ : MT} (C : CX X G b_Sg_contradict 6 "TimeFlood$Sightings" 1 21) (hr : XR X (some .boolean)) (hK3 : ∀ (k1 : Nat) (x2 : Int32) (x3 : Int32) (x4 : Int32) (hk1 : kdf k1 = 4), K3 k1 x2 x3 x4 σ = some z → JW X G (QX X (PI G z σ) G) 6 3 [(0, rf G 34), (1, rf G k1), (2, .int x2), (3, .int x3), (4, .int x4)] [] σ) (k1 : Nat) (x2 : Int32) (x3 : Int32) (x4 : Int32) (hk1 : kdf k1 = 4) (hF : f_Sg_contradict_38 K3 k1 x2 x3 x4 σ = some z) : JW X G (QX X (PI G z σ) G) 6 38 [(0, rf G 34), (1, rf G k1), (2, .int x2), (3, .int x3), (4, .int x4)] [] σ := by
  unfold f_Sg_contradict_38 at hF
  refine j_iconst C (v := 0) d_Sg_contradict_38 (by decide) ?_
  exact b_Sg_contradict_39 C hr hK3 k1 x2 x3 x4 (0 : Int32) hk1 hF
set_option maxHeartbeats 4000000 in
set_option maxRecDepth 100000 in
theorem b_Sg_contradict_3 {X : XT} {G : GT} {z : Int32} {σ : MT} (C : CX X G b_Sg_contradict 6 "TimeFlood$Sightings" 1 21) (hr : XR X (some .boolean)) : ∀ (n : Nat) (k1 : Nat) (x2 : Int32) (x3 : Int32) (x4 : Int32) (hk1 : kdf k1 = 4), f_Sg_contradict_3 n k1 x2 x3 x4 σ = some z → JW X G (QX X (PI G z σ) G) 6 3 [(0, rf G 34), (1, rf G k1), (2, .int x2), (3, .int x3), (4, .int x4)] [] σ := by
  intro n
  induction n with
  | zero =>
    intro k1 x2 x3 x4 hk1 hF
    rw [f_Sg_contradict_3] at hF
    cases hF
  | succ n ih =>
    intro k1 x2 x3 x4 hk1 hF
    rw [f_Sg_contradict_3] at hF
    refine j_iload C d_Sg_contradict_3 4 rfl ?_
    refine j_aload_n C d_Sg_contradict_5 rfl 0 rfl ?_
    refine g_Sg_count C (rfl : kdf 34 = 7) wd_228 d_Sg_contradict_6 ?_
    refine j_icmp_ge C 75 d_Sg_contradict_9 (by decide) hF (fun q9 hF => ?_) (fun q9 hF => ?_)
    · refine j_iconst C (v := 0) d_Sg_contradict_75 (by decide) ?_
      cases hF
      exact j_zret (st := []) C hr rfl d_Sg_contradict_76 rfl rfl
    · refine j_aload_n C d_Sg_contradict_12 rfl 0 rfl ?_
      refine g_Sg_periods C (rfl : kdf 34 = 7) wd_226 d_Sg_contradict_13 ?_
      refine j_iload C d_Sg_contradict_16 4 rfl ?_
      obtain ⟨q18, hF⟩ := g_if hF
      refine j_iald C (rfl : kdf 36 = 12) (by decide) rfl (inb_v q18) d_Sg_contradict_18 ?_
      refine j_iload_n C d_Sg_contradict_19 rfl 2 rfl ?_
      refine j_icmp_ne C 38 d_Sg_contradict_20 (by decide) hF (fun q20 hF => ?_) (fun q20 hF => ?_)
      · exact b_Sg_contradict_38 C hr ih k1 x2 x3 x4 hk1 hF
      · refine j_aload_n C d_Sg_contradict_23 rfl 0 rfl ?_
        refine g_Sg_nodes C (rfl : kdf 34 = 7) wd_225 d_Sg_contradict_24 ?_
        refine j_iload C d_Sg_contradict_27 4 rfl ?_
        obtain ⟨q29, hF⟩ := g_if hF
        refine j_iald C (rfl : kdf 35 = 12) (by decide) rfl (inb_v q29) d_Sg_contradict_29 ?_
        refine j_iload_n C d_Sg_contradict_30 rfl 3 rfl ?_
        refine j_icmp_ge C 38 d_Sg_contradict_31 (by decide) hF (fun q31 hF => ?_) (fun q31 hF => ?_)
        · exact b_Sg_contradict_38 C hr ih k1 x2 x3 x4 hk1 hF
        · refine j_iconst C (v := 1) d_Sg_contradict_34 (by decide) ?_
          refine j_goto C 39 d_Sg_contradict_35 (by decide) ?_
          exact b_Sg_contradict_39 C hr ih k1 x2 x3 x4 (1 : Int32) hk1 hF
set_option maxHeartbeats 4000000 in
set_option maxRecDepth 100000 in
theorem c_Sg_contradict (l : Launch) (G : GT) (k1 : Nat) (x2 : Int32) (x3 : Int32) (σ : MT) (hk1 : kdf k1 = 4) {z : Int32} (hF : f_Sg_contradict k1 x2 x3 σ = some z) : CTI l G y_Sg_contradict b_Sg_contradict 6 (some .boolean) 1 21 [rf G 34, rf G k1, .int x2, .int x3] σ z σ := by
  refine entX [(0, rf G 34), (1, rf G k1), (2, .int x2), (3, .int x3)] "TimeFlood$Sightings" (by decide +kernel) rfl rfl (Nat.le_of_ble_eq_true rfl) (fun X hXl hr C => ?_)
  unfold f_Sg_contradict at hF
  refine j_iconst C (v := 0) d_Sg_contradict_0 (by decide) ?_
  refine j_istore C (lv' := [(4, .int (0 : Int32)), (0, rf G 34), (1, rf G k1), (2, .int x2), (3, .int x3)]) d_Sg_contradict_1 (by decide) rfl ?_
  refine j_sub C [(0, rf G 34), (1, rf G k1), (2, .int x2), (3, .int x3), (4, .int (0 : Int32))] [1, 2, 3, 4, 0] rfl ?_
  exact b_Sg_contradict_3 C hr 1100 k1 x2 x3 (0 : Int32) hk1 hF
set_option maxHeartbeats 4000000 in
set_option maxRecDepth 100000 in
theorem b_TF_failureExplains_26 {X : XT} {G : GT} {z : (Int32 × MT)} (C : CX X G b_TF_failureExplains 3 "TimeFlood" 5 117) (hr : XR X (some .boolean)) : ∀ (n : Nat) (x2 : Int32) (σ : MT), f_TF_failureExplains_26 n x2 σ = some z → JW X G (QX X (PI G z.1 z.2) G) 3 26 [(0, rf G 0), (2, .int x2)] [] σ := by
  intro n
  induction n with
  | zero =>
    intro x2 σ hF
    rw [f_TF_failureExplains_26] at hF
    cases hF
  | succ n ih =>
    intro x2 σ hF
    rw [f_TF_failureExplains_26] at hF
    refine j_iload_n C d_TF_failureExplains_26 rfl 1 rfl ?_
    refine j_bipush C (v := 20) d_TF_failureExplains_27 (by decide) ?_
    refine j_icmp_gt C 73 d_TF_failureExplains_29 (by decide) hF (fun q29 hF => ?_) (fun q29 hF => ?_)
    · refine j_iconst C (v := 1) d_TF_failureExplains_73 (by decide) ?_
      cases hF
      exact j_zret (st := []) C hr rfl d_TF_failureExplains_74 rfl rfl
    · refine j_aload_n C d_TF_failureExplains_32 rfl 0 rfl ?_
      refine g_TF_sightings C (rfl : kdf 0 = 0) wd_249 d_TF_failureExplains_33 ?_
      refine j_aload_n C d_TF_failureExplains_36 rfl 0 rfl ?_
      refine g_TF_trial C (rfl : kdf 0 = 0) wd_245 d_TF_failureExplains_37 ?_
      refine j_iload_n C d_TF_failureExplains_40 rfl 1 rfl ?_
      refine j_aload_n C d_TF_failureExplains_41 rfl 0 rfl ?_
      refine g_TF_plan C (rfl : kdf 0 = 0) wd_243 d_TF_failureExplains_42 ?_
      refine g_Pl_nodeCount C (rfl : kdf 15 = 2) wd_51 d_TF_failureExplains_45 ?_
      obtain ⟨r48, h48, hF⟩ := g_bind hF
      refine j_vi C (As := [rf G 83, .int x2, .int (σ.1 15 3)]) (st := []) (c_Sg_contradict (XL X) G 83 x2 (σ.1 15 3) σ (rfl : kdf 83 = 4) h48) (rfl : kdf 34 = 7) (by decide) rfl rfl m_Sg_contradict wd_594 rfl rfl (Nat.le_of_ble_eq_true rfl) ⟨by decide, by decide⟩ d_TF_failureExplains_48 ?_
      refine j_if_eq C 56 d_TF_failureExplains_51 (by decide) hF (fun q51 hF => ?_) (fun q51 hF => ?_)
      · refine j_aload_n C d_TF_failureExplains_56 rfl 0 rfl ?_
        refine g_TF_flood C (rfl : kdf 0 = 0) wd_242 d_TF_failureExplains_57 ?_
        refine j_aload_n C d_TF_failureExplains_60 rfl 0 rfl ?_
        refine g_TF_trial C (rfl : kdf 0 = 0) wd_245 d_TF_failureExplains_61 ?_
        obtain ⟨r64, h64, hF⟩ := g_bind hF
        refine j_vv C (As := [rf G 83]) (st := []) (c_Fl_pass (XL X) G 83 σ (rfl : kdf 83 = 4) h64) (rfl : kdf 14 = 3) (by decide) rfl rfl m_Fl_pass wd_560 rfl rfl (Nat.le_of_ble_eq_true rfl) ⟨by decide, by decide⟩ d_TF_failureExplains_64 ?_
        refine j_iinc C (v := x2 + (1 : Int32)) (lv' := [(2, .int (x2 + (1 : Int32))), (0, rf G 0)]) d_TF_failureExplains_67 1 rfl rfl (by decide) rfl ?_
        refine j_goto C 26 d_TF_failureExplains_70 (by decide) ?_
        refine j_sub C [(0, rf G 0), (2, .int (x2 + (1 : Int32)))] [1, 0] rfl ?_
        exact ih (x2 + (1 : Int32)) r64 hF
      · refine j_iconst C (v := 0) d_TF_failureExplains_54 (by decide) ?_
        cases hF
        exact j_zret (st := []) C hr rfl d_TF_failureExplains_55 rfl rfl
set_option maxHeartbeats 4000000 in
set_option maxRecDepth 100000 in
theorem c_TF_failureExplains (l : Launch) (G : GT) (x1 : Int32) (σ : MT)  {z : (Int32 × MT)} (hF : f_TF_failureExplains x1 σ = some z) : CTI l G y_TF_failureExplains b_TF_failureExplains 3 (some .boolean) 5 117 [rf G 0, .int x1] σ z.1 z.2 := by
  refine entX [(0, rf G 0), (1, .int x1)] "TimeFlood" (by decide +kernel) rfl rfl (Nat.le_of_ble_eq_true rfl) (fun X hXl hr C => ?_)
  unfold f_TF_failureExplains at hF
  refine j_aload_n C d_TF_failureExplains_0 rfl 0 rfl ?_
  refine g_TF_trial C (rfl : kdf 0 = 0) wd_245 d_TF_failureExplains_1 ?_
  refine j_aload_n C d_TF_failureExplains_4 rfl 0 rfl ?_
  refine g_TF_now C (rfl : kdf 0 = 0) wd_244 d_TF_failureExplains_5 ?_
  obtain ⟨r8, h8, hF⟩ := g_bind hF
  refine j_vv C (As := [rf G 61]) (st := []) (c_St_copyFrom (XL X) G 83 61 σ (rfl : kdf 83 = 4) (rfl : kdf 61 = 4) h8) (rfl : kdf 83 = 4) (by decide) rfl rfl m_St_copyFrom wd_555 rfl rfl (Nat.le_of_ble_eq_true rfl) ⟨by decide, by decide⟩ d_TF_failureExplains_8 ?_
  refine j_aload_n C d_TF_failureExplains_11 rfl 0 rfl ?_
  refine g_TF_trial C (rfl : kdf 0 = 0) wd_245 d_TF_failureExplains_12 ?_
  refine g_St_nodes C (rfl : kdf 83 = 4) wd_191 d_TF_failureExplains_15 ?_
  refine j_iload_n C d_TF_failureExplains_18 rfl 1 rfl ?_
  obtain ⟨q19, hF⟩ := g_if hF
  refine e_nodes C (rfl : kdf 84 = 32) (inb_v q19) d_TF_failureExplains_19 ?_
  refine j_iconst C (v := 0) d_TF_failureExplains_20 (by decide) ?_
  refine p_Nd_on C (kd_node (rfl : kdf 84 = 32) (inb_v q19)) (Or.inl rfl) wd_143 d_TF_failureExplains_21 ?_
  refine j_iconst C (v := 0) d_TF_failureExplains_24 (by decide) ?_
  refine j_istore_n C (lv' := [(2, .int (0 : Int32)), (0, rf G 0), (1, .int x1)]) d_TF_failureExplains_25 rfl (by decide) rfl ?_
  refine j_sub C [(0, rf G 0), (2, .int (0 : Int32))] [1, 0] rfl ?_
  exact b_TF_failureExplains_26 C hr 1100 (0 : Int32) (sI r8 (84 + 1 + 4 * x1.toNatClampNeg) 0 (0 : Int32)) hF
set_option maxHeartbeats 4000000 in
set_option maxRecDepth 100000 in
theorem b_TF_which_44 {X : XT} {G : GT} {z : (Int32 × MT)} {K4 : Int32 → Int32 → MT → Option (Int32 × MT)} (C : CX X G b_TF_which 3 "TimeFlood" 6 139) (hr : XR X (some .int)) (hK4 : ∀ (x1 : Int32) (x2 : Int32) (σ : MT), K4 x1 x2 σ = some z → JW X G (QX X (PI G z.1 z.2) G) 3 4 [(0, rf G 0), (1, .int x1), (2, .int x2)] [] σ) (x1 : Int32) (x2 : Int32) (σ : MT) (hF : f_TF_which_44 K4 x1 x2 σ = some z) : JW X G (QX X (PI G z.1 z.2) G) 3 44 [(0, rf G 0), (1, .int x1), (2, .int x2)] [] σ := by
  unfold f_TF_which_44 at hF
  refine j_iinc C (v := x2 + (1 : Int32)) (lv' := [(2, .int (x2 + (1 : Int32))), (0, rf G 0), (1, .int x1)]) d_TF_which_44 2 rfl rfl (by decide) rfl ?_
  refine j_goto C 4 d_TF_which_47 (by decide) ?_
  refine j_sub C [(0, rf G 0), (1, .int x1), (2, .int (x2 + (1 : Int32)))] [1, 2, 0] rfl ?_
  exact hK4 x1 (x2 + (1 : Int32)) σ hF
set_option maxHeartbeats 4000000 in
set_option maxRecDepth 100000 in
theorem b_TF_which_4 {X : XT} {G : GT} {z : (Int32 × MT)} (C : CX X G b_TF_which 3 "TimeFlood" 6 139) (hr : XR X (some .int)) : ∀ (n : Nat) (x1 : Int32) (x2 : Int32) (σ : MT), f_TF_which_4 n x1 x2 σ = some z → JW X G (QX X (PI G z.1 z.2) G) 3 4 [(0, rf G 0), (1, .int x1), (2, .int x2)] [] σ := by
  intro n
  induction n with
  | zero =>
    intro x1 x2 σ hF
    rw [f_TF_which_4] at hF
    cases hF
  | succ n ih =>
    intro x1 x2 σ hF
    rw [f_TF_which_4] at hF
    refine j_iload_n C d_TF_which_4 rfl 2 rfl ?_
    refine j_aload_n C d_TF_which_5 rfl 0 rfl ?_
    refine g_TF_plan C (rfl : kdf 0 = 0) wd_243 d_TF_which_6 ?_
    refine g_Pl_nodeCount C (rfl : kdf 15 = 2) wd_51 d_TF_which_9 ?_
    refine j_icmp_ge C 50 d_TF_which_12 (by decide) hF (fun q12 hF => ?_) (fun q12 hF => ?_)
    · refine j_iload_n C d_TF_which_50 rfl 1 rfl ?_
      cases hF
      exact j_iret (st := []) C hr d_TF_which_51 rfl rfl
    · refine j_aload_n C d_TF_which_15 rfl 0 rfl ?_
      refine g_TF_now C (rfl : kdf 0 = 0) wd_244 d_TF_which_16 ?_
      refine g_St_nodes C (rfl : kdf 61 = 4) wd_191 d_TF_which_19 ?_
      refine j_iload_n C d_TF_which_22 rfl 2 rfl ?_
      obtain ⟨q23, hF⟩ := g_if hF
      refine e_nodes C (rfl : kdf 62 = 32) (inb_v q23) d_TF_which_23 ?_
      refine g_Nd_on C (kd_node (rfl : kdf 62 = 32) (inb_v q23)) wd_143 d_TF_which_24 ?_
      refine j_if_eq C 44 d_TF_which_27 (by decide) hF (fun q27 hF => ?_) (fun q27 hF => ?_)
      · exact b_TF_which_44 C hr ih x1 x2 σ hF
      · refine j_aload_n C d_TF_which_30 rfl 0 rfl ?_
        refine j_iload_n C d_TF_which_31 rfl 2 rfl ?_
        obtain ⟨r32, h32, hF⟩ := g_bind hF
        refine j_vi C (As := [.int x2]) (st := []) (c_TF_failureExplains (XL X) G x2 σ h32) (rfl : kdf 0 = 0) (by decide) rfl rfl m_TF_failureExplains wd_590 rfl rfl (Nat.le_of_ble_eq_true rfl) ⟨by decide, by decide⟩ d_TF_which_32 ?_
        refine j_if_eq C 44 d_TF_which_35 (by decide) hF (fun q35 hF => ?_) (fun q35 hF => ?_)
        · exact b_TF_which_44 C hr ih x1 x2 r32.2 hF
        · refine j_iload_n C d_TF_which_38 rfl 1 rfl ?_
          refine j_iconst C (v := 1) d_TF_which_39 (by decide) ?_
          refine j_iload_n C d_TF_which_40 rfl 2 rfl ?_
          refine j_ishl C d_TF_which_41 ?_
          refine j_ior C d_TF_which_42 ?_
          refine j_istore_n C (lv' := [(1, .int (x1 ||| ((1 : Int32) <<< (x2 &&& 31)))), (0, rf G 0), (2, .int x2)]) d_TF_which_43 rfl (by decide) rfl ?_
          refine j_sub C [(0, rf G 0), (1, .int (x1 ||| ((1 : Int32) <<< (x2 &&& 31)))), (2, .int x2)] [1, 0, 2] rfl ?_
          exact b_TF_which_44 C hr ih (x1 ||| ((1 : Int32) <<< (x2 &&& 31))) x2 r32.2 hF
set_option maxHeartbeats 4000000 in
set_option maxRecDepth 100000 in
theorem c_TF_which (l : Launch) (G : GT) (σ : MT)  {z : (Int32 × MT)} (hF : f_TF_which σ = some z) : CTI l G y_TF_which b_TF_which 3 (some .int) 6 139 [rf G 0] σ z.1 z.2 := by
  refine entX [(0, rf G 0)] "TimeFlood" (by decide +kernel) rfl rfl (Nat.le_of_ble_eq_true rfl) (fun X hXl hr C => ?_)
  unfold f_TF_which at hF
  refine j_iconst C (v := 0) d_TF_which_0 (by decide) ?_
  refine j_istore_n C (lv' := [(1, .int (0 : Int32)), (0, rf G 0)]) d_TF_which_1 rfl (by decide) rfl ?_
  refine j_iconst C (v := 0) d_TF_which_2 (by decide) ?_
  refine j_istore_n C (lv' := [(2, .int (0 : Int32)), (1, .int (0 : Int32)), (0, rf G 0)]) d_TF_which_3 rfl (by decide) rfl ?_
  refine j_sub C [(0, rf G 0), (1, .int (0 : Int32)), (2, .int (0 : Int32))] [2, 1, 0] rfl ?_
  exact b_TF_which_4 C hr 1100 (0 : Int32) (0 : Int32) σ hF
set_option maxHeartbeats 4000000 in
set_option maxRecDepth 100000 in
theorem b_St_switchOffAllBut_25 {X : XT} {G : GT} {z : MT} {K2 : Nat → Int32 → Int32 → MT → Option MT} (C : CX X G b_St_switchOffAllBut 3 "TimeFlood$State" 0 0) (hr : XR X none) (hK2 : ∀ (k0 : Nat) (x1 : Int32) (x2 : Int32) (hk0 : kdf k0 = 4) (σ : MT), K2 k0 x1 x2 σ = some z → JW X G (QX X (PV G z) G) 3 2 [(0, rf G k0), (1, .int x1), (2, .int x2)] [] σ) (k0 : Nat) (x1 : Int32) (x2 : Int32) (hk0 : kdf k0 = 4) (σ : MT) (hF : f_St_switchOffAllBut_25 K2 k0 x1 x2 σ = some z) : JW X G (QX X (PV G z) G) 3 25 [(0, rf G k0), (1, .int x1), (2, .int x2)] [] σ := by
  unfold f_St_switchOffAllBut_25 at hF
  refine j_iinc C (v := x2 + (1 : Int32)) (lv' := [(2, .int (x2 + (1 : Int32))), (0, rf G k0), (1, .int x1)]) d_St_switchOffAllBut_25 2 rfl rfl (by decide) rfl ?_
  refine j_goto C 2 d_St_switchOffAllBut_28 (by decide) ?_
  refine j_sub C [(0, rf G k0), (1, .int x1), (2, .int (x2 + (1 : Int32)))] [1, 2, 0] rfl ?_
  exact hK2 k0 x1 (x2 + (1 : Int32)) hk0 σ hF
set_option maxHeartbeats 4000000 in
set_option maxRecDepth 100000 in
theorem b_St_switchOffAllBut_2 {X : XT} {G : GT} {z : MT} (C : CX X G b_St_switchOffAllBut 3 "TimeFlood$State" 0 0) (hr : XR X none) : ∀ (n : Nat) (k0 : Nat) (x1 : Int32) (x2 : Int32) (hk0 : kdf k0 = 4) (σ : MT), f_St_switchOffAllBut_2 n k0 x1 x2 σ = some z → JW X G (QX X (PV G z) G) 3 2 [(0, rf G k0), (1, .int x1), (2, .int x2)] [] σ := by
  intro n
  induction n with
  | zero =>
    intro k0 x1 x2 hk0 σ hF
    rw [f_St_switchOffAllBut_2] at hF
    cases hF
  | succ n ih =>
    intro k0 x1 x2 hk0 σ hF
    rw [f_St_switchOffAllBut_2] at hF
    refine j_iload_n C d_St_switchOffAllBut_2 rfl 2 rfl ?_
    refine j_iconst C (v := 5) d_St_switchOffAllBut_3 (by decide) ?_
    refine j_icmp_ge C 31 d_St_switchOffAllBut_4 (by decide) hF (fun q4 hF => ?_) (fun q4 hF => ?_)
    · cases hF
      exact j_vret C hr d_St_switchOffAllBut_31 rfl
    · refine j_iload_n C d_St_switchOffAllBut_7 rfl 1 rfl ?_
      refine j_iload_n C d_St_switchOffAllBut_8 rfl 2 rfl ?_
      refine j_ishr C d_St_switchOffAllBut_9 ?_
      refine j_iconst C (v := 1) d_St_switchOffAllBut_10 (by decide) ?_
      refine j_iand C d_St_switchOffAllBut_11 ?_
      refine j_if_ne C 25 d_St_switchOffAllBut_12 (by decide) hF (fun q12 hF => ?_) (fun q12 hF => ?_)
      · exact b_St_switchOffAllBut_25 C hr ih k0 x1 x2 hk0 σ hF
      · refine j_aload_n C d_St_switchOffAllBut_15 rfl 0 rfl ?_
        refine g_St_nodes C hk0 wd_189 d_St_switchOffAllBut_16 ?_
        refine j_iload_n C d_St_switchOffAllBut_19 rfl 2 rfl ?_
        obtain ⟨q20, hF⟩ := g_if hF
        refine e_nodes C (kd_St_nodes hk0) (inb_v q20) d_St_switchOffAllBut_20 ?_
        refine j_iconst C (v := 0) d_St_switchOffAllBut_21 (by decide) ?_
        refine p_Nd_on C (kd_node (kd_St_nodes hk0) (inb_v q20)) (Or.inl rfl) wd_142 d_St_switchOffAllBut_22 ?_
        exact b_St_switchOffAllBut_25 C hr ih k0 x1 x2 hk0 (sI σ ((k0 + 1) + 1 + 4 * x2.toNatClampNeg) 0 (0 : Int32)) hF
set_option maxHeartbeats 4000000 in
set_option maxRecDepth 100000 in
theorem c_St_switchOffAllBut (l : Launch) (G : GT) (k0 : Nat) (x1 : Int32) (σ : MT) (hk0 : kdf k0 = 4) {z : MT} (hF : f_St_switchOffAllBut k0 x1 σ = some z) : CTV l G y_St_switchOffAllBut b_St_switchOffAllBut 3 none 0 0 [rf G k0, .int x1] σ z := by
  refine entX [(0, rf G k0), (1, .int x1)] "TimeFlood$State" (by decide +kernel) rfl rfl (Nat.le_of_ble_eq_true rfl) (fun X hXl hr C => ?_)
  unfold f_St_switchOffAllBut at hF
  refine j_iconst C (v := 0) d_St_switchOffAllBut_0 (by decide) ?_
  refine j_istore_n C (lv' := [(2, .int (0 : Int32)), (0, rf G k0), (1, .int x1)]) d_St_switchOffAllBut_1 rfl (by decide) rfl ?_
  refine j_sub C [(0, rf G k0), (1, .int x1), (2, .int (0 : Int32))] [1, 2, 0] rfl ?_
  exact b_St_switchOffAllBut_2 C hr 1100 k0 x1 (0 : Int32) hk0 σ hF
