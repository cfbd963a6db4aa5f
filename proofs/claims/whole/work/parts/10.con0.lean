set_option maxHeartbeats 4000000 in
set_option maxRecDepth 100000 in
theorem b_TF_write_37 {X : XT} {G : GT} {z : (Int32 × MT)} (C : CX X G b_TF_write 2 "TimeFlood" 0 0) (hr : XR X (some .int)) (σ : MT) (hF : f_TF_write_37 σ = some z) : JW X G (QX X (PI G z.1 z.2) G) 2 37 [(0, rf G 0)] [] σ := by
  unfold f_TF_write_37 at hF
  refine j_aload_n C d_TF_write_37 rfl 0 rfl ?_
  refine j_dup C d_TF_write_38 rfl ?_
  refine g_TF_textLength C (rfl : kdf 0 = 0) wd_240 d_TF_write_39 ?_
  refine j_iconst C (v := 1) d_TF_write_42 (by decide) ?_
  refine j_iadd C d_TF_write_43 ?_
  refine p_TF_textLength C (rfl : kdf 0 = 0) wd_240 d_TF_write_44 ?_
  refine j_aload_n C d_TF_write_47 rfl 0 rfl ?_
  refine g_TF_textLength C (rfl : kdf 0 = 0) wd_240 d_TF_write_48 ?_
  cases hF
  exact j_iret (st := []) C hr d_TF_write_51 rfl rfl
set_option maxHeartbeats 4000000 in
set_option maxRecDepth 100000 in
theorem c_TF_write (l : Launch) (G : GT) (x1 : Int32) (σ : MT)  {z : (Int32 × MT)} (hF : f_TF_write x1 σ = some z) : CTI l G y_TF_write b_TF_write 2 (some .int) 0 0 [rf G 0, .int x1] σ z.1 z.2 := by
  refine entX [(0, rf G 0), (1, .int x1)] "TimeFlood" (by decide +kernel) rfl rfl (Nat.le_of_ble_eq_true rfl) (fun X hXl hr C => ?_)
  unfold f_TF_write at hF
  refine j_iload_n C d_TF_write_0 rfl 1 rfl ?_
  refine j_if_lt C 11 d_TF_write_1 (by decide) hF (fun q1 hF => ?_) (fun q1 hF => ?_)
  · refine j_bipush C (v := -2) d_TF_write_11 (by decide) ?_
    cases hF
    exact j_iret (st := []) C hr d_TF_write_13 rfl rfl
  · refine j_iload_n C d_TF_write_4 rfl 1 rfl ?_
    refine j_sipush C (v := 255) d_TF_write_5 (by decide) ?_
    refine j_icmp_le C 14 d_TF_write_8 (by decide) hF (fun q8 hF => ?_) (fun q8 hF => ?_)
    · refine j_aload_n C d_TF_write_14 rfl 0 rfl ?_
      refine g_TF_textLength C (rfl : kdf 0 = 0) wd_240 d_TF_write_15 ?_
      refine j_bipush C (v := 60) d_TF_write_18 (by decide) ?_
      refine j_icmp_lt C 26 d_TF_write_20 (by decide) hF (fun q20 hF => ?_) (fun q20 hF => ?_)
      · refine j_aload_n C d_TF_write_26 rfl 0 rfl ?_
        refine g_TF_text C (rfl : kdf 0 = 0) wd_239 d_TF_write_27 ?_
        refine j_aload_n C d_TF_write_30 rfl 0 rfl ?_
        refine g_TF_textLength C (rfl : kdf 0 = 0) wd_240 d_TF_write_31 ?_
        refine j_iload_n C d_TF_write_34 rfl 1 rfl ?_
        refine j_i2c C d_TF_write_35 ?_
        obtain ⟨q36, hF⟩ := g_if hF
        refine j_cast C (rfl : kdf 1 = 20) (by decide) (fun _ => rfl) (inb_v q36) d_TF_write_36 ?_
        refine j_sub C [(0, rf G 0)] [0] rfl ?_
        exact b_TF_write_37 C hr (sI σ 1 (σ.1 0 1).toNatClampNeg (vp_nar .char ((x1.toUInt32 % 65536).toInt32))) hF
      · refine j_bipush C (v := -4) d_TF_write_23 (by decide) ?_
        cases hF
        exact j_iret (st := []) C hr d_TF_write_25 rfl rfl
    · refine j_bipush C (v := -2) d_TF_write_11 (by decide) ?_
      cases hF
      exact j_iret (st := []) C hr d_TF_write_13 rfl rfl
set_option maxHeartbeats 4000000 in
set_option maxRecDepth 100000 in
theorem c_TF_wipe (l : Launch) (G : GT) (σ : MT)  {z : (Int32 × MT)} (hF : f_TF_wipe σ = some z) : CTI l G y_TF_wipe b_TF_wipe 2 (some .int) 0 0 [rf G 0] σ z.1 z.2 := by
  refine entX [(0, rf G 0)] "TimeFlood" (by decide +kernel) rfl rfl (Nat.le_of_ble_eq_true rfl) (fun X hXl hr C => ?_)
  unfold f_TF_wipe at hF
  refine j_aload_n C d_TF_wipe_0 rfl 0 rfl ?_
  refine g_TF_textLength C (rfl : kdf 0 = 0) wd_240 d_TF_wipe_1 ?_
  refine j_istore_n C (lv' := [(1, .int (σ.1 0 1)), (0, rf G 0)]) d_TF_wipe_4 rfl (by decide) rfl ?_
  refine j_aload_n C d_TF_wipe_5 rfl 1 rfl ?_
  refine j_iconst C (v := 0) d_TF_wipe_6 (by decide) ?_
  refine p_TF_textLength C (rfl : kdf 0 = 0) wd_240 d_TF_wipe_7 ?_
  refine j_iload_n C d_TF_wipe_10 rfl 0 rfl ?_
  cases hF
  exact j_iret (st := []) C hr d_TF_wipe_11 rfl rfl
set_option maxHeartbeats 4000000 in
set_option maxRecDepth 100000 in
theorem b_Pl_clear_19 {X : XT} {G : GT} {z : MT} {K12 : Nat → Int32 → MT → Option MT} (C : CX X G b_Pl_clear 3 "TimeFlood$Plan" 0 0) (hr : XR X none) (hK12 : ∀ (k0 : Nat) (x1 : Int32) (hk0 : kdf k0 = 2) (σ : MT), K12 k0 x1 σ = some z → JW X G (QX X (PV G z) G) 3 12 [(0, rf G k0), (1, .int x1)] [] σ) : ∀ (n : Nat) (k0 : Nat) (x1 : Int32) (x2 : Int32) (hk0 : kdf k0 = 2) (σ : MT), f_Pl_clear_19 K12 n k0 x1 x2 σ = some z → JW X G (QX X (PV G z) G) 3 19 [(0, rf G k0), (1, .int x1), (2, .int x2)] [] σ := by
  intro n
  induction n with
  | zero =>
    intro k0 x1 x2 hk0 σ hF
    rw [f_Pl_clear_19] at hF
    cases hF
  | succ n ih =>
    intro k0 x1 x2 hk0 σ hF
    rw [f_Pl_clear_19] at hF
    refine j_iload_n C d_Pl_clear_19 rfl 2 rfl ?_
    refine j_iconst C (v := 5) d_Pl_clear_20 (by decide) ?_
    refine j_icmp_ge C 40 d_Pl_clear_21 (by decide) hF (fun q21 hF => ?_) (fun q21 hF => ?_)
    · refine j_iinc C (v := x1 + (1 : Int32)) (lv' := [(1, .int (x1 + (1 : Int32))), (0, rf G k0), (2, .int x2)]) d_Pl_clear_40 1 rfl rfl (by decide) rfl ?_
      refine j_goto C 12 d_Pl_clear_43 (by decide) ?_
      refine j_sub C [(0, rf G k0), (1, .int (x1 + (1 : Int32)))] [1, 0] rfl ?_
      exact hK12 k0 (x1 + (1 : Int32)) hk0 σ hF
    · refine j_aload_n C d_Pl_clear_24 rfl 0 rfl ?_
      refine g_Pl_links C hk0 wd_62 d_Pl_clear_25 ?_
      refine j_iload_n C d_Pl_clear_28 rfl 1 rfl ?_
      obtain ⟨q29, hF⟩ := g_if hF
      refine e_links C (kd_Pl_links hk0) (inb_v q29) d_Pl_clear_29 ?_
      refine j_iload_n C d_Pl_clear_30 rfl 2 rfl ?_
      refine j_bipush C (v := -9) d_Pl_clear_31 (by decide) ?_
      obtain ⟨q33, hF⟩ := g_if hF
      refine j_iast C (kd_row (kd_Pl_links hk0) (inb_v q29)) (by decide) (fun _ => rfl) (inb_v q33) d_Pl_clear_33 ?_
      refine j_iinc C (v := x2 + (1 : Int32)) (lv' := [(2, .int (x2 + (1 : Int32))), (0, rf G k0), (1, .int x1)]) d_Pl_clear_34 2 rfl rfl (by decide) rfl ?_
      refine j_goto C 19 d_Pl_clear_37 (by decide) ?_
      refine j_sub C [(0, rf G k0), (1, .int x1), (2, .int (x2 + (1 : Int32)))] [1, 2, 0] rfl ?_
      exact ih k0 x1 (x2 + (1 : Int32)) hk0 (sI σ ((k0 + 5) + 1 + x1.toNatClampNeg) x2.toNatClampNeg (-9 : Int32)) hF
set_option maxHeartbeats 4000000 in
set_option maxRecDepth 100000 in
theorem b_Pl_clear_12 {X : XT} {G : GT} {z : MT} (C : CX X G b_Pl_clear 3 "TimeFlood$Plan" 0 0) (hr : XR X none) : ∀ (n : Nat) (k0 : Nat) (x1 : Int32) (hk0 : kdf k0 = 2) (σ : MT), f_Pl_clear_12 n k0 x1 σ = some z → JW X G (QX X (PV G z) G) 3 12 [(0, rf G k0), (1, .int x1)] [] σ := by
  intro n
  induction n with
  | zero =>
    intro k0 x1 hk0 σ hF
    rw [f_Pl_clear_12] at hF
    cases hF
  | succ n ih =>
    intro k0 x1 hk0 σ hF
    rw [f_Pl_clear_12] at hF
    refine j_iload_n C d_Pl_clear_12 rfl 1 rfl ?_
    refine j_iconst C (v := 5) d_Pl_clear_13 (by decide) ?_
    refine j_icmp_ge C 46 d_Pl_clear_14 (by decide) hF (fun q14 hF => ?_) (fun q14 hF => ?_)
    · cases hF
      exact j_vret C hr d_Pl_clear_46 rfl
    · refine j_iconst C (v := 0) d_Pl_clear_17 (by decide) ?_
      refine j_istore_n C (lv' := [(2, .int (0 : Int32)), (0, rf G k0), (1, .int x1)]) d_Pl_clear_18 rfl (by decide) rfl ?_
      refine j_sub C [(0, rf G k0), (1, .int x1), (2, .int (0 : Int32))] [1, 2, 0] rfl ?_
      exact b_Pl_clear_19 C hr ih 1100 k0 x1 (0 : Int32) hk0 σ hF
set_option maxHeartbeats 4000000 in
set_option maxRecDepth 100000 in
theorem c_Pl_clear (l : Launch) (G : GT) (k0 : Nat) (σ : MT) (hk0 : kdf k0 = 2) {z : MT} (hF : f_Pl_clear k0 σ = some z) : CTV l G y_Pl_clear b_Pl_clear 3 none 0 0 [rf G k0] σ z := by
  refine entX [(0, rf G k0)] "TimeFlood$Plan" (by decide +kernel) rfl rfl (Nat.le_of_ble_eq_true rfl) (fun X hXl hr C => ?_)
  unfold f_Pl_clear at hF
  refine j_aload_n C d_Pl_clear_0 rfl 0 rfl ?_
  refine j_iconst C (v := 0) d_Pl_clear_1 (by decide) ?_
  refine p_Pl_nodeCount C hk0 wd_47 d_Pl_clear_2 ?_
  refine j_aload_n C d_Pl_clear_5 rfl 0 rfl ?_
  refine j_iconst C (v := 0) d_Pl_clear_6 (by decide) ?_
  refine p_Pl_linkCount C hk0 wd_52 d_Pl_clear_7 ?_
  refine j_iconst C (v := 0) d_Pl_clear_10 (by decide) ?_
  refine j_istore_n C (lv' := [(1, .int (0 : Int32)), (0, rf G k0)]) d_Pl_clear_11 rfl (by decide) rfl ?_
  refine j_sub C [(0, rf G k0), (1, .int (0 : Int32))] [1, 0] rfl ?_
  exact b_Pl_clear_12 C hr 1100 k0 (0 : Int32) hk0 (sI (sI σ k0 3 (0 : Int32)) k0 4 (0 : Int32)) hF
set_option maxHeartbeats 4000000 in
set_option maxRecDepth 100000 in
theorem c_Pl_canLinkAny (l : Launch) (G : GT) (k0 : Nat) (σ : MT) (hk0 : kdf k0 = 2) {z : Int32} (hF : f_Pl_canLinkAny k0 σ = some z) : CTI l G y_Pl_canLinkAny b_Pl_canLinkAny 1 (some .boolean) 0 0 [rf G k0] σ z σ := by
  refine entX [(0, rf G k0)] "TimeFlood$Plan" (by decide +kernel) rfl rfl (Nat.le_of_ble_eq_true rfl) (fun X hXl hr C => ?_)
  unfold f_Pl_canLinkAny at hF
  refine j_aload_n C d_Pl_canLinkAny_0 rfl 0 rfl ?_
  refine g_Pl_linkCount C hk0 wd_52 d_Pl_canLinkAny_1 ?_
  refine j_bipush C (v := 7) d_Pl_canLinkAny_4 (by decide) ?_
  refine j_icmp_ge C 33 d_Pl_canLinkAny_6 (by decide) hF (fun q6 hF => ?_) (fun q6 hF => ?_)
  · refine j_iconst C (v := 0) d_Pl_canLinkAny_33 (by decide) ?_
    cases hF
    exact j_zret (st := []) C hr rfl d_Pl_canLinkAny_34 rfl rfl
  · refine j_aload_n C d_Pl_canLinkAny_9 rfl 0 rfl ?_
    refine g_Pl_linkCount C hk0 wd_52 d_Pl_canLinkAny_10 ?_
    refine j_aload_n C d_Pl_canLinkAny_13 rfl 0 rfl ?_
    refine g_Pl_nodeCount C hk0 wd_47 d_Pl_canLinkAny_14 ?_
    refine j_aload_n C d_Pl_canLinkAny_17 rfl 0 rfl ?_
    refine g_Pl_nodeCount C hk0 wd_47 d_Pl_canLinkAny_18 ?_
    refine j_iconst C (v := 1) d_Pl_canLinkAny_21 (by decide) ?_
    refine j_isub C d_Pl_canLinkAny_22 ?_
    refine j_imul C d_Pl_canLinkAny_23 ?_
    refine j_iconst C (v := 2) d_Pl_canLinkAny_24 (by decide) ?_
    refine j_idiv C d_Pl_canLinkAny_25 (by decide) ?_
    refine j_icmp_ge C 33 d_Pl_canLinkAny_26 (by decide) hF (fun q26 hF => ?_) (fun q26 hF => ?_)
    · refine j_iconst C (v := 0) d_Pl_canLinkAny_33 (by decide) ?_
      cases hF
      exact j_zret (st := []) C hr rfl d_Pl_canLinkAny_34 rfl rfl
    · refine j_iconst C (v := 1) d_Pl_canLinkAny_29 (by decide) ?_
      refine j_goto C 34 d_Pl_canLinkAny_30 (by decide) ?_
      cases hF
      exact j_zret (st := []) C hr rfl d_Pl_canLinkAny_34 rfl rfl
set_option maxHeartbeats 4000000 in
set_option maxRecDepth 100000 in
theorem c_Rd_takesItem (l : Launch) (G : GT) (x1 : Int32) (σ : MT)  {z : (Int32 × MT)} (hF : f_Rd_takesItem x1 σ = some z) : CTI l G y_Rd_takesItem b_Rd_takesItem 2 (some .boolean) 1 20 [rf G 2, .int x1] σ z.1 z.2 := by
  refine entX [(0, rf G 2), (1, .int x1)] "TimeFlood$Reader" (by decide +kernel) rfl rfl (Nat.le_of_ble_eq_true rfl) (fun X hXl hr C => ?_)
  unfold f_Rd_takesItem at hF
  refine j_iload_n C d_Rd_takesItem_0 rfl 1 rfl ?_
  refine j_bipush C (v := 110) d_Rd_takesItem_1 (by decide) ?_
  refine j_icmp_ne C 29 d_Rd_takesItem_3 (by decide) hF (fun q3 hF => ?_) (fun q3 hF => ?_)
  · refine j_aload_n C d_Rd_takesItem_29 rfl 0 rfl ?_
    refine j_bipush C (v := 9) d_Rd_takesItem_30 (by decide) ?_
    refine p_Rd_place C (rfl : kdf 2 = 1) wd_89 d_Rd_takesItem_32 ?_
    refine j_iload_n C d_Rd_takesItem_35 rfl 1 rfl ?_
    refine j_bipush C (v := 107) d_Rd_takesItem_36 (by decide) ?_
    refine j_icmp_ne C 55 d_Rd_takesItem_38 (by decide) hF (fun q38 hF => ?_) (fun q38 hF => ?_)
    · refine j_iconst C (v := 0) d_Rd_takesItem_55 (by decide) ?_
      cases hF
      exact j_zret (st := []) C hr rfl d_Rd_takesItem_56 rfl rfl
    · refine j_aload_n C d_Rd_takesItem_41 rfl 0 rfl ?_
      refine g_Rd_draft C (rfl : kdf 2 = 1) wd_87 d_Rd_takesItem_42 ?_
      obtain ⟨r45, h45, hF⟩ := g_bind hF
      refine j_vi C (As := []) (st := []) (c_Pl_canLinkAny (XL X) G 3 (sI σ 2 1 (9 : Int32)) (rfl : kdf 3 = 2) h45) (rfl : kdf 3 = 2) (by decide) rfl rfl m_Pl_canLinkAny wd_304 rfl rfl (Nat.le_of_ble_eq_true rfl) ⟨by decide, by decide⟩ d_Rd_takesItem_45 ?_
      refine j_if_eq C 55 d_Rd_takesItem_48 (by decide) hF (fun q48 hF => ?_) (fun q48 hF => ?_)
      · refine j_iconst C (v := 0) d_Rd_takesItem_55 (by decide) ?_
        cases hF
        exact j_zret (st := []) C hr rfl d_Rd_takesItem_56 rfl rfl
      · refine j_iconst C (v := 1) d_Rd_takesItem_51 (by decide) ?_
        refine j_goto C 56 d_Rd_takesItem_52 (by decide) ?_
        cases hF
        exact j_zret (st := []) C hr rfl d_Rd_takesItem_56 rfl rfl
  · refine j_aload_n C d_Rd_takesItem_6 rfl 0 rfl ?_
    refine j_bipush C (v := 6) d_Rd_takesItem_7 (by decide) ?_
    refine p_Rd_place C (rfl : kdf 2 = 1) wd_89 d_Rd_takesItem_9 ?_
    refine j_aload_n C d_Rd_takesItem_12 rfl 0 rfl ?_
    refine g_Rd_draft C (rfl : kdf 2 = 1) wd_87 d_Rd_takesItem_13 ?_
    refine g_Pl_nodeCount C (rfl : kdf 3 = 2) wd_50 d_Rd_takesItem_16 ?_
    refine j_iconst C (v := 5) d_Rd_takesItem_19 (by decide) ?_
    refine j_icmp_ge C 27 d_Rd_takesItem_20 (by decide) hF (fun q20 hF => ?_) (fun q20 hF => ?_)
    · refine j_iconst C (v := 0) d_Rd_takesItem_27 (by decide) ?_
      cases hF
      exact j_zret (st := []) C hr rfl d_Rd_takesItem_28 rfl rfl
    · refine j_iconst C (v := 1) d_Rd_takesItem_23 (by decide) ?_
      refine j_goto C 28 d_Rd_takesItem_24 (by decide) ?_
      cases hF
      exact j_zret (st := []) C hr rfl d_Rd_takesItem_28 rfl rfl
set_option maxHeartbeats 4000000 in
set_option maxRecDepth 100000 in
theorem c_Rd_takesOfHead (l : Launch) (G : GT) (x1 : Int32) (σ : MT)  {z : (Int32 × MT)} (hF : f_Rd_takesOfHead x1 σ = some z) : CTI l G y_Rd_takesOfHead b_Rd_takesOfHead 2 (some .boolean) 0 0 [rf G 2, .int x1] σ z.1 z.2 := by
  refine entX [(0, rf G 2), (1, .int x1)] "TimeFlood$Reader" (by decide +kernel) rfl rfl (Nat.le_of_ble_eq_true rfl) (fun X hXl hr C => ?_)
  unfold f_Rd_takesOfHead at hF
  refine j_aload_n C d_Rd_takesOfHead_0 rfl 0 rfl ?_
  refine g_Rd_place C (rfl : kdf 2 = 1) wd_89 d_Rd_takesOfHead_1 ?_
  refine g_ite hF (fun q hF => ?_) (fun q4_0 hF => ?_)
  · refine j_tabIn C 32 q d_Rd_takesOfHead_4 (by decide) (by decide) (off := 28) rfl (by decide) ?_
    refine j_aload_n C d_Rd_takesOfHead_32 rfl 0 rfl ?_
    refine j_iload_n C d_Rd_takesOfHead_33 rfl 1 rfl ?_
    refine p_Rd_held C (rfl : kdf 2 = 1) wd_90 d_Rd_takesOfHead_34 ?_
    refine j_aload_n C d_Rd_takesOfHead_37 rfl 0 rfl ?_
    refine j_iconst C (v := 2) d_Rd_takesOfHead_38 (by decide) ?_
    refine p_Rd_place C (rfl : kdf 2 = 1) wd_89 d_Rd_takesOfHead_39 ?_
    refine j_iload_n C d_Rd_takesOfHead_42 rfl 1 rfl ?_
    refine j_iconst C (v := 3) d_Rd_takesOfHead_43 (by decide) ?_
    refine j_icmp_gt C 51 d_Rd_takesOfHead_44 (by decide) hF (fun q44 hF => ?_) (fun q44 hF => ?_)
    · refine j_iconst C (v := 0) d_Rd_takesOfHead_51 (by decide) ?_
      cases hF
      exact j_zret (st := []) C hr rfl d_Rd_takesOfHead_52 rfl rfl
    · refine j_iconst C (v := 1) d_Rd_takesOfHead_47 (by decide) ?_
      refine j_goto C 52 d_Rd_takesOfHead_48 (by decide) ?_
      cases hF
      exact j_zret (st := []) C hr rfl d_Rd_takesOfHead_52 rfl rfl
  refine g_ite hF (fun q hF => ?_) (fun q4_1 hF => ?_)
  · refine j_tabIn C 53 q d_Rd_takesOfHead_4 (by decide) (by decide) (off := 49) rfl (by decide) ?_
    refine j_aload_n C d_Rd_takesOfHead_53 rfl 0 rfl ?_
    refine g_Rd_draft C (rfl : kdf 2 = 1) wd_87 d_Rd_takesOfHead_54 ?_
    refine j_bipush C (v := 10) d_Rd_takesOfHead_57 (by decide) ?_
    refine j_aload_n C d_Rd_takesOfHead_59 rfl 0 rfl ?_
    refine g_Rd_held C (rfl : kdf 2 = 1) wd_90 d_Rd_takesOfHead_60 ?_
    refine j_imul C d_Rd_takesOfHead_63 ?_
    refine j_iload_n C d_Rd_takesOfHead_64 rfl 1 rfl ?_
    refine j_iadd C d_Rd_takesOfHead_65 ?_
    refine p_Pl_unit C (rfl : kdf 3 = 2) wd_37 d_Rd_takesOfHead_66 ?_
    refine j_aload_n C d_Rd_takesOfHead_69 rfl 0 rfl ?_
    refine j_iconst C (v := 3) d_Rd_takesOfHead_70 (by decide) ?_
    refine p_Rd_place C (rfl : kdf 2 = 1) wd_89 d_Rd_takesOfHead_71 ?_
    refine j_aload_n C d_Rd_takesOfHead_74 rfl 0 rfl ?_
    refine g_Rd_draft C (rfl : kdf 2 = 1) wd_87 d_Rd_takesOfHead_75 ?_
    refine g_Pl_unit C (rfl : kdf 3 = 2) wd_37 d_Rd_takesOfHead_78 ?_
    refine j_bipush C (v := 8) d_Rd_takesOfHead_81 (by decide) ?_
    refine j_icmp_lt C 102 d_Rd_takesOfHead_83 (by decide) hF (fun q83 hF => ?_) (fun q83 hF => ?_)
    · refine j_iconst C (v := 0) d_Rd_takesOfHead_102 (by decide) ?_
      cases hF
      exact j_zret (st := []) C hr rfl d_Rd_takesOfHead_103 rfl rfl
    · refine j_aload_n C d_Rd_takesOfHead_86 rfl 0 rfl ?_
      refine g_Rd_draft C (rfl : kdf 2 = 1) wd_87 d_Rd_takesOfHead_87 ?_
      refine g_Pl_unit C (rfl : kdf 3 = 2) wd_37 d_Rd_takesOfHead_90 ?_
      refine j_bipush C (v := 32) d_Rd_takesOfHead_93 (by decide) ?_
      refine j_icmp_gt C 102 d_Rd_takesOfHead_95 (by decide) hF (fun q95 hF => ?_) (fun q95 hF => ?_)
      · refine j_iconst C (v := 0) d_Rd_takesOfHead_102 (by decide) ?_
        cases hF
        exact j_zret (st := []) C hr rfl d_Rd_takesOfHead_103 rfl rfl
      · refine j_iconst C (v := 1) d_Rd_takesOfHead_98 (by decide) ?_
        refine j_goto C 103 d_Rd_takesOfHead_99 (by decide) ?_
        cases hF
        exact j_zret (st := []) C hr rfl d_Rd_takesOfHead_103 rfl rfl
  refine g_ite hF (fun q hF => ?_) (fun q4_2 hF => ?_)
  · refine j_tabIn C 104 q d_Rd_takesOfHead_4 (by decide) (by decide) (off := 100) rfl (by decide) ?_
    refine j_aload_n C d_Rd_takesOfHead_104 rfl 0 rfl ?_
    refine g_Rd_draft C (rfl : kdf 2 = 1) wd_87 d_Rd_takesOfHead_105 ?_
    refine j_iload_n C d_Rd_takesOfHead_108 rfl 1 rfl ?_
    refine p_Pl_patience C (rfl : kdf 3 = 2) wd_40 d_Rd_takesOfHead_109 ?_
    refine j_aload_n C d_Rd_takesOfHead_112 rfl 0 rfl ?_
    refine j_iconst C (v := 4) d_Rd_takesOfHead_113 (by decide) ?_
    refine p_Rd_place C (rfl : kdf 2 = 1) wd_89 d_Rd_takesOfHead_114 ?_
    refine j_iload_n C d_Rd_takesOfHead_117 rfl 1 rfl ?_
    refine j_iconst C (v := 1) d_Rd_takesOfHead_118 (by decide) ?_
    refine j_icmp_lt C 126 d_Rd_takesOfHead_119 (by decide) hF (fun q119 hF => ?_) (fun q119 hF => ?_)
    · refine j_iconst C (v := 0) d_Rd_takesOfHead_126 (by decide) ?_
      cases hF
      exact j_zret (st := []) C hr rfl d_Rd_takesOfHead_127 rfl rfl
    · refine j_iconst C (v := 1) d_Rd_takesOfHead_122 (by decide) ?_
      refine j_goto C 127 d_Rd_takesOfHead_123 (by decide) ?_
      cases hF
      exact j_zret (st := []) C hr rfl d_Rd_takesOfHead_127 rfl rfl
  refine j_tabOut C 128 d_Rd_takesOfHead_4 (by have t0 := lv_neT q4_0 (a := 1) rfl; have t1 := lv_neT q4_1 (a := 2) rfl; have t2 := lv_neT q4_2 (a := 3) rfl; omega) (by decide) ?_
  refine j_aload_n C d_Rd_takesOfHead_128 rfl 0 rfl ?_
  refine g_Rd_draft C (rfl : kdf 2 = 1) wd_87 d_Rd_takesOfHead_129 ?_
  refine j_iload_n C d_Rd_takesOfHead_132 rfl 1 rfl ?_
  refine p_Pl_shyness C (rfl : kdf 3 = 2) wd_44 d_Rd_takesOfHead_133 ?_
  refine j_aload_n C d_Rd_takesOfHead_136 rfl 0 rfl ?_
  refine j_iconst C (v := 5) d_Rd_takesOfHead_137 (by decide) ?_
  refine p_Rd_place C (rfl : kdf 2 = 1) wd_89 d_Rd_takesOfHead_138 ?_
  refine j_iconst C (v := 1) d_Rd_takesOfHead_141 (by decide) ?_
  cases hF
  exact j_zret (st := []) C hr rfl d_Rd_takesOfHead_142 rfl rfl
set_option maxHeartbeats 4000000 in
set_option maxRecDepth 100000 in
theorem b_Pl_addNode_28 {X : XT} {G : GT} {z : MT} (C : CX X G b_Pl_addNode 3 "TimeFlood$Plan" 0 0) (hr : XR X none) (k0 : Nat) (hk0 : kdf k0 = 2) (σ : MT) (hF : f_Pl_addNode_28 k0 σ = some z) : JW X G (QX X (PV G z) G) 3 28 [(0, rf G k0)] [] σ := by
  unfold f_Pl_addNode_28 at hF
  refine j_aload_n C d_Pl_addNode_28 rfl 0 rfl ?_
  refine j_dup C d_Pl_addNode_29 rfl ?_
  refine g_Pl_nodeCount C hk0 wd_47 d_Pl_addNode_30 ?_
  refine j_iconst C (v := 1) d_Pl_addNode_33 (by decide) ?_
  refine j_iadd C d_Pl_addNode_34 ?_
  refine p_Pl_nodeCount C hk0 wd_47 d_Pl_addNode_35 ?_
  cases hF
  exact j_vret C hr d_Pl_addNode_38 rfl
set_option maxHeartbeats 4000000 in
set_option maxRecDepth 100000 in
theorem c_Pl_addNode (l : Launch) (G : GT) (k0 : Nat) (x1 : Int32) (x2 : Int32) (σ : MT) (hk0 : kdf k0 = 2) {z : MT} (hF : f_Pl_addNode k0 x1 x2 σ = some z) : CTV l G y_Pl_addNode b_Pl_addNode 3 none 0 0 [rf G k0, .int x1, .int x2] σ z := by
  refine entX [(0, rf G k0), (1, .int x1), (2, .int x2)] "TimeFlood$Plan" (by decide +kernel) rfl rfl (Nat.le_of_ble_eq_true rfl) (fun X hXl hr C => ?_)
  unfold f_Pl_addNode at hF
  refine j_aload_n C d_Pl_addNode_0 rfl 0 rfl ?_
  refine g_Pl_nodeCount C hk0 wd_47 d_Pl_addNode_1 ?_
  refine j_iconst C (v := 5) d_Pl_addNode_4 (by decide) ?_
  refine j_icmp_ge C 38 d_Pl_addNode_5 (by decide) hF (fun q5 hF => ?_) (fun q5 hF => ?_)
  · cases hF
    exact j_vret C hr d_Pl_addNode_38 rfl
  · refine j_aload_n C d_Pl_addNode_8 rfl 0 rfl ?_
    refine g_Pl_drifts C hk0 wd_54 d_Pl_addNode_9 ?_
    refine j_aload_n C d_Pl_addNode_12 rfl 0 rfl ?_
    refine g_Pl_nodeCount C hk0 wd_47 d_Pl_addNode_13 ?_
    refine j_iload_n C d_Pl_addNode_16 rfl 1 rfl ?_
    obtain ⟨q17, hF⟩ := g_if hF
    refine j_iast C (kd_Pl_drifts hk0) (by decide) (fun _ => rfl) (inb_v q17) d_Pl_addNode_17 ?_
    refine j_aload_n C d_Pl_addNode_18 rfl 0 rfl ?_
    refine g_Pl_starts C hk0 wd_56 d_Pl_addNode_19 ?_
    refine j_aload_n C d_Pl_addNode_22 rfl 0 rfl ?_
    refine g_Pl_nodeCount C hk0 wd_47 d_Pl_addNode_23 ?_
    refine j_iload_n C d_Pl_addNode_26 rfl 2 rfl ?_
    obtain ⟨q27, hF⟩ := g_if hF
    refine j_iast C (kd_Pl_starts hk0) (by decide) (fun _ => rfl) (inb_v q27) d_Pl_addNode_27 ?_
    refine j_sub C [(0, rf G k0)] [0] rfl ?_
    exact b_Pl_addNode_28 C hr k0 hk0 (sI (sI σ (k0 + 1) (σ.1 k0 3).toNatClampNeg x1) (k0 + 2) ((sI σ (k0 + 1) (σ.1 k0 3).toNatClampNeg x1).1 k0 3).toNatClampNeg x2) hF
set_option maxHeartbeats 4000000 in
set_option maxRecDepth 100000 in
theorem c_Pl_canLink (l : Launch) (G : GT) (k0 : Nat) (x1 : Int32) (x2 : Int32) (σ : MT) (hk0 : kdf k0 = 2) {z : Int32} (hF : f_Pl_canLink k0 x1 x2 σ = some z) : CTI l G y_Pl_canLink b_Pl_canLink 3 (some .boolean) 0 0 [rf G k0, .int x1, .int x2] σ z σ := by
  refine entX [(0, rf G k0), (1, .int x1), (2, .int x2)] "TimeFlood$Plan" (by decide +kernel) rfl rfl (Nat.le_of_ble_eq_true rfl) (fun X hXl hr C => ?_)
  unfold f_Pl_canLink at hF
  refine j_iload_n C d_Pl_canLink_0 rfl 1 rfl ?_
  refine j_iload_n C d_Pl_canLink_1 rfl 2 rfl ?_
  refine j_icmp_eq C 38 d_Pl_canLink_2 (by decide) hF (fun q2 hF => ?_) (fun q2 hF => ?_)
  · refine j_iconst C (v := 0) d_Pl_canLink_38 (by decide) ?_
    cases hF
    exact j_zret (st := []) C hr rfl d_Pl_canLink_39 rfl rfl
  · refine j_iload_n C d_Pl_canLink_5 rfl 1 rfl ?_
    refine j_aload_n C d_Pl_canLink_6 rfl 0 rfl ?_
    refine g_Pl_nodeCount C hk0 wd_47 d_Pl_canLink_7 ?_
    refine j_icmp_ge C 38 d_Pl_canLink_10 (by decide) hF (fun q10 hF => ?_) (fun q10 hF => ?_)
    · refine j_iconst C (v := 0) d_Pl_canLink_38 (by decide) ?_
      cases hF
      exact j_zret (st := []) C hr rfl d_Pl_canLink_39 rfl rfl
    · refine j_iload_n C d_Pl_canLink_13 rfl 2 rfl ?_
      refine j_aload_n C d_Pl_canLink_14 rfl 0 rfl ?_
      refine g_Pl_nodeCount C hk0 wd_47 d_Pl_canLink_15 ?_
      refine j_icmp_ge C 38 d_Pl_canLink_18 (by decide) hF (fun q18 hF => ?_) (fun q18 hF => ?_)
      · refine j_iconst C (v := 0) d_Pl_canLink_38 (by decide) ?_
        cases hF
        exact j_zret (st := []) C hr rfl d_Pl_canLink_39 rfl rfl
      · refine j_aload_n C d_Pl_canLink_21 rfl 0 rfl ?_
        refine g_Pl_links C hk0 wd_62 d_Pl_canLink_22 ?_
        refine j_iload_n C d_Pl_canLink_25 rfl 1 rfl ?_
        obtain ⟨q26, hF⟩ := g_if hF
        refine e_links C (kd_Pl_links hk0) (inb_v q26) d_Pl_canLink_26 ?_
        refine j_iload_n C d_Pl_canLink_27 rfl 2 rfl ?_
        obtain ⟨q28, hF⟩ := g_if hF
        refine j_iald C (kd_row (kd_Pl_links hk0) (inb_v q26)) (by decide) rfl (inb_v q28) d_Pl_canLink_28 ?_
        refine j_bipush C (v := -9) d_Pl_canLink_29 (by decide) ?_
        refine j_icmp_ne C 38 d_Pl_canLink_31 (by decide) hF (fun q31 hF => ?_) (fun q31 hF => ?_)
        · refine j_iconst C (v := 0) d_Pl_canLink_38 (by decide) ?_
          cases hF
          exact j_zret (st := []) C hr rfl d_Pl_canLink_39 rfl rfl
        · refine j_iconst C (v := 1) d_Pl_canLink_34 (by decide) ?_
          refine j_goto C 39 d_Pl_canLink_35 (by decide) ?_
          cases hF
          exact j_zret (st := []) C hr rfl d_Pl_canLink_39 rfl rfl
set_option maxHeartbeats 4000000 in
set_option maxRecDepth 100000 in
theorem b_Pl_canLinkFrom_2 {X : XT} {G : GT} {z : Int32} {σ : MT} (C : CX X G b_Pl_canLinkFrom 3 "TimeFlood$Plan" 1 22) (hr : XR X (some .boolean)) : ∀ (n : Nat) (k0 : Nat) (x1 : Int32) (x2 : Int32) (hk0 : kdf k0 = 2), f_Pl_canLinkFrom_2 n k0 x1 x2 σ = some z → JW X G (QX X (PI G z σ) G) 3 2 [(0, rf G k0), (1, .int x1), (2, .int x2)] [] σ := by
  intro n
  induction n with
  | zero =>
    intro k0 x1 x2 hk0 hF
    rw [f_Pl_canLinkFrom_2] at hF
    cases hF
  | succ n ih =>
    intro k0 x1 x2 hk0 hF
    rw [f_Pl_canLinkFrom_2] at hF
    refine j_iload_n C d_Pl_canLinkFrom_2 rfl 2 rfl ?_
    refine j_aload_n C d_Pl_canLinkFrom_3 rfl 0 rfl ?_
    refine g_Pl_nodeCount C hk0 wd_47 d_Pl_canLinkFrom_4 ?_
    refine j_icmp_ge C 27 d_Pl_canLinkFrom_7 (by decide) hF (fun q7 hF => ?_) (fun q7 hF => ?_)
    · refine j_iconst C (v := 0) d_Pl_canLinkFrom_27 (by decide) ?_
      cases hF
      exact j_zret (st := []) C hr rfl d_Pl_canLinkFrom_28 rfl rfl
    · refine j_aload_n C d_Pl_canLinkFrom_10 rfl 0 rfl ?_
      refine j_iload_n C d_Pl_canLinkFrom_11 rfl 1 rfl ?_
      refine j_iload_n C d_Pl_canLinkFrom_12 rfl 2 rfl ?_
      obtain ⟨r13, h13, hF⟩ := g_bind hF
      refine j_vi C (As := [.int x1, .int x2]) (st := []) (c_Pl_canLink (XL X) G k0 x1 x2 σ hk0 h13) hk0 (by decide) rfl rfl m_Pl_canLink wd_324 rfl rfl (Nat.le_of_ble_eq_true rfl) ⟨by decide, by decide⟩ d_Pl_canLinkFrom_13 ?_
      refine j_if_eq C 21 d_Pl_canLinkFrom_16 (by decide) hF (fun q16 hF => ?_) (fun q16 hF => ?_)
      · refine j_iinc C (v := x2 + (1 : Int32)) (lv' := [(2, .int (x2 + (1 : Int32))), (0, rf G k0), (1, .int x1)]) d_Pl_canLinkFrom_21 2 rfl rfl (by decide) rfl ?_
        refine j_goto C 2 d_Pl_canLinkFrom_24 (by decide) ?_
        refine j_sub C [(0, rf G k0), (1, .int x1), (2, .int (x2 + (1 : Int32)))] [1, 2, 0] rfl ?_
        exact ih k0 x1 (x2 + (1 : Int32)) hk0 hF
      · refine j_iconst C (v := 1) d_Pl_canLinkFrom_19 (by decide) ?_
        cases hF
        exact j_zret (st := []) C hr rfl d_Pl_canLinkFrom_20 rfl rfl
set_option maxHeartbeats 4000000 in
set_option maxRecDepth 100000 in
theorem c_Pl_canLinkFrom (l : Launch) (G : GT) (k0 : Nat) (x1 : Int32) (σ : MT) (hk0 : kdf k0 = 2) {z : Int32} (hF : f_Pl_canLinkFrom k0 x1 σ = some z) : CTI l G y_Pl_canLinkFrom b_Pl_canLinkFrom 3 (some .boolean) 1 22 [rf G k0, .int x1] σ z σ := by
  refine entX [(0, rf G k0), (1, .int x1)] "TimeFlood$Plan" (by decide +kernel) rfl rfl (Nat.le_of_ble_eq_true rfl) (fun X hXl hr C => ?_)
  unfold f_Pl_canLinkFrom at hF
  refine j_iconst C (v := 0) d_Pl_canLinkFrom_0 (by decide) ?_
  refine j_istore_n C (lv' := [(2, .int (0 : Int32)), (0, rf G k0), (1, .int x1)]) d_Pl_canLinkFrom_1 rfl (by decide) rfl ?_
  refine j_sub C [(0, rf G k0), (1, .int x1), (2, .int (0 : Int32))] [1, 2, 0] rfl ?_
  exact b_Pl_canLinkFrom_2 C hr 1100 k0 x1 (0 : Int32) hk0 hF
set_option maxHeartbeats 4000000 in
set_option maxRecDepth 100000 in
theorem c_Mt_min (l : Launch) (G : GT) (x0 : Int32) (x1 : Int32)  (σ : MT) {z : Int32} (hF : f_Mt_min x0 x1 = some z) : CTI l G y_Mt_min b_Mt_min 2 (some .int) 0 0 [.int x0, .int x1] σ z σ := by
  refine entX [(0, .int x0), (1, .int x1)] "java/lang/Math" (by decide +kernel) rfl rfl (Nat.le_of_ble_eq_true rfl) (fun X hXl hr C => ?_)
  unfold f_Mt_min at hF
  refine j_iload_n C d_Mt_min_0 rfl 0 rfl ?_
  refine j_iload_n C d_Mt_min_1 rfl 1 rfl ?_
  refine j_icmp_gt C 9 d_Mt_min_2 (by decide) hF (fun q2 hF => ?_) (fun q2 hF => ?_)
  · refine j_iload_n C d_Mt_min_9 rfl 1 rfl ?_
    cases hF
    exact j_iret (st := []) C hr d_Mt_min_10 rfl rfl
  · refine j_iload_n C d_Mt_min_5 rfl 0 rfl ?_
    refine j_goto C 10 d_Mt_min_6 (by decide) ?_
    cases hF
    exact j_iret (st := []) C hr d_Mt_min_10 rfl rfl
set_option maxHeartbeats 4000000 in
set_option maxRecDepth 100000 in
theorem c_Mt_max (l : Launch) (G : GT) (x0 : Int32) (x1 : Int32)  (σ : MT) {z : Int32} (hF : f_Mt_max x0 x1 = some z) : CTI l G y_Mt_max b_Mt_max 2 (some .int) 0 0 [.int x0, .int x1] σ z σ := by
  refine entX [(0, .int x0), (1, .int x1)] "java/lang/Math" (by decide +kernel) rfl rfl (Nat.le_of_ble_eq_true rfl) (fun X hXl hr C => ?_)
  unfold f_Mt_max at hF
  refine j_iload_n C d_Mt_max_0 rfl 0 rfl ?_
  refine j_iload_n C d_Mt_max_1 rfl 1 rfl ?_
  refine j_icmp_lt C 9 d_Mt_max_2 (by decide) hF (fun q2 hF => ?_) (fun q2 hF => ?_)
  · refine j_iload_n C d_Mt_max_9 rfl 1 rfl ?_
    cases hF
    exact j_iret (st := []) C hr d_Mt_max_10 rfl rfl
  · refine j_iload_n C d_Mt_max_5 rfl 0 rfl ?_
    refine j_goto C 10 d_Mt_max_6 (by decide) ?_
    cases hF
    exact j_iret (st := []) C hr d_Mt_max_10 rfl rfl
set_option maxHeartbeats 4000000 in
set_option maxRecDepth 100000 in
theorem b_Pl_addLink_72 {X : XT} {G : GT} {z : (Int32 × MT)} (C : CX X G b_Pl_addLink 3 "TimeFlood$Plan" 1 22) (hr : XR X (some .boolean)) (k0 : Nat) (hk0 : kdf k0 = 2) (σ : MT) (hF : f_Pl_addLink_72 k0 σ = some z) : JW X G (QX X (PI G z.1 z.2) G) 3 72 [(0, rf G k0)] [] σ := by
  unfold f_Pl_addLink_72 at hF
  refine j_aload_n C d_Pl_addLink_72 rfl 0 rfl ?_
  refine j_dup C d_Pl_addLink_73 rfl ?_
  refine g_Pl_linkCount C hk0 wd_52 d_Pl_addLink_74 ?_
  refine j_iconst C (v := 1) d_Pl_addLink_77 (by decide) ?_
  refine j_iadd C d_Pl_addLink_78 ?_
  refine p_Pl_linkCount C hk0 wd_52 d_Pl_addLink_79 ?_
  refine j_iconst C (v := 1) d_Pl_addLink_82 (by decide) ?_
  cases hF
  exact j_zret (st := []) C hr rfl d_Pl_addLink_83 rfl rfl
set_option maxHeartbeats 4000000 in
set_option maxRecDepth 100000 in
theorem b_Pl_addLink_48 {X : XT} {G : GT} {z : (Int32 × MT)} (C : CX X G b_Pl_addLink 3 "TimeFlood$Plan" 1 22) (hr : XR X (some .boolean)) (k0 : Nat) (x1 : Int32) (x2 : Int32) (hk0 : kdf k0 = 2) (σ : MT) (hF : f_Pl_addLink_48 k0 x1 x2 σ = some z) : JW X G (QX X (PI G z.1 z.2) G) 3 48 [(0, rf G k0), (1, .int x1), (2, .int x2)] [] σ := by
  unfold f_Pl_addLink_48 at hF
  refine j_aload_n C d_Pl_addLink_48 rfl 0 rfl ?_
  refine g_Pl_links C hk0 wd_62 d_Pl_addLink_49 ?_
  refine j_iload_n C d_Pl_addLink_52 rfl 1 rfl ?_
  obtain ⟨q53, hF⟩ := g_if hF
  refine e_links C (kd_Pl_links hk0) (inb_v q53) d_Pl_addLink_53 ?_
  refine j_iload_n C d_Pl_addLink_54 rfl 2 rfl ?_
  refine j_aload_n C d_Pl_addLink_55 rfl 0 rfl ?_
  refine g_Pl_linkCount C hk0 wd_52 d_Pl_addLink_56 ?_
  obtain ⟨q59, hF⟩ := g_if hF
  refine j_iast C (kd_row (kd_Pl_links hk0) (inb_v q53)) (by decide) (fun _ => rfl) (inb_v q59) d_Pl_addLink_59 ?_
  refine j_aload_n C d_Pl_addLink_60 rfl 0 rfl ?_
  refine g_Pl_links C hk0 wd_62 d_Pl_addLink_61 ?_
  refine j_iload_n C d_Pl_addLink_64 rfl 2 rfl ?_
  obtain ⟨q65, hF⟩ := g_if hF
  refine e_links C (kd_Pl_links hk0) (inb_v q65) d_Pl_addLink_65 ?_
  refine j_iload_n C d_Pl_addLink_66 rfl 1 rfl ?_
  refine j_aload_n C d_Pl_addLink_67 rfl 0 rfl ?_
  refine g_Pl_linkCount C hk0 wd_52 d_Pl_addLink_68 ?_
  obtain ⟨q71, hF⟩ := g_if hF
  refine j_iast C (kd_row (kd_Pl_links hk0) (inb_v q65)) (by decide) (fun _ => rfl) (inb_v q71) d_Pl_addLink_71 ?_
  refine j_sub C [(0, rf G k0)] [0] rfl ?_
  exact b_Pl_addLink_72 C hr k0 hk0 (sI (sI σ ((k0 + 5) + 1 + x1.toNatClampNeg) x2.toNatClampNeg (σ.1 k0 4)) ((k0 + 5) + 1 + x2.toNatClampNeg) x1.toNatClampNeg ((sI σ ((k0 + 5) + 1 + x1.toNatClampNeg) x2.toNatClampNeg (σ.1 k0 4)).1 k0 4)) hF
set_option maxHeartbeats 4000000 in
set_option maxRecDepth 100000 in
theorem c_Pl_addLink (l : Launch) (G : GT) (k0 : Nat) (x1 : Int32) (x2 : Int32) (σ : MT) (hk0 : kdf k0 = 2) {z : (Int32 × MT)} (hF : f_Pl_addLink k0 x1 x2 σ = some z) : CTI l G y_Pl_addLink b_Pl_addLink 3 (some .boolean) 1 22 [rf G k0, .int x1, .int x2] σ z.1 z.2 := by
  refine entX [(0, rf G k0), (1, .int x1), (2, .int x2)] "TimeFlood$Plan" (by decide +kernel) rfl rfl (Nat.le_of_ble_eq_true rfl) (fun X hXl hr C => ?_)
  unfold f_Pl_addLink at hF
  refine j_aload_n C d_Pl_addLink_0 rfl 0 rfl ?_
  refine g_Pl_linkCount C hk0 wd_52 d_Pl_addLink_1 ?_
  refine j_bipush C (v := 7) d_Pl_addLink_4 (by decide) ?_
  refine j_icmp_ge C 18 d_Pl_addLink_6 (by decide) hF (fun q6 hF => ?_) (fun q6 hF => ?_)
  · refine j_iconst C (v := 0) d_Pl_addLink_18 (by decide) ?_
    cases hF
    exact j_zret (st := []) C hr rfl d_Pl_addLink_19 rfl rfl
  · refine j_aload_n C d_Pl_addLink_9 rfl 0 rfl ?_
    refine j_iload_n C d_Pl_addLink_10 rfl 1 rfl ?_
    refine j_iload_n C d_Pl_addLink_11 rfl 2 rfl ?_
    obtain ⟨r12, h12, hF⟩ := g_bind hF
    refine j_vi C (As := [.int x1, .int x2]) (st := []) (c_Pl_canLink (XL X) G k0 x1 x2 σ hk0 h12) hk0 (by decide) rfl rfl m_Pl_canLink wd_324 rfl rfl (Nat.le_of_ble_eq_true rfl) ⟨by decide, by decide⟩ d_Pl_addLink_12 ?_
    refine j_if_ne C 20 d_Pl_addLink_15 (by decide) hF (fun q15 hF => ?_) (fun q15 hF => ?_)
    · refine j_aload_n C d_Pl_addLink_20 rfl 0 rfl ?_
      refine g_Pl_lows C hk0 wd_58 d_Pl_addLink_21 ?_
      refine j_aload_n C d_Pl_addLink_24 rfl 0 rfl ?_
      refine g_Pl_linkCount C hk0 wd_52 d_Pl_addLink_25 ?_
      refine j_iload_n C d_Pl_addLink_28 rfl 1 rfl ?_
      refine j_iload_n C d_Pl_addLink_29 rfl 2 rfl ?_
      obtain ⟨r30, h30, hF⟩ := g_bind hF
      refine j_si C (As := [.int x1, .int x2]) (st := [.int (σ.1 k0 4), rf G (k0 + 3)]) (c_Mt_min (XL X) G x1 x2 σ h30) m_Mt_min wd_332 rfl rfl (Nat.le_of_ble_eq_true rfl) ⟨by decide, by decide⟩ d_Pl_addLink_30 ?_
      obtain ⟨q33, hF⟩ := g_if hF
      refine j_iast C (kd_Pl_lows hk0) (by decide) (fun _ => rfl) (inb_v q33) d_Pl_addLink_33 ?_
      refine j_aload_n C d_Pl_addLink_34 rfl 0 rfl ?_
      refine g_Pl_highs C hk0 wd_60 d_Pl_addLink_35 ?_
      refine j_aload_n C d_Pl_addLink_38 rfl 0 rfl ?_
      refine g_Pl_linkCount C hk0 wd_52 d_Pl_addLink_39 ?_
      refine j_iload_n C d_Pl_addLink_42 rfl 1 rfl ?_
      refine j_iload_n C d_Pl_addLink_43 rfl 2 rfl ?_
      obtain ⟨r44, h44, hF⟩ := g_bind hF
      refine j_si C (As := [.int x1, .int x2]) (st := [.int ((sI σ (k0 + 3) (σ.1 k0 4).toNatClampNeg r30).1 k0 4), rf G (k0 + 4)]) (c_Mt_max (XL X) G x1 x2 (sI σ (k0 + 3) (σ.1 k0 4).toNatClampNeg r30) h44) m_Mt_max wd_335 rfl rfl (Nat.le_of_ble_eq_true rfl) ⟨by decide, by decide⟩ d_Pl_addLink_44 ?_
      obtain ⟨q47, hF⟩ := g_if hF
      refine j_iast C (kd_Pl_highs hk0) (by decide) (fun _ => rfl) (inb_v q47) d_Pl_addLink_47 ?_
      exact b_Pl_addLink_48 C hr k0 x1 x2 hk0 (sI (sI σ (k0 + 3) (σ.1 k0 4).toNatClampNeg r30) (k0 + 4) ((sI σ (k0 + 3) (σ.1 k0 4).toNatClampNeg r30).1 k0 4).toNatClampNeg r44) hF
    · refine j_iconst C (v := 0) d_Pl_addLink_18 (by decide) ?_
      cases hF
      exact j_zret (st := []) C hr rfl d_Pl_addLink_19 rfl rfl
set_option maxHeartbeats 4000000 in
set_option maxRecDepth 100000 in
theorem c_Rd_takesOfItem (l : Launch) (G : GT) (x1 : Int32) (σ : MT)  {z : (Int32 × MT)} (hF : f_Rd_takesOfItem x1 σ = some z) : CTI l G y_Rd_takesOfItem b_Rd_takesOfItem 2 (some .boolean) 2 44 [rf G 2, .int x1] σ z.1 z.2 := by
  refine entX [(0, rf G 2), (1, .int x1)] "TimeFlood$Reader" (by decide +kernel) rfl rfl (Nat.le_of_ble_eq_true rfl) (fun X hXl hr C => ?_)
  unfold f_Rd_takesOfItem at hF
  refine j_aload_n C d_Rd_takesOfItem_0 rfl 0 rfl ?_
  refine g_Rd_place C (rfl : kdf 2 = 1) wd_89 d_Rd_takesOfItem_1 ?_
  refine g_ite hF (fun q hF => ?_) (fun q4_0 hF => ?_)
  · refine j_tabIn C 36 q d_Rd_takesOfItem_4 (by decide) (by decide) (off := 32) rfl (by decide) ?_
    refine j_aload_n C d_Rd_takesOfItem_36 rfl 0 rfl ?_
    refine j_iload_n C d_Rd_takesOfItem_37 rfl 1 rfl ?_
    refine j_bipush C (v := -4) d_Rd_takesOfItem_38 (by decide) ?_
    refine j_iadd C d_Rd_takesOfItem_40 ?_
    refine p_Rd_heldDrift C (rfl : kdf 2 = 1) wd_91 d_Rd_takesOfItem_41 ?_
    refine j_aload_n C d_Rd_takesOfItem_44 rfl 0 rfl ?_
    refine j_bipush C (v := 7) d_Rd_takesOfItem_45 (by decide) ?_
    refine p_Rd_place C (rfl : kdf 2 = 1) wd_89 d_Rd_takesOfItem_47 ?_
    refine j_iconst C (v := 1) d_Rd_takesOfItem_50 (by decide) ?_
    cases hF
    exact j_zret (st := []) C hr rfl d_Rd_takesOfItem_51 rfl rfl
  refine g_ite hF (fun q hF => ?_) (fun q4_1 hF => ?_)
  · refine j_tabIn C 52 q d_Rd_takesOfItem_4 (by decide) (by decide) (off := 48) rfl (by decide) ?_
    refine j_aload_n C d_Rd_takesOfItem_52 rfl 0 rfl ?_
    refine j_iload_n C d_Rd_takesOfItem_53 rfl 1 rfl ?_
    refine p_Rd_held C (rfl : kdf 2 = 1) wd_90 d_Rd_takesOfItem_54 ?_
    refine j_aload_n C d_Rd_takesOfItem_57 rfl 0 rfl ?_
    refine j_bipush C (v := 8) d_Rd_takesOfItem_58 (by decide) ?_
    refine p_Rd_place C (rfl : kdf 2 = 1) wd_89 d_Rd_takesOfItem_60 ?_
    refine j_iload_n C d_Rd_takesOfItem_63 rfl 1 rfl ?_
    refine j_bipush C (v := 6) d_Rd_takesOfItem_64 (by decide) ?_
    refine j_icmp_gt C 73 d_Rd_takesOfItem_66 (by decide) hF (fun q66 hF => ?_) (fun q66 hF => ?_)
    · refine j_iconst C (v := 0) d_Rd_takesOfItem_73 (by decide) ?_
      cases hF
      exact j_zret (st := []) C hr rfl d_Rd_takesOfItem_74 rfl rfl
    · refine j_iconst C (v := 1) d_Rd_takesOfItem_69 (by decide) ?_
      refine j_goto C 74 d_Rd_takesOfItem_70 (by decide) ?_
      cases hF
      exact j_zret (st := []) C hr rfl d_Rd_takesOfItem_74 rfl rfl
  refine g_ite hF (fun q hF => ?_) (fun q4_2 hF => ?_)
  · refine j_tabIn C 75 q d_Rd_takesOfItem_4 (by decide) (by decide) (off := 71) rfl (by decide) ?_
    refine j_aload_n C d_Rd_takesOfItem_75 rfl 0 rfl ?_
    refine g_Rd_draft C (rfl : kdf 2 = 1) wd_87 d_Rd_takesOfItem_76 ?_
    refine j_aload_n C d_Rd_takesOfItem_79 rfl 0 rfl ?_
    refine g_Rd_heldDrift C (rfl : kdf 2 = 1) wd_91 d_Rd_takesOfItem_80 ?_
    refine j_bipush C (v := 10) d_Rd_takesOfItem_83 (by decide) ?_
    refine j_aload_n C d_Rd_takesOfItem_85 rfl 0 rfl ?_
    refine g_Rd_held C (rfl : kdf 2 = 1) wd_90 d_Rd_takesOfItem_86 ?_
    refine j_imul C d_Rd_takesOfItem_89 ?_
    refine j_iload_n C d_Rd_takesOfItem_90 rfl 1 rfl ?_
    refine j_iadd C d_Rd_takesOfItem_91 ?_
    obtain ⟨r92, h92, hF⟩ := g_bind hF
    refine j_vv C (As := [.int (σ.1 2 3), .int (((10 : Int32) * (σ.1 2 2)) + x1)]) (st := []) (c_Pl_addNode (XL X) G 3 (σ.1 2 3) (((10 : Int32) * (σ.1 2 2)) + x1) σ (rfl : kdf 3 = 2) h92) (rfl : kdf 3 = 2) (by decide) rfl rfl m_Pl_addNode wd_316 rfl rfl (Nat.le_of_ble_eq_true rfl) ⟨by decide, by decide⟩ d_Rd_takesOfItem_92 ?_
    refine j_aload_n C d_Rd_takesOfItem_95 rfl 0 rfl ?_
    refine j_iconst C (v := 5) d_Rd_takesOfItem_96 (by decide) ?_
    refine p_Rd_place C (rfl : kdf 2 = 1) wd_89 d_Rd_takesOfItem_97 ?_
    refine j_bipush C (v := 10) d_Rd_takesOfItem_100 (by decide) ?_
    refine j_aload_n C d_Rd_takesOfItem_102 rfl 0 rfl ?_
    refine g_Rd_held C (rfl : kdf 2 = 1) wd_90 d_Rd_takesOfItem_103 ?_
    refine j_imul C d_Rd_takesOfItem_106 ?_
    refine j_iload_n C d_Rd_takesOfItem_107 rfl 1 rfl ?_
    refine j_iadd C d_Rd_takesOfItem_108 ?_
    refine j_bipush C (v := 63) d_Rd_takesOfItem_109 (by decide) ?_
    refine j_icmp_gt C 118 d_Rd_takesOfItem_111 (by decide) hF (fun q111 hF => ?_) (fun q111 hF => ?_)
    · refine j_iconst C (v := 0) d_Rd_takesOfItem_118 (by decide) ?_
      cases hF
      exact j_zret (st := []) C hr rfl d_Rd_takesOfItem_119 rfl rfl
    · refine j_iconst C (v := 1) d_Rd_takesOfItem_114 (by decide) ?_
      refine j_goto C 119 d_Rd_takesOfItem_115 (by decide) ?_
      cases hF
      exact j_zret (st := []) C hr rfl d_Rd_takesOfItem_119 rfl rfl
  refine g_ite hF (fun q hF => ?_) (fun q4_3 hF => ?_)
  · refine j_tabIn C 120 q d_Rd_takesOfItem_4 (by decide) (by decide) (off := 116) rfl (by decide) ?_
    refine j_aload_n C d_Rd_takesOfItem_120 rfl 0 rfl ?_
    refine j_iload_n C d_Rd_takesOfItem_121 rfl 1 rfl ?_
    refine p_Rd_held C (rfl : kdf 2 = 1) wd_90 d_Rd_takesOfItem_122 ?_
    refine j_aload_n C d_Rd_takesOfItem_125 rfl 0 rfl ?_
    refine j_bipush C (v := 10) d_Rd_takesOfItem_126 (by decide) ?_
    refine p_Rd_place C (rfl : kdf 2 = 1) wd_89 d_Rd_takesOfItem_128 ?_
    refine j_aload_n C d_Rd_takesOfItem_131 rfl 0 rfl ?_
    refine g_Rd_draft C (rfl : kdf 2 = 1) wd_87 d_Rd_takesOfItem_132 ?_
    refine j_iload_n C d_Rd_takesOfItem_135 rfl 1 rfl ?_
    obtain ⟨r136, h136, hF⟩ := g_bind hF
    refine j_vi C (As := [.int x1]) (st := []) (c_Pl_canLinkFrom (XL X) G 3 x1 (sI (sI σ 2 2 x1) 2 1 (10 : Int32)) (rfl : kdf 3 = 2) h136) (rfl : kdf 3 = 2) (by decide) rfl rfl m_Pl_canLinkFrom wd_320 rfl rfl (Nat.le_of_ble_eq_true rfl) ⟨by decide, by decide⟩ d_Rd_takesOfItem_136 ?_
    obtain ⟨qz, hF⟩ := g_if hF
    cases hF
    exact j_zret (st := []) C hr (zb_n (zbb_z qz)) d_Rd_takesOfItem_139 rfl rfl
  refine j_tabOut C 140 d_Rd_takesOfItem_4 (by have t0 := lv_neT q4_0 (a := 6) rfl; have t1 := lv_neT q4_1 (a := 7) rfl; have t2 := lv_neT q4_2 (a := 8) rfl; have t3 := lv_neT q4_3 (a := 9) rfl; omega) (by decide) ?_
  refine j_aload_n C d_Rd_takesOfItem_140 rfl 0 rfl ?_
  refine j_iconst C (v := 5) d_Rd_takesOfItem_141 (by decide) ?_
  refine p_Rd_place C (rfl : kdf 2 = 1) wd_89 d_Rd_takesOfItem_142 ?_
  refine j_aload_n C d_Rd_takesOfItem_145 rfl 0 rfl ?_
  refine g_Rd_draft C (rfl : kdf 2 = 1) wd_87 d_Rd_takesOfItem_146 ?_
  refine j_aload_n C d_Rd_takesOfItem_149 rfl 0 rfl ?_
  refine g_Rd_held C (rfl : kdf 2 = 1) wd_90 d_Rd_takesOfItem_150 ?_
  refine j_iload_n C d_Rd_takesOfItem_153 rfl 1 rfl ?_
  obtain ⟨r154, h154, hF⟩ := g_bind hF
  refine j_vi C (As := [.int ((sI σ 2 1 (5 : Int32)).1 2 2), .int x1]) (st := []) (c_Pl_addLink (XL X) G 3 ((sI σ 2 1 (5 : Int32)).1 2 2) x1 (sI σ 2 1 (5 : Int32)) (rfl : kdf 3 = 2) h154) (rfl : kdf 3 = 2) (by decide) rfl rfl m_Pl_addLink wd_328 rfl rfl (Nat.le_of_ble_eq_true rfl) ⟨by decide, by decide⟩ d_Rd_takesOfItem_154 ?_
  obtain ⟨qz, hF⟩ := g_if hF
  cases hF
  exact j_zret (st := []) C hr (zb_n (zbb_z qz)) d_Rd_takesOfItem_157 rfl rfl
set_option maxHeartbeats 4000000 in
set_option maxRecDepth 100000 in
theorem c_Rd_takes (l : Launch) (G : GT) (x1 : Int32) (σ : MT)  {z : (Int32 × MT)} (hF : f_Rd_takes x1 σ = some z) : CTI l G y_Rd_takes b_Rd_takes 3 (some .boolean) 3 65 [rf G 2, .int x1] σ z.1 z.2 := by
  refine entX [(0, rf G 2), (1, .int x1)] "TimeFlood$Reader" (by decide +kernel) rfl rfl (Nat.le_of_ble_eq_true rfl) (fun X hXl hr C => ?_)
  unfold f_Rd_takes at hF
  refine j_aload_n C d_Rd_takes_0 rfl 0 rfl ?_
  refine g_Rd_place C (rfl : kdf 2 = 1) wd_89 d_Rd_takes_1 ?_
  refine j_if_ne C 24 d_Rd_takes_4 (by decide) hF (fun q4 hF => ?_) (fun q4 hF => ?_)
  · refine j_aload_n C d_Rd_takes_24 rfl 0 rfl ?_
    refine g_Rd_place C (rfl : kdf 2 = 1) wd_89 d_Rd_takes_25 ?_
    refine j_iconst C (v := 5) d_Rd_takes_28 (by decide) ?_
    refine j_icmp_ne C 38 d_Rd_takes_29 (by decide) hF (fun q29 hF => ?_) (fun q29 hF => ?_)
    · refine j_iload_n C d_Rd_takes_38 rfl 1 rfl ?_
      refine j_bipush C (v := 48) d_Rd_takes_39 (by decide) ?_
      refine j_icmp_lt C 50 d_Rd_takes_41 (by decide) hF (fun q41 hF => ?_) (fun q41 hF => ?_)
      · refine j_iconst C (v := 0) d_Rd_takes_50 (by decide) ?_
        cases hF
        exact j_zret (st := []) C hr rfl d_Rd_takes_51 rfl rfl
      · refine j_iload_n C d_Rd_takes_44 rfl 1 rfl ?_
        refine j_bipush C (v := 57) d_Rd_takes_45 (by decide) ?_
        refine j_icmp_le C 52 d_Rd_takes_47 (by decide) hF (fun q47 hF => ?_) (fun q47 hF => ?_)
        · refine j_iload_n C d_Rd_takes_52 rfl 1 rfl ?_
          refine j_bipush C (v := 48) d_Rd_takes_53 (by decide) ?_
          refine j_isub C d_Rd_takes_55 ?_
          refine j_istore_n C (lv' := [(2, .int (x1 - (48 : Int32))), (0, rf G 2), (1, .int x1)]) d_Rd_takes_56 rfl (by decide) rfl ?_
          refine j_aload_n C d_Rd_takes_57 rfl 1 rfl ?_
          refine g_Rd_place C (rfl : kdf 2 = 1) wd_89 d_Rd_takes_58 ?_
          refine j_iconst C (v := 5) d_Rd_takes_61 (by decide) ?_
          refine j_icmp_ge C 73 d_Rd_takes_62 (by decide) hF (fun q62 hF => ?_) (fun q62 hF => ?_)
          · refine j_aload_n C d_Rd_takes_73 rfl 1 rfl ?_
            refine j_iload_n C d_Rd_takes_74 rfl 0 rfl ?_
            obtain ⟨r75, h75, hF⟩ := g_bind hF
            refine j_vi C (As := [.int (x1 - (48 : Int32))]) (st := []) (c_Rd_takesOfItem (XL X) G (x1 - (48 : Int32)) σ h75) (rfl : kdf 2 = 1) (by decide) rfl rfl m_Rd_takesOfItem wd_312 rfl rfl (Nat.le_of_ble_eq_true rfl) ⟨by decide, by decide⟩ d_Rd_takes_75 ?_
            obtain ⟨qz, hF⟩ := g_if hF
            cases hF
            exact j_zret (st := []) C hr (zb_n (zbb_z qz)) d_Rd_takes_78 rfl rfl
          · refine j_aload_n C d_Rd_takes_65 rfl 1 rfl ?_
            refine j_iload_n C d_Rd_takes_66 rfl 0 rfl ?_
            obtain ⟨r67, h67, hF⟩ := g_bind hF
            refine j_vi C (As := [.int (x1 - (48 : Int32))]) (st := []) (c_Rd_takesOfHead (XL X) G (x1 - (48 : Int32)) σ h67) (rfl : kdf 2 = 1) (by decide) rfl rfl m_Rd_takesOfHead wd_308 rfl rfl (Nat.le_of_ble_eq_true rfl) ⟨by decide, by decide⟩ d_Rd_takes_67 ?_
            refine j_goto C 78 d_Rd_takes_70 (by decide) ?_
            obtain ⟨qz, hF⟩ := g_if hF
            cases hF
            exact j_zret (st := []) C hr (zb_n (zbb_z qz)) d_Rd_takes_78 rfl rfl
        · refine j_iconst C (v := 0) d_Rd_takes_50 (by decide) ?_
          cases hF
          exact j_zret (st := []) C hr rfl d_Rd_takes_51 rfl rfl
    · refine j_aload_n C d_Rd_takes_32 rfl 0 rfl ?_
      refine j_iload_n C d_Rd_takes_33 rfl 1 rfl ?_
      obtain ⟨r34, h34, hF⟩ := g_bind hF
      refine j_vi C (As := [.int x1]) (st := []) (c_Rd_takesItem (XL X) G x1 σ h34) (rfl : kdf 2 = 1) (by decide) rfl rfl m_Rd_takesItem wd_300 rfl rfl (Nat.le_of_ble_eq_true rfl) ⟨by decide, by decide⟩ d_Rd_takes_34 ?_
      obtain ⟨qz, hF⟩ := g_if hF
      cases hF
      exact j_zret (st := []) C hr (zb_n (zbb_z qz)) d_Rd_takes_37 rfl rfl
  · refine j_aload_n C d_Rd_takes_7 rfl 0 rfl ?_
    refine j_iconst C (v := 1) d_Rd_takes_8 (by decide) ?_
    refine p_Rd_place C (rfl : kdf 2 = 1) wd_89 d_Rd_takes_9 ?_
    refine j_iload_n C d_Rd_takes_12 rfl 1 rfl ?_
    refine j_bipush C (v := 70) d_Rd_takes_13 (by decide) ?_
    refine j_icmp_ne C 22 d_Rd_takes_15 (by decide) hF (fun q15 hF => ?_) (fun q15 hF => ?_)
    · refine j_iconst C (v := 0) d_Rd_takes_22 (by decide) ?_
      cases hF
      exact j_zret (st := []) C hr rfl d_Rd_takes_23 rfl rfl
    · refine j_iconst C (v := 1) d_Rd_takes_18 (by decide) ?_
      refine j_goto C 23 d_Rd_takes_19 (by decide) ?_
      cases hF
      exact j_zret (st := []) C hr rfl d_Rd_takes_23 rfl rfl
set_option maxHeartbeats 4000000 in
set_option maxRecDepth 100000 in
theorem b_Rd_read_14 {X : XT} {G : GT} {z : (Int32 × MT)} {K43 : Int32 → MT → Option (Int32 × MT)} (C : CX X G b_Rd_read 4 "TimeFlood$Reader" 4 87) (hr : XR X (some .int)) (hK43 : ∀ (x2 : Int32) (σ : MT), K43 x2 σ = some z → JW X G (QX X (PI G z.1 z.2) G) 4 43 [(0, rf G 2), (2, .int x2)] [] σ) : ∀ (n : Nat) (k1 : Nat) (x2 : Int32) (x3 : Int32) (hk1 : kdf k1 = 20) (σ : MT), f_Rd_read_14 K43 n k1 x2 x3 σ = some z → JW X G (QX X (PI G z.1 z.2) G) 4 14 [(0, rf G 2), (1, rf G k1), (2, .int x2), (3, .int x3)] [] σ := by
  intro n
  induction n with
  | zero =>
    intro k1 x2 x3 hk1 σ hF
    rw [f_Rd_read_14] at hF
    cases hF
  | succ n ih =>
    intro k1 x2 x3 hk1 σ hF
    rw [f_Rd_read_14] at hF
    refine j_iload_n C d_Rd_read_14 rfl 3 rfl ?_
    refine j_iload_n C d_Rd_read_15 rfl 2 rfl ?_
    refine j_icmp_ge C 43 d_Rd_read_16 (by decide) hF (fun q16 hF => ?_) (fun q16 hF => ?_)
    · refine j_sub C [(0, rf G 2), (2, .int x2)] [0, 2] rfl ?_
      exact hK43 x2 σ hF
    · refine j_iload_n C d_Rd_read_19 rfl 3 rfl ?_
      refine j_aload_n C d_Rd_read_20 rfl 1 rfl ?_
      refine j_alen C (n := 0) (E := 1) (t := 1) (v := 60) hk1 (by decide) rfl rfl rfl d_Rd_read_21 ?_
      refine j_icmp_ge C 43 d_Rd_read_22 (by decide) hF (fun q22 hF => ?_) (fun q22 hF => ?_)
      · refine j_sub C [(0, rf G 2), (2, .int x2)] [0, 2] rfl ?_
        exact hK43 x2 σ hF
      · refine j_aload_n C d_Rd_read_25 rfl 0 rfl ?_
        refine j_aload_n C d_Rd_read_26 rfl 1 rfl ?_
        refine j_iload_n C d_Rd_read_27 rfl 3 rfl ?_
        obtain ⟨q28, hF⟩ := g_if hF
        refine j_cald C hk1 (by decide) rfl (inb_v q28) d_Rd_read_28 ?_
        obtain ⟨r29, h29, hF⟩ := g_bind hF
        refine j_vi C (As := [.int (σ.1 k1 x3.toNatClampNeg)]) (st := []) (c_Rd_takes (XL X) G (σ.1 k1 x3.toNatClampNeg) σ h29) (rfl : kdf 2 = 1) (by decide) rfl rfl m_Rd_takes wd_296 rfl rfl (Nat.le_of_ble_eq_true rfl) ⟨by decide, by decide⟩ d_Rd_read_29 ?_
        refine j_if_ne C 37 d_Rd_read_32 (by decide) hF (fun q32 hF => ?_) (fun q32 hF => ?_)
        · refine j_iinc C (v := x3 + (1 : Int32)) (lv' := [(3, .int (x3 + (1 : Int32))), (0, rf G 2), (1, rf G k1), (2, .int x2)]) d_Rd_read_37 3 rfl rfl (by decide) rfl ?_
          refine j_goto C 14 d_Rd_read_40 (by decide) ?_
          refine j_sub C [(0, rf G 2), (1, rf G k1), (2, .int x2), (3, .int (x3 + (1 : Int32)))] [1, 2, 3, 0] rfl ?_
          exact ih k1 x2 (x3 + (1 : Int32)) hk1 r29.2 hF
        · refine j_iload_n C d_Rd_read_35 rfl 3 rfl ?_
          cases hF
          exact j_iret (st := []) C hr d_Rd_read_36 rfl rfl
set_option maxHeartbeats 4000000 in
set_option maxRecDepth 100000 in
theorem b_Rd_read_43 {X : XT} {G : GT} {z : (Int32 × MT)} (C : CX X G b_Rd_read 4 "TimeFlood$Reader" 4 87) (hr : XR X (some .int)) (x2 : Int32) (σ : MT) (hF : f_Rd_read_43 x2 σ = some z) : JW X G (QX X (PI G z.1 z.2) G) 4 43 [(0, rf G 2), (2, .int x2)] [] σ := by
  unfold f_Rd_read_43 at hF
  refine j_aload_n C d_Rd_read_43 rfl 0 rfl ?_
  refine g_Rd_place C (rfl : kdf 2 = 1) wd_89 d_Rd_read_44 ?_
  refine j_iconst C (v := 5) d_Rd_read_47 (by decide) ?_
  refine j_icmp_ne C 56 d_Rd_read_48 (by decide) hF (fun q48 hF => ?_) (fun q48 hF => ?_)
  · refine j_iload_n C d_Rd_read_56 rfl 1 rfl ?_
    cases hF
    exact j_iret (st := []) C hr d_Rd_read_57 rfl rfl
  · refine j_bipush C (v := -9) d_Rd_read_51 (by decide) ?_
    refine j_goto C 57 d_Rd_read_53 (by decide) ?_
    cases hF
    exact j_iret (st := []) C hr d_Rd_read_57 rfl rfl
set_option maxHeartbeats 4000000 in
set_option maxRecDepth 100000 in
theorem c_Rd_read (l : Launch) (G : GT) (k1 : Nat) (x2 : Int32) (σ : MT) (hk1 : kdf k1 = 20) {z : (Int32 × MT)} (hF : f_Rd_read k1 x2 σ = some z) : CTI l G y_Rd_read b_Rd_read 4 (some .int) 4 87 [rf G 2, rf G k1, .int x2] σ z.1 z.2 := by
  refine entX [(0, rf G 2), (1, rf G k1), (2, .int x2)] "TimeFlood$Reader" (by decide +kernel) rfl rfl (Nat.le_of_ble_eq_true rfl) (fun X hXl hr C => ?_)
  unfold f_Rd_read at hF
  refine j_aload_n C d_Rd_read_0 rfl 0 rfl ?_
  refine g_Rd_draft C (rfl : kdf 2 = 1) wd_87 d_Rd_read_1 ?_
  obtain ⟨r4, h4, hF⟩ := g_bind hF
  refine j_vv C (As := []) (st := []) (c_Pl_clear (XL X) G 3 σ (rfl : kdf 3 = 2) h4) (rfl : kdf 3 = 2) (by decide) rfl rfl m_Pl_clear wd_292 rfl rfl (Nat.le_of_ble_eq_true rfl) ⟨by decide, by decide⟩ d_Rd_read_4 ?_
  refine j_aload_n C d_Rd_read_7 rfl 0 rfl ?_
  refine j_iconst C (v := 0) d_Rd_read_8 (by decide) ?_
  refine p_Rd_place C (rfl : kdf 2 = 1) wd_89 d_Rd_read_9 ?_
  refine j_iconst C (v := 0) d_Rd_read_12 (by decide) ?_
  refine j_istore_n C (lv' := [(3, .int (0 : Int32)), (0, rf G 2), (1, rf G k1), (2, .int x2)]) d_Rd_read_13 rfl (by decide) rfl ?_
  refine j_sub C [(0, rf G 2), (1, rf G k1), (2, .int x2), (3, .int (0 : Int32))] [1, 2, 3, 0] rfl ?_
  exact b_Rd_read_14 C hr (b_Rd_read_43 C hr) 1100 k1 x2 (0 : Int32) hk1 (sI r4 2 1 (0 : Int32)) hF
set_option maxHeartbeats 4000000 in
set_option maxRecDepth 100000 in
theorem c_TF_fault (l : Launch) (G : GT) (σ : MT)  {z : (Int32 × MT)} (hF : f_TF_fault σ = some z) : CTI l G y_TF_fault b_TF_fault 1 (some .int) 5 110 [rf G 0] σ z.1 z.2 := by
  refine entX [(0, rf G 0)] "TimeFlood" (by decide +kernel) rfl rfl (Nat.le_of_ble_eq_true rfl) (fun X hXl hr C => ?_)
  unfold f_TF_fault at hF
  refine j_aload_n C d_TF_fault_0 rfl 0 rfl ?_
  refine g_TF_reader C (rfl : kdf 0 = 0) wd_241 d_TF_fault_1 ?_
  refine j_aload_n C d_TF_fault_4 rfl 0 rfl ?_
  refine g_TF_text C (rfl : kdf 0 = 0) wd_239 d_TF_fault_5 ?_
  refine j_aload_n C d_TF_fault_8 rfl 0 rfl ?_
  refine g_TF_textLength C (rfl : kdf 0 = 0) wd_240 d_TF_fault_9 ?_
  obtain ⟨r12, h12, hF⟩ := g_bind hF
  refine j_vi C (As := [rf G 1, .int (σ.1 0 1)]) (st := []) (c_Rd_read (XL X) G 1 (σ.1 0 1) σ (rfl : kdf 1 = 20) h12) (rfl : kdf 2 = 1) (by decide) rfl rfl m_Rd_read wd_288 rfl rfl (Nat.le_of_ble_eq_true rfl) ⟨by decide, by decide⟩ d_TF_fault_12 ?_
  cases hF
  exact j_iret (st := []) C hr d_TF_fault_15 rfl rfl
set_option maxHeartbeats 4000000 in
set_option maxRecDepth 100000 in
theorem b_Pl_copyFrom_30 {X : XT} {G : GT} {z : MT} {K62 : Nat → Nat → Int32 → MT → Option MT} (C : CX X G b_Pl_copyFrom 3 "TimeFlood$Plan" 2 44) (hr : XR X none) (hK62 : ∀ (k0 : Nat) (k1 : Nat) (x2 : Int32) (hk0 : kdf k0 = 2) (hk1 : kdf k1 = 2) (σ : MT), K62 k0 k1 x2 σ = some z → JW X G (QX X (PV G z) G) 3 62 [(0, rf G k0), (1, rf G k1), (2, .int x2)] [] σ) : ∀ (n : Nat) (k0 : Nat) (k1 : Nat) (x2 : Int32) (hk0 : kdf k0 = 2) (hk1 : kdf k1 = 2) (σ : MT), f_Pl_copyFrom_30 K62 n k0 k1 x2 σ = some z → JW X G (QX X (PV G z) G) 3 30 [(0, rf G k0), (1, rf G k1), (2, .int x2)] [] σ := by
  intro n
  induction n with
  | zero =>
    intro k0 k1 x2 hk0 hk1 σ hF
    rw [f_Pl_copyFrom_30] at hF
    cases hF
  | succ n ih =>
    intro k0 k1 x2 hk0 hk1 σ hF
    rw [f_Pl_copyFrom_30] at hF
    refine j_iload_n C d_Pl_copyFrom_30 rfl 2 rfl ?_
    refine j_aload_n C d_Pl_copyFrom_31 rfl 1 rfl ?_
    refine g_Pl_nodeCount C hk1 wd_47 d_Pl_copyFrom_32 ?_
    refine j_icmp_ge C 60 d_Pl_copyFrom_35 (by decide) hF (fun q35 hF => ?_) (fun q35 hF => ?_)
    · refine j_iconst C (v := 0) d_Pl_copyFrom_60 (by decide) ?_
      refine j_istore_n C (lv' := [(2, .int (0 : Int32)), (0, rf G k0), (1, rf G k1)]) d_Pl_copyFrom_61 rfl (by decide) rfl ?_
      refine j_sub C [(0, rf G k0), (1, rf G k1), (2, .int (0 : Int32))] [1, 2, 0] rfl ?_
      exact hK62 k0 k1 (0 : Int32) hk0 hk1 σ hF
    · refine j_aload_n C d_Pl_copyFrom_38 rfl 0 rfl ?_
      refine j_aload_n C d_Pl_copyFrom_39 rfl 1 rfl ?_
      refine g_Pl_drifts C hk1 wd_54 d_Pl_copyFrom_40 ?_
      refine j_iload_n C d_Pl_copyFrom_43 rfl 2 rfl ?_
      obtain ⟨q44, hF⟩ := g_if hF
      refine j_iald C (kd_Pl_drifts hk1) (by decide) rfl (inb_v q44) d_Pl_copyFrom_44 ?_
      refine j_aload_n C d_Pl_copyFrom_45 rfl 1 rfl ?_
      refine g_Pl_starts C hk1 wd_56 d_Pl_copyFrom_46 ?_
      refine j_iload_n C d_Pl_copyFrom_49 rfl 2 rfl ?_
      obtain ⟨q50, hF⟩ := g_if hF
      refine j_iald C (kd_Pl_starts hk1) (by decide) rfl (inb_v q50) d_Pl_copyFrom_50 ?_
      obtain ⟨r51, h51, hF⟩ := g_bind hF
      refine j_vv C (As := [.int (σ.1 (k1 + 1) x2.toNatClampNeg), .int (σ.1 (k1 + 2) x2.toNatClampNeg)]) (st := []) (c_Pl_addNode (XL X) G k0 (σ.1 (k1 + 1) x2.toNatClampNeg) (σ.1 (k1 + 2) x2.toNatClampNeg) σ hk0 h51) hk0 (by decide) rfl rfl m_Pl_addNode wd_347 rfl rfl (Nat.le_of_ble_eq_true rfl) ⟨by decide, by decide⟩ d_Pl_copyFrom_51 ?_
      refine j_iinc C (v := x2 + (1 : Int32)) (lv' := [(2, .int (x2 + (1 : Int32))), (0, rf G k0), (1, rf G k1)]) d_Pl_copyFrom_54 2 rfl rfl (by decide) rfl ?_
      refine j_goto C 30 d_Pl_copyFrom_57 (by decide) ?_
      refine j_sub C [(0, rf G k0), (1, rf G k1), (2, .int (x2 + (1 : Int32)))] [1, 2, 0] rfl ?_
      exact ih k0 k1 (x2 + (1 : Int32)) hk0 hk1 r51 hF
set_option maxHeartbeats 4000000 in
set_option maxRecDepth 100000 in
theorem b_Pl_copyFrom_62 {X : XT} {G : GT} {z : MT} (C : CX X G b_Pl_copyFrom 3 "TimeFlood$Plan" 2 44) (hr : XR X none) : ∀ (n : Nat) (k0 : Nat) (k1 : Nat) (x2 : Int32) (hk0 : kdf k0 = 2) (hk1 : kdf k1 = 2) (σ : MT), f_Pl_copyFrom_62 n k0 k1 x2 σ = some z → JW X G (QX X (PV G z) G) 3 62 [(0, rf G k0), (1, rf G k1), (2, .int x2)] [] σ := by
  intro n
  induction n with
  | zero =>
    intro k0 k1 x2 hk0 hk1 σ hF
    rw [f_Pl_copyFrom_62] at hF
    cases hF
  | succ n ih =>
    intro k0 k1 x2 hk0 hk1 σ hF
    rw [f_Pl_copyFrom_62] at hF
    refine j_iload_n C d_Pl_copyFrom_62 rfl 2 rfl ?_
    refine j_aload_n C d_Pl_copyFrom_63 rfl 1 rfl ?_
    refine g_Pl_linkCount C hk1 wd_52 d_Pl_copyFrom_64 ?_
    refine j_icmp_ge C 93 d_Pl_copyFrom_67 (by decide) hF (fun q67 hF => ?_) (fun q67 hF => ?_)
    · cases hF
      exact j_vret C hr d_Pl_copyFrom_93 rfl
    · refine j_aload_n C d_Pl_copyFrom_70 rfl 0 rfl ?_
      refine j_aload_n C d_Pl_copyFrom_71 rfl 1 rfl ?_
      refine g_Pl_lows C hk1 wd_58 d_Pl_copyFrom_72 ?_
      refine j_iload_n C d_Pl_copyFrom_75 rfl 2 rfl ?_
      obtain ⟨q76, hF⟩ := g_if hF
      refine j_iald C (kd_Pl_lows hk1) (by decide) rfl (inb_v q76) d_Pl_copyFrom_76 ?_
      refine j_aload_n C d_Pl_copyFrom_77 rfl 1 rfl ?_
      refine g_Pl_highs C hk1 wd_60 d_Pl_copyFrom_78 ?_
      refine j_iload_n C d_Pl_copyFrom_81 rfl 2 rfl ?_
      obtain ⟨q82, hF⟩ := g_if hF
      refine j_iald C (kd_Pl_highs hk1) (by decide) rfl (inb_v q82) d_Pl_copyFrom_82 ?_
      obtain ⟨r83, h83, hF⟩ := g_bind hF
      refine j_vi C (As := [.int (σ.1 (k1 + 3) x2.toNatClampNeg), .int (σ.1 (k1 + 4) x2.toNatClampNeg)]) (st := []) (c_Pl_addLink (XL X) G k0 (σ.1 (k1 + 3) x2.toNatClampNeg) (σ.1 (k1 + 4) x2.toNatClampNeg) σ hk0 h83) hk0 (by decide) rfl rfl m_Pl_addLink wd_348 rfl rfl (Nat.le_of_ble_eq_true rfl) ⟨by decide, by decide⟩ d_Pl_copyFrom_83 ?_
      refine j_pop C d_Pl_copyFrom_86 rfl ?_
      refine j_iinc C (v := x2 + (1 : Int32)) (lv' := [(2, .int (x2 + (1 : Int32))), (0, rf G k0), (1, rf G k1)]) d_Pl_copyFrom_87 2 rfl rfl (by decide) rfl ?_
      refine j_goto C 62 d_Pl_copyFrom_90 (by decide) ?_
      refine j_sub C [(0, rf G k0), (1, rf G k1), (2, .int (x2 + (1 : Int32)))] [1, 2, 0] rfl ?_
      exact ih k0 k1 (x2 + (1 : Int32)) hk0 hk1 r83.2 hF
set_option maxHeartbeats 4000000 in
set_option maxRecDepth 100000 in
theorem b_Pl_copyFrom_28 {X : XT} {G : GT} {z : MT} (C : CX X G b_Pl_copyFrom 3 "TimeFlood$Plan" 2 44) (hr : XR X none) (k0 : Nat) (k1 : Nat) (hk0 : kdf k0 = 2) (hk1 : kdf k1 = 2) (σ : MT) (hF : f_Pl_copyFrom_28 k0 k1 σ = some z) : JW X G (QX X (PV G z) G) 3 28 [(0, rf G k0), (1, rf G k1)] [] σ := by
  unfold f_Pl_copyFrom_28 at hF
  refine j_iconst C (v := 0) d_Pl_copyFrom_28 (by decide) ?_
  refine j_istore_n C (lv' := [(2, .int (0 : Int32)), (0, rf G k0), (1, rf G k1)]) d_Pl_copyFrom_29 rfl (by decide) rfl ?_
  refine j_sub C [(0, rf G k0), (1, rf G k1), (2, .int (0 : Int32))] [1, 2, 0] rfl ?_
  exact b_Pl_copyFrom_30 C hr (b_Pl_copyFrom_62 C hr 1100) 1100 k0 k1 (0 : Int32) hk0 hk1 σ hF
set_option maxHeartbeats 4000000 in
set_option maxRecDepth 100000 in
theorem c_Pl_copyFrom (l : Launch) (G : GT) (k0 : Nat) (k1 : Nat) (σ : MT) (hk0 : kdf k0 = 2) (hk1 : kdf k1 = 2) {z : MT} (hF : f_Pl_copyFrom k0 k1 σ = some z) : CTV l G y_Pl_copyFrom b_Pl_copyFrom 3 none 2 44 [rf G k0, rf G k1] σ z := by
  refine entX [(0, rf G k0), (1, rf G k1)] "TimeFlood$Plan" (by decide +kernel) rfl rfl (Nat.le_of_ble_eq_true rfl) (fun X hXl hr C => ?_)
  unfold f_Pl_copyFrom at hF
  refine j_aload_n C d_Pl_copyFrom_0 rfl 0 rfl ?_
  obtain ⟨r1, h1, hF⟩ := g_bind hF
  refine j_vv C (As := []) (st := []) (c_Pl_clear (XL X) G k0 σ hk0 h1) hk0 (by decide) rfl rfl m_Pl_clear wd_346 rfl rfl (Nat.le_of_ble_eq_true rfl) ⟨by decide, by decide⟩ d_Pl_copyFrom_1 ?_
  refine j_aload_n C d_Pl_copyFrom_4 rfl 0 rfl ?_
  refine j_aload_n C d_Pl_copyFrom_5 rfl 1 rfl ?_
  refine g_Pl_unit C hk1 wd_35 d_Pl_copyFrom_6 ?_
  refine p_Pl_unit C hk0 wd_35 d_Pl_copyFrom_9 ?_
  refine j_aload_n C d_Pl_copyFrom_12 rfl 0 rfl ?_
  refine j_aload_n C d_Pl_copyFrom_13 rfl 1 rfl ?_
  refine g_Pl_patience C hk1 wd_39 d_Pl_copyFrom_14 ?_
  refine p_Pl_patience C hk0 wd_39 d_Pl_copyFrom_17 ?_
  refine j_aload_n C d_Pl_copyFrom_20 rfl 0 rfl ?_
  refine j_aload_n C d_Pl_copyFrom_21 rfl 1 rfl ?_
  refine g_Pl_shyness C hk1 wd_43 d_Pl_copyFrom_22 ?_
  refine p_Pl_shyness C hk0 wd_43 d_Pl_copyFrom_25 ?_
  exact b_Pl_copyFrom_28 C hr k0 k1 hk0 hk1 (sI (sI (sI r1 k0 0 (r1.1 k1 0)) k0 1 ((sI r1 k0 0 (r1.1 k1 0)).1 k1 1)) k0 2 ((sI (sI r1 k0 0 (r1.1 k1 0)) k0 1 ((sI r1 k0 0 (r1.1 k1 0)).1 k1 1)).1 k1 2)) hF
set_option maxHeartbeats 4000000 in
set_option maxRecDepth 100000 in
theorem b_Nd_forget_21 {X : XT} {G : GT} {z : MT} (C : CX X G b_Nd_forget 1 "TimeFlood$Node" 0 0) (hr : XR X none) (k0 : Nat) (hk0 : kdf k0 = 5) (σ : MT) (hF : f_Nd_forget_21 k0 σ = some z) : JW X G (QX X (PV G z) G) 1 21 [(0, rf G k0)] [] σ := by
  unfold f_Nd_forget_21 at hF
  refine j_aload_n C d_Nd_forget_21 rfl 0 rfl ?_
  refine j_iconst C (v := 0) d_Nd_forget_22 (by decide) ?_
  refine p_Nd_stampCount C hk0 wd_157 d_Nd_forget_23 ?_
  cases hF
  exact j_vret C hr d_Nd_forget_26 rfl
set_option maxHeartbeats 4000000 in
set_option maxRecDepth 100000 in
theorem c_Nd_forget (l : Launch) (G : GT) (k0 : Nat) (σ : MT) (hk0 : kdf k0 = 5) {z : MT} (hF : f_Nd_forget k0 σ = some z) : CTV l G y_Nd_forget b_Nd_forget 1 none 0 0 [rf G k0] σ z := by
  refine entX [(0, rf G k0)] "TimeFlood$Node" (by decide +kernel) rfl rfl (Nat.le_of_ble_eq_true rfl) (fun X hXl hr C => ?_)
  unfold f_Nd_forget at hF
  refine j_aload_n C d_Nd_forget_0 rfl 0 rfl ?_
  refine j_bipush C (v := -9) d_Nd_forget_1 (by decide) ?_
  refine p_Nd_root C hk0 wd_148 d_Nd_forget_3 ?_
  refine j_aload_n C d_Nd_forget_6 rfl 0 rfl ?_
  refine j_iconst C (v := 0) d_Nd_forget_7 (by decide) ?_
  refine p_Nd_number C hk0 wd_151 d_Nd_forget_8 ?_
  refine j_aload_n C d_Nd_forget_11 rfl 0 rfl ?_
  refine j_iconst C (v := 0) d_Nd_forget_12 (by decide) ?_
  refine p_Nd_heart C hk0 wd_153 d_Nd_forget_13 ?_
  refine j_aload_n C d_Nd_forget_16 rfl 0 rfl ?_
  refine j_iconst C (v := 0) d_Nd_forget_17 (by decide) ?_
  refine p_Nd_guard C hk0 wd_155 d_Nd_forget_18 ?_
  exact b_Nd_forget_21 C hr k0 hk0 (sI (sI (sI (sI σ k0 2 (-9 : Int32)) k0 3 (0 : Int32)) k0 4 (0 : Int32)) k0 5 (0 : Int32)) hF
set_option maxHeartbeats 4000000 in
set_option maxRecDepth 100000 in
theorem b_St_begin_63 {X : XT} {G : GT} {z : MT} {K12 : Nat → Nat → Int32 → MT → Option MT} (C : CX X G b_St_begin 3 "TimeFlood$State" 1 20) (hr : XR X none) (hK12 : ∀ (k0 : Nat) (k1 : Nat) (x2 : Int32) (hk0 : kdf k0 = 4) (hk1 : kdf k1 = 2) (σ : MT), K12 k0 k1 x2 σ = some z → JW X G (QX X (PV G z) G) 3 12 [(0, rf G k0), (1, rf G k1), (2, .int x2)] [] σ) (k0 : Nat) (k1 : Nat) (x2 : Int32) (hk0 : kdf k0 = 4) (hk1 : kdf k1 = 2) (σ : MT) (hF : f_St_begin_63 K12 k0 k1 x2 σ = some z) : JW X G (QX X (PV G z) G) 3 63 [(0, rf G k0), (1, rf G k1), (2, .int x2)] [] σ := by
  unfold f_St_begin_63 at hF
  refine j_iinc C (v := x2 + (1 : Int32)) (lv' := [(2, .int (x2 + (1 : Int32))), (0, rf G k0), (1, rf G k1)]) d_St_begin_63 2 rfl rfl (by decide) rfl ?_
  refine j_goto C 12 d_St_begin_66 (by decide) ?_
  refine j_sub C [(0, rf G k0), (1, rf G k1), (2, .int (x2 + (1 : Int32)))] [1, 2, 0] rfl ?_
  exact hK12 k0 k1 (x2 + (1 : Int32)) hk0 hk1 σ hF
set_option maxHeartbeats 4000000 in
set_option maxRecDepth 100000 in
theorem b_St_begin_45 {X : XT} {G : GT} {z : MT} {K12 : Nat → Nat → Int32 → MT → Option MT} (C : CX X G b_St_begin 3 "TimeFlood$State" 1 20) (hr : XR X none) (hK12 : ∀ (k0 : Nat) (k1 : Nat) (x2 : Int32) (hk0 : kdf k0 = 4) (hk1 : kdf k1 = 2) (σ : MT), K12 k0 k1 x2 σ = some z → JW X G (QX X (PV G z) G) 3 12 [(0, rf G k0), (1, rf G k1), (2, .int x2)] [] σ) (k0 : Nat) (k1 : Nat) (x2 : Int32) (xs0 : Int32) (ks1 : Nat) (hk0 : kdf k0 = 4) (hk1 : kdf k1 = 2) (hks1 : kdf ks1 = 5) (σ : MT) (hF : f_St_begin_45 K12 k0 k1 x2 xs0 ks1 σ = some z) : JW X G (QX X (PV G z) G) 3 45 [(0, rf G k0), (1, rf G k1), (2, .int x2)] [.int xs0, rf G ks1] σ := by
  unfold f_St_begin_45 at hF
  obtain ⟨qz45, hF⟩ := g_if hF
  refine p_Nd_on C hks1 (zbb_z qz45) wd_142 d_St_begin_45 ?_
  refine j_aload_n C d_St_begin_48 rfl 0 rfl ?_
  refine g_St_nodes C hk0 wd_189 d_St_begin_49 ?_
  refine j_iload_n C d_St_begin_52 rfl 2 rfl ?_
  obtain ⟨q53, hF⟩ := g_if hF
  refine e_nodes C (kd_St_nodes hk0) (inb_v q53) d_St_begin_53 ?_
  refine j_aload_n C d_St_begin_54 rfl 1 rfl ?_
  refine g_Pl_drifts C hk1 wd_55 d_St_begin_55 ?_
  refine j_iload_n C d_St_begin_58 rfl 2 rfl ?_
  obtain ⟨q59, hF⟩ := g_if hF
  refine j_iald C (kd_Pl_drifts hk1) (by decide) rfl (inb_v q59) d_St_begin_59 ?_
  refine p_Nd_drift C (kd_node (kd_St_nodes hk0) (inb_v q53)) wd_145 d_St_begin_60 ?_
  exact b_St_begin_63 C hr hK12 k0 k1 x2 hk0 hk1 (sI (sI σ ks1 0 xs0) ((k0 + 1) + 1 + 4 * x2.toNatClampNeg) 1 ((sI σ ks1 0 xs0).1 (k1 + 1) x2.toNatClampNeg)) hF
set_option maxHeartbeats 4000000 in
set_option maxRecDepth 100000 in
theorem b_St_begin_12 {X : XT} {G : GT} {z : MT} (C : CX X G b_St_begin 3 "TimeFlood$State" 1 20) (hr : XR X none) : ∀ (n : Nat) (k0 : Nat) (k1 : Nat) (x2 : Int32) (hk0 : kdf k0 = 4) (hk1 : kdf k1 = 2) (σ : MT), f_St_begin_12 n k0 k1 x2 σ = some z → JW X G (QX X (PV G z) G) 3 12 [(0, rf G k0), (1, rf G k1), (2, .int x2)] [] σ := by
  intro n
  induction n with
  | zero =>
    intro k0 k1 x2 hk0 hk1 σ hF
    rw [f_St_begin_12] at hF
    cases hF
  | succ n ih =>
    intro k0 k1 x2 hk0 hk1 σ hF
    rw [f_St_begin_12] at hF
    refine j_iload_n C d_St_begin_12 rfl 2 rfl ?_
    refine j_iconst C (v := 5) d_St_begin_13 (by decide) ?_
    refine j_icmp_ge C 69 d_St_begin_14 (by decide) hF (fun q14 hF => ?_) (fun q14 hF => ?_)
    · cases hF
      exact j_vret C hr d_St_begin_69 rfl
    · refine j_aload_n C d_St_begin_17 rfl 0 rfl ?_
      refine g_St_nodes C hk0 wd_189 d_St_begin_18 ?_
      refine j_iload_n C d_St_begin_21 rfl 2 rfl ?_
      obtain ⟨q22, hF⟩ := g_if hF
      refine e_nodes C (kd_St_nodes hk0) (inb_v q22) d_St_begin_22 ?_
      obtain ⟨r23, h23, hF⟩ := g_bind hF
      refine j_vv C (As := []) (st := []) (c_Nd_forget (XL X) G ((k0 + 1) + 1 + 4 * x2.toNatClampNeg) σ (kd_node (kd_St_nodes hk0) (inb_v q22)) h23) (kd_node (kd_St_nodes hk0) (inb_v q22)) (by decide) rfl rfl m_Nd_forget wd_353 rfl rfl (Nat.le_of_ble_eq_true rfl) ⟨by decide, by decide⟩ d_St_begin_23 ?_
      refine j_aload_n C d_St_begin_26 rfl 0 rfl ?_
      refine g_St_nodes C hk0 wd_189 d_St_begin_27 ?_
      refine j_iload_n C d_St_begin_30 rfl 2 rfl ?_
      obtain ⟨q31, hF⟩ := g_if hF
      refine e_nodes C (kd_St_nodes hk0) (inb_v q31) d_St_begin_31 ?_
      refine j_iload_n C d_St_begin_32 rfl 2 rfl ?_
      refine j_aload_n C d_St_begin_33 rfl 1 rfl ?_
      refine g_Pl_nodeCount C hk1 wd_49 d_St_begin_34 ?_
      refine j_icmp_ge C 44 d_St_begin_37 (by decide) hF (fun q37 hF => ?_) (fun q37 hF => ?_)
      · refine j_iconst C (v := 0) d_St_begin_44 (by decide) ?_
        exact b_St_begin_45 C hr ih k0 k1 x2 (0 : Int32) ((k0 + 1) + 1 + 4 * x2.toNatClampNeg) hk0 hk1 (kd_node (kd_St_nodes hk0) (inb_v q31)) r23 hF
      · refine j_iconst C (v := 1) d_St_begin_40 (by decide) ?_
        refine j_goto C 45 d_St_begin_41 (by decide) ?_
        exact b_St_begin_45 C hr ih k0 k1 x2 (1 : Int32) ((k0 + 1) + 1 + 4 * x2.toNatClampNeg) hk0 hk1 (kd_node (kd_St_nodes hk0) (inb_v q31)) r23 hF
set_option maxHeartbeats 4000000 in
set_option maxRecDepth 100000 in
theorem c_St_begin (l : Launch) (G : GT) (k0 : Nat) (k1 : Nat) (σ : MT) (hk0 : kdf k0 = 4) (hk1 : kdf k1 = 2) {z : MT} (hF : f_St_begin k0 k1 σ = some z) : CTV l G y_St_begin b_St_begin 3 none 1 20 [rf G k0, rf G k1] σ z := by
  refine entX [(0, rf G k0), (1, rf G k1)] "TimeFlood$State" (by decide +kernel) rfl rfl (Nat.le_of_ble_eq_true rfl) (fun X hXl hr C => ?_)
  unfold f_St_begin at hF
  refine j_aload_n C d_St_begin_0 rfl 0 rfl ?_
  refine j_iconst C (v := 0) d_St_begin_1 (by decide) ?_
  refine p_St_time C hk0 wd_184 d_St_begin_2 ?_
  refine j_aload_n C d_St_begin_5 rfl 0 rfl ?_
  refine j_iconst C (v := 0) d_St_begin_6 (by decide) ?_
  refine p_St_downSet C hk0 wd_187 d_St_begin_7 ?_
  refine j_iconst C (v := 0) d_St_begin_10 (by decide) ?_
  refine j_istore_n C (lv' := [(2, .int (0 : Int32)), (0, rf G k0), (1, rf G k1)]) d_St_begin_11 rfl (by decide) rfl ?_
  refine j_sub C [(0, rf G k0), (1, rf G k1), (2, .int (0 : Int32))] [1, 2, 0] rfl ?_
  exact b_St_begin_12 C hr 1100 k0 k1 (0 : Int32) hk0 hk1 (sI (sI σ k0 0 (0 : Int32)) k0 1 (0 : Int32)) hF
set_option maxHeartbeats 4000000 in
set_option maxRecDepth 100000 in
theorem c_Jr_clear (l : Launch) (G : GT) (σ : MT)  {z : MT} (hF : f_Jr_clear σ = some z) : CTV l G y_Jr_clear b_Jr_clear 1 none 0 0 [rf G 30] σ z := by
  refine entX [(0, rf G 30)] "TimeFlood$Journal" (by decide +kernel) rfl rfl (Nat.le_of_ble_eq_true rfl) (fun X hXl hr C => ?_)
  unfold f_Jr_clear at hF
  refine j_aload_n C d_Jr_clear_0 rfl 0 rfl ?_
  refine j_iconst C (v := 0) d_Jr_clear_1 (by decide) ?_
  refine p_Jr_count C (rfl : kdf 30 = 6) wd_210 d_Jr_clear_2 ?_
  cases hF
  exact j_vret C hr d_Jr_clear_5 rfl
set_option maxHeartbeats 4000000 in
set_option maxRecDepth 100000 in
theorem b_TF_net_57 {X : XT} {G : GT} {z : (Int32 × MT)} (C : CX X G b_TF_net 2 "TimeFlood" 5 110) (hr : XR X (some .int)) : ∀ (n : Nat) (x1 : Int32) (σ : MT), f_TF_net_57 n x1 σ = some z → JW X G (QX X (PI G z.1 z.2) G) 2 57 [(0, rf G 0), (1, .int x1)] [] σ := by
  intro n
  induction n with
  | zero =>
    intro x1 σ hF
    rw [f_TF_net_57] at hF
    cases hF
  | succ n ih =>
    intro x1 σ hF
    rw [f_TF_net_57] at hF
    refine j_iload_n C d_TF_net_57 rfl 1 rfl ?_
    refine j_iconst C (v := 2) d_TF_net_58 (by decide) ?_
    refine j_icmp_ge C 75 d_TF_net_59 (by decide) hF (fun q59 hF => ?_) (fun q59 hF => ?_)
    · refine j_aload_n C d_TF_net_75 rfl 0 rfl ?_
      refine g_TF_plan C (rfl : kdf 0 = 0) wd_243 d_TF_net_76 ?_
      refine g_Pl_nodeCount C (rfl : kdf 15 = 2) wd_51 d_TF_net_79 ?_
      cases hF
      exact j_iret (st := []) C hr d_TF_net_82 rfl rfl
    · refine j_aload_n C d_TF_net_62 rfl 0 rfl ?_
      refine g_TF_slotFilled C (rfl : kdf 0 = 0) wd_248 d_TF_net_63 ?_
      refine j_iload_n C d_TF_net_66 rfl 1 rfl ?_
      refine j_iconst C (v := 0) d_TF_net_67 (by decide) ?_
      obtain ⟨q68, hF⟩ := g_if hF
      refine j_zast C (rfl : kdf 33 = 22) (by decide) (fun _ => rfl) (inb_v q68) d_TF_net_68 ?_
      refine j_iinc C (v := x1 + (1 : Int32)) (lv' := [(1, .int (x1 + (1 : Int32))), (0, rf G 0)]) d_TF_net_69 1 rfl rfl (by decide) rfl ?_
      refine j_goto C 57 d_TF_net_72 (by decide) ?_
      refine j_sub C [(0, rf G 0), (1, .int (x1 + (1 : Int32)))] [1, 0] rfl ?_
      exact ih (x1 + (1 : Int32)) (sI σ 33 x1.toNatClampNeg (vp_nar .boolean (0 : Int32))) hF
set_option maxHeartbeats 4000000 in
set_option maxRecDepth 100000 in
theorem c_TF_net (l : Launch) (G : GT) (σ : MT)  {z : (Int32 × MT)} (hF : f_TF_net σ = some z) : CTI l G y_TF_net b_TF_net 2 (some .int) 5 110 [rf G 0] σ z.1 z.2 := by
  refine entX [(0, rf G 0)] "TimeFlood" (by decide +kernel) rfl rfl (Nat.le_of_ble_eq_true rfl) (fun X hXl hr C => ?_)
  unfold f_TF_net at hF
  refine j_aload_n C d_TF_net_0 rfl 0 rfl ?_
  refine g_TF_reader C (rfl : kdf 0 = 0) wd_241 d_TF_net_1 ?_
  refine j_aload_n C d_TF_net_4 rfl 0 rfl ?_
  refine g_TF_text C (rfl : kdf 0 = 0) wd_239 d_TF_net_5 ?_
  refine j_aload_n C d_TF_net_8 rfl 0 rfl ?_
  refine g_TF_textLength C (rfl : kdf 0 = 0) wd_240 d_TF_net_9 ?_
  obtain ⟨r12, h12, hF⟩ := g_bind hF
  refine j_vi C (As := [rf G 1, .int (σ.1 0 1)]) (st := []) (c_Rd_read (XL X) G 1 (σ.1 0 1) σ (rfl : kdf 1 = 20) h12) (rfl : kdf 2 = 1) (by decide) rfl rfl m_Rd_read wd_288 rfl rfl (Nat.le_of_ble_eq_true rfl) ⟨by decide, by decide⟩ d_TF_net_12 ?_
  refine j_bipush C (v := -9) d_TF_net_15 (by decide) ?_
  refine j_icmp_eq C 23 d_TF_net_17 (by decide) hF (fun q17 hF => ?_) (fun q17 hF => ?_)
  · refine j_aload_n C d_TF_net_23 rfl 0 rfl ?_
    refine g_TF_plan C (rfl : kdf 0 = 0) wd_243 d_TF_net_24 ?_
    refine j_aload_n C d_TF_net_27 rfl 0 rfl ?_
    refine g_TF_reader C (rfl : kdf 0 = 0) wd_241 d_TF_net_28 ?_
    refine g_Rd_draft C (rfl : kdf 2 = 1) wd_88 d_TF_net_31 ?_
    obtain ⟨r34, h34, hF⟩ := g_bind hF
    refine j_vv C (As := [rf G 3]) (st := []) (c_Pl_copyFrom (XL X) G 15 3 r12.2 (rfl : kdf 15 = 2) (rfl : kdf 3 = 2) h34) (rfl : kdf 15 = 2) (by decide) rfl rfl m_Pl_copyFrom wd_342 rfl rfl (Nat.le_of_ble_eq_true rfl) ⟨by decide, by decide⟩ d_TF_net_34 ?_
    refine j_aload_n C d_TF_net_37 rfl 0 rfl ?_
    refine g_TF_now C (rfl : kdf 0 = 0) wd_244 d_TF_net_38 ?_
    refine j_aload_n C d_TF_net_41 rfl 0 rfl ?_
    refine g_TF_plan C (rfl : kdf 0 = 0) wd_243 d_TF_net_42 ?_
    obtain ⟨r45, h45, hF⟩ := g_bind hF
    refine j_vv C (As := [rf G 15]) (st := []) (c_St_begin (XL X) G 61 15 r34 (rfl : kdf 61 = 4) (rfl : kdf 15 = 2) h45) (rfl : kdf 61 = 4) (by decide) rfl rfl m_St_begin wd_349 rfl rfl (Nat.le_of_ble_eq_true rfl) ⟨by decide, by decide⟩ d_TF_net_45 ?_
    refine j_aload_n C d_TF_net_48 rfl 0 rfl ?_
    refine g_TF_journal C (rfl : kdf 0 = 0) wd_246 d_TF_net_49 ?_
    obtain ⟨r52, h52, hF⟩ := g_bind hF
    refine j_vv C (As := []) (st := []) (c_Jr_clear (XL X) G r45 h52) (rfl : kdf 30 = 6) (by decide) rfl rfl m_Jr_clear wd_357 rfl rfl (Nat.le_of_ble_eq_true rfl) ⟨by decide, by decide⟩ d_TF_net_52 ?_
    refine j_iconst C (v := 0) d_TF_net_55 (by decide) ?_
    refine j_istore_n C (lv' := [(1, .int (0 : Int32)), (0, rf G 0)]) d_TF_net_56 rfl (by decide) rfl ?_
    refine j_sub C [(0, rf G 0), (1, .int (0 : Int32))] [1, 0] rfl ?_
    exact b_TF_net_57 C hr 1100 (0 : Int32) r52 hF
  · refine j_bipush C (v := -3) d_TF_net_20 (by decide) ?_
    cases hF
    exact j_iret (st := []) C hr d_TF_net_22 rfl rfl
set_option maxHeartbeats 4000000 in
set_option maxRecDepth 100000 in
theorem b_St_onSet_27 {X : XT} {G : GT} {z : Int32} {K4 : Nat → Int32 → Int32 → MT → Option Int32} {σ : MT} (C : CX X G b_St_onSet 3 "TimeFlood$State" 0 0) (hr : XR X (some .int)) (hK4 : ∀ (k0 : Nat) (x1 : Int32) (x2 : Int32) (hk0 : kdf k0 = 4), K4 k0 x1 x2 σ = some z → JW X G (QX X (PI G z σ) G) 3 4 [(0, rf G k0), (1, .int x1), (2, .int x2)] [] σ) (k0 : Nat) (x1 : Int32) (x2 : Int32) (hk0 : kdf k0 = 4) (hF : f_St_onSet_27 K4 k0 x1 x2 σ = some z) : JW X G (QX X (PI G z σ) G) 3 27 [(0, rf G k0), (1, .int x1), (2, .int x2)] [] σ := by
  unfold f_St_onSet_27 at hF
  refine j_iinc C (v := x2 + (1 : Int32)) (lv' := [(2, .int (x2 + (1 : Int32))), (0, rf G k0), (1, .int x1)]) d_St_onSet_27 2 rfl rfl (by decide) rfl ?_
  refine j_goto C 4 d_St_onSet_30 (by decide) ?_
  refine j_sub C [(0, rf G k0), (1, .int x1), (2, .int (x2 + (1 : Int32)))] [1, 2, 0] rfl ?_
  exact hK4 k0 x1 (x2 + (1 : Int32)) hk0 hF
set_option maxHeartbeats 4000000 in
set_option maxRecDepth 100000 in
theorem b_St_onSet_4 {X : XT} {G : GT} {z : Int32} {σ : MT} (C : CX X G b_St_onSet 3 "TimeFlood$State" 0 0) (hr : XR X (some .int)) : ∀ (n : Nat) (k0 : Nat) (x1 : Int32) (x2 : Int32) (hk0 : kdf k0 = 4), f_St_onSet_4 n k0 x1 x2 σ = some z → JW X G (QX X (PI G z σ) G) 3 4 [(0, rf G k0), (1, .int x1), (2, .int x2)] [] σ := by
  intro n
  induction n with
  | zero =>
    intro k0 x1 x2 hk0 hF
    rw [f_St_onSet_4] at hF
    cases hF
  | succ n ih =>
    intro k0 x1 x2 hk0 hF
    rw [f_St_onSet_4] at hF
    refine j_iload_n C d_St_onSet_4 rfl 2 rfl ?_
    refine j_iconst C (v := 5) d_St_onSet_5 (by decide) ?_
    refine j_icmp_ge C 33 d_St_onSet_6 (by decide) hF (fun q6 hF => ?_) (fun q6 hF => ?_)
    · refine j_iload_n C d_St_onSet_33 rfl 1 rfl ?_
      cases hF
      exact j_iret (st := []) C hr d_St_onSet_34 rfl rfl
    · refine j_aload_n C d_St_onSet_9 rfl 0 rfl ?_
      refine g_St_nodes C hk0 wd_189 d_St_onSet_10 ?_
      refine j_iload_n C d_St_onSet_13 rfl 2 rfl ?_
      obtain ⟨q14, hF⟩ := g_if hF
      refine e_nodes C (kd_St_nodes hk0) (inb_v q14) d_St_onSet_14 ?_
      refine g_Nd_on C (kd_node (kd_St_nodes hk0) (inb_v q14)) wd_142 d_St_onSet_15 ?_
      refine j_if_eq C 27 d_St_onSet_18 (by decide) hF (fun q18 hF => ?_) (fun q18 hF => ?_)
      · exact b_St_onSet_27 C hr ih k0 x1 x2 hk0 hF
      · refine j_iload_n C d_St_onSet_21 rfl 1 rfl ?_
        refine j_iconst C (v := 1) d_St_onSet_22 (by decide) ?_
        refine j_iload_n C d_St_onSet_23 rfl 2 rfl ?_
        refine j_ishl C d_St_onSet_24 ?_
        refine j_ior C d_St_onSet_25 ?_
        refine j_istore_n C (lv' := [(1, .int (x1 ||| ((1 : Int32) <<< (x2 &&& 31)))), (0, rf G k0), (2, .int x2)]) d_St_onSet_26 rfl (by decide) rfl ?_
        refine j_sub C [(0, rf G k0), (1, .int (x1 ||| ((1 : Int32) <<< (x2 &&& 31)))), (2, .int x2)] [1, 0, 2] rfl ?_
        exact b_St_onSet_27 C hr ih k0 (x1 ||| ((1 : Int32) <<< (x2 &&& 31))) x2 hk0 hF
set_option maxHeartbeats 4000000 in
set_option maxRecDepth 100000 in
theorem c_St_onSet (l : Launch) (G : GT) (k0 : Nat) (σ : MT) (hk0 : kdf k0 = 4) {z : Int32} (hF : f_St_onSet k0 σ = some z) : CTI l G y_St_onSet b_St_onSet 3 (some .int) 0 0 [rf G k0] σ z σ := by
  refine entX [(0, rf G k0)] "TimeFlood$State" (by decide +kernel) rfl rfl (Nat.le_of_ble_eq_true rfl) (fun X hXl hr C => ?_)
  unfold f_St_onSet at hF
  refine j_iconst C (v := 0) d_St_onSet_0 (by decide) ?_
  refine j_istore_n C (lv' := [(1, .int (0 : Int32)), (0, rf G k0)]) d_St_onSet_1 rfl (by decide) rfl ?_
  refine j_iconst C (v := 0) d_St_onSet_2 (by decide) ?_
  refine j_istore_n C (lv' := [(2, .int (0 : Int32)), (1, .int (0 : Int32)), (0, rf G k0)]) d_St_onSet_3 rfl (by decide) rfl ?_
  refine j_sub C [(0, rf G k0), (1, .int (0 : Int32)), (2, .int (0 : Int32))] [2, 1, 0] rfl ?_
  exact b_St_onSet_4 C hr 1100 k0 (0 : Int32) (0 : Int32) hk0 hF
set_option maxHeartbeats 4000000 in
set_option maxRecDepth 100000 in
theorem c_St_shownRoot (l : Launch) (G : GT) (k0 : Nat) (x1 : Int32) (σ : MT) (hk0 : kdf k0 = 4) {z : Int32} (hF : f_St_shownRoot k0 x1 σ = some z) : CTI l G y_St_shownRoot b_St_shownRoot 2 (some .int) 0 0 [rf G k0, .int x1] σ z σ := by
  refine entX [(0, rf G k0), (1, .int x1)] "TimeFlood$State" (by decide +kernel) rfl rfl (Nat.le_of_ble_eq_true rfl) (fun X hXl hr C => ?_)
  unfold f_St_shownRoot at hF
  refine j_aload_n C d_St_shownRoot_0 rfl 0 rfl ?_
  refine g_St_nodes C hk0 wd_189 d_St_shownRoot_1 ?_
  refine j_iload_n C d_St_shownRoot_4 rfl 1 rfl ?_
  obtain ⟨q5, hF⟩ := g_if hF
  refine e_nodes C (kd_St_nodes hk0) (inb_v q5) d_St_shownRoot_5 ?_
  refine g_Nd_on C (kd_node (kd_St_nodes hk0) (inb_v q5)) wd_142 d_St_shownRoot_6 ?_
  refine j_if_eq C 24 d_St_shownRoot_9 (by decide) hF (fun q9 hF => ?_) (fun q9 hF => ?_)
  · refine j_bipush C (v := -9) d_St_shownRoot_24 (by decide) ?_
    cases hF
    exact j_iret (st := []) C hr d_St_shownRoot_26 rfl rfl
  · refine j_aload_n C d_St_shownRoot_12 rfl 0 rfl ?_
    refine g_St_nodes C hk0 wd_189 d_St_shownRoot_13 ?_
    refine j_iload_n C d_St_shownRoot_16 rfl 1 rfl ?_
    obtain ⟨q17, hF⟩ := g_if hF
    refine e_nodes C (kd_St_nodes hk0) (inb_v q17) d_St_shownRoot_17 ?_
    refine g_Nd_root C (kd_node (kd_St_nodes hk0) (inb_v q17)) wd_150 d_St_shownRoot_18 ?_
    refine j_goto C 26 d_St_shownRoot_21 (by decide) ?_
    cases hF
    exact j_iret (st := []) C hr d_St_shownRoot_26 rfl rfl
set_option maxHeartbeats 4000000 in
set_option maxRecDepth 100000 in
theorem b_St_ownRootSet_24 {X : XT} {G : GT} {z : Int32} {K4 : Nat → Int32 → Int32 → MT → Option Int32} {σ : MT} (C : CX X G b_St_ownRootSet 3 "TimeFlood$State" 1 21) (hr : XR X (some .int)) (hK4 : ∀ (k0 : Nat) (x1 : Int32) (x2 : Int32) (hk0 : kdf k0 = 4), K4 k0 x1 x2 σ = some z → JW X G (QX X (PI G z σ) G) 3 4 [(0, rf G k0), (1, .int x1), (2, .int x2)] [] σ) (k0 : Nat) (x1 : Int32) (x2 : Int32) (hk0 : kdf k0 = 4) (hF : f_St_ownRootSet_24 K4 k0 x1 x2 σ = some z) : JW X G (QX X (PI G z σ) G) 3 24 [(0, rf G k0), (1, .int x1), (2, .int x2)] [] σ := by
  unfold f_St_ownRootSet_24 at hF
  refine j_iinc C (v := x2 + (1 : Int32)) (lv' := [(2, .int (x2 + (1 : Int32))), (0, rf G k0), (1, .int x1)]) d_St_ownRootSet_24 2 rfl rfl (by decide) rfl ?_
  refine j_goto C 4 d_St_ownRootSet_27 (by decide) ?_
  refine j_sub C [(0, rf G k0), (1, .int x1), (2, .int (x2 + (1 : Int32)))] [1, 2, 0] rfl ?_
  exact hK4 k0 x1 (x2 + (1 : Int32)) hk0 hF
set_option maxHeartbeats 4000000 in
set_option maxRecDepth 100000 in
theorem b_St_ownRootSet_4 {X : XT} {G : GT} {z : Int32} {σ : MT} (C : CX X G b_St_ownRootSet 3 "TimeFlood$State" 1 21) (hr : XR X (some .int)) : ∀ (n : Nat) (k0 : Nat) (x1 : Int32) (x2 : Int32) (hk0 : kdf k0 = 4), f_St_ownRootSet_4 n k0 x1 x2 σ = some z → JW X G (QX X (PI G z σ) G) 3 4 [(0, rf G k0), (1, .int x1), (2, .int x2)] [] σ := by
  intro n
  induction n with
  | zero =>
    intro k0 x1 x2 hk0 hF
    rw [f_St_ownRootSet_4] at hF
    cases hF
  | succ n ih =>
    intro k0 x1 x2 hk0 hF
    rw [f_St_ownRootSet_4] at hF
    refine j_iload_n C d_St_ownRootSet_4 rfl 2 rfl ?_
    refine j_iconst C (v := 5) d_St_ownRootSet_5 (by decide) ?_
    refine j_icmp_ge C 30 d_St_ownRootSet_6 (by decide) hF (fun q6 hF => ?_) (fun q6 hF => ?_)
    · refine j_iload_n C d_St_ownRootSet_30 rfl 1 rfl ?_
      cases hF
      exact j_iret (st := []) C hr d_St_ownRootSet_31 rfl rfl
    · refine j_aload_n C d_St_ownRootSet_9 rfl 0 rfl ?_
      refine j_iload_n C d_St_ownRootSet_10 rfl 2 rfl ?_
      obtain ⟨r11, h11, hF⟩ := g_bind hF
      refine j_vi C (As := [.int x2]) (st := []) (c_St_shownRoot (XL X) G k0 x2 σ hk0 h11) hk0 (by decide) rfl rfl m_St_shownRoot wd_373 rfl rfl (Nat.le_of_ble_eq_true rfl) ⟨by decide, by decide⟩ d_St_ownRootSet_11 ?_
      refine j_iload_n C d_St_ownRootSet_14 rfl 2 rfl ?_
      refine j_icmp_ne C 24 d_St_ownRootSet_15 (by decide) hF (fun q15 hF => ?_) (fun q15 hF => ?_)
      · exact b_St_ownRootSet_24 C hr ih k0 x1 x2 hk0 hF
      · refine j_iload_n C d_St_ownRootSet_18 rfl 1 rfl ?_
        refine j_iconst C (v := 1) d_St_ownRootSet_19 (by decide) ?_
        refine j_iload_n C d_St_ownRootSet_20 rfl 2 rfl ?_
        refine j_ishl C d_St_ownRootSet_21 ?_
        refine j_ior C d_St_ownRootSet_22 ?_
        refine j_istore_n C (lv' := [(1, .int (x1 ||| ((1 : Int32) <<< (x2 &&& 31)))), (0, rf G k0), (2, .int x2)]) d_St_ownRootSet_23 rfl (by decide) rfl ?_
        refine j_sub C [(0, rf G k0), (1, .int (x1 ||| ((1 : Int32) <<< (x2 &&& 31)))), (2, .int x2)] [1, 0, 2] rfl ?_
        exact b_St_ownRootSet_24 C hr ih k0 (x1 ||| ((1 : Int32) <<< (x2 &&& 31))) x2 hk0 hF
set_option maxHeartbeats 4000000 in
set_option maxRecDepth 100000 in
theorem c_St_ownRootSet (l : Launch) (G : GT) (k0 : Nat) (σ : MT) (hk0 : kdf k0 = 4) {z : Int32} (hF : f_St_ownRootSet k0 σ = some z) : CTI l G y_St_ownRootSet b_St_ownRootSet 3 (some .int) 1 21 [rf G k0] σ z σ := by
  refine entX [(0, rf G k0)] "TimeFlood$State" (by decide +kernel) rfl rfl (Nat.le_of_ble_eq_true rfl) (fun X hXl hr C => ?_)
  unfold f_St_ownRootSet at hF
  refine j_iconst C (v := 0) d_St_ownRootSet_0 (by decide) ?_
  refine j_istore_n C (lv' := [(1, .int (0 : Int32)), (0, rf G k0)]) d_St_ownRootSet_1 rfl (by decide) rfl ?_
  refine j_iconst C (v := 0) d_St_ownRootSet_2 (by decide) ?_
  refine j_istore_n C (lv' := [(2, .int (0 : Int32)), (1, .int (0 : Int32)), (0, rf G k0)]) d_St_ownRootSet_3 rfl (by decide) rfl ?_
  refine j_sub C [(0, rf G k0), (1, .int (0 : Int32)), (2, .int (0 : Int32))] [2, 1, 0] rfl ?_
  exact b_St_ownRootSet_4 C hr 1100 k0 (0 : Int32) (0 : Int32) hk0 hF
set_option maxHeartbeats 4000000 in
set_option maxRecDepth 100000 in
theorem c_Mt_floorDivI (l : Launch) (G : GT) (x0 : Int32) (x1 : Int32)  (σ : MT) {z : Int32} (hF : f_Mt_floorDivI x0 x1 = some z) : CTI l G y_Mt_floorDivI b_Mt_floorDivI 3 (some .int) 0 0 [.int x0, .int x1] σ z σ := by
  refine entX [(0, .int x0), (1, .int x1)] "java/lang/Math" (by decide +kernel) rfl rfl (Nat.le_of_ble_eq_true rfl) (fun X hXl hr C => ?_)
  unfold f_Mt_floorDivI at hF
  refine j_iload_n C d_Mt_floorDivI_0 rfl 0 rfl ?_
  refine j_iload_n C d_Mt_floorDivI_1 rfl 1 rfl ?_
  obtain ⟨q2, hF⟩ := g_if hF
  refine j_idiv C d_Mt_floorDivI_2 q2 ?_
  refine j_istore_n C (lv' := [(2, .int (x0 / x1)), (0, .int x0), (1, .int x1)]) d_Mt_floorDivI_3 rfl (by decide) rfl ?_
  refine j_iload_n C d_Mt_floorDivI_4 rfl 1 rfl ?_
  refine j_iload_n C d_Mt_floorDivI_5 rfl 2 rfl ?_
  refine j_ixor C d_Mt_floorDivI_6 ?_
  refine j_if_ge C 21 d_Mt_floorDivI_7 (by decide) hF (fun q7 hF => ?_) (fun q7 hF => ?_)
  · refine j_iload_n C d_Mt_floorDivI_21 rfl 0 rfl ?_
    cases hF
    exact j_iret (st := []) C hr d_Mt_floorDivI_22 rfl rfl
  · refine j_iload_n C d_Mt_floorDivI_10 rfl 0 rfl ?_
    refine j_iload_n C d_Mt_floorDivI_11 rfl 2 rfl ?_
    refine j_imul C d_Mt_floorDivI_12 ?_
    refine j_iload_n C d_Mt_floorDivI_13 rfl 1 rfl ?_
    refine j_icmp_eq C 21 d_Mt_floorDivI_14 (by decide) hF (fun q14 hF => ?_) (fun q14 hF => ?_)
    · refine j_iload_n C d_Mt_floorDivI_21 rfl 0 rfl ?_
      cases hF
      exact j_iret (st := []) C hr d_Mt_floorDivI_22 rfl rfl
    · refine j_iload_n C d_Mt_floorDivI_17 rfl 0 rfl ?_
      refine j_iconst C (v := 1) d_Mt_floorDivI_18 (by decide) ?_
      refine j_isub C d_Mt_floorDivI_19 ?_
      cases hF
      exact j_iret (st := []) C hr d_Mt_floorDivI_20 rfl rfl
set_option maxHeartbeats 4000000 in
set_option maxRecDepth 100000 in
theorem c_Mt_floorModI (l : Launch) (G : GT) (x0 : Int32) (x1 : Int32)  (σ : MT) {z : Int32} (hF : f_Mt_floorModI x0 x1 = some z) : CTI l G y_Mt_floorModI b_Mt_floorModI 3 (some .int) 0 0 [.int x0, .int x1] σ z σ := by
  refine entX [(0, .int x0), (1, .int x1)] "java/lang/Math" (by decide +kernel) rfl rfl (Nat.le_of_ble_eq_true rfl) (fun X hXl hr C => ?_)
  unfold f_Mt_floorModI at hF
  refine j_iload_n C d_Mt_floorModI_0 rfl 0 rfl ?_
  refine j_iload_n C d_Mt_floorModI_1 rfl 1 rfl ?_
  obtain ⟨q2, hF⟩ := g_if hF
  refine j_irem C d_Mt_floorModI_2 q2 ?_
  refine j_istore_n C (lv' := [(2, .int (x0 - x0 / x1 * x1)), (0, .int x0), (1, .int x1)]) d_Mt_floorModI_3 rfl (by decide) rfl ?_
  refine j_iload_n C d_Mt_floorModI_4 rfl 1 rfl ?_
  refine j_iload_n C d_Mt_floorModI_5 rfl 2 rfl ?_
  refine j_ixor C d_Mt_floorModI_6 ?_
  refine j_if_ge C 18 d_Mt_floorModI_7 (by decide) hF (fun q7 hF => ?_) (fun q7 hF => ?_)
  · refine j_iload_n C d_Mt_floorModI_18 rfl 0 rfl ?_
    cases hF
    exact j_iret (st := []) C hr d_Mt_floorModI_19 rfl rfl
  · refine j_iload_n C d_Mt_floorModI_10 rfl 0 rfl ?_
    refine j_if_eq C 18 d_Mt_floorModI_11 (by decide) hF (fun q11 hF => ?_) (fun q11 hF => ?_)
    · refine j_iload_n C d_Mt_floorModI_18 rfl 0 rfl ?_
      cases hF
      exact j_iret (st := []) C hr d_Mt_floorModI_19 rfl rfl
    · refine j_iload_n C d_Mt_floorModI_14 rfl 0 rfl ?_
      refine j_iload_n C d_Mt_floorModI_15 rfl 2 rfl ?_
      refine j_iadd C d_Mt_floorModI_16 ?_
      cases hF
      exact j_iret (st := []) C hr d_Mt_floorModI_17 rfl rfl
set_option maxHeartbeats 4000000 in
set_option maxRecDepth 100000 in
theorem c_Fl_clock (l : Launch) (G : GT) (k1 : Nat) (x2 : Int32) (σ : MT) (hk1 : kdf k1 = 4) {z : Int32} (hF : f_Fl_clock k1 x2 σ = some z) : CTI l G y_Fl_clock b_Fl_clock 4 (some .int) 1 22 [rf G 14, rf G k1, .int x2] σ z σ := by
  refine entX [(0, rf G 14), (1, rf G k1), (2, .int x2)] "TimeFlood$Flood" (by decide +kernel) rfl rfl (Nat.le_of_ble_eq_true rfl) (fun X hXl hr C => ?_)
  unfold f_Fl_clock at hF
  refine j_aload_n C d_Fl_clock_0 rfl 1 rfl ?_
  refine g_St_time C hk1 wd_185 d_Fl_clock_1 ?_
  refine j_aload_n C d_Fl_clock_4 rfl 1 rfl ?_
  refine g_St_nodes C hk1 wd_190 d_Fl_clock_5 ?_
  refine j_iload_n C d_Fl_clock_8 rfl 2 rfl ?_
  obtain ⟨q9, hF⟩ := g_if hF
  refine e_nodes C (kd_St_nodes hk1) (inb_v q9) d_Fl_clock_9 ?_
  refine g_Nd_drift C (kd_node (kd_St_nodes hk1) (inb_v q9)) wd_146 d_Fl_clock_10 ?_
  refine j_imul C d_Fl_clock_13 ?_
  refine j_bipush C (v := 64) d_Fl_clock_14 (by decide) ?_
  obtain ⟨r16, h16, hF⟩ := g_bind hF
  refine j_si C (As := [.int ((σ.1 k1 0) * (σ.1 ((k1 + 1) + 1 + 4 * x2.toNatClampNeg) 1)), .int (64 : Int32)]) (st := []) (c_Mt_floorDivI (XL X) G ((σ.1 k1 0) * (σ.1 ((k1 + 1) + 1 + 4 * x2.toNatClampNeg) 1)) (64 : Int32) σ h16) m_Mt_floorDivI wd_394 rfl rfl (Nat.le_of_ble_eq_true rfl) ⟨by decide, by decide⟩ d_Fl_clock_16 ?_
  refine j_istore_n C (lv' := [(3, .int r16), (0, rf G 14), (1, rf G k1), (2, .int x2)]) d_Fl_clock_19 rfl (by decide) rfl ?_
  refine j_bipush C (v := 16) d_Fl_clock_20 (by decide) ?_
  refine j_aload_n C d_Fl_clock_22 rfl 1 rfl ?_
  refine g_Fl_plan C (rfl : kdf 14 = 3) wd_109 d_Fl_clock_23 ?_
  refine g_Pl_starts C (rfl : kdf 15 = 2) wd_57 d_Fl_clock_26 ?_
  refine j_iload_n C d_Fl_clock_29 rfl 3 rfl ?_
  obtain ⟨q30, hF⟩ := g_if hF
  refine j_iald C (rfl : kdf 17 = 11) (by decide) rfl (inb_v q30) d_Fl_clock_30 ?_
  refine j_imul C d_Fl_clock_31 ?_
  refine j_aload_n C d_Fl_clock_32 rfl 2 rfl ?_
  refine g_St_time C hk1 wd_185 d_Fl_clock_33 ?_
  refine j_iadd C d_Fl_clock_36 ?_
  refine j_iload_n C d_Fl_clock_37 rfl 0 rfl ?_
  refine j_iadd C d_Fl_clock_38 ?_
  refine j_sipush C (v := 1024) d_Fl_clock_39 (by decide) ?_
  obtain ⟨r42, h42, hF⟩ := g_bind hF
  refine j_si C (As := [.int ((((16 : Int32) * (σ.1 17 x2.toNatClampNeg)) + (σ.1 k1 0)) + r16), .int (1024 : Int32)]) (st := []) (c_Mt_floorModI (XL X) G ((((16 : Int32) * (σ.1 17 x2.toNatClampNeg)) + (σ.1 k1 0)) + r16) (1024 : Int32) σ h42) m_Mt_floorModI wd_397 rfl rfl (Nat.le_of_ble_eq_true rfl) ⟨by decide, by decide⟩ d_Fl_clock_42 ?_
  cases hF
  exact j_iret (st := []) C hr d_Fl_clock_45 rfl rfl
set_option maxHeartbeats 4000000 in
set_option maxRecDepth 100000 in
theorem c_TF_near (l : Launch) (G : GT) (x0 : Int32)  (σ : MT) {z : Int32} (hF : f_TF_near x0 = some z) : CTI l G y_TF_near b_TF_near 2 (some .int) 1 22 [.int x0] σ z σ := by
  refine entX [(0, .int x0)] "TimeFlood" (by decide +kernel) rfl rfl (Nat.le_of_ble_eq_true rfl) (fun X hXl hr C => ?_)
  unfold f_TF_near at hF
  refine j_iload_n C d_TF_near_0 rfl 0 rfl ?_
  refine j_sipush C (v := 1024) d_TF_near_1 (by decide) ?_
  obtain ⟨r4, h4, hF⟩ := g_bind hF
  refine j_si C (As := [.int x0, .int (1024 : Int32)]) (st := []) (c_Mt_floorModI (XL X) G x0 (1024 : Int32) σ h4) m_Mt_floorModI wd_408 rfl rfl (Nat.le_of_ble_eq_true rfl) ⟨by decide, by decide⟩ d_TF_near_4 ?_
  refine j_istore_n C (lv' := [(1, .int r4), (0, .int x0)]) d_TF_near_7 rfl (by decide) rfl ?_
  refine j_iload_n C d_TF_near_8 rfl 0 rfl ?_
  refine j_sipush C (v := 512) d_TF_near_9 (by decide) ?_
  refine j_icmp_lt C 23 d_TF_near_12 (by decide) hF (fun q12 hF => ?_) (fun q12 hF => ?_)
  · refine j_iload_n C d_TF_near_23 rfl 0 rfl ?_
    cases hF
    exact j_iret (st := []) C hr d_TF_near_24 rfl rfl
  · refine j_iload_n C d_TF_near_15 rfl 0 rfl ?_
    refine j_sipush C (v := 1024) d_TF_near_16 (by decide) ?_
    refine j_isub C d_TF_near_19 ?_
    refine j_goto C 24 d_TF_near_20 (by decide) ?_
    cases hF
    exact j_iret (st := []) C hr d_TF_near_24 rfl rfl
set_option maxHeartbeats 4000000 in
set_option maxRecDepth 100000 in
theorem c_Mt_floorDivJ (l : Launch) (G : GT) (y0 : Int64) (y2 : Int64)  (σ : MT) {z : Int64} (hF : f_Mt_floorDivJ y0 y2 = some z) : CTL l G y_Mt_floorDivJ b_Mt_floorDivJ 6 (some .long) 0 0 [.long y0, .long y2] σ z σ := by
  refine entX [(0, .long y0), (2, .long y2)] "java/lang/Math" (by decide +kernel) rfl rfl (Nat.le_of_ble_eq_true rfl) (fun X hXl hr C => ?_)
  unfold f_Mt_floorDivJ at hF
  refine j_lload_n C d_Mt_floorDivJ_0 rfl 0 rfl ?_
  refine j_lload_n C d_Mt_floorDivJ_1 rfl 1 rfl ?_
  obtain ⟨q2, hF⟩ := g_if hF
  refine j_ldiv C d_Mt_floorDivJ_2 q2 ?_
  refine j_lstore C (lv' := [(4, .long (y0 / y2)), (0, .long y0), (2, .long y2)]) d_Mt_floorDivJ_3 (by decide) rfl ?_
  refine j_lload_n C d_Mt_floorDivJ_5 rfl 1 rfl ?_
  refine j_lload_n C d_Mt_floorDivJ_6 rfl 2 rfl ?_
  refine j_lxor C d_Mt_floorDivJ_7 ?_
  refine j_lconst C (v := 0) d_Mt_floorDivJ_8 (by decide) ?_
  refine j_lcmp C d_Mt_floorDivJ_9 ?_
  refine j_if_ge C 27 d_Mt_floorDivJ_10 (by decide) hF (fun q10 hF => ?_) (fun q10 hF => ?_)
  · refine j_lload C d_Mt_floorDivJ_27 0 rfl ?_
    cases hF
    exact j_lret (st := []) C hr d_Mt_floorDivJ_29 rfl rfl
  · refine j_lload C d_Mt_floorDivJ_13 0 rfl ?_
    refine j_lload_n C d_Mt_floorDivJ_15 rfl 2 rfl ?_
    refine j_lmul C d_Mt_floorDivJ_16 ?_
    refine j_lload_n C d_Mt_floorDivJ_17 rfl 1 rfl ?_
    refine j_lcmp C d_Mt_floorDivJ_18 ?_
    refine j_if_eq C 27 d_Mt_floorDivJ_19 (by decide) hF (fun q19 hF => ?_) (fun q19 hF => ?_)
    · refine j_lload C d_Mt_floorDivJ_27 0 rfl ?_
      cases hF
      exact j_lret (st := []) C hr d_Mt_floorDivJ_29 rfl rfl
    · refine j_lload C d_Mt_floorDivJ_22 0 rfl ?_
      refine j_lconst C (v := 1) d_Mt_floorDivJ_24 (by decide) ?_
      refine j_lsub C d_Mt_floorDivJ_25 ?_
      cases hF
      exact j_lret (st := []) C hr d_Mt_floorDivJ_26 rfl rfl
set_option maxHeartbeats 4000000 in
set_option maxRecDepth 100000 in
theorem c_Mt_floorModJ (l : Launch) (G : GT) (y0 : Int64) (y2 : Int64)  (σ : MT) {z : Int64} (hF : f_Mt_floorModJ y0 y2 = some z) : CTL l G y_Mt_floorModJ b_Mt_floorModJ 6 (some .long) 0 0 [.long y0, .long y2] σ z σ := by
  refine entX [(0, .long y0), (2, .long y2)] "java/lang/Math" (by decide +kernel) rfl rfl (Nat.le_of_ble_eq_true rfl) (fun X hXl hr C => ?_)
  unfold f_Mt_floorModJ at hF
  refine j_lload_n C d_Mt_floorModJ_0 rfl 0 rfl ?_
  refine j_lload_n C d_Mt_floorModJ_1 rfl 1 rfl ?_
  obtain ⟨q2, hF⟩ := g_if hF
  refine j_lrem C d_Mt_floorModJ_2 q2 ?_
  refine j_lstore C (lv' := [(4, .long (y0 - y0 / y2 * y2)), (0, .long y0), (2, .long y2)]) d_Mt_floorModJ_3 (by decide) rfl ?_
  refine j_lload_n C d_Mt_floorModJ_5 rfl 1 rfl ?_
  refine j_lload_n C d_Mt_floorModJ_6 rfl 2 rfl ?_
  refine j_lxor C d_Mt_floorModJ_7 ?_
  refine j_lconst C (v := 0) d_Mt_floorModJ_8 (by decide) ?_
  refine j_lcmp C d_Mt_floorModJ_9 ?_
  refine j_if_ge C 25 d_Mt_floorModJ_10 (by decide) hF (fun q10 hF => ?_) (fun q10 hF => ?_)
  · refine j_lload C d_Mt_floorModJ_25 0 rfl ?_
    cases hF
    exact j_lret (st := []) C hr d_Mt_floorModJ_27 rfl rfl
  · refine j_lload C d_Mt_floorModJ_13 0 rfl ?_
    refine j_lconst C (v := 0) d_Mt_floorModJ_15 (by decide) ?_
    refine j_lcmp C d_Mt_floorModJ_16 ?_
    refine j_if_eq C 25 d_Mt_floorModJ_17 (by decide) hF (fun q17 hF => ?_) (fun q17 hF => ?_)
    · refine j_lload C d_Mt_floorModJ_25 0 rfl ?_
      cases hF
      exact j_lret (st := []) C hr d_Mt_floorModJ_27 rfl rfl
    · refine j_lload C d_Mt_floorModJ_20 0 rfl ?_
      refine j_lload_n C d_Mt_floorModJ_22 rfl 2 rfl ?_
      refine j_ladd C d_Mt_floorModJ_23 ?_
      cases hF
      exact j_lret (st := []) C hr d_Mt_floorModJ_24 rfl rfl
set_option maxHeartbeats 4000000 in
set_option maxRecDepth 100000 in
theorem b_Nd_estimate_65 {X : XT} {G : GT} {z : Int32} {K230 : Int32 → Int32 → Int64 → MT → Option Int32} {σ : MT} (C : CX X G b_Nd_estimate 20 "TimeFlood$Node" 2 43) (hr : XR X (some .int)) (hK230 : ∀ (x2 : Int32) (x5 : Int32) (ys0 : Int64), K230 x2 x5 ys0 σ = some z → JW X G (QX X (PI G z σ) G) 20 230 [(2, .int x2), (5, .int x5)] [.long ys0] σ) : ∀ (n : Nat) (k0 : Nat) (x2 : Int32) (x3 : Int32) (x4 : Int32) (x5 : Int32) (y6 : Int64) (y8 : Int64) (y10 : Int64) (y12 : Int64) (x14 : Int32) (hk0 : kdf k0 = 5), f_Nd_estimate_65 K230 n k0 x2 x3 x4 x5 y6 y8 y10 y12 x14 σ = some z → JW X G (QX X (PI G z σ) G) 20 65 [(0, rf G k0), (2, .int x2), (3, .int x3), (4, .int x4), (5, .int x5), (6, .long y6), (8, .long y8), (10, .long y10), (12, .long y12), (14, .int x14)] [] σ := by
  intro n
  induction n with
  | zero =>
    intro k0 x2 x3 x4 x5 y6 y8 y10 y12 x14 hk0 hF
    rw [f_Nd_estimate_65] at hF
    cases hF
  | succ n ih =>
    intro k0 x2 x3 x4 x5 y6 y8 y10 y12 x14 hk0 hF
    rw [f_Nd_estimate_65] at hF
    refine j_iload C d_Nd_estimate_65 9 rfl ?_
    refine j_iload_n C d_Nd_estimate_67 rfl 2 rfl ?_
    refine j_icmp_ge C 153 d_Nd_estimate_68 (by decide) hF (fun q68 hF => ?_) (fun q68 hF => ?_)
    · refine j_iload_n C d_Nd_estimate_153 rfl 2 rfl ?_
      refine j_i2l C d_Nd_estimate_154 ?_
      refine j_lload C d_Nd_estimate_155 7 rfl ?_
      refine j_lmul C d_Nd_estimate_157 ?_
      refine j_lload C d_Nd_estimate_158 5 rfl ?_
      refine j_lload C d_Nd_estimate_160 6 rfl ?_
      refine j_lmul C d_Nd_estimate_162 ?_
      refine j_lsub C d_Nd_estimate_163 ?_
      refine j_lstore C (lv' := [(14, .long ((x3.toInt64 * y10) - (y6 * y8))), (0, rf G k0), (2, .int x2), (3, .int x3), (4, .int x4), (5, .int x5), (6, .long y6), (8, .long y8), (10, .long y10), (12, .long y12)]) d_Nd_estimate_164 (by decide) rfl ?_
      refine j_iload_n C d_Nd_estimate_166 rfl 3 rfl ?_
      refine j_i2l C d_Nd_estimate_167 ?_
      refine j_lload C d_Nd_estimate_168 9 rfl ?_
      refine j_lmul C d_Nd_estimate_170 ?_
      refine j_lload C d_Nd_estimate_171 6 rfl ?_
      refine j_lload C d_Nd_estimate_173 6 rfl ?_
      refine j_lmul C d_Nd_estimate_175 ?_
      refine j_lsub C d_Nd_estimate_176 ?_
      refine j_lstore C (lv' := [(16, .long ((x3.toInt64 * y12) - (y6 * y6))), (14, .long ((x3.toInt64 * y10) - (y6 * y8))), (0, rf G k0), (2, .int x2), (3, .int x3), (4, .int x4), (5, .int x5), (6, .long y6), (8, .long y8), (10, .long y10), (12, .long y12)]) d_Nd_estimate_177 (by decide) rfl ?_
      refine j_lload C d_Nd_estimate_179 0 rfl ?_
      refine j_lconst C (v := 0) d_Nd_estimate_181 (by decide) ?_
      refine j_lcmp C d_Nd_estimate_182 ?_
      refine j_if_ne C 196 d_Nd_estimate_183 (by decide) hF (fun q183 hF => ?_) (fun q183 hF => ?_)
      · refine j_lload C d_Nd_estimate_196 8 rfl ?_
        refine j_lload C d_Nd_estimate_198 0 rfl ?_
        refine j_lmul C d_Nd_estimate_200 ?_
        refine j_lload C d_Nd_estimate_201 1 rfl ?_
        refine j_lload C d_Nd_estimate_203 7 rfl ?_
        refine j_lmul C d_Nd_estimate_205 ?_
        refine j_lsub C d_Nd_estimate_206 ?_
        refine j_iload_n C d_Nd_estimate_207 rfl 4 rfl ?_
        refine j_i2l C d_Nd_estimate_208 ?_
        refine j_lload C d_Nd_estimate_209 1 rfl ?_
        refine j_lmul C d_Nd_estimate_211 ?_
        refine j_iload_n C d_Nd_estimate_212 rfl 3 rfl ?_
        refine j_iload C d_Nd_estimate_213 5 rfl ?_
        refine j_isub C d_Nd_estimate_215 ?_
        obtain ⟨r216, h216, hF⟩ := g_bind hF
        refine j_ni C (As := [.int (x2 - x4)]) (st := [.long (x3.toInt64 * ((x3.toInt64 * y10) - (y6 * y8))), .long ((y8 * ((x3.toInt64 * y12) - (y6 * y6))) - (((x3.toInt64 * y10) - (y6 * y8)) * y6))]) (c_TF_near (XL X) G (x2 - x4) σ h216) m_TF_near (fun U h => h.1) rfl rfl (Nat.le_of_ble_eq_true rfl) ⟨by decide, by decide⟩ d_Nd_estimate_216 ?_
        refine j_i2l C d_Nd_estimate_219 ?_
        refine j_lmul C d_Nd_estimate_220 ?_
        refine j_ladd C d_Nd_estimate_221 ?_
        refine j_iload_n C d_Nd_estimate_222 rfl 4 rfl ?_
        refine j_i2l C d_Nd_estimate_223 ?_
        refine j_lload C d_Nd_estimate_224 0 rfl ?_
        refine j_lmul C d_Nd_estimate_226 ?_
        obtain ⟨r227, h227, hF⟩ := g_bind hF
        refine j_sl C (As := [.long (((y8 * ((x3.toInt64 * y12) - (y6 * y6))) - (((x3.toInt64 * y10) - (y6 * y8)) * y6)) + ((x3.toInt64 * ((x3.toInt64 * y10) - (y6 * y8))) * r216.toInt64)), .long (x3.toInt64 * ((x3.toInt64 * y12) - (y6 * y6)))]) (st := []) (c_Mt_floorDivJ (XL X) G (((y8 * ((x3.toInt64 * y12) - (y6 * y6))) - (((x3.toInt64 * y10) - (y6 * y8)) * y6)) + ((x3.toInt64 * ((x3.toInt64 * y10) - (y6 * y8))) * r216.toInt64)) (x3.toInt64 * ((x3.toInt64 * y12) - (y6 * y6))) σ h227) m_Mt_floorDivJ wd_409 rfl rfl (Nat.le_of_ble_eq_true rfl) ⟨by decide, by decide⟩ d_Nd_estimate_227 ?_
        refine j_sub C [(2, .int x2), (5, .int x5)] [3, 6] rfl ?_
        exact hK230 x2 x5 r227 hF
      · refine j_lload C d_Nd_estimate_186 8 rfl ?_
        refine j_iload_n C d_Nd_estimate_188 rfl 4 rfl ?_
        refine j_i2l C d_Nd_estimate_189 ?_
        obtain ⟨r190, h190, hF⟩ := g_bind hF
        refine j_sl C (As := [.long y8, .long x3.toInt64]) (st := []) (c_Mt_floorDivJ (XL X) G y8 x3.toInt64 σ h190) m_Mt_floorDivJ wd_409 rfl rfl (Nat.le_of_ble_eq_true rfl) ⟨by decide, by decide⟩ d_Nd_estimate_190 ?_
        refine j_goto C 230 d_Nd_estimate_193 (by decide) ?_
        refine j_sub C [(2, .int x2), (5, .int x5)] [3, 6] rfl ?_
        exact hK230 x2 x5 r190 hF
    · refine j_aload_n C d_Nd_estimate_71 rfl 0 rfl ?_
      refine g_Nd_clocks C hk0 wd_160 d_Nd_estimate_72 ?_
      refine j_iload C d_Nd_estimate_75 9 rfl ?_
      obtain ⟨q77, hF⟩ := g_if hF
      refine j_iald C (kd_Nd_clocks hk0) (by decide) rfl (inb_v q77) d_Nd_estimate_77 ?_
      refine j_iload C d_Nd_estimate_78 3 rfl ?_
      refine j_isub C d_Nd_estimate_80 ?_
      obtain ⟨r81, h81, hF⟩ := g_bind hF
      refine j_ni C (As := [.int ((σ.1 (k0 + 1) x14.toNatClampNeg) - x4)]) (st := []) (c_TF_near (XL X) G ((σ.1 (k0 + 1) x14.toNatClampNeg) - x4) σ h81) m_TF_near (fun U h => h.1) rfl rfl (Nat.le_of_ble_eq_true rfl) ⟨by decide, by decide⟩ d_Nd_estimate_81 ?_
      refine j_istore C (lv' := [(15, .int r81), (0, rf G k0), (2, .int x2), (3, .int x3), (4, .int x4), (5, .int x5), (6, .long y6), (8, .long y8), (10, .long y10), (12, .long y12), (14, .int x14)]) d_Nd_estimate_84 (by decide) rfl ?_
      refine j_aload_n C d_Nd_estimate_86 rfl 1 rfl ?_
      refine g_Nd_marks C hk0 wd_161 d_Nd_estimate_87 ?_
      refine j_iload C d_Nd_estimate_90 10 rfl ?_
      obtain ⟨q92, hF⟩ := g_if hF
      refine j_iald C (kd_Nd_marks hk0) (by decide) rfl (inb_v q92) d_Nd_estimate_92 ?_
      refine j_aload_n C d_Nd_estimate_93 rfl 1 rfl ?_
      refine g_Nd_clocks C hk0 wd_160 d_Nd_estimate_94 ?_
      refine j_iload C d_Nd_estimate_97 10 rfl ?_
      obtain ⟨q99, hF⟩ := g_if hF
      refine j_iald C (kd_Nd_clocks hk0) (by decide) rfl (inb_v q99) d_Nd_estimate_99 ?_
      refine j_isub C d_Nd_estimate_100 ?_
      refine j_iload C d_Nd_estimate_101 5 rfl ?_
      refine j_isub C d_Nd_estimate_103 ?_
      obtain ⟨r104, h104, hF⟩ := g_bind hF
      refine j_ni C (As := [.int (((σ.1 (k0 + 2) x14.toNatClampNeg) - (σ.1 (k0 + 1) x14.toNatClampNeg)) - x5)]) (st := []) (c_TF_near (XL X) G (((σ.1 (k0 + 2) x14.toNatClampNeg) - (σ.1 (k0 + 1) x14.toNatClampNeg)) - x5) σ h104) m_TF_near (fun U h => h.1) rfl rfl (Nat.le_of_ble_eq_true rfl) ⟨by decide, by decide⟩ d_Nd_estimate_104 ?_
      refine j_istore C (lv' := [(16, .int r104), (15, .int r81), (0, rf G k0), (2, .int x2), (3, .int x3), (4, .int x4), (5, .int x5), (6, .long y6), (8, .long y8), (10, .long y10), (12, .long y12), (14, .int x14)]) d_Nd_estimate_107 (by decide) rfl ?_
      refine j_lload C d_Nd_estimate_109 7 rfl ?_
      refine j_iload C d_Nd_estimate_111 1 rfl ?_
      refine j_i2l C d_Nd_estimate_113 ?_
      refine j_ladd C d_Nd_estimate_114 ?_
      refine j_lstore C (lv' := [(6, .long (y6 + r81.toInt64)), (16, .int r104), (15, .int r81), (0, rf G k0), (2, .int x2), (3, .int x3), (4, .int x4), (5, .int x5), (8, .long y8), (10, .long y10), (12, .long y12), (14, .int x14)]) d_Nd_estimate_115 (by decide) rfl ?_
      refine j_lload C d_Nd_estimate_117 8 rfl ?_
      refine j_iload C d_Nd_estimate_119 1 rfl ?_
      refine j_i2l C d_Nd_estimate_121 ?_
      refine j_ladd C d_Nd_estimate_122 ?_
      refine j_lstore C (lv' := [(8, .long (y8 + r104.toInt64)), (6, .long (y6 + r81.toInt64)), (16, .int r104), (15, .int r81), (0, rf G k0), (2, .int x2), (3, .int x3), (4, .int x4), (5, .int x5), (10, .long y10), (12, .long y12), (14, .int x14)]) d_Nd_estimate_123 (by decide) rfl ?_
      refine j_lload C d_Nd_estimate_125 9 rfl ?_
      refine j_iload C d_Nd_estimate_127 3 rfl ?_
      refine j_iload C d_Nd_estimate_129 2 rfl ?_
      refine j_imul C d_Nd_estimate_131 ?_
      refine j_i2l C d_Nd_estimate_132 ?_
      refine j_ladd C d_Nd_estimate_133 ?_
      refine j_lstore C (lv' := [(10, .long (y10 + ((r81 * r104).toInt64))), (8, .long (y8 + r104.toInt64)), (6, .long (y6 + r81.toInt64)), (16, .int r104), (15, .int r81), (0, rf G k0), (2, .int x2), (3, .int x3), (4, .int x4), (5, .int x5), (12, .long y12), (14, .int x14)]) d_Nd_estimate_134 (by decide) rfl ?_
      refine j_lload C d_Nd_estimate_136 10 rfl ?_
      refine j_iload C d_Nd_estimate_138 4 rfl ?_
      refine j_iload C d_Nd_estimate_140 4 rfl ?_
      refine j_imul C d_Nd_estimate_142 ?_
      refine j_i2l C d_Nd_estimate_143 ?_
      refine j_ladd C d_Nd_estimate_144 ?_
      refine j_lstore C (lv' := [(12, .long (y12 + ((r81 * r81).toInt64))), (10, .long (y10 + ((r81 * r104).toInt64))), (8, .long (y8 + r104.toInt64)), (6, .long (y6 + r81.toInt64)), (16, .int r104), (15, .int r81), (0, rf G k0), (2, .int x2), (3, .int x3), (4, .int x4), (5, .int x5), (14, .int x14)]) d_Nd_estimate_145 (by decide) rfl ?_
      refine j_iinc C (v := x14 + (1 : Int32)) (lv' := [(14, .int (x14 + (1 : Int32))), (12, .long (y12 + ((r81 * r81).toInt64))), (10, .long (y10 + ((r81 * r104).toInt64))), (8, .long (y8 + r104.toInt64)), (6, .long (y6 + r81.toInt64)), (16, .int r104), (15, .int r81), (0, rf G k0), (2, .int x2), (3, .int x3), (4, .int x4), (5, .int x5)]) d_Nd_estimate_147 11 rfl rfl (by decide) rfl ?_
      refine j_goto C 65 d_Nd_estimate_150 (by decide) ?_
      refine j_sub C [(0, rf G k0), (2, .int x2), (3, .int x3), (4, .int x4), (5, .int x5), (6, .long (y6 + r81.toInt64)), (8, .long (y8 + r104.toInt64)), (10, .long (y10 + ((r81 * r104).toInt64))), (12, .long (y12 + ((r81 * r81).toInt64))), (14, .int (x14 + (1 : Int32)))] [7, 8, 9, 10, 11, 4, 3, 2, 1, 0] rfl ?_
      exact ih k0 x2 x3 x4 x5 (y6 + r81.toInt64) (y8 + r104.toInt64) (y10 + ((r81 * r104).toInt64)) (y12 + ((r81 * r81).toInt64)) (x14 + (1 : Int32)) hk0 hF
set_option maxHeartbeats 4000000 in
set_option maxRecDepth 100000 in
theorem b_Nd_estimate_230 {X : XT} {G : GT} {z : Int32} {σ : MT} (C : CX X G b_Nd_estimate 20 "TimeFlood$Node" 2 43) (hr : XR X (some .int)) (x2 : Int32) (x5 : Int32) (ys0 : Int64) (hF : f_Nd_estimate_230 x2 x5 ys0 σ = some z) : JW X G (QX X (PI G z σ) G) 20 230 [(2, .int x2), (5, .int x5)] [.long ys0] σ := by
  unfold f_Nd_estimate_230 at hF
  refine j_lstore C (lv' := [(18, .long ys0), (2, .int x2), (5, .int x5)]) d_Nd_estimate_230 (by decide) rfl ?_
  refine j_iload_n C d_Nd_estimate_232 rfl 1 rfl ?_
  refine j_iload C d_Nd_estimate_233 2 rfl ?_
  refine j_iadd C d_Nd_estimate_235 ?_
  refine j_i2l C d_Nd_estimate_236 ?_
  refine j_lload C d_Nd_estimate_237 0 rfl ?_
  refine j_ladd C d_Nd_estimate_239 ?_
  refine j_ldc2 C wd_412 d_Nd_estimate_240 ?_
  obtain ⟨r243, h243, hF⟩ := g_bind hF
  refine j_sl C (As := [.long (((x2 + x5).toInt64) + ys0), .long (1024 : Int64)]) (st := []) (c_Mt_floorModJ (XL X) G (((x2 + x5).toInt64) + ys0) (1024 : Int64) σ h243) m_Mt_floorModJ wd_413 rfl rfl (Nat.le_of_ble_eq_true rfl) ⟨by decide, by decide⟩ d_Nd_estimate_243 ?_
  refine j_l2i C d_Nd_estimate_246 ?_
  cases hF
  exact j_iret (st := []) C hr d_Nd_estimate_247 rfl rfl
set_option maxHeartbeats 4000000 in
set_option maxRecDepth 100000 in
theorem b_Nd_estimate_50 {X : XT} {G : GT} {z : Int32} {σ : MT} (C : CX X G b_Nd_estimate 20 "TimeFlood$Node" 2 43) (hr : XR X (some .int)) (k0 : Nat) (x2 : Int32) (x3 : Int32) (x4 : Int32) (x5 : Int32) (hk0 : kdf k0 = 5) (hF : f_Nd_estimate_50 k0 x2 x3 x4 x5 σ = some z) : JW X G (QX X (PI G z σ) G) 20 50 [(0, rf G k0), (2, .int x2), (3, .int x3), (4, .int x4), (5, .int x5)] [] σ := by
  unfold f_Nd_estimate_50 at hF
  refine j_lconst C (v := 0) d_Nd_estimate_50 (by decide) ?_
  refine j_lstore C (lv' := [(6, .long (0 : Int64)), (0, rf G k0), (2, .int x2), (3, .int x3), (4, .int x4), (5, .int x5)]) d_Nd_estimate_51 (by decide) rfl ?_
  refine j_lconst C (v := 0) d_Nd_estimate_53 (by decide) ?_
  refine j_lstore C (lv' := [(8, .long (0 : Int64)), (6, .long (0 : Int64)), (0, rf G k0), (2, .int x2), (3, .int x3), (4, .int x4), (5, .int x5)]) d_Nd_estimate_54 (by decide) rfl ?_
  refine j_lconst C (v := 0) d_Nd_estimate_56 (by decide) ?_
  refine j_lstore C (lv' := [(10, .long (0 : Int64)), (8, .long (0 : Int64)), (6, .long (0 : Int64)), (0, rf G k0), (2, .int x2), (3, .int x3), (4, .int x4), (5, .int x5)]) d_Nd_estimate_57 (by decide) rfl ?_
  refine j_lconst C (v := 0) d_Nd_estimate_59 (by decide) ?_
  refine j_lstore C (lv' := [(12, .long (0 : Int64)), (10, .long (0 : Int64)), (8, .long (0 : Int64)), (6, .long (0 : Int64)), (0, rf G k0), (2, .int x2), (3, .int x3), (4, .int x4), (5, .int x5)]) d_Nd_estimate_60 (by decide) rfl ?_
  refine j_iconst C (v := 0) d_Nd_estimate_62 (by decide) ?_
  refine j_istore C (lv' := [(14, .int (0 : Int32)), (12, .long (0 : Int64)), (10, .long (0 : Int64)), (8, .long (0 : Int64)), (6, .long (0 : Int64)), (0, rf G k0), (2, .int x2), (3, .int x3), (4, .int x4), (5, .int x5)]) d_Nd_estimate_63 (by decide) rfl ?_
  refine j_sub C [(0, rf G k0), (2, .int x2), (3, .int x3), (4, .int x4), (5, .int x5), (6, .long (0 : Int64)), (8, .long (0 : Int64)), (10, .long (0 : Int64)), (12, .long (0 : Int64)), (14, .int (0 : Int32))] [5, 6, 7, 8, 9, 4, 3, 2, 1, 0] rfl ?_
  exact b_Nd_estimate_65 C hr (b_Nd_estimate_230 C hr) 1100 k0 x2 x3 x4 x5 (0 : Int64) (0 : Int64) (0 : Int64) (0 : Int64) (0 : Int32) hk0 hF
set_option maxHeartbeats 4000000 in
set_option maxRecDepth 100000 in
theorem c_Nd_estimate (l : Launch) (G : GT) (k0 : Nat) (x1 : Int32) (x2 : Int32) (σ : MT) (hk0 : kdf k0 = 5) {z : Int32} (hF : f_Nd_estimate k0 x1 x2 σ = some z) : CTI l G y_Nd_estimate b_Nd_estimate 20 (some .int) 2 43 [rf G k0, .int x1, .int x2] σ z σ := by
  refine entX [(0, rf G k0), (1, .int x1), (2, .int x2)] "TimeFlood$Node" (by decide +kernel) rfl rfl (Nat.le_of_ble_eq_true rfl) (fun X hXl hr C => ?_)
  unfold f_Nd_estimate at hF
  refine j_aload_n C d_Nd_estimate_0 rfl 0 rfl ?_
  refine g_Nd_root C hk0 wd_148 d_Nd_estimate_1 ?_
  refine j_iload_n C d_Nd_estimate_4 rfl 1 rfl ?_
  refine j_icmp_ne C 10 d_Nd_estimate_5 (by decide) hF (fun q5 hF => ?_) (fun q5 hF => ?_)
  · refine j_aload_n C d_Nd_estimate_10 rfl 0 rfl ?_
    refine g_Nd_stampCount C hk0 wd_157 d_Nd_estimate_11 ?_
    refine j_iconst C (v := 4) d_Nd_estimate_14 (by decide) ?_
    obtain ⟨r15, h15, hF⟩ := g_bind hF
    refine j_si C (As := [.int (σ.1 k0 6), .int (4 : Int32)]) (st := []) (c_Mt_min (XL X) G (σ.1 k0 6) (4 : Int32) σ h15) m_Mt_min wd_404 rfl rfl (Nat.le_of_ble_eq_true rfl) ⟨by decide, by decide⟩ d_Nd_estimate_15 ?_
    refine j_istore_n C (lv' := [(3, .int r15), (0, rf G k0), (1, .int x1), (2, .int x2)]) d_Nd_estimate_18 rfl (by decide) rfl ?_
    refine j_iload_n C d_Nd_estimate_19 rfl 0 rfl ?_
    refine j_iconst C (v := 1) d_Nd_estimate_20 (by decide) ?_
    refine j_icmp_ge C 27 d_Nd_estimate_21 (by decide) hF (fun q21 hF => ?_) (fun q21 hF => ?_)
    · refine j_aload_n C d_Nd_estimate_27 rfl 1 rfl ?_
      refine g_Nd_clocks C hk0 wd_160 d_Nd_estimate_28 ?_
      refine j_iload_n C d_Nd_estimate_31 rfl 0 rfl ?_
      refine j_iconst C (v := 1) d_Nd_estimate_32 (by decide) ?_
      refine j_isub C d_Nd_estimate_33 ?_
      obtain ⟨q34, hF⟩ := g_if hF
      refine j_iald C (kd_Nd_clocks hk0) (by decide) rfl (inb_v q34) d_Nd_estimate_34 ?_
      refine j_istore C (lv' := [(4, .int (σ.1 (k0 + 1) (r15 - (1 : Int32)).toNatClampNeg)), (3, .int r15), (0, rf G k0), (1, .int x1), (2, .int x2)]) d_Nd_estimate_35 (by decide) rfl ?_
      refine j_aload_n C d_Nd_estimate_37 rfl 2 rfl ?_
      refine g_Nd_marks C hk0 wd_161 d_Nd_estimate_38 ?_
      refine j_iload_n C d_Nd_estimate_41 rfl 1 rfl ?_
      refine j_iconst C (v := 1) d_Nd_estimate_42 (by decide) ?_
      refine j_isub C d_Nd_estimate_43 ?_
      obtain ⟨q44, hF⟩ := g_if hF
      refine j_iald C (kd_Nd_marks hk0) (by decide) rfl (inb_v q44) d_Nd_estimate_44 ?_
      refine j_iload C d_Nd_estimate_45 0 rfl ?_
      refine j_isub C d_Nd_estimate_47 ?_
      refine j_istore C (lv' := [(5, .int ((σ.1 (k0 + 2) (r15 - (1 : Int32)).toNatClampNeg) - (σ.1 (k0 + 1) (r15 - (1 : Int32)).toNatClampNeg))), (4, .int (σ.1 (k0 + 1) (r15 - (1 : Int32)).toNatClampNeg)), (3, .int r15), (0, rf G k0), (1, .int x1), (2, .int x2)]) d_Nd_estimate_48 (by decide) rfl ?_
      refine j_sub C [(0, rf G k0), (2, .int x2), (3, .int r15), (4, .int (σ.1 (k0 + 1) (r15 - (1 : Int32)).toNatClampNeg)), (5, .int ((σ.1 (k0 + 2) (r15 - (1 : Int32)).toNatClampNeg) - (σ.1 (k0 + 1) (r15 - (1 : Int32)).toNatClampNeg)))] [3, 5, 2, 1, 0] rfl ?_
      exact b_Nd_estimate_50 C hr k0 x2 r15 (σ.1 (k0 + 1) (r15 - (1 : Int32)).toNatClampNeg) ((σ.1 (k0 + 2) (r15 - (1 : Int32)).toNatClampNeg) - (σ.1 (k0 + 1) (r15 - (1 : Int32)).toNatClampNeg)) hk0 hF
    · refine j_bipush C (v := -9) d_Nd_estimate_24 (by decide) ?_
      cases hF
      exact j_iret (st := []) C hr d_Nd_estimate_26 rfl rfl
  · refine j_iload_n C d_Nd_estimate_8 rfl 2 rfl ?_
    cases hF
    exact j_iret (st := []) C hr d_Nd_estimate_9 rfl rfl
