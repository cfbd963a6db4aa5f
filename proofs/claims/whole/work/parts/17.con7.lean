set_option maxHeartbeats 4000000 in
set_option maxRecDepth 100000 in
theorem c_M_seed (l : Launch) (G : GT) (y1 : Int64) (σ : MT)  {z : (Int64 × MT)} (hF : f_M_seed y1 σ = some z) : CTL l G y_M_seed b_M_seed 5 (some .long) 0 0 [rf G 38, .long y1] σ z.1 z.2 := by
  refine entX [(0, rf G 38), (1, .long y1)] "TimeFloodModel" (by decide +kernel) rfl rfl (Nat.le_of_ble_eq_true rfl) (fun X hXl hr C => ?_)
  unfold f_M_seed at hF
  refine j_aload_n C d_M_seed_0 rfl 0 rfl ?_
  refine g_M_seed C (rfl : kdf 38 = 8) wd_684 d_M_seed_1 ?_
  refine j_lstore_n C (lv' := [(3, .long (σ.2 38)), (0, rf G 38), (1, .long y1)]) d_M_seed_4 rfl (by decide) rfl ?_
  refine j_aload_n C d_M_seed_5 rfl 1 rfl ?_
  refine j_lload_n C d_M_seed_6 rfl 2 rfl ?_
  refine p_M_seed C (rfl : kdf 38 = 8) wd_684 d_M_seed_7 ?_
  refine j_lload_n C d_M_seed_10 rfl 0 rfl ?_
  cases hF
  exact j_lret (st := []) C hr d_M_seed_11 rfl rfl
set_option maxHeartbeats 4000000 in
set_option maxRecDepth 100000 in
theorem b_M_drawn_109 {X : XT} {G : GT} {z : (Int32 × MT)} {K30 : Int32 → Int32 → Int32 → MT → Option (Int32 × MT)} (C : CX X G b_M_drawn 6 "TimeFloodModel" 6 159) (hr : XR X (some .int)) (hK30 : ∀ (x1 : Int32) (x2 : Int32) (x3 : Int32) (σ : MT), K30 x1 x2 x3 σ = some z → JW X G (QX X (PI G z.1 z.2) G) 6 30 [(0, rf G 38), (1, .int x1), (2, .int x2), (3, .int x3)] [] σ) (x1 : Int32) (x2 : Int32) (x3 : Int32) (σ : MT) (hF : f_M_drawn_109 K30 x1 x2 x3 σ = some z) : JW X G (QX X (PI G z.1 z.2) G) 6 109 [(0, rf G 38), (1, .int x1), (2, .int x2), (3, .int x3)] [] σ := by
  unfold f_M_drawn_109 at hF
  refine j_aload_n C d_M_drawn_109 rfl 0 rfl ?_
  refine j_aload_n C d_M_drawn_110 rfl 0 rfl ?_
  refine g_M_trial C (rfl : kdf 38 = 8) wd_674 d_M_drawn_111 ?_
  obtain ⟨r114, h114, hF⟩ := g_bind hF
  refine j_vv C (As := [rf G 44]) (st := []) (c_M_goOn (XL X) G 44 σ (rfl : kdf 44 = 15) h114) (rfl : kdf 38 = 8) (by decide) rfl rfl m_M_goOn wd_926 rfl rfl (Nat.le_of_ble_eq_true rfl) ⟨by decide, by decide⟩ d_M_drawn_114 ?_
  refine j_iload_n C d_M_drawn_117 rfl 2 rfl ?_
  refine j_aload_n C d_M_drawn_118 rfl 0 rfl ?_
  refine j_aload_n C d_M_drawn_119 rfl 0 rfl ?_
  refine g_M_trial C (rfl : kdf 38 = 8) wd_674 d_M_drawn_120 ?_
  obtain ⟨r123, h123, hF⟩ := g_bind hF
  refine j_vi C (As := [rf G 44]) (st := [.int x2]) (c_M_inTime (XL X) G 44 r114 (rfl : kdf 44 = 15) h123) (rfl : kdf 38 = 8) (by decide) rfl rfl m_M_inTime wd_852 rfl rfl (Nat.le_of_ble_eq_true rfl) ⟨by decide, by decide⟩ d_M_drawn_123 ?_
  obtain ⟨r126, h126, hF⟩ := g_bind hF
  refine j_si C (As := [.int r123]) (st := [.int x2]) (c_M_ones (XL X) G r123 r114 h126) m_M_ones wd_955 rfl rfl (Nat.le_of_ble_eq_true rfl) ⟨by decide, by decide⟩ d_M_drawn_126 ?_
  refine j_iadd C d_M_drawn_129 ?_
  refine j_istore_n C (lv' := [(2, .int (x2 + r126)), (0, rf G 38), (1, .int x1), (3, .int x3)]) d_M_drawn_130 rfl (by decide) rfl ?_
  refine j_iinc C (v := x3 + (1 : Int32)) (lv' := [(3, .int (x3 + (1 : Int32))), (2, .int (x2 + r126)), (0, rf G 38), (1, .int x1)]) d_M_drawn_131 3 rfl rfl (by decide) rfl ?_
  refine j_goto C 30 d_M_drawn_134 (by decide) ?_
  refine j_sub C [(0, rf G 38), (1, .int x1), (2, .int (x2 + r126)), (3, .int (x3 + (1 : Int32)))] [2, 3, 1, 0] rfl ?_
  exact hK30 x1 (x2 + r126) (x3 + (1 : Int32)) r114 hF
set_option maxHeartbeats 4000000 in
set_option maxRecDepth 100000 in
theorem b_M_drawn_61 {X : XT} {G : GT} {z : (Int32 × MT)} {K30 : Int32 → Int32 → Int32 → MT → Option (Int32 × MT)} (C : CX X G b_M_drawn 6 "TimeFloodModel" 6 159) (hr : XR X (some .int)) (hK30 : ∀ (x1 : Int32) (x2 : Int32) (x3 : Int32) (σ : MT), K30 x1 x2 x3 σ = some z → JW X G (QX X (PI G z.1 z.2) G) 6 30 [(0, rf G 38), (1, .int x1), (2, .int x2), (3, .int x3)] [] σ) (x1 : Int32) (x2 : Int32) (x3 : Int32) (x4 : Int32) (σ : MT) (hF : f_M_drawn_61 K30 x1 x2 x3 x4 σ = some z) : JW X G (QX X (PI G z.1 z.2) G) 6 61 [(0, rf G 38), (1, .int x1), (2, .int x2), (3, .int x3), (4, .int x4)] [] σ := by
  unfold f_M_drawn_61 at hF
  refine j_aload_n C d_M_drawn_61 rfl 0 rfl ?_
  refine g_M_links C (rfl : kdf 38 = 8) wd_670 d_M_drawn_62 ?_
  refine j_if_le C 109 d_M_drawn_65 (by decide) hF (fun q65 hF => ?_) (fun q65 hF => ?_)
  · refine j_sub C [(0, rf G 38), (1, .int x1), (2, .int x2), (3, .int x3)] [0, 1, 2, 3] rfl ?_
    exact b_M_drawn_109 C hr hK30 x1 x2 x3 σ hF
  · refine j_iload C d_M_drawn_68 4 rfl ?_
    refine j_bipush C (v := 16) d_M_drawn_70 (by decide) ?_
    refine j_idiv C d_M_drawn_72 (by decide) ?_
    refine j_iconst C (v := 2) d_M_drawn_73 (by decide) ?_
    refine j_irem C d_M_drawn_74 (by decide) ?_
    refine j_if_ne C 109 d_M_drawn_75 (by decide) hF (fun q75 hF => ?_) (fun q75 hF => ?_)
    · refine j_sub C [(0, rf G 38), (1, .int x1), (2, .int x2), (3, .int x3)] [0, 1, 2, 3] rfl ?_
      exact b_M_drawn_109 C hr hK30 x1 x2 x3 σ hF
    · refine j_iload C d_M_drawn_78 4 rfl ?_
      refine j_aload_n C d_M_drawn_80 rfl 0 rfl ?_
      refine g_M_links C (rfl : kdf 38 = 8) wd_670 d_M_drawn_81 ?_
      obtain ⟨q84, hF⟩ := g_if hF
      refine j_irem C d_M_drawn_84 q84 ?_
      refine j_istore C (lv' := [(5, .int (x4 - x4 / (σ.1 38 7) * (σ.1 38 7))), (0, rf G 38), (1, .int x1), (2, .int x2), (3, .int x3), (4, .int x4)]) d_M_drawn_85 (by decide) rfl ?_
      refine j_aload_n C d_M_drawn_87 rfl 1 rfl ?_
      refine g_M_trial C (rfl : kdf 38 = 8) wd_674 d_M_drawn_88 ?_
      refine j_bipush C (v := 95) d_M_drawn_91 (by decide) ?_
      refine j_iload C d_M_drawn_93 0 rfl ?_
      refine j_iadd C d_M_drawn_95 ?_
      refine j_iconst C (v := 1) d_M_drawn_96 (by decide) ?_
      refine j_aload_n C d_M_drawn_97 rfl 1 rfl ?_
      refine g_M_trial C (rfl : kdf 38 = 8) wd_674 d_M_drawn_98 ?_
      refine j_bipush C (v := 95) d_M_drawn_101 (by decide) ?_
      refine j_iload C d_M_drawn_103 0 rfl ?_
      refine j_iadd C d_M_drawn_105 ?_
      obtain ⟨q106, hF⟩ := g_if hF
      refine j_iald C (rfl : kdf 44 = 15) (by decide) rfl (inb_v q106) d_M_drawn_106 ?_
      refine j_isub C d_M_drawn_107 ?_
      obtain ⟨q108, hF⟩ := g_if hF
      refine j_iast C (rfl : kdf 44 = 15) (by decide) (fun _ => rfl) (inb_v q108) d_M_drawn_108 ?_
      refine j_sub C [(0, rf G 38), (1, .int x1), (2, .int x2), (3, .int x3)] [1, 2, 3, 4] rfl ?_
      exact b_M_drawn_109 C hr hK30 x1 x2 x3 (sI σ 44 ((95 : Int32) + (x4 - x4 / (σ.1 38 7) * (σ.1 38 7))).toNatClampNeg ((1 : Int32) - (σ.1 44 ((95 : Int32) + (x4 - x4 / (σ.1 38 7) * (σ.1 38 7))).toNatClampNeg))) hF
set_option maxHeartbeats 4000000 in
set_option maxRecDepth 100000 in
theorem b_M_drawn_51 {X : XT} {G : GT} {z : (Int32 × MT)} {K30 : Int32 → Int32 → Int32 → MT → Option (Int32 × MT)} (C : CX X G b_M_drawn 6 "TimeFloodModel" 6 159) (hr : XR X (some .int)) (hK30 : ∀ (x1 : Int32) (x2 : Int32) (x3 : Int32) (σ : MT), K30 x1 x2 x3 σ = some z → JW X G (QX X (PI G z.1 z.2) G) 6 30 [(0, rf G 38), (1, .int x1), (2, .int x2), (3, .int x3)] [] σ) (x1 : Int32) (x2 : Int32) (x3 : Int32) (σ : MT) (hF : f_M_drawn_51 K30 x1 x2 x3 σ = some z) : JW X G (QX X (PI G z.1 z.2) G) 6 51 [(0, rf G 38), (1, .int x1), (2, .int x2), (3, .int x3)] [] σ := by
  unfold f_M_drawn_51 at hF
  refine j_aload_n C d_M_drawn_51 rfl 0 rfl ?_
  refine g_M_seed C (rfl : kdf 38 = 8) wd_684 d_M_drawn_52 ?_
  refine j_bipush C (v := 33) d_M_drawn_55 (by decide) ?_
  refine j_lushr C d_M_drawn_57 ?_
  refine j_l2i C d_M_drawn_58 ?_
  refine j_istore C (lv' := [(4, .int ((((σ.2 38).toUInt64 >>> ((33 : Int32).toInt64.toUInt64 &&& Int64.toUInt64 63)).toInt64).toInt32)), (0, rf G 38), (1, .int x1), (2, .int x2), (3, .int x3)]) d_M_drawn_59 (by decide) rfl ?_
  refine j_sub C [(0, rf G 38), (1, .int x1), (2, .int x2), (3, .int x3), (4, .int ((((σ.2 38).toUInt64 >>> ((33 : Int32).toInt64.toUInt64 &&& Int64.toUInt64 63)).toInt64).toInt32))] [1, 2, 3, 4, 0] rfl ?_
  exact b_M_drawn_61 C hr hK30 x1 x2 x3 ((((σ.2 38).toUInt64 >>> ((33 : Int32).toInt64.toUInt64 &&& Int64.toUInt64 63)).toInt64).toInt32) σ hF
set_option maxHeartbeats 4000000 in
set_option maxRecDepth 100000 in
theorem b_M_drawn_30 {X : XT} {G : GT} {z : (Int32 × MT)} (C : CX X G b_M_drawn 6 "TimeFloodModel" 6 159) (hr : XR X (some .int)) : ∀ (n : Nat) (x1 : Int32) (x2 : Int32) (x3 : Int32) (σ : MT), f_M_drawn_30 n x1 x2 x3 σ = some z → JW X G (QX X (PI G z.1 z.2) G) 6 30 [(0, rf G 38), (1, .int x1), (2, .int x2), (3, .int x3)] [] σ := by
  intro n
  induction n with
  | zero =>
    intro x1 x2 x3 σ hF
    rw [f_M_drawn_30] at hF
    cases hF
  | succ n ih =>
    intro x1 x2 x3 σ hF
    rw [f_M_drawn_30] at hF
    refine j_iload_n C d_M_drawn_30 rfl 3 rfl ?_
    refine j_iload_n C d_M_drawn_31 rfl 1 rfl ?_
    refine j_icmp_ge C 137 d_M_drawn_32 (by decide) hF (fun q32 hF => ?_) (fun q32 hF => ?_)
    · refine j_iload_n C d_M_drawn_137 rfl 2 rfl ?_
      cases hF
      exact j_iret (st := []) C hr d_M_drawn_138 rfl rfl
    · refine j_aload_n C d_M_drawn_35 rfl 0 rfl ?_
      refine j_aload_n C d_M_drawn_36 rfl 0 rfl ?_
      refine g_M_seed C (rfl : kdf 38 = 8) wd_684 d_M_drawn_37 ?_
      refine j_ldc2 C wd_1055 d_M_drawn_40 ?_
      refine j_lmul C d_M_drawn_43 ?_
      refine j_ldc2 C wd_1056 d_M_drawn_44 ?_
      refine j_ladd C d_M_drawn_47 ?_
      refine p_M_seed C (rfl : kdf 38 = 8) wd_684 d_M_drawn_48 ?_
      exact b_M_drawn_51 C hr ih x1 x2 x3 (sL σ 38 (((σ.2 38) * (6364136223846793005 : Int64)) + (1442695040888963407 : Int64))) hF
set_option maxHeartbeats 4000000 in
set_option maxRecDepth 100000 in
theorem c_M_drawn (l : Launch) (G : GT) (x1 : Int32) (σ : MT)  {z : (Int32 × MT)} (hF : f_M_drawn x1 σ = some z) : CTI l G y_M_drawn b_M_drawn 6 (some .int) 6 159 [rf G 38, .int x1] σ z.1 z.2 := by
  refine entX [(0, rf G 38), (1, .int x1)] "TimeFloodModel" (by decide +kernel) rfl rfl (Nat.le_of_ble_eq_true rfl) (fun X hXl hr C => ?_)
  unfold f_M_drawn at hF
  refine j_iload_n C d_M_drawn_0 rfl 1 rfl ?_
  refine j_i2l C d_M_drawn_1 ?_
  refine j_lconst C (v := 1) d_M_drawn_2 (by decide) ?_
  refine j_ldc2 C wd_1013 d_M_drawn_3 ?_
  obtain ⟨r6, h6, hF⟩ := g_bind hF
  refine j_si C (As := [.long x1.toInt64, .long (1 : Int64), .long (20 : Int64)]) (st := []) (c_M_in (XL X) G x1.toInt64 (1 : Int64) (20 : Int64) σ h6) m_M_in wd_786 rfl rfl (Nat.le_of_ble_eq_true rfl) ⟨by decide, by decide⟩ d_M_drawn_6 ?_
  refine j_if_ne C 15 d_M_drawn_9 (by decide) hF (fun q9 hF => ?_) (fun q9 hF => ?_)
  · refine j_aload_n C d_M_drawn_15 rfl 0 rfl ?_
    refine g_M_now C (rfl : kdf 38 = 8) wd_673 d_M_drawn_16 ?_
    refine j_aload_n C d_M_drawn_19 rfl 0 rfl ?_
    refine g_M_trial C (rfl : kdf 38 = 8) wd_674 d_M_drawn_20 ?_
    obtain ⟨r23, h23, hF⟩ := g_bind hF
    refine j_sv C (As := [rf G 43, rf G 44]) (st := []) (c_M_copy (XL X) G 43 44 σ (rfl : kdf 43 = 15) (rfl : kdf 44 = 15) h23) m_M_copy wd_983 rfl rfl (Nat.le_of_ble_eq_true rfl) ⟨by decide, by decide⟩ d_M_drawn_23 ?_
    refine j_iconst C (v := 0) d_M_drawn_26 (by decide) ?_
    refine j_istore_n C (lv' := [(2, .int (0 : Int32)), (0, rf G 38), (1, .int x1)]) d_M_drawn_27 rfl (by decide) rfl ?_
    refine j_iconst C (v := 0) d_M_drawn_28 (by decide) ?_
    refine j_istore_n C (lv' := [(3, .int (0 : Int32)), (2, .int (0 : Int32)), (0, rf G 38), (1, .int x1)]) d_M_drawn_29 rfl (by decide) rfl ?_
    refine j_sub C [(0, rf G 38), (1, .int x1), (2, .int (0 : Int32)), (3, .int (0 : Int32))] [2, 3, 1, 0] rfl ?_
    exact b_M_drawn_30 C hr 1100 x1 (0 : Int32) (0 : Int32) r23 hF
  · refine j_bipush C (v := -2) d_M_drawn_12 (by decide) ?_
    cases hF
    exact j_iret (st := []) C hr d_M_drawn_14 rfl rfl
set_option maxHeartbeats 4000000 in
set_option maxRecDepth 100000 in
theorem b_M_keep_44 {X : XT} {G : GT} {z : (Int32 × MT)} {K21 : Int32 → Int32 → MT → Option (Int32 × MT)} (C : CX X G b_M_keep 3 "TimeFloodModel" 1 25) (hr : XR X (some .int)) (hK21 : ∀ (x1 : Int32) (x2 : Int32) (σ : MT), K21 x1 x2 σ = some z → JW X G (QX X (PI G z.1 z.2) G) 3 21 [(0, rf G 38), (1, .int x1), (2, .int x2)] [] σ) (x1 : Int32) (x2 : Int32) (σ : MT) (hF : f_M_keep_44 K21 x1 x2 σ = some z) : JW X G (QX X (PI G z.1 z.2) G) 3 44 [(0, rf G 38), (1, .int x1), (2, .int x2)] [] σ := by
  unfold f_M_keep_44 at hF
  refine j_iinc C (v := x2 + (1 : Int32)) (lv' := [(2, .int (x2 + (1 : Int32))), (0, rf G 38), (1, .int x1)]) d_M_keep_44 2 rfl rfl (by decide) rfl ?_
  refine j_goto C 21 d_M_keep_47 (by decide) ?_
  refine j_sub C [(0, rf G 38), (1, .int x1), (2, .int (x2 + (1 : Int32)))] [1, 2, 0] rfl ?_
  exact hK21 x1 (x2 + (1 : Int32)) σ hF
set_option maxHeartbeats 4000000 in
set_option maxRecDepth 100000 in
theorem b_M_keep_21 {X : XT} {G : GT} {z : (Int32 × MT)} (C : CX X G b_M_keep 3 "TimeFloodModel" 1 25) (hr : XR X (some .int)) : ∀ (n : Nat) (x1 : Int32) (x2 : Int32) (σ : MT), f_M_keep_21 n x1 x2 σ = some z → JW X G (QX X (PI G z.1 z.2) G) 3 21 [(0, rf G 38), (1, .int x1), (2, .int x2)] [] σ := by
  intro n
  induction n with
  | zero =>
    intro x1 x2 σ hF
    rw [f_M_keep_21] at hF
    cases hF
  | succ n ih =>
    intro x1 x2 σ hF
    rw [f_M_keep_21] at hF
    refine j_iload_n C d_M_keep_21 rfl 2 rfl ?_
    refine j_bipush C (v := 103) d_M_keep_22 (by decide) ?_
    refine j_icmp_ge C 50 d_M_keep_24 (by decide) hF (fun q24 hF => ?_) (fun q24 hF => ?_)
    · refine j_aload_n C d_M_keep_50 rfl 0 rfl ?_
      refine g_M_now C (rfl : kdf 38 = 8) wd_673 d_M_keep_51 ?_
      refine j_bipush C (v := 102) d_M_keep_54 (by decide) ?_
      obtain ⟨q56, hF⟩ := g_if hF
      refine j_iald C (rfl : kdf 43 = 15) (by decide) rfl (inb_v q56) d_M_keep_56 ?_
      cases hF
      exact j_iret (st := []) C hr d_M_keep_57 rfl rfl
    · refine j_aload_n C d_M_keep_27 rfl 0 rfl ?_
      refine g_M_kept C (rfl : kdf 38 = 8) wd_678 d_M_keep_28 ?_
      refine j_bipush C (v := 103) d_M_keep_31 (by decide) ?_
      refine j_iload_n C d_M_keep_33 rfl 1 rfl ?_
      refine j_imul C d_M_keep_34 ?_
      refine j_iload_n C d_M_keep_35 rfl 2 rfl ?_
      refine j_iadd C d_M_keep_36 ?_
      refine j_aload_n C d_M_keep_37 rfl 0 rfl ?_
      refine g_M_now C (rfl : kdf 38 = 8) wd_673 d_M_keep_38 ?_
      refine j_iload_n C d_M_keep_41 rfl 2 rfl ?_
      obtain ⟨q42, hF⟩ := g_if hF
      refine j_iald C (rfl : kdf 43 = 15) (by decide) rfl (inb_v q42) d_M_keep_42 ?_
      obtain ⟨q43, hF⟩ := g_if hF
      refine j_iast C (rfl : kdf 46 = 17) (by decide) (fun _ => rfl) (inb_v q43) d_M_keep_43 ?_
      exact b_M_keep_44 C hr ih x1 x2 (sI σ 46 (((103 : Int32) * x1) + x2).toNatClampNeg (σ.1 43 x2.toNatClampNeg)) hF
set_option maxHeartbeats 4000000 in
set_option maxRecDepth 100000 in
theorem c_M_keep (l : Launch) (G : GT) (x1 : Int32) (σ : MT)  {z : (Int32 × MT)} (hF : f_M_keep x1 σ = some z) : CTI l G y_M_keep b_M_keep 3 (some .int) 1 25 [rf G 38, .int x1] σ z.1 z.2 := by
  refine entX [(0, rf G 38), (1, .int x1)] "TimeFloodModel" (by decide +kernel) rfl rfl (Nat.le_of_ble_eq_true rfl) (fun X hXl hr C => ?_)
  unfold f_M_keep at hF
  refine j_iload_n C d_M_keep_0 rfl 1 rfl ?_
  refine j_i2l C d_M_keep_1 ?_
  refine j_lconst C (v := 0) d_M_keep_2 (by decide) ?_
  refine j_lconst C (v := 1) d_M_keep_3 (by decide) ?_
  obtain ⟨r4, h4, hF⟩ := g_bind hF
  refine j_si C (As := [.long x1.toInt64, .long (0 : Int64), .long (1 : Int64)]) (st := []) (c_M_in (XL X) G x1.toInt64 (0 : Int64) (1 : Int64) σ h4) m_M_in wd_786 rfl rfl (Nat.le_of_ble_eq_true rfl) ⟨by decide, by decide⟩ d_M_keep_4 ?_
  refine j_if_ne C 12 d_M_keep_7 (by decide) hF (fun q7 hF => ?_) (fun q7 hF => ?_)
  · refine j_aload_n C d_M_keep_12 rfl 0 rfl ?_
    refine g_M_isKept C (rfl : kdf 38 = 8) wd_679 d_M_keep_13 ?_
    refine j_iload_n C d_M_keep_16 rfl 1 rfl ?_
    refine j_iconst C (v := 1) d_M_keep_17 (by decide) ?_
    obtain ⟨q18, hF⟩ := g_if hF
    refine j_zast C (rfl : kdf 47 = 22) (by decide) (fun _ => rfl) (inb_v q18) d_M_keep_18 ?_
    refine j_iconst C (v := 0) d_M_keep_19 (by decide) ?_
    refine j_istore_n C (lv' := [(2, .int (0 : Int32)), (0, rf G 38), (1, .int x1)]) d_M_keep_20 rfl (by decide) rfl ?_
    refine j_sub C [(0, rf G 38), (1, .int x1), (2, .int (0 : Int32))] [1, 2, 0] rfl ?_
    exact b_M_keep_21 C hr 1100 x1 (0 : Int32) (sI σ 47 x1.toNatClampNeg (vp_nar .boolean (1 : Int32))) hF
  · refine j_iconst C (v := -1) d_M_keep_10 (by decide) ?_
    cases hF
    exact j_iret (st := []) C hr d_M_keep_11 rfl rfl
set_option maxHeartbeats 4000000 in
set_option maxRecDepth 100000 in
theorem b_M_again_49 {X : XT} {G : GT} {z : (Int32 × MT)} {K26 : Int32 → Int32 → MT → Option (Int32 × MT)} (C : CX X G b_M_again 3 "TimeFloodModel" 1 25) (hr : XR X (some .int)) (hK26 : ∀ (x1 : Int32) (x2 : Int32) (σ : MT), K26 x1 x2 σ = some z → JW X G (QX X (PI G z.1 z.2) G) 3 26 [(0, rf G 38), (1, .int x1), (2, .int x2)] [] σ) (x1 : Int32) (x2 : Int32) (σ : MT) (hF : f_M_again_49 K26 x1 x2 σ = some z) : JW X G (QX X (PI G z.1 z.2) G) 3 49 [(0, rf G 38), (1, .int x1), (2, .int x2)] [] σ := by
  unfold f_M_again_49 at hF
  refine j_iinc C (v := x2 + (1 : Int32)) (lv' := [(2, .int (x2 + (1 : Int32))), (0, rf G 38), (1, .int x1)]) d_M_again_49 2 rfl rfl (by decide) rfl ?_
  refine j_goto C 26 d_M_again_52 (by decide) ?_
  refine j_sub C [(0, rf G 38), (1, .int x1), (2, .int (x2 + (1 : Int32)))] [1, 2, 0] rfl ?_
  exact hK26 x1 (x2 + (1 : Int32)) σ hF
set_option maxHeartbeats 4000000 in
set_option maxRecDepth 100000 in
theorem b_M_again_26 {X : XT} {G : GT} {z : (Int32 × MT)} (C : CX X G b_M_again 3 "TimeFloodModel" 1 25) (hr : XR X (some .int)) : ∀ (n : Nat) (x1 : Int32) (x2 : Int32) (σ : MT), f_M_again_26 n x1 x2 σ = some z → JW X G (QX X (PI G z.1 z.2) G) 3 26 [(0, rf G 38), (1, .int x1), (2, .int x2)] [] σ := by
  intro n
  induction n with
  | zero =>
    intro x1 x2 σ hF
    rw [f_M_again_26] at hF
    cases hF
  | succ n ih =>
    intro x1 x2 σ hF
    rw [f_M_again_26] at hF
    refine j_iload_n C d_M_again_26 rfl 2 rfl ?_
    refine j_bipush C (v := 103) d_M_again_27 (by decide) ?_
    refine j_icmp_ge C 55 d_M_again_29 (by decide) hF (fun q29 hF => ?_) (fun q29 hF => ?_)
    · refine j_aload_n C d_M_again_55 rfl 0 rfl ?_
      refine j_iconst C (v := 0) d_M_again_56 (by decide) ?_
      refine p_M_acts C (rfl : kdf 38 = 8) wd_676 d_M_again_57 ?_
      refine j_aload_n C d_M_again_60 rfl 0 rfl ?_
      refine g_M_now C (rfl : kdf 38 = 8) wd_673 d_M_again_61 ?_
      refine j_bipush C (v := 102) d_M_again_64 (by decide) ?_
      obtain ⟨q66, hF⟩ := g_if hF
      refine j_iald C (rfl : kdf 43 = 15) (by decide) rfl (inb_v q66) d_M_again_66 ?_
      cases hF
      exact j_iret (st := []) C hr d_M_again_67 rfl rfl
    · refine j_aload_n C d_M_again_32 rfl 0 rfl ?_
      refine g_M_now C (rfl : kdf 38 = 8) wd_673 d_M_again_33 ?_
      refine j_iload_n C d_M_again_36 rfl 2 rfl ?_
      refine j_aload_n C d_M_again_37 rfl 0 rfl ?_
      refine g_M_kept C (rfl : kdf 38 = 8) wd_678 d_M_again_38 ?_
      refine j_bipush C (v := 103) d_M_again_41 (by decide) ?_
      refine j_iload_n C d_M_again_43 rfl 1 rfl ?_
      refine j_imul C d_M_again_44 ?_
      refine j_iload_n C d_M_again_45 rfl 2 rfl ?_
      refine j_iadd C d_M_again_46 ?_
      obtain ⟨q47, hF⟩ := g_if hF
      refine j_iald C (rfl : kdf 46 = 17) (by decide) rfl (inb_v q47) d_M_again_47 ?_
      obtain ⟨q48, hF⟩ := g_if hF
      refine j_iast C (rfl : kdf 43 = 15) (by decide) (fun _ => rfl) (inb_v q48) d_M_again_48 ?_
      exact b_M_again_49 C hr ih x1 x2 (sI σ 43 x2.toNatClampNeg (σ.1 46 (((103 : Int32) * x1) + x2).toNatClampNeg)) hF
set_option maxHeartbeats 4000000 in
set_option maxRecDepth 100000 in
theorem c_M_again (l : Launch) (G : GT) (x1 : Int32) (σ : MT)  {z : (Int32 × MT)} (hF : f_M_again x1 σ = some z) : CTI l G y_M_again b_M_again 3 (some .int) 1 25 [rf G 38, .int x1] σ z.1 z.2 := by
  refine entX [(0, rf G 38), (1, .int x1)] "TimeFloodModel" (by decide +kernel) rfl rfl (Nat.le_of_ble_eq_true rfl) (fun X hXl hr C => ?_)
  unfold f_M_again at hF
  refine j_iload_n C d_M_again_0 rfl 1 rfl ?_
  refine j_i2l C d_M_again_1 ?_
  refine j_lconst C (v := 0) d_M_again_2 (by decide) ?_
  refine j_lconst C (v := 1) d_M_again_3 (by decide) ?_
  obtain ⟨r4, h4, hF⟩ := g_bind hF
  refine j_si C (As := [.long x1.toInt64, .long (0 : Int64), .long (1 : Int64)]) (st := []) (c_M_in (XL X) G x1.toInt64 (0 : Int64) (1 : Int64) σ h4) m_M_in wd_786 rfl rfl (Nat.le_of_ble_eq_true rfl) ⟨by decide, by decide⟩ d_M_again_4 ?_
  refine j_if_ne C 12 d_M_again_7 (by decide) hF (fun q7 hF => ?_) (fun q7 hF => ?_)
  · refine j_aload_n C d_M_again_12 rfl 0 rfl ?_
    refine g_M_isKept C (rfl : kdf 38 = 8) wd_679 d_M_again_13 ?_
    refine j_iload_n C d_M_again_16 rfl 1 rfl ?_
    obtain ⟨q17, hF⟩ := g_if hF
    refine j_zald C (rfl : kdf 47 = 22) (by decide) rfl (inb_v q17) d_M_again_17 ?_
    refine j_if_ne C 24 d_M_again_18 (by decide) hF (fun q18 hF => ?_) (fun q18 hF => ?_)
    · refine j_iconst C (v := 0) d_M_again_24 (by decide) ?_
      refine j_istore_n C (lv' := [(2, .int (0 : Int32)), (0, rf G 38), (1, .int x1)]) d_M_again_25 rfl (by decide) rfl ?_
      refine j_sub C [(0, rf G 38), (1, .int x1), (2, .int (0 : Int32))] [1, 2, 0] rfl ?_
      exact b_M_again_26 C hr 1100 x1 (0 : Int32) σ hF
    · refine j_bipush C (v := -3) d_M_again_21 (by decide) ?_
      cases hF
      exact j_iret (st := []) C hr d_M_again_23 rfl rfl
  · refine j_iconst C (v := -1) d_M_again_10 (by decide) ?_
    cases hF
    exact j_iret (st := []) C hr d_M_again_11 rfl rfl
