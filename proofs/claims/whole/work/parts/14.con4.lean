set_option maxHeartbeats 4000000 in
set_option maxRecDepth 100000 in
theorem b_M_takeOfNode_52 {X : XT} {G : GT} {z : (Int32 × MT)} (C : CX X G b_M_takeOfNode 2 "TimeFloodModel" 1 25) (hr : XR X (some .boolean)) (x1 : Int32) (σ : MT) (hF : f_M_takeOfNode_52 x1 σ = some z) : JW X G (QX X (PI G z.1 z.2) G) 2 52 [(1, .int x1)] [] σ := by
  unfold f_M_takeOfNode_52 at hF
  refine j_iload_n C d_M_takeOfNode_52 rfl 0 rfl ?_
  refine j_i2l C d_M_takeOfNode_53 ?_
  refine j_lconst C (v := 0) d_M_takeOfNode_54 (by decide) ?_
  refine j_ldc2 C wd_810 d_M_takeOfNode_55 ?_
  obtain ⟨r58, h58, hF⟩ := g_bind hF
  refine j_si C (As := [.long x1.toInt64, .long (0 : Int64), .long (9 : Int64)]) (st := []) (c_M_in (XL X) G x1.toInt64 (0 : Int64) (9 : Int64) σ h58) m_M_in wd_786 rfl rfl (Nat.le_of_ble_eq_true rfl) ⟨by decide, by decide⟩ d_M_takeOfNode_58 ?_
  obtain ⟨qz, hF⟩ := g_if hF
  cases hF
  exact j_zret (st := []) C hr (zb_n (zbb_z qz)) d_M_takeOfNode_61 rfl rfl
set_option maxHeartbeats 4000000 in
set_option maxRecDepth 100000 in
theorem b_M_takeOfNode_72 {X : XT} {G : GT} {z : (Int32 × MT)} (C : CX X G b_M_takeOfNode 2 "TimeFloodModel" 1 25) (hr : XR X (some .boolean)) (x1 : Int32) (σ : MT) (hF : f_M_takeOfNode_72 x1 σ = some z) : JW X G (QX X (PI G z.1 z.2) G) 2 72 [(1, .int x1)] [] σ := by
  unfold f_M_takeOfNode_72 at hF
  refine j_iload_n C d_M_takeOfNode_72 rfl 0 rfl ?_
  refine j_i2l C d_M_takeOfNode_73 ?_
  refine j_lconst C (v := 0) d_M_takeOfNode_74 (by decide) ?_
  refine j_ldc2 C wd_817 d_M_takeOfNode_75 ?_
  obtain ⟨r78, h78, hF⟩ := g_bind hF
  refine j_si C (As := [.long x1.toInt64, .long (0 : Int64), .long (6 : Int64)]) (st := []) (c_M_in (XL X) G x1.toInt64 (0 : Int64) (6 : Int64) σ h78) m_M_in wd_786 rfl rfl (Nat.le_of_ble_eq_true rfl) ⟨by decide, by decide⟩ d_M_takeOfNode_78 ?_
  obtain ⟨qz, hF⟩ := g_if hF
  cases hF
  exact j_zret (st := []) C hr (zb_n (zbb_z qz)) d_M_takeOfNode_81 rfl rfl
set_option maxHeartbeats 4000000 in
set_option maxRecDepth 100000 in
theorem b_M_takeOfNode_105 {X : XT} {G : GT} {z : (Int32 × MT)} (C : CX X G b_M_takeOfNode 2 "TimeFloodModel" 1 25) (hr : XR X (some .boolean)) (x1 : Int32) (σ : MT) (hF : f_M_takeOfNode_105 x1 σ = some z) : JW X G (QX X (PI G z.1 z.2) G) 2 105 [(0, rf G 38), (1, .int x1)] [] σ := by
  unfold f_M_takeOfNode_105 at hF
  refine j_iload_n C d_M_takeOfNode_105 rfl 1 rfl ?_
  refine j_i2l C d_M_takeOfNode_106 ?_
  refine j_lconst C (v := 0) d_M_takeOfNode_107 (by decide) ?_
  refine j_ldc2 C wd_810 d_M_takeOfNode_108 ?_
  obtain ⟨r111, h111, hF⟩ := g_bind hF
  refine j_si C (As := [.long x1.toInt64, .long (0 : Int64), .long (9 : Int64)]) (st := []) (c_M_in (XL X) G x1.toInt64 (0 : Int64) (9 : Int64) σ h111) m_M_in wd_786 rfl rfl (Nat.le_of_ble_eq_true rfl) ⟨by decide, by decide⟩ d_M_takeOfNode_111 ?_
  refine j_if_eq C 131 d_M_takeOfNode_114 (by decide) hF (fun q114 hF => ?_) (fun q114 hF => ?_)
  · refine j_iconst C (v := 0) d_M_takeOfNode_131 (by decide) ?_
    cases hF
    exact j_zret (st := []) C hr rfl d_M_takeOfNode_132 rfl rfl
  · refine j_aload_n C d_M_takeOfNode_117 rfl 0 rfl ?_
    refine g_M_readStart C (rfl : kdf 38 = 8) wd_696 d_M_takeOfNode_118 ?_
    refine j_aload_n C d_M_takeOfNode_121 rfl 0 rfl ?_
    refine g_M_readNodes C (rfl : kdf 38 = 8) wd_694 d_M_takeOfNode_122 ?_
    obtain ⟨q125, hF⟩ := g_if hF
    refine j_iald C (rfl : kdf 58 = 11) (by decide) rfl (inb_v q125) d_M_takeOfNode_125 ?_
    refine j_bipush C (v := 63) d_M_takeOfNode_126 (by decide) ?_
    refine j_icmp_le C 133 d_M_takeOfNode_128 (by decide) hF (fun q128 hF => ?_) (fun q128 hF => ?_)
    · refine j_aload_n C d_M_takeOfNode_133 rfl 0 rfl ?_
      refine j_dup C d_M_takeOfNode_134 rfl ?_
      refine g_M_readNodes C (rfl : kdf 38 = 8) wd_694 d_M_takeOfNode_135 ?_
      refine j_iconst C (v := 1) d_M_takeOfNode_138 (by decide) ?_
      refine j_iadd C d_M_takeOfNode_139 ?_
      refine p_M_readNodes C (rfl : kdf 38 = 8) wd_694 d_M_takeOfNode_140 ?_
      refine j_aload_n C d_M_takeOfNode_143 rfl 0 rfl ?_
      refine j_iconst C (v := 0) d_M_takeOfNode_144 (by decide) ?_
      refine p_M_part C (rfl : kdf 38 = 8) wd_700 d_M_takeOfNode_145 ?_
      refine j_iconst C (v := 1) d_M_takeOfNode_148 (by decide) ?_
      cases hF
      exact j_zret (st := []) C hr rfl d_M_takeOfNode_149 rfl rfl
    · refine j_iconst C (v := 0) d_M_takeOfNode_131 (by decide) ?_
      cases hF
      exact j_zret (st := []) C hr rfl d_M_takeOfNode_132 rfl rfl
set_option maxHeartbeats 4000000 in
set_option maxRecDepth 100000 in
theorem c_M_takeOfNode (l : Launch) (G : GT) (x1 : Int32) (σ : MT)  {z : (Int32 × MT)} (hF : f_M_takeOfNode x1 σ = some z) : CTI l G y_M_takeOfNode b_M_takeOfNode 2 (some .boolean) 1 25 [rf G 38, .int x1] σ z.1 z.2 := by
  refine entX [(0, rf G 38), (1, .int x1)] "TimeFloodModel" (by decide +kernel) rfl rfl (Nat.le_of_ble_eq_true rfl) (fun X hXl hr C => ?_)
  unfold f_M_takeOfNode at hF
  refine j_aload_n C d_M_takeOfNode_0 rfl 0 rfl ?_
  refine j_dup C d_M_takeOfNode_1 rfl ?_
  refine g_M_place C (rfl : kdf 38 = 8) wd_701 d_M_takeOfNode_2 ?_
  refine j_iconst C (v := 1) d_M_takeOfNode_5 (by decide) ?_
  refine j_iadd C d_M_takeOfNode_6 ?_
  refine p_M_place C (rfl : kdf 38 = 8) wd_701 d_M_takeOfNode_7 ?_
  refine j_aload_n C d_M_takeOfNode_10 rfl 0 rfl ?_
  refine g_M_place C (rfl : kdf 38 = 8) wd_701 d_M_takeOfNode_11 ?_
  refine g_ite hF (fun q hF => ?_) (fun q14_0 hF => ?_)
  · refine j_lookup C 40 (off := 26) d_M_takeOfNode_14 (by decide) (by rw [q]; rfl) (by decide) ?_
    refine j_aload_n C d_M_takeOfNode_40 rfl 0 rfl ?_
    refine g_M_readDrift C (rfl : kdf 38 = 8) wd_695 d_M_takeOfNode_41 ?_
    refine j_aload_n C d_M_takeOfNode_44 rfl 0 rfl ?_
    refine g_M_readNodes C (rfl : kdf 38 = 8) wd_694 d_M_takeOfNode_45 ?_
    refine j_iload_n C d_M_takeOfNode_48 rfl 1 rfl ?_
    refine j_iconst C (v := 4) d_M_takeOfNode_49 (by decide) ?_
    refine j_isub C d_M_takeOfNode_50 ?_
    obtain ⟨q51, hF⟩ := g_if hF
    refine j_iast C (rfl : kdf 57 = 11) (by decide) (fun _ => rfl) (inb_v q51) d_M_takeOfNode_51 ?_
    refine j_sub C [(1, .int x1)] [1] rfl ?_
    exact b_M_takeOfNode_52 C hr x1 (sI (sI σ 38 38 ((σ.1 38 38) + (1 : Int32))) 57 ((sI σ 38 38 ((σ.1 38 38) + (1 : Int32))).1 38 31).toNatClampNeg (x1 - (4 : Int32))) hF
  refine g_ite hF (fun q hF => ?_) (fun q14_1 hF => ?_)
  · refine j_lookup C 62 (off := 48) d_M_takeOfNode_14 (by decide) (by rw [q]; rfl) (by decide) ?_
    refine j_aload_n C d_M_takeOfNode_62 rfl 0 rfl ?_
    refine g_M_readStart C (rfl : kdf 38 = 8) wd_696 d_M_takeOfNode_63 ?_
    refine j_aload_n C d_M_takeOfNode_66 rfl 0 rfl ?_
    refine g_M_readNodes C (rfl : kdf 38 = 8) wd_694 d_M_takeOfNode_67 ?_
    refine j_iload_n C d_M_takeOfNode_70 rfl 1 rfl ?_
    obtain ⟨q71, hF⟩ := g_if hF
    refine j_iast C (rfl : kdf 58 = 11) (by decide) (fun _ => rfl) (inb_v q71) d_M_takeOfNode_71 ?_
    refine j_sub C [(1, .int x1)] [1] rfl ?_
    exact b_M_takeOfNode_72 C hr x1 (sI (sI σ 38 38 ((σ.1 38 38) + (1 : Int32))) 58 ((sI σ 38 38 ((σ.1 38 38) + (1 : Int32))).1 38 31).toNatClampNeg x1) hF
  refine j_lookup C 82 (off := 68) d_M_takeOfNode_14 (by decide) (by show Op.lookupswitch.offset [(1, 26), (2, 48)] 68 (((sI σ 38 38 ((σ.1 38 38) + (1 : Int32))).1 38 38)).toInt = 68; rw [lv_osw (k := 1) (a := 1) q14_0 (by decide), lv_osw (k := 2) (a := 2) q14_1 (by decide)]; rfl) (by decide) ?_
  refine j_aload_n C d_M_takeOfNode_82 rfl 0 rfl ?_
  refine g_M_readStart C (rfl : kdf 38 = 8) wd_696 d_M_takeOfNode_83 ?_
  refine j_aload_n C d_M_takeOfNode_86 rfl 0 rfl ?_
  refine g_M_readNodes C (rfl : kdf 38 = 8) wd_694 d_M_takeOfNode_87 ?_
  refine j_bipush C (v := 10) d_M_takeOfNode_90 (by decide) ?_
  refine j_aload_n C d_M_takeOfNode_92 rfl 0 rfl ?_
  refine g_M_readStart C (rfl : kdf 38 = 8) wd_696 d_M_takeOfNode_93 ?_
  refine j_aload_n C d_M_takeOfNode_96 rfl 0 rfl ?_
  refine g_M_readNodes C (rfl : kdf 38 = 8) wd_694 d_M_takeOfNode_97 ?_
  obtain ⟨q100, hF⟩ := g_if hF
  refine j_iald C (rfl : kdf 58 = 11) (by decide) rfl (inb_v q100) d_M_takeOfNode_100 ?_
  refine j_imul C d_M_takeOfNode_101 ?_
  refine j_iload_n C d_M_takeOfNode_102 rfl 1 rfl ?_
  refine j_iadd C d_M_takeOfNode_103 ?_
  obtain ⟨q104, hF⟩ := g_if hF
  refine j_iast C (rfl : kdf 58 = 11) (by decide) (fun _ => rfl) (inb_v q104) d_M_takeOfNode_104 ?_
  exact b_M_takeOfNode_105 C hr x1 (sI (sI σ 38 38 ((σ.1 38 38) + (1 : Int32))) 58 ((sI σ 38 38 ((σ.1 38 38) + (1 : Int32))).1 38 31).toNatClampNeg (((10 : Int32) * ((sI σ 38 38 ((σ.1 38 38) + (1 : Int32))).1 58 ((sI σ 38 38 ((σ.1 38 38) + (1 : Int32))).1 38 31).toNatClampNeg)) + x1)) hF
set_option maxHeartbeats 4000000 in
set_option maxRecDepth 100000 in
theorem b_M_takeOfLink_115 {X : XT} {G : GT} {z : (Int32 × MT)} (C : CX X G b_M_takeOfLink 3 "TimeFloodModel" 2 47) (hr : XR X (some .boolean)) (σ : MT) (hF : f_M_takeOfLink_115 σ = some z) : JW X G (QX X (PI G z.1 z.2) G) 3 115 [(0, rf G 38)] [] σ := by
  unfold f_M_takeOfLink_115 at hF
  refine j_aload_n C d_M_takeOfLink_115 rfl 0 rfl ?_
  refine j_dup C d_M_takeOfLink_116 rfl ?_
  refine g_M_readLinks C (rfl : kdf 38 = 8) wd_697 d_M_takeOfLink_117 ?_
  refine j_iconst C (v := 1) d_M_takeOfLink_120 (by decide) ?_
  refine j_iadd C d_M_takeOfLink_121 ?_
  refine p_M_readLinks C (rfl : kdf 38 = 8) wd_697 d_M_takeOfLink_122 ?_
  refine j_iconst C (v := 1) d_M_takeOfLink_125 (by decide) ?_
  cases hF
  exact j_zret (st := []) C hr rfl d_M_takeOfLink_126 rfl rfl
set_option maxHeartbeats 4000000 in
set_option maxRecDepth 100000 in
theorem b_M_takeOfLink_68 {X : XT} {G : GT} {z : (Int32 × MT)} (C : CX X G b_M_takeOfLink 3 "TimeFloodModel" 2 47) (hr : XR X (some .boolean)) (x1 : Int32) (x2 : Int32) (σ : MT) (hF : f_M_takeOfLink_68 x1 x2 σ = some z) : JW X G (QX X (PI G z.1 z.2) G) 3 68 [(0, rf G 38), (1, .int x1), (2, .int x2)] [] σ := by
  unfold f_M_takeOfLink_68 at hF
  refine j_aload_n C d_M_takeOfLink_68 rfl 0 rfl ?_
  refine j_iconst C (v := 0) d_M_takeOfLink_69 (by decide) ?_
  refine p_M_part C (rfl : kdf 38 = 8) wd_700 d_M_takeOfLink_70 ?_
  refine j_iload_n C d_M_takeOfLink_73 rfl 1 rfl ?_
  refine j_i2l C d_M_takeOfLink_74 ?_
  refine j_lconst C (v := 0) d_M_takeOfLink_75 (by decide) ?_
  refine j_aload_n C d_M_takeOfLink_76 rfl 0 rfl ?_
  refine g_M_readNodes C (rfl : kdf 38 = 8) wd_694 d_M_takeOfLink_77 ?_
  refine j_iconst C (v := 1) d_M_takeOfLink_80 (by decide) ?_
  refine j_isub C d_M_takeOfLink_81 ?_
  refine j_i2l C d_M_takeOfLink_82 ?_
  obtain ⟨r83, h83, hF⟩ := g_bind hF
  refine j_si C (As := [.long x1.toInt64, .long (0 : Int64), .long ((((sI σ 38 37 (0 : Int32)).1 38 31) - (1 : Int32)).toInt64)]) (st := []) (c_M_in (XL X) G x1.toInt64 (0 : Int64) ((((sI σ 38 37 (0 : Int32)).1 38 31) - (1 : Int32)).toInt64) (sI σ 38 37 (0 : Int32)) h83) m_M_in wd_786 rfl rfl (Nat.le_of_ble_eq_true rfl) ⟨by decide, by decide⟩ d_M_takeOfLink_83 ?_
  refine j_if_eq C 103 d_M_takeOfLink_86 (by decide) hF (fun q86 hF => ?_) (fun q86 hF => ?_)
  · refine j_iconst C (v := 0) d_M_takeOfLink_103 (by decide) ?_
    cases hF
    exact j_zret (st := []) C hr rfl d_M_takeOfLink_104 rfl rfl
  · refine j_iload_n C d_M_takeOfLink_89 rfl 1 rfl ?_
    refine j_iload_n C d_M_takeOfLink_90 rfl 2 rfl ?_
    refine j_icmp_eq C 103 d_M_takeOfLink_91 (by decide) hF (fun q91 hF => ?_) (fun q91 hF => ?_)
    · refine j_iconst C (v := 0) d_M_takeOfLink_103 (by decide) ?_
      cases hF
      exact j_zret (st := []) C hr rfl d_M_takeOfLink_104 rfl rfl
    · refine j_aload_n C d_M_takeOfLink_94 rfl 0 rfl ?_
      refine j_iload_n C d_M_takeOfLink_95 rfl 2 rfl ?_
      refine j_iload_n C d_M_takeOfLink_96 rfl 1 rfl ?_
      obtain ⟨r97, h97, hF⟩ := g_bind hF
      refine j_vi C (As := [.int x2, .int x1]) (st := []) (c_M_areLinkedAsRead (XL X) G x2 x1 (sI σ 38 37 (0 : Int32)) h97) (rfl : kdf 38 = 8) (by decide) rfl rfl m_M_areLinkedAsRead wd_826 rfl rfl (Nat.le_of_ble_eq_true rfl) ⟨by decide, by decide⟩ d_M_takeOfLink_97 ?_
      refine j_if_eq C 105 d_M_takeOfLink_100 (by decide) hF (fun q100 hF => ?_) (fun q100 hF => ?_)
      · refine j_aload_n C d_M_takeOfLink_105 rfl 0 rfl ?_
        refine g_M_readOther C (rfl : kdf 38 = 8) wd_699 d_M_takeOfLink_106 ?_
        refine j_aload_n C d_M_takeOfLink_109 rfl 0 rfl ?_
        refine g_M_readLinks C (rfl : kdf 38 = 8) wd_697 d_M_takeOfLink_110 ?_
        refine j_iload_n C d_M_takeOfLink_113 rfl 1 rfl ?_
        obtain ⟨q114, hF⟩ := g_if hF
        refine j_iast C (rfl : kdf 60 = 13) (by decide) (fun _ => rfl) (inb_v q114) d_M_takeOfLink_114 ?_
        refine j_sub C [(0, rf G 38)] [0] rfl ?_
        exact b_M_takeOfLink_115 C hr (sI (sI σ 38 37 (0 : Int32)) 60 ((sI σ 38 37 (0 : Int32)).1 38 34).toNatClampNeg x1) hF
      · refine j_iconst C (v := 0) d_M_takeOfLink_103 (by decide) ?_
        cases hF
        exact j_zret (st := []) C hr rfl d_M_takeOfLink_104 rfl rfl
set_option maxHeartbeats 4000000 in
set_option maxRecDepth 100000 in
theorem b_M_takeOfLink_28 {X : XT} {G : GT} {z : (Int32 × MT)} (C : CX X G b_M_takeOfLink 3 "TimeFloodModel" 2 47) (hr : XR X (some .boolean)) (x1 : Int32) (σ : MT) (hF : f_M_takeOfLink_28 x1 σ = some z) : JW X G (QX X (PI G z.1 z.2) G) 3 28 [(0, rf G 38), (1, .int x1)] [] σ := by
  unfold f_M_takeOfLink_28 at hF
  refine j_iload_n C d_M_takeOfLink_28 rfl 1 rfl ?_
  refine j_i2l C d_M_takeOfLink_29 ?_
  refine j_lconst C (v := 0) d_M_takeOfLink_30 (by decide) ?_
  refine j_aload_n C d_M_takeOfLink_31 rfl 0 rfl ?_
  refine g_M_readNodes C (rfl : kdf 38 = 8) wd_694 d_M_takeOfLink_32 ?_
  refine j_iconst C (v := 1) d_M_takeOfLink_35 (by decide) ?_
  refine j_isub C d_M_takeOfLink_36 ?_
  refine j_i2l C d_M_takeOfLink_37 ?_
  obtain ⟨r38, h38, hF⟩ := g_bind hF
  refine j_si C (As := [.long x1.toInt64, .long (0 : Int64), .long (((σ.1 38 31) - (1 : Int32)).toInt64)]) (st := []) (c_M_in (XL X) G x1.toInt64 (0 : Int64) (((σ.1 38 31) - (1 : Int32)).toInt64) σ h38) m_M_in wd_786 rfl rfl (Nat.le_of_ble_eq_true rfl) ⟨by decide, by decide⟩ d_M_takeOfLink_38 ?_
  refine j_if_eq C 56 d_M_takeOfLink_41 (by decide) hF (fun q41 hF => ?_) (fun q41 hF => ?_)
  · refine j_iconst C (v := 0) d_M_takeOfLink_56 (by decide) ?_
    cases hF
    exact j_zret (st := []) C hr rfl d_M_takeOfLink_57 rfl rfl
  · refine j_aload_n C d_M_takeOfLink_44 rfl 0 rfl ?_
    refine j_iload_n C d_M_takeOfLink_45 rfl 1 rfl ?_
    obtain ⟨r46, h46, hF⟩ := g_bind hF
    refine j_vi C (As := [.int x1]) (st := []) (c_M_isFullAsRead (XL X) G x1 σ h46) (rfl : kdf 38 = 8) (by decide) rfl rfl m_M_isFullAsRead wd_822 rfl rfl (Nat.le_of_ble_eq_true rfl) ⟨by decide, by decide⟩ d_M_takeOfLink_46 ?_
    refine j_if_ne C 56 d_M_takeOfLink_49 (by decide) hF (fun q49 hF => ?_) (fun q49 hF => ?_)
    · refine j_iconst C (v := 0) d_M_takeOfLink_56 (by decide) ?_
      cases hF
      exact j_zret (st := []) C hr rfl d_M_takeOfLink_57 rfl rfl
    · refine j_iconst C (v := 1) d_M_takeOfLink_52 (by decide) ?_
      refine j_goto C 57 d_M_takeOfLink_53 (by decide) ?_
      cases hF
      exact j_zret (st := []) C hr rfl d_M_takeOfLink_57 rfl rfl
set_option maxHeartbeats 4000000 in
set_option maxRecDepth 100000 in
theorem c_M_takeOfLink (l : Launch) (G : GT) (x1 : Int32) (σ : MT)  {z : (Int32 × MT)} (hF : f_M_takeOfLink x1 σ = some z) : CTI l G y_M_takeOfLink b_M_takeOfLink 3 (some .boolean) 2 47 [rf G 38, .int x1] σ z.1 z.2 := by
  refine entX [(0, rf G 38), (1, .int x1)] "TimeFloodModel" (by decide +kernel) rfl rfl (Nat.le_of_ble_eq_true rfl) (fun X hXl hr C => ?_)
  unfold f_M_takeOfLink at hF
  refine j_aload_n C d_M_takeOfLink_0 rfl 0 rfl ?_
  refine j_dup C d_M_takeOfLink_1 rfl ?_
  refine g_M_place C (rfl : kdf 38 = 8) wd_701 d_M_takeOfLink_2 ?_
  refine j_iconst C (v := 1) d_M_takeOfLink_5 (by decide) ?_
  refine j_iadd C d_M_takeOfLink_6 ?_
  refine p_M_place C (rfl : kdf 38 = 8) wd_701 d_M_takeOfLink_7 ?_
  refine j_aload_n C d_M_takeOfLink_10 rfl 0 rfl ?_
  refine g_M_place C (rfl : kdf 38 = 8) wd_701 d_M_takeOfLink_11 ?_
  refine j_iconst C (v := 1) d_M_takeOfLink_14 (by decide) ?_
  refine j_icmp_ne C 58 d_M_takeOfLink_15 (by decide) hF (fun q15 hF => ?_) (fun q15 hF => ?_)
  · refine j_aload_n C d_M_takeOfLink_58 rfl 0 rfl ?_
    refine g_M_readOne C (rfl : kdf 38 = 8) wd_698 d_M_takeOfLink_59 ?_
    refine j_aload_n C d_M_takeOfLink_62 rfl 0 rfl ?_
    refine g_M_readLinks C (rfl : kdf 38 = 8) wd_697 d_M_takeOfLink_63 ?_
    obtain ⟨q66, hF⟩ := g_if hF
    refine j_iald C (rfl : kdf 59 = 13) (by decide) rfl (inb_v q66) d_M_takeOfLink_66 ?_
    refine j_istore_n C (lv' := [(2, .int ((sI σ 38 38 ((σ.1 38 38) + (1 : Int32))).1 59 ((sI σ 38 38 ((σ.1 38 38) + (1 : Int32))).1 38 34).toNatClampNeg)), (0, rf G 38), (1, .int x1)]) d_M_takeOfLink_67 rfl (by decide) rfl ?_
    refine j_sub C [(0, rf G 38), (1, .int x1), (2, .int ((sI σ 38 38 ((σ.1 38 38) + (1 : Int32))).1 59 ((sI σ 38 38 ((σ.1 38 38) + (1 : Int32))).1 38 34).toNatClampNeg))] [1, 2, 0] rfl ?_
    exact b_M_takeOfLink_68 C hr x1 ((sI σ 38 38 ((σ.1 38 38) + (1 : Int32))).1 59 ((sI σ 38 38 ((σ.1 38 38) + (1 : Int32))).1 38 34).toNatClampNeg) (sI σ 38 38 ((σ.1 38 38) + (1 : Int32))) hF
  · refine j_aload_n C d_M_takeOfLink_18 rfl 0 rfl ?_
    refine g_M_readOne C (rfl : kdf 38 = 8) wd_698 d_M_takeOfLink_19 ?_
    refine j_aload_n C d_M_takeOfLink_22 rfl 0 rfl ?_
    refine g_M_readLinks C (rfl : kdf 38 = 8) wd_697 d_M_takeOfLink_23 ?_
    refine j_iload_n C d_M_takeOfLink_26 rfl 1 rfl ?_
    obtain ⟨q27, hF⟩ := g_if hF
    refine j_iast C (rfl : kdf 59 = 13) (by decide) (fun _ => rfl) (inb_v q27) d_M_takeOfLink_27 ?_
    exact b_M_takeOfLink_28 C hr x1 (sI (sI σ 38 38 ((σ.1 38 38) + (1 : Int32))) 59 ((sI σ 38 38 ((σ.1 38 38) + (1 : Int32))).1 38 34).toNatClampNeg x1) hF
set_option maxHeartbeats 4000000 in
set_option maxRecDepth 100000 in
theorem b_M_take_86 {X : XT} {G : GT} {z : (Int32 × MT)} (C : CX X G b_M_take 3 "TimeFloodModel" 3 69) (hr : XR X (some .boolean)) (x1 : Int32) (σ : MT) (hF : f_M_take_86 x1 σ = some z) : JW X G (QX X (PI G z.1 z.2) G) 3 86 [(0, rf G 38), (1, .int x1)] [] σ := by
  unfold f_M_take_86 at hF
  refine j_iload_n C d_M_take_86 rfl 1 rfl ?_
  refine j_bipush C (v := 107) d_M_take_87 (by decide) ?_
  refine j_icmp_ne C 103 d_M_take_89 (by decide) hF (fun q89 hF => ?_) (fun q89 hF => ?_)
  · refine j_iconst C (v := 0) d_M_take_103 (by decide) ?_
    cases hF
    exact j_zret (st := []) C hr rfl d_M_take_104 rfl rfl
  · refine j_aload_n C d_M_take_92 rfl 0 rfl ?_
    obtain ⟨r93, h93, hF⟩ := g_bind hF
    refine j_vi C (As := []) (st := []) (c_M_mayLink (XL X) G σ h93) (rfl : kdf 38 = 8) (by decide) rfl rfl m_M_mayLink wd_830 rfl rfl (Nat.le_of_ble_eq_true rfl) ⟨by decide, by decide⟩ d_M_take_93 ?_
    refine j_if_eq C 103 d_M_take_96 (by decide) hF (fun q96 hF => ?_) (fun q96 hF => ?_)
    · refine j_iconst C (v := 0) d_M_take_103 (by decide) ?_
      cases hF
      exact j_zret (st := []) C hr rfl d_M_take_104 rfl rfl
    · refine j_iconst C (v := 1) d_M_take_99 (by decide) ?_
      refine j_goto C 104 d_M_take_100 (by decide) ?_
      cases hF
      exact j_zret (st := []) C hr rfl d_M_take_104 rfl rfl
set_option maxHeartbeats 4000000 in
set_option maxRecDepth 100000 in
theorem c_M_take (l : Launch) (G : GT) (x1 : Int32) (σ : MT)  {z : (Int32 × MT)} (hF : f_M_take x1 σ = some z) : CTI l G y_M_take b_M_take 3 (some .boolean) 3 69 [rf G 38, .int x1] σ z.1 z.2 := by
  refine entX [(0, rf G 38), (1, .int x1)] "TimeFloodModel" (by decide +kernel) rfl rfl (Nat.le_of_ble_eq_true rfl) (fun X hXl hr C => ?_)
  unfold f_M_take at hF
  refine j_iload_n C d_M_take_0 rfl 1 rfl ?_
  refine j_bipush C (v := 48) d_M_take_1 (by decide) ?_
  refine j_isub C d_M_take_3 ?_
  refine j_istore_n C (lv' := [(2, .int (x1 - (48 : Int32))), (0, rf G 38), (1, .int x1)]) d_M_take_4 rfl (by decide) rfl ?_
  refine j_aload_n C d_M_take_5 rfl 1 rfl ?_
  refine g_M_part C (rfl : kdf 38 = 8) wd_700 d_M_take_6 ?_
  refine g_ite hF (fun q hF => ?_) (fun q9_0 hF => ?_)
  · refine j_lookup C 44 (off := 35) d_M_take_9 (by decide) (by rw [q]; rfl) (by decide) ?_
    refine j_aload_n C d_M_take_44 rfl 1 rfl ?_
    refine j_iload_n C d_M_take_45 rfl 0 rfl ?_
    obtain ⟨r46, h46, hF⟩ := g_bind hF
    refine j_vi C (As := [.int (x1 - (48 : Int32))]) (st := []) (c_M_takeHead (XL X) G (x1 - (48 : Int32)) σ h46) (rfl : kdf 38 = 8) (by decide) rfl rfl m_M_takeHead wd_805 rfl rfl (Nat.le_of_ble_eq_true rfl) ⟨by decide, by decide⟩ d_M_take_46 ?_
    obtain ⟨qz, hF⟩ := g_if hF
    cases hF
    exact j_zret (st := []) C hr (zb_n (zbb_z qz)) d_M_take_49 rfl rfl
  refine g_ite hF (fun q hF => ?_) (fun q9_1 hF => ?_)
  · refine j_lookup C 56 (off := 47) d_M_take_9 (by decide) (by rw [q]; rfl) (by decide) ?_
    refine j_aload_n C d_M_take_56 rfl 1 rfl ?_
    refine j_iload_n C d_M_take_57 rfl 0 rfl ?_
    obtain ⟨r58, h58, hF⟩ := g_bind hF
    refine j_vi C (As := [.int (x1 - (48 : Int32))]) (st := []) (c_M_takeOfLink (XL X) G (x1 - (48 : Int32)) σ h58) (rfl : kdf 38 = 8) (by decide) rfl rfl m_M_takeOfLink wd_818 rfl rfl (Nat.le_of_ble_eq_true rfl) ⟨by decide, by decide⟩ d_M_take_58 ?_
    obtain ⟨qz, hF⟩ := g_if hF
    cases hF
    exact j_zret (st := []) C hr (zb_n (zbb_z qz)) d_M_take_61 rfl rfl
  refine g_ite hF (fun q hF => ?_) (fun q9_2 hF => ?_)
  · refine j_lookup C 50 (off := 41) d_M_take_9 (by decide) (by rw [q]; rfl) (by decide) ?_
    refine j_aload_n C d_M_take_50 rfl 1 rfl ?_
    refine j_iload_n C d_M_take_51 rfl 0 rfl ?_
    obtain ⟨r52, h52, hF⟩ := g_bind hF
    refine j_vi C (As := [.int (x1 - (48 : Int32))]) (st := []) (c_M_takeOfNode (XL X) G (x1 - (48 : Int32)) σ h52) (rfl : kdf 38 = 8) (by decide) rfl rfl m_M_takeOfNode wd_813 rfl rfl (Nat.le_of_ble_eq_true rfl) ⟨by decide, by decide⟩ d_M_take_52 ?_
    obtain ⟨qz, hF⟩ := g_if hF
    cases hF
    exact j_zret (st := []) C hr (zb_n (zbb_z qz)) d_M_take_55 rfl rfl
  refine j_lookup C 62 (off := 53) d_M_take_9 (by decide) (by show Op.lookupswitch.offset [(70, 35), (107, 47), (110, 41)] 53 ((σ.1 38 37)).toInt = 53; rw [lv_osw (k := 70) (a := 70) q9_0 (by decide), lv_osw (k := 107) (a := 107) q9_1 (by decide), lv_osw (k := 110) (a := 110) q9_2 (by decide)]; rfl) (by decide) ?_
  refine j_aload_n C d_M_take_62 rfl 1 rfl ?_
  refine j_iload_n C d_M_take_63 rfl 2 rfl ?_
  refine p_M_part C (rfl : kdf 38 = 8) wd_700 d_M_take_64 ?_
  refine j_aload_n C d_M_take_67 rfl 1 rfl ?_
  refine j_iconst C (v := 0) d_M_take_68 (by decide) ?_
  refine p_M_place C (rfl : kdf 38 = 8) wd_701 d_M_take_69 ?_
  refine j_iload_n C d_M_take_72 rfl 2 rfl ?_
  refine j_bipush C (v := 110) d_M_take_73 (by decide) ?_
  refine j_icmp_ne C 86 d_M_take_75 (by decide) hF (fun q75 hF => ?_) (fun q75 hF => ?_)
  · refine j_sub C [(0, rf G 38), (1, .int x1)] [1, 2] rfl ?_
    exact b_M_take_86 C hr x1 (sI (sI σ 38 37 x1) 38 38 (0 : Int32)) hF
  · refine j_aload_n C d_M_take_78 rfl 1 rfl ?_
    refine g_M_readNodes C (rfl : kdf 38 = 8) wd_694 d_M_take_79 ?_
    refine j_iconst C (v := 5) d_M_take_82 (by decide) ?_
    refine j_icmp_lt C 99 d_M_take_83 (by decide) hF (fun q83 hF => ?_) (fun q83 hF => ?_)
    · refine j_iconst C (v := 1) d_M_take_99 (by decide) ?_
      refine j_goto C 104 d_M_take_100 (by decide) ?_
      cases hF
      exact j_zret (st := []) C hr rfl d_M_take_104 rfl rfl
    · refine j_sub C [(0, rf G 38), (1, .int x1)] [1, 2] rfl ?_
      exact b_M_take_86 C hr x1 (sI (sI σ 38 37 x1) 38 38 (0 : Int32)) hF
set_option maxHeartbeats 4000000 in
set_option maxRecDepth 100000 in
theorem b_M_readText_43 {X : XT} {G : GT} {z : (Int32 × MT)} (C : CX X G b_M_readText 2 "TimeFloodModel" 4 91) (hr : XR X (some .int)) : ∀ (n : Nat) (x1 : Int32) (σ : MT), f_M_readText_43 n x1 σ = some z → JW X G (QX X (PI G z.1 z.2) G) 2 43 [(0, rf G 38), (1, .int x1)] [] σ := by
  intro n
  induction n with
  | zero =>
    intro x1 σ hF
    rw [f_M_readText_43] at hF
    cases hF
  | succ n ih =>
    intro x1 σ hF
    rw [f_M_readText_43] at hF
    refine j_iload_n C d_M_readText_43 rfl 1 rfl ?_
    refine j_aload_n C d_M_readText_44 rfl 0 rfl ?_
    refine g_M_length C (rfl : kdf 38 = 8) wd_664 d_M_readText_45 ?_
    refine j_icmp_ge C 72 d_M_readText_48 (by decide) hF (fun q48 hF => ?_) (fun q48 hF => ?_)
    · refine j_aload_n C d_M_readText_72 rfl 0 rfl ?_
      refine g_M_part C (rfl : kdf 38 = 8) wd_700 d_M_readText_73 ?_
      refine j_if_ne C 84 d_M_readText_76 (by decide) hF (fun q76 hF => ?_) (fun q76 hF => ?_)
      · refine j_aload_n C d_M_readText_84 rfl 0 rfl ?_
        refine g_M_length C (rfl : kdf 38 = 8) wd_664 d_M_readText_85 ?_
        cases hF
        exact j_iret (st := []) C hr d_M_readText_88 rfl rfl
      · refine j_bipush C (v := -9) d_M_readText_79 (by decide) ?_
        refine j_goto C 88 d_M_readText_81 (by decide) ?_
        cases hF
        exact j_iret (st := []) C hr d_M_readText_88 rfl rfl
    · refine j_aload_n C d_M_readText_51 rfl 0 rfl ?_
      refine j_aload_n C d_M_readText_52 rfl 0 rfl ?_
      refine g_M_text C (rfl : kdf 38 = 8) wd_663 d_M_readText_53 ?_
      refine j_iload_n C d_M_readText_56 rfl 1 rfl ?_
      obtain ⟨q57, hF⟩ := g_if hF
      refine j_iald C (rfl : kdf 39 = 14) (by decide) rfl (inb_v q57) d_M_readText_57 ?_
      obtain ⟨r58, h58, hF⟩ := g_bind hF
      refine j_vi C (As := [.int (σ.1 39 x1.toNatClampNeg)]) (st := []) (c_M_take (XL X) G (σ.1 39 x1.toNatClampNeg) σ h58) (rfl : kdf 38 = 8) (by decide) rfl rfl m_M_take wd_801 rfl rfl (Nat.le_of_ble_eq_true rfl) ⟨by decide, by decide⟩ d_M_readText_58 ?_
      refine j_if_ne C 66 d_M_readText_61 (by decide) hF (fun q61 hF => ?_) (fun q61 hF => ?_)
      · refine j_iinc C (v := x1 + (1 : Int32)) (lv' := [(1, .int (x1 + (1 : Int32))), (0, rf G 38)]) d_M_readText_66 1 rfl rfl (by decide) rfl ?_
        refine j_goto C 43 d_M_readText_69 (by decide) ?_
        refine j_sub C [(0, rf G 38), (1, .int (x1 + (1 : Int32)))] [1, 0] rfl ?_
        exact ih (x1 + (1 : Int32)) r58.2 hF
      · refine j_iload_n C d_M_readText_64 rfl 1 rfl ?_
        cases hF
        exact j_iret (st := []) C hr d_M_readText_65 rfl rfl
set_option maxHeartbeats 4000000 in
set_option maxRecDepth 100000 in
theorem b_M_readText_21 {X : XT} {G : GT} {z : (Int32 × MT)} (C : CX X G b_M_readText 2 "TimeFloodModel" 4 91) (hr : XR X (some .int)) (σ : MT) (hF : f_M_readText_21 σ = some z) : JW X G (QX X (PI G z.1 z.2) G) 2 21 [(0, rf G 38)] [] σ := by
  unfold f_M_readText_21 at hF
  refine j_aload_n C d_M_readText_21 rfl 0 rfl ?_
  refine g_M_length C (rfl : kdf 38 = 8) wd_664 d_M_readText_22 ?_
  refine j_if_eq C 39 d_M_readText_25 (by decide) hF (fun q25 hF => ?_) (fun q25 hF => ?_)
  · refine j_iconst C (v := 0) d_M_readText_39 (by decide) ?_
    cases hF
    exact j_iret (st := []) C hr d_M_readText_40 rfl rfl
  · refine j_aload_n C d_M_readText_28 rfl 0 rfl ?_
    refine g_M_text C (rfl : kdf 38 = 8) wd_663 d_M_readText_29 ?_
    refine j_iconst C (v := 0) d_M_readText_32 (by decide) ?_
    obtain ⟨q33, hF⟩ := g_if hF
    refine j_iald C (rfl : kdf 39 = 14) (by decide) rfl (inb_v q33) d_M_readText_33 ?_
    refine j_bipush C (v := 70) d_M_readText_34 (by decide) ?_
    refine j_icmp_eq C 41 d_M_readText_36 (by decide) hF (fun q36 hF => ?_) (fun q36 hF => ?_)
    · refine j_iconst C (v := 1) d_M_readText_41 (by decide) ?_
      refine j_istore_n C (lv' := [(1, .int (1 : Int32)), (0, rf G 38)]) d_M_readText_42 rfl (by decide) rfl ?_
      refine j_sub C [(0, rf G 38), (1, .int (1 : Int32))] [1, 0] rfl ?_
      exact b_M_readText_43 C hr 1100 (1 : Int32) σ hF
    · refine j_iconst C (v := 0) d_M_readText_39 (by decide) ?_
      cases hF
      exact j_iret (st := []) C hr d_M_readText_40 rfl rfl
set_option maxHeartbeats 4000000 in
set_option maxRecDepth 100000 in
theorem c_M_readText (l : Launch) (G : GT) (σ : MT)  {z : (Int32 × MT)} (hF : f_M_readText σ = some z) : CTI l G y_M_readText b_M_readText 2 (some .int) 4 91 [rf G 38] σ z.1 z.2 := by
  refine entX [(0, rf G 38)] "TimeFloodModel" (by decide +kernel) rfl rfl (Nat.le_of_ble_eq_true rfl) (fun X hXl hr C => ?_)
  unfold f_M_readText at hF
  refine j_aload_n C d_M_readText_0 rfl 0 rfl ?_
  refine j_iconst C (v := 0) d_M_readText_1 (by decide) ?_
  refine p_M_readNodes C (rfl : kdf 38 = 8) wd_694 d_M_readText_2 ?_
  refine j_aload_n C d_M_readText_5 rfl 0 rfl ?_
  refine j_iconst C (v := 0) d_M_readText_6 (by decide) ?_
  refine p_M_readLinks C (rfl : kdf 38 = 8) wd_697 d_M_readText_7 ?_
  refine j_aload_n C d_M_readText_10 rfl 0 rfl ?_
  refine j_bipush C (v := 70) d_M_readText_11 (by decide) ?_
  refine p_M_part C (rfl : kdf 38 = 8) wd_700 d_M_readText_13 ?_
  refine j_aload_n C d_M_readText_16 rfl 0 rfl ?_
  refine j_iconst C (v := 0) d_M_readText_17 (by decide) ?_
  refine p_M_place C (rfl : kdf 38 = 8) wd_701 d_M_readText_18 ?_
  exact b_M_readText_21 C hr (sI (sI (sI (sI σ 38 31 (0 : Int32)) 38 34 (0 : Int32)) 38 37 (70 : Int32)) 38 38 (0 : Int32)) hF
set_option maxHeartbeats 4000000 in
set_option maxRecDepth 100000 in
theorem c_M_fault (l : Launch) (G : GT) (σ : MT)  {z : (Int32 × MT)} (hF : f_M_fault σ = some z) : CTI l G y_M_fault b_M_fault 1 (some .int) 5 112 [rf G 38] σ z.1 z.2 := by
  refine entX [(0, rf G 38)] "TimeFloodModel" (by decide +kernel) rfl rfl (Nat.le_of_ble_eq_true rfl) (fun X hXl hr C => ?_)
  unfold f_M_fault at hF
  refine j_aload_n C d_M_fault_0 rfl 0 rfl ?_
  obtain ⟨r1, h1, hF⟩ := g_bind hF
  refine j_vi C (As := []) (st := []) (c_M_readText (XL X) G σ h1) (rfl : kdf 38 = 8) (by decide) rfl rfl m_M_readText wd_797 rfl rfl (Nat.le_of_ble_eq_true rfl) ⟨by decide, by decide⟩ d_M_fault_1 ?_
  cases hF
  exact j_iret (st := []) C hr d_M_fault_4 rfl rfl
set_option maxHeartbeats 4000000 in
set_option maxRecDepth 100000 in
theorem b_M_first_43 {X : XT} {G : GT} {z : MT} (C : CX X G b_M_first 3 "TimeFloodModel" 0 0) (hr : XR X none) (σ : MT) (hF : f_M_first_43 σ = some z) : JW X G (QX X (PV G z) G) 3 43 [] [] σ := by
  unfold f_M_first_43 at hF
  cases hF
  exact j_vret C hr d_M_first_43 rfl
set_option maxHeartbeats 4000000 in
set_option maxRecDepth 100000 in
theorem b_M_first_30 {X : XT} {G : GT} {z : MT} (C : CX X G b_M_first 3 "TimeFloodModel" 0 0) (hr : XR X none) (k0 : Nat) (x2 : Int32) (hk0 : kdf k0 = 15) (σ : MT) (hF : f_M_first_30 k0 x2 σ = some z) : JW X G (QX X (PV G z) G) 3 30 [(0, rf G k0), (2, .int x2)] [] σ := by
  unfold f_M_first_30 at hF
  refine j_aload_n C d_M_first_30 rfl 0 rfl ?_
  refine j_iload_n C d_M_first_31 rfl 1 rfl ?_
  refine j_iconst C (v := 5) d_M_first_32 (by decide) ?_
  refine j_iadd C d_M_first_33 ?_
  refine j_iconst C (v := 0) d_M_first_34 (by decide) ?_
  obtain ⟨q35, hF⟩ := g_if hF
  refine j_iast C hk0 (by decide) (fun _ => rfl) (inb_v q35) d_M_first_35 ?_
  refine j_aload_n C d_M_first_36 rfl 0 rfl ?_
  refine j_iload_n C d_M_first_37 rfl 1 rfl ?_
  refine j_bipush C (v := 6) d_M_first_38 (by decide) ?_
  refine j_iadd C d_M_first_40 ?_
  refine j_iconst C (v := 0) d_M_first_41 (by decide) ?_
  obtain ⟨q42, hF⟩ := g_if hF
  refine j_iast C hk0 (by decide) (fun _ => rfl) (inb_v q42) d_M_first_42 ?_
  refine j_sub C [] [] rfl ?_
  exact b_M_first_43 C hr (sI (sI σ k0 (x2 + (5 : Int32)).toNatClampNeg (0 : Int32)) k0 (x2 + (6 : Int32)).toNatClampNeg (0 : Int32)) hF
set_option maxHeartbeats 4000000 in
set_option maxRecDepth 100000 in
theorem b_M_first_18 {X : XT} {G : GT} {z : MT} (C : CX X G b_M_first 3 "TimeFloodModel" 0 0) (hr : XR X none) (k0 : Nat) (x2 : Int32) (hk0 : kdf k0 = 15) (σ : MT) (hF : f_M_first_18 k0 x2 σ = some z) : JW X G (QX X (PV G z) G) 3 18 [(0, rf G k0), (2, .int x2)] [] σ := by
  unfold f_M_first_18 at hF
  refine j_aload_n C d_M_first_18 rfl 0 rfl ?_
  refine j_iload_n C d_M_first_19 rfl 1 rfl ?_
  refine j_iconst C (v := 3) d_M_first_20 (by decide) ?_
  refine j_iadd C d_M_first_21 ?_
  refine j_iconst C (v := 0) d_M_first_22 (by decide) ?_
  obtain ⟨q23, hF⟩ := g_if hF
  refine j_iast C hk0 (by decide) (fun _ => rfl) (inb_v q23) d_M_first_23 ?_
  refine j_aload_n C d_M_first_24 rfl 0 rfl ?_
  refine j_iload_n C d_M_first_25 rfl 1 rfl ?_
  refine j_iconst C (v := 4) d_M_first_26 (by decide) ?_
  refine j_iadd C d_M_first_27 ?_
  refine j_iconst C (v := 0) d_M_first_28 (by decide) ?_
  obtain ⟨q29, hF⟩ := g_if hF
  refine j_iast C hk0 (by decide) (fun _ => rfl) (inb_v q29) d_M_first_29 ?_
  exact b_M_first_30 C hr k0 x2 hk0 (sI (sI σ k0 (x2 + (3 : Int32)).toNatClampNeg (0 : Int32)) k0 (x2 + (4 : Int32)).toNatClampNeg (0 : Int32)) hF
set_option maxHeartbeats 4000000 in
set_option maxRecDepth 100000 in
theorem c_M_first (l : Launch) (G : GT) (k0 : Nat) (x1 : Int32) (σ : MT) (hk0 : kdf k0 = 15) {z : MT} (hF : f_M_first k0 x1 σ = some z) : CTV l G y_M_first b_M_first 3 none 0 0 [rf G k0, .int x1] σ z := by
  refine entX [(0, rf G k0), (1, .int x1)] "TimeFloodModel" (by decide +kernel) rfl rfl (Nat.le_of_ble_eq_true rfl) (fun X hXl hr C => ?_)
  unfold f_M_first at hF
  refine j_bipush C (v := 19) d_M_first_0 (by decide) ?_
  refine j_iload_n C d_M_first_2 rfl 1 rfl ?_
  refine j_imul C d_M_first_3 ?_
  refine j_istore_n C (lv' := [(2, .int ((19 : Int32) * x1)), (0, rf G k0), (1, .int x1)]) d_M_first_4 rfl (by decide) rfl ?_
  refine j_aload_n C d_M_first_5 rfl 1 rfl ?_
  refine j_iload_n C d_M_first_6 rfl 0 rfl ?_
  refine j_iconst C (v := 0) d_M_first_7 (by decide) ?_
  refine j_iadd C d_M_first_8 ?_
  refine j_iconst C (v := 1) d_M_first_9 (by decide) ?_
  obtain ⟨q10, hF⟩ := g_if hF
  refine j_iast C hk0 (by decide) (fun _ => rfl) (inb_v q10) d_M_first_10 ?_
  refine j_aload_n C d_M_first_11 rfl 1 rfl ?_
  refine j_iload_n C d_M_first_12 rfl 0 rfl ?_
  refine j_iconst C (v := 2) d_M_first_13 (by decide) ?_
  refine j_iadd C d_M_first_14 ?_
  refine j_bipush C (v := -9) d_M_first_15 (by decide) ?_
  obtain ⟨q17, hF⟩ := g_if hF
  refine j_iast C hk0 (by decide) (fun _ => rfl) (inb_v q17) d_M_first_17 ?_
  refine j_sub C [(0, rf G k0), (2, .int ((19 : Int32) * x1))] [1, 0] rfl ?_
  exact b_M_first_18 C hr k0 ((19 : Int32) * x1) hk0 (sI (sI σ k0 (((19 : Int32) * x1) + (0 : Int32)).toNatClampNeg (1 : Int32)) k0 (((19 : Int32) * x1) + (2 : Int32)).toNatClampNeg (-9 : Int32)) hF
set_option maxHeartbeats 4000000 in
set_option maxRecDepth 100000 in
theorem b_M_net_87 {X : XT} {G : GT} {z : (Int32 × MT)} {K54 : Int32 → MT → Option (Int32 × MT)} (C : CX X G b_M_net 2 "TimeFloodModel" 5 112) (hr : XR X (some .int)) (hK54 : ∀ (x1 : Int32) (σ : MT), K54 x1 σ = some z → JW X G (QX X (PI G z.1 z.2) G) 2 54 [(0, rf G 38), (1, .int x1)] [] σ) (x1 : Int32) (σ : MT) (hF : f_M_net_87 K54 x1 σ = some z) : JW X G (QX X (PI G z.1 z.2) G) 2 87 [(0, rf G 38), (1, .int x1)] [] σ := by
  unfold f_M_net_87 at hF
  refine j_aload_n C d_M_net_87 rfl 0 rfl ?_
  refine g_M_start C (rfl : kdf 38 = 8) wd_669 d_M_net_88 ?_
  refine j_iload_n C d_M_net_91 rfl 1 rfl ?_
  refine j_aload_n C d_M_net_92 rfl 0 rfl ?_
  refine g_M_readStart C (rfl : kdf 38 = 8) wd_696 d_M_net_93 ?_
  refine j_iload_n C d_M_net_96 rfl 1 rfl ?_
  obtain ⟨q97, hF⟩ := g_if hF
  refine j_iald C (rfl : kdf 58 = 11) (by decide) rfl (inb_v q97) d_M_net_97 ?_
  obtain ⟨q98, hF⟩ := g_if hF
  refine j_iast C (rfl : kdf 40 = 11) (by decide) (fun _ => rfl) (inb_v q98) d_M_net_98 ?_
  refine j_iinc C (v := x1 + (1 : Int32)) (lv' := [(1, .int (x1 + (1 : Int32))), (0, rf G 38)]) d_M_net_99 1 rfl rfl (by decide) rfl ?_
  refine j_goto C 54 d_M_net_102 (by decide) ?_
  refine j_sub C [(0, rf G 38), (1, .int (x1 + (1 : Int32)))] [1, 0] rfl ?_
  exact hK54 (x1 + (1 : Int32)) (sI σ 40 x1.toNatClampNeg (σ.1 58 x1.toNatClampNeg)) hF
set_option maxHeartbeats 4000000 in
set_option maxRecDepth 100000 in
theorem b_M_net_54 {X : XT} {G : GT} {z : (Int32 × MT)} {K107 : Int32 → MT → Option (Int32 × MT)} (C : CX X G b_M_net 2 "TimeFloodModel" 5 112) (hr : XR X (some .int)) (hK107 : ∀ (x1 : Int32) (σ : MT), K107 x1 σ = some z → JW X G (QX X (PI G z.1 z.2) G) 2 107 [(0, rf G 38), (1, .int x1)] [] σ) : ∀ (n : Nat) (x1 : Int32) (σ : MT), f_M_net_54 K107 n x1 σ = some z → JW X G (QX X (PI G z.1 z.2) G) 2 54 [(0, rf G 38), (1, .int x1)] [] σ := by
  intro n
  induction n with
  | zero =>
    intro x1 σ hF
    rw [f_M_net_54] at hF
    cases hF
  | succ n ih =>
    intro x1 σ hF
    rw [f_M_net_54] at hF
    refine j_iload_n C d_M_net_54 rfl 1 rfl ?_
    refine j_aload_n C d_M_net_55 rfl 0 rfl ?_
    refine g_M_nodes C (rfl : kdf 38 = 8) wd_668 d_M_net_56 ?_
    refine j_icmp_ge C 105 d_M_net_59 (by decide) hF (fun q59 hF => ?_) (fun q59 hF => ?_)
    · refine j_iconst C (v := 0) d_M_net_105 (by decide) ?_
      refine j_istore_n C (lv' := [(1, .int (0 : Int32)), (0, rf G 38)]) d_M_net_106 rfl (by decide) rfl ?_
      refine j_sub C [(0, rf G 38), (1, .int (0 : Int32))] [1, 0] rfl ?_
      exact hK107 (0 : Int32) σ hF
    · refine j_aload_n C d_M_net_62 rfl 0 rfl ?_
      refine g_M_now C (rfl : kdf 38 = 8) wd_673 d_M_net_63 ?_
      refine j_iload_n C d_M_net_66 rfl 1 rfl ?_
      obtain ⟨r67, h67, hF⟩ := g_bind hF
      refine j_sv C (As := [rf G 43, .int x1]) (st := []) (c_M_first (XL X) G 43 x1 σ (rfl : kdf 43 = 15) h67) m_M_first wd_838 rfl rfl (Nat.le_of_ble_eq_true rfl) ⟨by decide, by decide⟩ d_M_net_67 ?_
      refine j_aload_n C d_M_net_70 rfl 0 rfl ?_
      refine g_M_now C (rfl : kdf 38 = 8) wd_673 d_M_net_71 ?_
      refine j_bipush C (v := 19) d_M_net_74 (by decide) ?_
      refine j_iload_n C d_M_net_76 rfl 1 rfl ?_
      refine j_imul C d_M_net_77 ?_
      refine j_iconst C (v := 1) d_M_net_78 (by decide) ?_
      refine j_iadd C d_M_net_79 ?_
      refine j_aload_n C d_M_net_80 rfl 0 rfl ?_
      refine g_M_readDrift C (rfl : kdf 38 = 8) wd_695 d_M_net_81 ?_
      refine j_iload_n C d_M_net_84 rfl 1 rfl ?_
      obtain ⟨q85, hF⟩ := g_if hF
      refine j_iald C (rfl : kdf 57 = 11) (by decide) rfl (inb_v q85) d_M_net_85 ?_
      obtain ⟨q86, hF⟩ := g_if hF
      refine j_iast C (rfl : kdf 43 = 15) (by decide) (fun _ => rfl) (inb_v q86) d_M_net_86 ?_
      exact b_M_net_87 C hr ih x1 (sI r67 43 (((19 : Int32) * x1) + (1 : Int32)).toNatClampNeg (r67.1 57 x1.toNatClampNeg)) hF
set_option maxHeartbeats 4000000 in
set_option maxRecDepth 100000 in
theorem b_M_net_170 {X : XT} {G : GT} {z : (Int32 × MT)} {K107 : Int32 → MT → Option (Int32 × MT)} (C : CX X G b_M_net 2 "TimeFloodModel" 5 112) (hr : XR X (some .int)) (hK107 : ∀ (x1 : Int32) (σ : MT), K107 x1 σ = some z → JW X G (QX X (PI G z.1 z.2) G) 2 107 [(0, rf G 38), (1, .int x1)] [] σ) (x1 : Int32) (xs0 : Int32) (xs1 : Int32) (σ : MT) (hF : f_M_net_170 K107 x1 xs0 xs1 σ = some z) : JW X G (QX X (PI G z.1 z.2) G) 2 170 [(0, rf G 38), (1, .int x1)] [.int xs0, .int xs1, rf G 42] σ := by
  unfold f_M_net_170 at hF
  obtain ⟨q170, hF⟩ := g_if hF
  refine j_iast C (rfl : kdf 42 = 13) (by decide) (fun _ => rfl) (inb_v q170) d_M_net_170 ?_
  refine j_iinc C (v := x1 + (1 : Int32)) (lv' := [(1, .int (x1 + (1 : Int32))), (0, rf G 38)]) d_M_net_171 1 rfl rfl (by decide) rfl ?_
  refine j_goto C 107 d_M_net_174 (by decide) ?_
  refine j_sub C [(0, rf G 38), (1, .int (x1 + (1 : Int32)))] [1, 0] rfl ?_
  exact hK107 (x1 + (1 : Int32)) (sI σ 42 xs1.toNatClampNeg xs0) hF
set_option maxHeartbeats 4000000 in
set_option maxRecDepth 100000 in
theorem b_M_net_146 {X : XT} {G : GT} {z : (Int32 × MT)} {K107 : Int32 → MT → Option (Int32 × MT)} (C : CX X G b_M_net 2 "TimeFloodModel" 5 112) (hr : XR X (some .int)) (hK107 : ∀ (x1 : Int32) (σ : MT), K107 x1 σ = some z → JW X G (QX X (PI G z.1 z.2) G) 2 107 [(0, rf G 38), (1, .int x1)] [] σ) (x1 : Int32) (xs0 : Int32) (xs1 : Int32) (σ : MT) (hF : f_M_net_146 K107 x1 xs0 xs1 σ = some z) : JW X G (QX X (PI G z.1 z.2) G) 2 146 [(0, rf G 38), (1, .int x1)] [.int xs0, .int xs1, rf G 41] σ := by
  unfold f_M_net_146 at hF
  obtain ⟨q146, hF⟩ := g_if hF
  refine j_iast C (rfl : kdf 41 = 13) (by decide) (fun _ => rfl) (inb_v q146) d_M_net_146 ?_
  refine j_aload_n C d_M_net_147 rfl 0 rfl ?_
  refine g_M_other C (rfl : kdf 38 = 8) wd_672 d_M_net_148 ?_
  refine j_iload_n C d_M_net_151 rfl 1 rfl ?_
  refine j_iload_n C d_M_net_152 rfl 1 rfl ?_
  refine j_aload_n C d_M_net_153 rfl 0 rfl ?_
  refine g_M_links C (rfl : kdf 38 = 8) wd_670 d_M_net_154 ?_
  refine j_icmp_ge C 169 d_M_net_157 (by decide) hF (fun q157 hF => ?_) (fun q157 hF => ?_)
  · refine j_iconst C (v := 0) d_M_net_169 (by decide) ?_
    exact b_M_net_170 C hr hK107 x1 (0 : Int32) x1 (sI σ 41 xs1.toNatClampNeg xs0) hF
  · refine j_aload_n C d_M_net_160 rfl 0 rfl ?_
    refine g_M_readOther C (rfl : kdf 38 = 8) wd_699 d_M_net_161 ?_
    refine j_iload_n C d_M_net_164 rfl 1 rfl ?_
    obtain ⟨q165, hF⟩ := g_if hF
    refine j_iald C (rfl : kdf 60 = 13) (by decide) rfl (inb_v q165) d_M_net_165 ?_
    refine j_goto C 170 d_M_net_166 (by decide) ?_
    exact b_M_net_170 C hr hK107 x1 ((sI σ 41 xs1.toNatClampNeg xs0).1 60 x1.toNatClampNeg) x1 (sI σ 41 xs1.toNatClampNeg xs0) hF
set_option maxHeartbeats 4000000 in
set_option maxRecDepth 100000 in
theorem b_M_net_107 {X : XT} {G : GT} {z : (Int32 × MT)} (C : CX X G b_M_net 2 "TimeFloodModel" 5 112) (hr : XR X (some .int)) : ∀ (n : Nat) (x1 : Int32) (σ : MT), f_M_net_107 n x1 σ = some z → JW X G (QX X (PI G z.1 z.2) G) 2 107 [(0, rf G 38), (1, .int x1)] [] σ := by
  intro n
  induction n with
  | zero =>
    intro x1 σ hF
    rw [f_M_net_107] at hF
    cases hF
  | succ n ih =>
    intro x1 σ hF
    rw [f_M_net_107] at hF
    refine j_iload_n C d_M_net_107 rfl 1 rfl ?_
    refine j_bipush C (v := 7) d_M_net_108 (by decide) ?_
    refine j_icmp_ge C 177 d_M_net_110 (by decide) hF (fun q110 hF => ?_) (fun q110 hF => ?_)
    · refine j_aload_n C d_M_net_177 rfl 0 rfl ?_
      refine g_M_now C (rfl : kdf 38 = 8) wd_673 d_M_net_178 ?_
      refine j_bipush C (v := 102) d_M_net_181 (by decide) ?_
      refine j_iconst C (v := 0) d_M_net_183 (by decide) ?_
      obtain ⟨q184, hF⟩ := g_if hF
      refine j_iast C (rfl : kdf 43 = 15) (by decide) (fun _ => rfl) (inb_v q184) d_M_net_184 ?_
      refine j_aload_n C d_M_net_185 rfl 0 rfl ?_
      refine j_iconst C (v := 0) d_M_net_186 (by decide) ?_
      refine p_M_acts C (rfl : kdf 38 = 8) wd_676 d_M_net_187 ?_
      refine j_aload_n C d_M_net_190 rfl 0 rfl ?_
      refine g_M_isKept C (rfl : kdf 38 = 8) wd_679 d_M_net_191 ?_
      refine j_iconst C (v := 0) d_M_net_194 (by decide) ?_
      refine j_iconst C (v := 0) d_M_net_195 (by decide) ?_
      obtain ⟨q196, hF⟩ := g_if hF
      refine j_zast C (rfl : kdf 47 = 22) (by decide) (fun _ => rfl) (inb_v q196) d_M_net_196 ?_
      refine j_aload_n C d_M_net_197 rfl 0 rfl ?_
      refine g_M_isKept C (rfl : kdf 38 = 8) wd_679 d_M_net_198 ?_
      refine j_iconst C (v := 1) d_M_net_201 (by decide) ?_
      refine j_iconst C (v := 0) d_M_net_202 (by decide) ?_
      obtain ⟨q203, hF⟩ := g_if hF
      refine j_zast C (rfl : kdf 47 = 22) (by decide) (fun _ => rfl) (inb_v q203) d_M_net_203 ?_
      refine j_aload_n C d_M_net_204 rfl 0 rfl ?_
      refine g_M_nodes C (rfl : kdf 38 = 8) wd_668 d_M_net_205 ?_
      cases hF
      exact j_iret (st := []) C hr d_M_net_208 rfl rfl
    · refine j_aload_n C d_M_net_113 rfl 0 rfl ?_
      refine g_M_now C (rfl : kdf 38 = 8) wd_673 d_M_net_114 ?_
      refine j_bipush C (v := 95) d_M_net_117 (by decide) ?_
      refine j_iload_n C d_M_net_119 rfl 1 rfl ?_
      refine j_iadd C d_M_net_120 ?_
      refine j_iconst C (v := 0) d_M_net_121 (by decide) ?_
      obtain ⟨q122, hF⟩ := g_if hF
      refine j_iast C (rfl : kdf 43 = 15) (by decide) (fun _ => rfl) (inb_v q122) d_M_net_122 ?_
      refine j_aload_n C d_M_net_123 rfl 0 rfl ?_
      refine g_M_one C (rfl : kdf 38 = 8) wd_671 d_M_net_124 ?_
      refine j_iload_n C d_M_net_127 rfl 1 rfl ?_
      refine j_iload_n C d_M_net_128 rfl 1 rfl ?_
      refine j_aload_n C d_M_net_129 rfl 0 rfl ?_
      refine g_M_links C (rfl : kdf 38 = 8) wd_670 d_M_net_130 ?_
      refine j_icmp_ge C 145 d_M_net_133 (by decide) hF (fun q133 hF => ?_) (fun q133 hF => ?_)
      · refine j_iconst C (v := 0) d_M_net_145 (by decide) ?_
        exact b_M_net_146 C hr ih x1 (0 : Int32) x1 (sI σ 43 ((95 : Int32) + x1).toNatClampNeg (0 : Int32)) hF
      · refine j_aload_n C d_M_net_136 rfl 0 rfl ?_
        refine g_M_readOne C (rfl : kdf 38 = 8) wd_698 d_M_net_137 ?_
        refine j_iload_n C d_M_net_140 rfl 1 rfl ?_
        obtain ⟨q141, hF⟩ := g_if hF
        refine j_iald C (rfl : kdf 59 = 13) (by decide) rfl (inb_v q141) d_M_net_141 ?_
        refine j_goto C 146 d_M_net_142 (by decide) ?_
        exact b_M_net_146 C hr ih x1 ((sI σ 43 ((95 : Int32) + x1).toNatClampNeg (0 : Int32)).1 59 x1.toNatClampNeg) x1 (sI σ 43 ((95 : Int32) + x1).toNatClampNeg (0 : Int32)) hF
set_option maxHeartbeats 4000000 in
set_option maxRecDepth 100000 in
theorem b_M_net_52 {X : XT} {G : GT} {z : (Int32 × MT)} (C : CX X G b_M_net 2 "TimeFloodModel" 5 112) (hr : XR X (some .int)) (σ : MT) (hF : f_M_net_52 σ = some z) : JW X G (QX X (PI G z.1 z.2) G) 2 52 [(0, rf G 38)] [] σ := by
  unfold f_M_net_52 at hF
  refine j_iconst C (v := 0) d_M_net_52 (by decide) ?_
  refine j_istore_n C (lv' := [(1, .int (0 : Int32)), (0, rf G 38)]) d_M_net_53 rfl (by decide) rfl ?_
  refine j_sub C [(0, rf G 38), (1, .int (0 : Int32))] [1, 0] rfl ?_
  exact b_M_net_54 C hr (b_M_net_107 C hr 1100) 1100 (0 : Int32) σ hF
set_option maxHeartbeats 4000000 in
set_option maxRecDepth 100000 in
theorem b_M_net_28 {X : XT} {G : GT} {z : (Int32 × MT)} (C : CX X G b_M_net 2 "TimeFloodModel" 5 112) (hr : XR X (some .int)) (σ : MT) (hF : f_M_net_28 σ = some z) : JW X G (QX X (PI G z.1 z.2) G) 2 28 [(0, rf G 38)] [] σ := by
  unfold f_M_net_28 at hF
  refine j_aload_n C d_M_net_28 rfl 0 rfl ?_
  refine j_aload_n C d_M_net_29 rfl 0 rfl ?_
  refine g_M_readShy C (rfl : kdf 38 = 8) wd_693 d_M_net_30 ?_
  refine p_M_shy C (rfl : kdf 38 = 8) wd_667 d_M_net_33 ?_
  refine j_aload_n C d_M_net_36 rfl 0 rfl ?_
  refine j_aload_n C d_M_net_37 rfl 0 rfl ?_
  refine g_M_readNodes C (rfl : kdf 38 = 8) wd_694 d_M_net_38 ?_
  refine p_M_nodes C (rfl : kdf 38 = 8) wd_668 d_M_net_41 ?_
  refine j_aload_n C d_M_net_44 rfl 0 rfl ?_
  refine j_aload_n C d_M_net_45 rfl 0 rfl ?_
  refine g_M_readLinks C (rfl : kdf 38 = 8) wd_697 d_M_net_46 ?_
  refine p_M_links C (rfl : kdf 38 = 8) wd_670 d_M_net_49 ?_
  exact b_M_net_52 C hr (sI (sI (sI σ 38 4 (σ.1 38 30)) 38 5 ((sI σ 38 4 (σ.1 38 30)).1 38 31)) 38 7 ((sI (sI σ 38 4 (σ.1 38 30)) 38 5 ((sI σ 38 4 (σ.1 38 30)).1 38 31)).1 38 34)) hF
set_option maxHeartbeats 4000000 in
set_option maxRecDepth 100000 in
theorem c_M_net (l : Launch) (G : GT) (σ : MT)  {z : (Int32 × MT)} (hF : f_M_net σ = some z) : CTI l G y_M_net b_M_net 2 (some .int) 5 112 [rf G 38] σ z.1 z.2 := by
  refine entX [(0, rf G 38)] "TimeFloodModel" (by decide +kernel) rfl rfl (Nat.le_of_ble_eq_true rfl) (fun X hXl hr C => ?_)
  unfold f_M_net at hF
  refine j_aload_n C d_M_net_0 rfl 0 rfl ?_
  obtain ⟨r1, h1, hF⟩ := g_bind hF
  refine j_vi C (As := []) (st := []) (c_M_readText (XL X) G σ h1) (rfl : kdf 38 = 8) (by decide) rfl rfl m_M_readText wd_797 rfl rfl (Nat.le_of_ble_eq_true rfl) ⟨by decide, by decide⟩ d_M_net_1 ?_
  refine j_bipush C (v := -9) d_M_net_4 (by decide) ?_
  refine j_icmp_eq C 12 d_M_net_6 (by decide) hF (fun q6 hF => ?_) (fun q6 hF => ?_)
  · refine j_aload_n C d_M_net_12 rfl 0 rfl ?_
    refine j_aload_n C d_M_net_13 rfl 0 rfl ?_
    refine g_M_readWide C (rfl : kdf 38 = 8) wd_691 d_M_net_14 ?_
    refine p_M_wide C (rfl : kdf 38 = 8) wd_665 d_M_net_17 ?_
    refine j_aload_n C d_M_net_20 rfl 0 rfl ?_
    refine j_aload_n C d_M_net_21 rfl 0 rfl ?_
    refine g_M_readPatience C (rfl : kdf 38 = 8) wd_692 d_M_net_22 ?_
    refine p_M_patience C (rfl : kdf 38 = 8) wd_666 d_M_net_25 ?_
    exact b_M_net_28 C hr (sI (sI r1.2 38 2 (r1.2.1 38 28)) 38 3 ((sI r1.2 38 2 (r1.2.1 38 28)).1 38 29)) hF
  · refine j_bipush C (v := -3) d_M_net_9 (by decide) ?_
    cases hF
    exact j_iret (st := []) C hr d_M_net_11 rfl rfl
set_option maxHeartbeats 4000000 in
set_option maxRecDepth 100000 in
theorem c_M_clockOf (l : Launch) (G : GT) (k1 : Nat) (x2 : Int32) (σ : MT) (hk1 : kdf k1 = 15) {z : Int32} (hF : f_M_clockOf k1 x2 σ = some z) : CTI l G y_M_clockOf b_M_clockOf 5 (some .int) 2 46 [rf G 38, rf G k1, .int x2] σ z σ := by
  refine entX [(0, rf G 38), (1, rf G k1), (2, .int x2)] "TimeFloodModel" (by decide +kernel) rfl rfl (Nat.le_of_ble_eq_true rfl) (fun X hXl hr C => ?_)
  unfold f_M_clockOf at hF
  refine j_aload_n C d_M_clockOf_0 rfl 1 rfl ?_
  refine j_bipush C (v := 102) d_M_clockOf_1 (by decide) ?_
  obtain ⟨q3, hF⟩ := g_if hF
  refine j_iald C hk1 (by decide) rfl (inb_v q3) d_M_clockOf_3 ?_
  refine j_i2l C d_M_clockOf_4 ?_
  refine j_lstore_n C (lv' := [(3, .long ((σ.1 k1 (102 : Int32).toNatClampNeg).toInt64)), (0, rf G 38), (1, rf G k1), (2, .int x2)]) d_M_clockOf_5 rfl (by decide) rfl ?_
  refine j_ldc2 C wd_868 d_M_clockOf_6 ?_
  refine j_aload_n C d_M_clockOf_9 rfl 1 rfl ?_
  refine g_M_start C (rfl : kdf 38 = 8) wd_669 d_M_clockOf_10 ?_
  refine j_iload_n C d_M_clockOf_13 rfl 3 rfl ?_
  obtain ⟨q14, hF⟩ := g_if hF
  refine j_iald C (rfl : kdf 40 = 11) (by decide) rfl (inb_v q14) d_M_clockOf_14 ?_
  refine j_i2l C d_M_clockOf_15 ?_
  refine j_lmul C d_M_clockOf_16 ?_
  refine j_lload_n C d_M_clockOf_17 rfl 0 rfl ?_
  refine j_ladd C d_M_clockOf_18 ?_
  refine j_lload_n C d_M_clockOf_19 rfl 0 rfl ?_
  refine j_aload_n C d_M_clockOf_20 rfl 2 rfl ?_
  refine j_bipush C (v := 19) d_M_clockOf_21 (by decide) ?_
  refine j_iload_n C d_M_clockOf_23 rfl 3 rfl ?_
  refine j_imul C d_M_clockOf_24 ?_
  refine j_iconst C (v := 1) d_M_clockOf_25 (by decide) ?_
  refine j_iadd C d_M_clockOf_26 ?_
  obtain ⟨q27, hF⟩ := g_if hF
  refine j_iald C hk1 (by decide) rfl (inb_v q27) d_M_clockOf_27 ?_
  refine j_i2l C d_M_clockOf_28 ?_
  refine j_lmul C d_M_clockOf_29 ?_
  refine j_ldc2 C wd_869 d_M_clockOf_30 ?_
  obtain ⟨r33, h33, hF⟩ := g_bind hF
  refine j_sl C (As := [.long (((σ.1 k1 (102 : Int32).toNatClampNeg).toInt64) * ((σ.1 k1 (((19 : Int32) * x2) + (1 : Int32)).toNatClampNeg).toInt64)), .long (64 : Int64)]) (st := [.long (((16 : Int64) * ((σ.1 40 x2.toNatClampNeg).toInt64)) + ((σ.1 k1 (102 : Int32).toNatClampNeg).toInt64))]) (c_M_down (XL X) G (((σ.1 k1 (102 : Int32).toNatClampNeg).toInt64) * ((σ.1 k1 (((19 : Int32) * x2) + (1 : Int32)).toNatClampNeg).toInt64)) (64 : Int64) σ h33) m_M_down wd_870 rfl rfl (Nat.le_of_ble_eq_true rfl) ⟨by decide, by decide⟩ d_M_clockOf_33 ?_
  refine j_ladd C d_M_clockOf_36 ?_
  obtain ⟨r37, h37, hF⟩ := g_bind hF
  refine j_si C (As := [.long ((((16 : Int64) * ((σ.1 40 x2.toNatClampNeg).toInt64)) + ((σ.1 k1 (102 : Int32).toNatClampNeg).toInt64)) + r33)]) (st := []) (c_M_round (XL X) G ((((16 : Int64) * ((σ.1 40 x2.toNatClampNeg).toInt64)) + ((σ.1 k1 (102 : Int32).toNatClampNeg).toInt64)) + r33) σ h37) m_M_round wd_873 rfl rfl (Nat.le_of_ble_eq_true rfl) ⟨by decide, by decide⟩ d_M_clockOf_37 ?_
  cases hF
  exact j_iret (st := []) C hr d_M_clockOf_40 rfl rfl
set_option maxHeartbeats 4000000 in
set_option maxRecDepth 100000 in
theorem b_M_estimate_86 {X : XT} {G : GT} {z : Int32} {K275 : Int32 → Int32 → Int32 → Int64 → MT → Option Int32} {σ : MT} (C : CX X G b_M_estimate 23 "TimeFloodModel" 3 70) (hr : XR X (some .int)) (hK275 : ∀ (x4 : Int32) (x6 : Int32) (x7 : Int32) (ys0 : Int64), K275 x4 x6 x7 ys0 σ = some z → JW X G (QX X (PI G z σ) G) 23 275 [(4, .int x4), (6, .int x6), (7, .int x7)] [.long ys0] σ) : ∀ (n : Nat) (k1 : Nat) (x3 : Int32) (x4 : Int32) (x5 : Int32) (x6 : Int32) (x7 : Int32) (y8 : Int64) (y10 : Int64) (y12 : Int64) (y14 : Int64) (x16 : Int32) (hk1 : kdf k1 = 15), f_M_estimate_86 K275 n k1 x3 x4 x5 x6 x7 y8 y10 y12 y14 x16 σ = some z → JW X G (QX X (PI G z σ) G) 23 86 [(1, rf G k1), (3, .int x3), (4, .int x4), (5, .int x5), (6, .int x6), (7, .int x7), (8, .long y8), (10, .long y10), (12, .long y12), (14, .long y14), (16, .int x16)] [] σ := by
  intro n
  induction n with
  | zero =>
    intro k1 x3 x4 x5 x6 x7 y8 y10 y12 y14 x16 hk1 hF
    rw [f_M_estimate_86] at hF
    cases hF
  | succ n ih =>
    intro k1 x3 x4 x5 x6 x7 y8 y10 y12 y14 x16 hk1 hF
    rw [f_M_estimate_86] at hF
    refine j_iload C d_M_estimate_86 10 rfl ?_
    refine j_iload C d_M_estimate_88 3 rfl ?_
    refine j_icmp_ge C 191 d_M_estimate_90 (by decide) hF (fun q90 hF => ?_) (fun q90 hF => ?_)
    · refine j_iload C d_M_estimate_191 3 rfl ?_
      refine j_i2l C d_M_estimate_193 ?_
      refine j_lload C d_M_estimate_194 8 rfl ?_
      refine j_lmul C d_M_estimate_196 ?_
      refine j_lload C d_M_estimate_197 6 rfl ?_
      refine j_lload C d_M_estimate_199 7 rfl ?_
      refine j_lmul C d_M_estimate_201 ?_
      refine j_lsub C d_M_estimate_202 ?_
      refine j_lstore C (lv' := [(16, .long ((x5.toInt64 * y12) - (y8 * y10))), (1, rf G k1), (3, .int x3), (4, .int x4), (5, .int x5), (6, .int x6), (7, .int x7), (8, .long y8), (10, .long y10), (12, .long y12), (14, .long y14)]) d_M_estimate_203 (by decide) rfl ?_
      refine j_iload C d_M_estimate_205 4 rfl ?_
      refine j_i2l C d_M_estimate_207 ?_
      refine j_lload C d_M_estimate_208 10 rfl ?_
      refine j_lmul C d_M_estimate_210 ?_
      refine j_lload C d_M_estimate_211 7 rfl ?_
      refine j_lload C d_M_estimate_213 7 rfl ?_
      refine j_lmul C d_M_estimate_215 ?_
      refine j_lsub C d_M_estimate_216 ?_
      refine j_lstore C (lv' := [(18, .long ((x5.toInt64 * y14) - (y8 * y8))), (16, .long ((x5.toInt64 * y12) - (y8 * y10))), (1, rf G k1), (3, .int x3), (4, .int x4), (5, .int x5), (6, .int x6), (7, .int x7), (8, .long y8), (10, .long y10), (12, .long y12), (14, .long y14)]) d_M_estimate_217 (by decide) rfl ?_
      refine j_lload C d_M_estimate_219 0 rfl ?_
      refine j_lconst C (v := 0) d_M_estimate_221 (by decide) ?_
      refine j_lcmp C d_M_estimate_222 ?_
      refine j_if_ne C 237 d_M_estimate_223 (by decide) hF (fun q223 hF => ?_) (fun q223 hF => ?_)
      · refine j_lload C d_M_estimate_237 9 rfl ?_
        refine j_lload C d_M_estimate_239 0 rfl ?_
        refine j_lmul C d_M_estimate_241 ?_
        refine j_lload C d_M_estimate_242 1 rfl ?_
        refine j_lload C d_M_estimate_244 8 rfl ?_
        refine j_lmul C d_M_estimate_246 ?_
        refine j_lsub C d_M_estimate_247 ?_
        refine j_iload C d_M_estimate_248 5 rfl ?_
        refine j_i2l C d_M_estimate_250 ?_
        refine j_lload C d_M_estimate_251 1 rfl ?_
        refine j_lmul C d_M_estimate_253 ?_
        refine j_iload C d_M_estimate_254 4 rfl ?_
        refine j_iload C d_M_estimate_256 6 rfl ?_
        refine j_isub C d_M_estimate_258 ?_
        refine j_i2l C d_M_estimate_259 ?_
        obtain ⟨r260, h260, hF⟩ := g_bind hF
        refine j_si C (As := [.long ((x4 - x6).toInt64)]) (st := [.long (x5.toInt64 * ((x5.toInt64 * y12) - (y8 * y10))), .long ((y10 * ((x5.toInt64 * y14) - (y8 * y8))) - (((x5.toInt64 * y12) - (y8 * y10)) * y8))]) (c_M_near (XL X) G ((x4 - x6).toInt64) σ h260) m_M_near wd_877 rfl rfl (Nat.le_of_ble_eq_true rfl) ⟨by decide, by decide⟩ d_M_estimate_260 ?_
        refine j_i2l C d_M_estimate_263 ?_
        refine j_lmul C d_M_estimate_264 ?_
        refine j_ladd C d_M_estimate_265 ?_
        refine j_iload C d_M_estimate_266 5 rfl ?_
        refine j_i2l C d_M_estimate_268 ?_
        refine j_lload C d_M_estimate_269 0 rfl ?_
        refine j_lmul C d_M_estimate_271 ?_
        obtain ⟨r272, h272, hF⟩ := g_bind hF
        refine j_sl C (As := [.long (((y10 * ((x5.toInt64 * y14) - (y8 * y8))) - (((x5.toInt64 * y12) - (y8 * y10)) * y8)) + ((x5.toInt64 * ((x5.toInt64 * y12) - (y8 * y10))) * r260.toInt64)), .long (x5.toInt64 * ((x5.toInt64 * y14) - (y8 * y8)))]) (st := []) (c_M_down (XL X) G (((y10 * ((x5.toInt64 * y14) - (y8 * y8))) - (((x5.toInt64 * y12) - (y8 * y10)) * y8)) + ((x5.toInt64 * ((x5.toInt64 * y12) - (y8 * y10))) * r260.toInt64)) (x5.toInt64 * ((x5.toInt64 * y14) - (y8 * y8))) σ h272) m_M_down wd_870 rfl rfl (Nat.le_of_ble_eq_true rfl) ⟨by decide, by decide⟩ d_M_estimate_272 ?_
        refine j_sub C [(4, .int x4), (6, .int x6), (7, .int x7)] [4, 6, 7] rfl ?_
        exact hK275 x4 x6 x7 r272 hF
      · refine j_lload C d_M_estimate_226 9 rfl ?_
        refine j_iload C d_M_estimate_228 5 rfl ?_
        refine j_i2l C d_M_estimate_230 ?_
        obtain ⟨r231, h231, hF⟩ := g_bind hF
        refine j_sl C (As := [.long y10, .long x5.toInt64]) (st := []) (c_M_down (XL X) G y10 x5.toInt64 σ h231) m_M_down wd_870 rfl rfl (Nat.le_of_ble_eq_true rfl) ⟨by decide, by decide⟩ d_M_estimate_231 ?_
        refine j_goto C 275 d_M_estimate_234 (by decide) ?_
        refine j_sub C [(4, .int x4), (6, .int x6), (7, .int x7)] [4, 6, 7] rfl ?_
        exact hK275 x4 x6 x7 r231 hF
    · refine j_aload_n C d_M_estimate_93 rfl 0 rfl ?_
      refine j_iload_n C d_M_estimate_94 rfl 1 rfl ?_
      refine j_bipush C (v := 7) d_M_estimate_95 (by decide) ?_
      refine j_iadd C d_M_estimate_97 ?_
      refine j_iconst C (v := 3) d_M_estimate_98 (by decide) ?_
      refine j_iload C d_M_estimate_99 10 rfl ?_
      refine j_imul C d_M_estimate_101 ?_
      refine j_iadd C d_M_estimate_102 ?_
      obtain ⟨q103, hF⟩ := g_if hF
      refine j_iald C hk1 (by decide) rfl (inb_v q103) d_M_estimate_103 ?_
      refine j_istore C (lv' := [(17, .int (σ.1 k1 ((x3 + (7 : Int32)) + ((3 : Int32) * x16)).toNatClampNeg)), (1, rf G k1), (3, .int x3), (4, .int x4), (5, .int x5), (6, .int x6), (7, .int x7), (8, .long y8), (10, .long y10), (12, .long y12), (14, .long y14), (16, .int x16)]) d_M_estimate_104 (by decide) rfl ?_
      refine j_aload_n C d_M_estimate_106 rfl 1 rfl ?_
      refine j_iload_n C d_M_estimate_107 rfl 2 rfl ?_
      refine j_bipush C (v := 7) d_M_estimate_108 (by decide) ?_
      refine j_iadd C d_M_estimate_110 ?_
      refine j_iconst C (v := 3) d_M_estimate_111 (by decide) ?_
      refine j_iload C d_M_estimate_112 11 rfl ?_
      refine j_imul C d_M_estimate_114 ?_
      refine j_iadd C d_M_estimate_115 ?_
      refine j_iconst C (v := 1) d_M_estimate_116 (by decide) ?_
      refine j_iadd C d_M_estimate_117 ?_
      obtain ⟨q118, hF⟩ := g_if hF
      refine j_iald C hk1 (by decide) rfl (inb_v q118) d_M_estimate_118 ?_
      refine j_istore C (lv' := [(18, .int (σ.1 k1 (((x3 + (7 : Int32)) + ((3 : Int32) * x16)) + (1 : Int32)).toNatClampNeg)), (17, .int (σ.1 k1 ((x3 + (7 : Int32)) + ((3 : Int32) * x16)).toNatClampNeg)), (1, rf G k1), (3, .int x3), (4, .int x4), (5, .int x5), (6, .int x6), (7, .int x7), (8, .long y8), (10, .long y10), (12, .long y12), (14, .long y14), (16, .int x16)]) d_M_estimate_119 (by decide) rfl ?_
      refine j_iload C d_M_estimate_121 1 rfl ?_
      refine j_iload C d_M_estimate_123 6 rfl ?_
      refine j_isub C d_M_estimate_125 ?_
      refine j_i2l C d_M_estimate_126 ?_
      obtain ⟨r127, h127, hF⟩ := g_bind hF
      refine j_si C (As := [.long (((σ.1 k1 ((x3 + (7 : Int32)) + ((3 : Int32) * x16)).toNatClampNeg) - x6).toInt64)]) (st := []) (c_M_near (XL X) G (((σ.1 k1 ((x3 + (7 : Int32)) + ((3 : Int32) * x16)).toNatClampNeg) - x6).toInt64) σ h127) m_M_near wd_877 rfl rfl (Nat.le_of_ble_eq_true rfl) ⟨by decide, by decide⟩ d_M_estimate_127 ?_
      refine j_i2l C d_M_estimate_130 ?_
      refine j_lstore C (lv' := [(19, .long r127.toInt64), (18, .int (σ.1 k1 (((x3 + (7 : Int32)) + ((3 : Int32) * x16)) + (1 : Int32)).toNatClampNeg)), (17, .int (σ.1 k1 ((x3 + (7 : Int32)) + ((3 : Int32) * x16)).toNatClampNeg)), (1, rf G k1), (3, .int x3), (4, .int x4), (5, .int x5), (6, .int x6), (7, .int x7), (8, .long y8), (10, .long y10), (12, .long y12), (14, .long y14), (16, .int x16)]) d_M_estimate_131 (by decide) rfl ?_
      refine j_iload C d_M_estimate_133 1 rfl ?_
      refine j_iload C d_M_estimate_135 2 rfl ?_
      refine j_isub C d_M_estimate_137 ?_
      refine j_iload C d_M_estimate_138 8 rfl ?_
      refine j_iload C d_M_estimate_140 7 rfl ?_
      refine j_isub C d_M_estimate_142 ?_
      refine j_isub C d_M_estimate_143 ?_
      refine j_i2l C d_M_estimate_144 ?_
      obtain ⟨r145, h145, hF⟩ := g_bind hF
      refine j_si C (As := [.long ((((σ.1 k1 (((x3 + (7 : Int32)) + ((3 : Int32) * x16)) + (1 : Int32)).toNatClampNeg) - (σ.1 k1 ((x3 + (7 : Int32)) + ((3 : Int32) * x16)).toNatClampNeg)) - (x7 - x6)).toInt64)]) (st := []) (c_M_near (XL X) G ((((σ.1 k1 (((x3 + (7 : Int32)) + ((3 : Int32) * x16)) + (1 : Int32)).toNatClampNeg) - (σ.1 k1 ((x3 + (7 : Int32)) + ((3 : Int32) * x16)).toNatClampNeg)) - (x7 - x6)).toInt64) σ h145) m_M_near wd_877 rfl rfl (Nat.le_of_ble_eq_true rfl) ⟨by decide, by decide⟩ d_M_estimate_145 ?_
      refine j_i2l C d_M_estimate_148 ?_
      refine j_lstore C (lv' := [(21, .long r145.toInt64), (19, .long r127.toInt64), (18, .int (σ.1 k1 (((x3 + (7 : Int32)) + ((3 : Int32) * x16)) + (1 : Int32)).toNatClampNeg)), (17, .int (σ.1 k1 ((x3 + (7 : Int32)) + ((3 : Int32) * x16)).toNatClampNeg)), (1, rf G k1), (3, .int x3), (4, .int x4), (5, .int x5), (6, .int x6), (7, .int x7), (8, .long y8), (10, .long y10), (12, .long y12), (14, .long y14), (16, .int x16)]) d_M_estimate_149 (by decide) rfl ?_
      refine j_lload C d_M_estimate_151 10 rfl ?_
      refine j_lload C d_M_estimate_153 1 rfl ?_
      refine j_ladd C d_M_estimate_155 ?_
      refine j_lstore C (lv' := [(8, .long (y8 + r127.toInt64)), (21, .long r145.toInt64), (19, .long r127.toInt64), (18, .int (σ.1 k1 (((x3 + (7 : Int32)) + ((3 : Int32) * x16)) + (1 : Int32)).toNatClampNeg)), (17, .int (σ.1 k1 ((x3 + (7 : Int32)) + ((3 : Int32) * x16)).toNatClampNeg)), (1, rf G k1), (3, .int x3), (4, .int x4), (5, .int x5), (6, .int x6), (7, .int x7), (10, .long y10), (12, .long y12), (14, .long y14), (16, .int x16)]) d_M_estimate_156 (by decide) rfl ?_
      refine j_lload C d_M_estimate_158 11 rfl ?_
      refine j_lload C d_M_estimate_160 1 rfl ?_
      refine j_ladd C d_M_estimate_162 ?_
      refine j_lstore C (lv' := [(10, .long (y10 + r145.toInt64)), (8, .long (y8 + r127.toInt64)), (21, .long r145.toInt64), (19, .long r127.toInt64), (18, .int (σ.1 k1 (((x3 + (7 : Int32)) + ((3 : Int32) * x16)) + (1 : Int32)).toNatClampNeg)), (17, .int (σ.1 k1 ((x3 + (7 : Int32)) + ((3 : Int32) * x16)).toNatClampNeg)), (1, rf G k1), (3, .int x3), (4, .int x4), (5, .int x5), (6, .int x6), (7, .int x7), (12, .long y12), (14, .long y14), (16, .int x16)]) d_M_estimate_163 (by decide) rfl ?_
      refine j_lload C d_M_estimate_165 12 rfl ?_
      refine j_lload C d_M_estimate_167 3 rfl ?_
      refine j_lload C d_M_estimate_169 2 rfl ?_
      refine j_lmul C d_M_estimate_171 ?_
      refine j_ladd C d_M_estimate_172 ?_
      refine j_lstore C (lv' := [(12, .long (y12 + (r127.toInt64 * r145.toInt64))), (10, .long (y10 + r145.toInt64)), (8, .long (y8 + r127.toInt64)), (21, .long r145.toInt64), (19, .long r127.toInt64), (18, .int (σ.1 k1 (((x3 + (7 : Int32)) + ((3 : Int32) * x16)) + (1 : Int32)).toNatClampNeg)), (17, .int (σ.1 k1 ((x3 + (7 : Int32)) + ((3 : Int32) * x16)).toNatClampNeg)), (1, rf G k1), (3, .int x3), (4, .int x4), (5, .int x5), (6, .int x6), (7, .int x7), (14, .long y14), (16, .int x16)]) d_M_estimate_173 (by decide) rfl ?_
      refine j_lload C d_M_estimate_175 13 rfl ?_
      refine j_lload C d_M_estimate_177 4 rfl ?_
      refine j_lload C d_M_estimate_179 4 rfl ?_
      refine j_lmul C d_M_estimate_181 ?_
      refine j_ladd C d_M_estimate_182 ?_
      refine j_lstore C (lv' := [(14, .long (y14 + (r127.toInt64 * r127.toInt64))), (12, .long (y12 + (r127.toInt64 * r145.toInt64))), (10, .long (y10 + r145.toInt64)), (8, .long (y8 + r127.toInt64)), (21, .long r145.toInt64), (19, .long r127.toInt64), (18, .int (σ.1 k1 (((x3 + (7 : Int32)) + ((3 : Int32) * x16)) + (1 : Int32)).toNatClampNeg)), (17, .int (σ.1 k1 ((x3 + (7 : Int32)) + ((3 : Int32) * x16)).toNatClampNeg)), (1, rf G k1), (3, .int x3), (4, .int x4), (5, .int x5), (6, .int x6), (7, .int x7), (16, .int x16)]) d_M_estimate_183 (by decide) rfl ?_
      refine j_iinc C (v := x16 + (1 : Int32)) (lv' := [(16, .int (x16 + (1 : Int32))), (14, .long (y14 + (r127.toInt64 * r127.toInt64))), (12, .long (y12 + (r127.toInt64 * r145.toInt64))), (10, .long (y10 + r145.toInt64)), (8, .long (y8 + r127.toInt64)), (21, .long r145.toInt64), (19, .long r127.toInt64), (18, .int (σ.1 k1 (((x3 + (7 : Int32)) + ((3 : Int32) * x16)) + (1 : Int32)).toNatClampNeg)), (17, .int (σ.1 k1 ((x3 + (7 : Int32)) + ((3 : Int32) * x16)).toNatClampNeg)), (1, rf G k1), (3, .int x3), (4, .int x4), (5, .int x5), (6, .int x6), (7, .int x7)]) d_M_estimate_185 14 rfl rfl (by decide) rfl ?_
      refine j_goto C 86 d_M_estimate_188 (by decide) ?_
      refine j_sub C [(1, rf G k1), (3, .int x3), (4, .int x4), (5, .int x5), (6, .int x6), (7, .int x7), (8, .long (y8 + r127.toInt64)), (10, .long (y10 + r145.toInt64)), (12, .long (y12 + (r127.toInt64 * r145.toInt64))), (14, .long (y14 + (r127.toInt64 * r127.toInt64))), (16, .int (x16 + (1 : Int32)))] [9, 10, 11, 12, 13, 14, 4, 3, 2, 1, 0] rfl ?_
      exact ih k1 x3 x4 x5 x6 x7 (y8 + r127.toInt64) (y10 + r145.toInt64) (y12 + (r127.toInt64 * r145.toInt64)) (y14 + (r127.toInt64 * r127.toInt64)) (x16 + (1 : Int32)) hk1 hF
set_option maxHeartbeats 4000000 in
set_option maxRecDepth 100000 in
theorem b_M_estimate_275 {X : XT} {G : GT} {z : Int32} {σ : MT} (C : CX X G b_M_estimate 23 "TimeFloodModel" 3 70) (hr : XR X (some .int)) (x4 : Int32) (x6 : Int32) (x7 : Int32) (ys0 : Int64) (hF : f_M_estimate_275 x4 x6 x7 ys0 σ = some z) : JW X G (QX X (PI G z σ) G) 23 275 [(4, .int x4), (6, .int x6), (7, .int x7)] [.long ys0] σ := by
  unfold f_M_estimate_275 at hF
  refine j_lstore C (lv' := [(20, .long ys0), (4, .int x4), (6, .int x6), (7, .int x7)]) d_M_estimate_275 (by decide) rfl ?_
  refine j_iload C d_M_estimate_277 1 rfl ?_
  refine j_iload C d_M_estimate_279 3 rfl ?_
  refine j_iadd C d_M_estimate_281 ?_
  refine j_iload C d_M_estimate_282 2 rfl ?_
  refine j_isub C d_M_estimate_284 ?_
  refine j_i2l C d_M_estimate_285 ?_
  refine j_lload C d_M_estimate_286 0 rfl ?_
  refine j_ladd C d_M_estimate_288 ?_
  obtain ⟨r289, h289, hF⟩ := g_bind hF
  refine j_si C (As := [.long ((((x4 + x7) - x6).toInt64) + ys0)]) (st := []) (c_M_round (XL X) G ((((x4 + x7) - x6).toInt64) + ys0) σ h289) m_M_round wd_873 rfl rfl (Nat.le_of_ble_eq_true rfl) ⟨by decide, by decide⟩ d_M_estimate_289 ?_
  cases hF
  exact j_iret (st := []) C hr d_M_estimate_292 rfl rfl
set_option maxHeartbeats 4000000 in
set_option maxRecDepth 100000 in
theorem b_M_estimate_56 {X : XT} {G : GT} {z : Int32} {σ : MT} (C : CX X G b_M_estimate 23 "TimeFloodModel" 3 70) (hr : XR X (some .int)) (k1 : Nat) (x3 : Int32) (x4 : Int32) (x5 : Int32) (x6 : Int32) (hk1 : kdf k1 = 15) (hF : f_M_estimate_56 k1 x3 x4 x5 x6 σ = some z) : JW X G (QX X (PI G z σ) G) 23 56 [(1, rf G k1), (3, .int x3), (4, .int x4), (5, .int x5), (6, .int x6)] [] σ := by
  unfold f_M_estimate_56 at hF
  refine j_aload_n C d_M_estimate_56 rfl 0 rfl ?_
  refine j_iload_n C d_M_estimate_57 rfl 1 rfl ?_
  refine j_bipush C (v := 7) d_M_estimate_58 (by decide) ?_
  refine j_iadd C d_M_estimate_60 ?_
  refine j_iconst C (v := 3) d_M_estimate_61 (by decide) ?_
  refine j_iload C d_M_estimate_62 3 rfl ?_
  refine j_imul C d_M_estimate_64 ?_
  refine j_iadd C d_M_estimate_65 ?_
  refine j_iconst C (v := 2) d_M_estimate_66 (by decide) ?_
  refine j_isub C d_M_estimate_67 ?_
  obtain ⟨q68, hF⟩ := g_if hF
  refine j_iald C hk1 (by decide) rfl (inb_v q68) d_M_estimate_68 ?_
  refine j_istore C (lv' := [(7, .int (σ.1 k1 (((x3 + (7 : Int32)) + ((3 : Int32) * x5)) - (2 : Int32)).toNatClampNeg)), (1, rf G k1), (3, .int x3), (4, .int x4), (5, .int x5), (6, .int x6)]) d_M_estimate_69 (by decide) rfl ?_
  refine j_lconst C (v := 0) d_M_estimate_71 (by decide) ?_
  refine j_lstore C (lv' := [(8, .long (0 : Int64)), (7, .int (σ.1 k1 (((x3 + (7 : Int32)) + ((3 : Int32) * x5)) - (2 : Int32)).toNatClampNeg)), (1, rf G k1), (3, .int x3), (4, .int x4), (5, .int x5), (6, .int x6)]) d_M_estimate_72 (by decide) rfl ?_
  refine j_lconst C (v := 0) d_M_estimate_74 (by decide) ?_
  refine j_lstore C (lv' := [(10, .long (0 : Int64)), (8, .long (0 : Int64)), (7, .int (σ.1 k1 (((x3 + (7 : Int32)) + ((3 : Int32) * x5)) - (2 : Int32)).toNatClampNeg)), (1, rf G k1), (3, .int x3), (4, .int x4), (5, .int x5), (6, .int x6)]) d_M_estimate_75 (by decide) rfl ?_
  refine j_lconst C (v := 0) d_M_estimate_77 (by decide) ?_
  refine j_lstore C (lv' := [(12, .long (0 : Int64)), (10, .long (0 : Int64)), (8, .long (0 : Int64)), (7, .int (σ.1 k1 (((x3 + (7 : Int32)) + ((3 : Int32) * x5)) - (2 : Int32)).toNatClampNeg)), (1, rf G k1), (3, .int x3), (4, .int x4), (5, .int x5), (6, .int x6)]) d_M_estimate_78 (by decide) rfl ?_
  refine j_lconst C (v := 0) d_M_estimate_80 (by decide) ?_
  refine j_lstore C (lv' := [(14, .long (0 : Int64)), (12, .long (0 : Int64)), (10, .long (0 : Int64)), (8, .long (0 : Int64)), (7, .int (σ.1 k1 (((x3 + (7 : Int32)) + ((3 : Int32) * x5)) - (2 : Int32)).toNatClampNeg)), (1, rf G k1), (3, .int x3), (4, .int x4), (5, .int x5), (6, .int x6)]) d_M_estimate_81 (by decide) rfl ?_
  refine j_iconst C (v := 0) d_M_estimate_83 (by decide) ?_
  refine j_istore C (lv' := [(16, .int (0 : Int32)), (14, .long (0 : Int64)), (12, .long (0 : Int64)), (10, .long (0 : Int64)), (8, .long (0 : Int64)), (7, .int (σ.1 k1 (((x3 + (7 : Int32)) + ((3 : Int32) * x5)) - (2 : Int32)).toNatClampNeg)), (1, rf G k1), (3, .int x3), (4, .int x4), (5, .int x5), (6, .int x6)]) d_M_estimate_84 (by decide) rfl ?_
  refine j_sub C [(1, rf G k1), (3, .int x3), (4, .int x4), (5, .int x5), (6, .int x6), (7, .int (σ.1 k1 (((x3 + (7 : Int32)) + ((3 : Int32) * x5)) - (2 : Int32)).toNatClampNeg)), (8, .long (0 : Int64)), (10, .long (0 : Int64)), (12, .long (0 : Int64)), (14, .long (0 : Int64)), (16, .int (0 : Int32))] [6, 7, 8, 9, 10, 5, 4, 3, 2, 1, 0] rfl ?_
  exact b_M_estimate_86 C hr (b_M_estimate_275 C hr) 1100 k1 x3 x4 x5 x6 (σ.1 k1 (((x3 + (7 : Int32)) + ((3 : Int32) * x5)) - (2 : Int32)).toNatClampNeg) (0 : Int64) (0 : Int64) (0 : Int64) (0 : Int64) (0 : Int32) hk1 hF
set_option maxHeartbeats 4000000 in
set_option maxRecDepth 100000 in
theorem c_M_estimate (l : Launch) (G : GT) (k1 : Nat) (x2 : Int32) (σ : MT) (hk1 : kdf k1 = 15) {z : Int32} (hF : f_M_estimate k1 x2 σ = some z) : CTI l G y_M_estimate b_M_estimate 23 (some .int) 3 70 [rf G 38, rf G k1, .int x2] σ z σ := by
  refine entX [(0, rf G 38), (1, rf G k1), (2, .int x2)] "TimeFloodModel" (by decide +kernel) rfl rfl (Nat.le_of_ble_eq_true rfl) (fun X hXl hr C => ?_)
  unfold f_M_estimate at hF
  refine j_bipush C (v := 19) d_M_estimate_0 (by decide) ?_
  refine j_iload_n C d_M_estimate_2 rfl 2 rfl ?_
  refine j_imul C d_M_estimate_3 ?_
  refine j_istore_n C (lv' := [(3, .int ((19 : Int32) * x2)), (0, rf G 38), (1, rf G k1), (2, .int x2)]) d_M_estimate_4 rfl (by decide) rfl ?_
  refine j_aload_n C d_M_estimate_5 rfl 1 rfl ?_
  refine j_aload_n C d_M_estimate_6 rfl 2 rfl ?_
  refine j_iload_n C d_M_estimate_7 rfl 3 rfl ?_
  obtain ⟨r8, h8, hF⟩ := g_bind hF
  refine j_vi C (As := [rf G k1, .int x2]) (st := []) (c_M_clockOf (XL X) G k1 x2 σ hk1 h8) (rfl : kdf 38 = 8) (by decide) rfl rfl m_M_clockOf wd_864 rfl rfl (Nat.le_of_ble_eq_true rfl) ⟨by decide, by decide⟩ d_M_estimate_8 ?_
  refine j_istore C (lv' := [(4, .int r8), (3, .int ((19 : Int32) * x2)), (0, rf G 38), (1, rf G k1), (2, .int x2)]) d_M_estimate_11 (by decide) rfl ?_
  refine j_aload_n C d_M_estimate_13 rfl 3 rfl ?_
  refine j_iload_n C d_M_estimate_14 rfl 1 rfl ?_
  refine j_iconst C (v := 2) d_M_estimate_15 (by decide) ?_
  refine j_iadd C d_M_estimate_16 ?_
  obtain ⟨q17, hF⟩ := g_if hF
  refine j_iald C hk1 (by decide) rfl (inb_v q17) d_M_estimate_17 ?_
  refine j_iload_n C d_M_estimate_18 rfl 4 rfl ?_
  refine j_icmp_ne C 25 d_M_estimate_19 (by decide) hF (fun q19 hF => ?_) (fun q19 hF => ?_)
  · refine j_aload_n C d_M_estimate_25 rfl 3 rfl ?_
    refine j_iload_n C d_M_estimate_26 rfl 1 rfl ?_
    refine j_bipush C (v := 6) d_M_estimate_27 (by decide) ?_
    refine j_iadd C d_M_estimate_29 ?_
    obtain ⟨q30, hF⟩ := g_if hF
    refine j_iald C hk1 (by decide) rfl (inb_v q30) d_M_estimate_30 ?_
    refine j_istore C (lv' := [(5, .int (σ.1 k1 (((19 : Int32) * x2) + (6 : Int32)).toNatClampNeg)), (4, .int r8), (3, .int ((19 : Int32) * x2)), (0, rf G 38), (1, rf G k1), (2, .int x2)]) d_M_estimate_31 (by decide) rfl ?_
    refine j_iload C d_M_estimate_33 0 rfl ?_
    refine j_if_ne C 41 d_M_estimate_35 (by decide) hF (fun q35 hF => ?_) (fun q35 hF => ?_)
    · refine j_aload_n C d_M_estimate_41 rfl 4 rfl ?_
      refine j_iload_n C d_M_estimate_42 rfl 2 rfl ?_
      refine j_bipush C (v := 7) d_M_estimate_43 (by decide) ?_
      refine j_iadd C d_M_estimate_45 ?_
      refine j_iconst C (v := 3) d_M_estimate_46 (by decide) ?_
      refine j_iload C d_M_estimate_47 0 rfl ?_
      refine j_imul C d_M_estimate_49 ?_
      refine j_iadd C d_M_estimate_50 ?_
      refine j_iconst C (v := 3) d_M_estimate_51 (by decide) ?_
      refine j_isub C d_M_estimate_52 ?_
      obtain ⟨q53, hF⟩ := g_if hF
      refine j_iald C hk1 (by decide) rfl (inb_v q53) d_M_estimate_53 ?_
      refine j_istore C (lv' := [(6, .int (σ.1 k1 (((((19 : Int32) * x2) + (7 : Int32)) + ((3 : Int32) * (σ.1 k1 (((19 : Int32) * x2) + (6 : Int32)).toNatClampNeg))) - (3 : Int32)).toNatClampNeg)), (5, .int (σ.1 k1 (((19 : Int32) * x2) + (6 : Int32)).toNatClampNeg)), (4, .int r8), (3, .int ((19 : Int32) * x2)), (0, rf G 38), (1, rf G k1), (2, .int x2)]) d_M_estimate_54 (by decide) rfl ?_
      refine j_sub C [(1, rf G k1), (3, .int ((19 : Int32) * x2)), (4, .int r8), (5, .int (σ.1 k1 (((19 : Int32) * x2) + (6 : Int32)).toNatClampNeg)), (6, .int (σ.1 k1 (((((19 : Int32) * x2) + (7 : Int32)) + ((3 : Int32) * (σ.1 k1 (((19 : Int32) * x2) + (6 : Int32)).toNatClampNeg))) - (3 : Int32)).toNatClampNeg))] [5, 3, 2, 1, 0] rfl ?_
      exact b_M_estimate_56 C hr k1 ((19 : Int32) * x2) r8 (σ.1 k1 (((19 : Int32) * x2) + (6 : Int32)).toNatClampNeg) (σ.1 k1 (((((19 : Int32) * x2) + (7 : Int32)) + ((3 : Int32) * (σ.1 k1 (((19 : Int32) * x2) + (6 : Int32)).toNatClampNeg))) - (3 : Int32)).toNatClampNeg) hk1 hF
    · refine j_bipush C (v := -9) d_M_estimate_38 (by decide) ?_
      cases hF
      exact j_iret (st := []) C hr d_M_estimate_40 rfl rfl
  · refine j_iload C d_M_estimate_22 0 rfl ?_
    cases hF
    exact j_iret (st := []) C hr d_M_estimate_24 rfl rfl
set_option maxHeartbeats 4000000 in
set_option maxRecDepth 100000 in
theorem b_M_dropOld_112 {X : XT} {G : GT} {z : MT} {K11 : Nat → Int32 → Int32 → Int32 → MT → Option MT} (C : CX X G b_M_dropOld 7 "TimeFloodModel" 0 0) (hr : XR X none) (hK11 : ∀ (k1 : Nat) (x3 : Int32) (x4 : Int32) (x5 : Int32) (hk1 : kdf k1 = 15) (σ : MT), K11 k1 x3 x4 x5 σ = some z → JW X G (QX X (PV G z) G) 7 11 [(1, rf G k1), (3, .int x3), (4, .int x4), (5, .int x5)] [] σ) (k1 : Nat) (x3 : Int32) (x4 : Int32) (x5 : Int32) (hk1 : kdf k1 = 15) (σ : MT) (hF : f_M_dropOld_112 K11 k1 x3 x4 x5 σ = some z) : JW X G (QX X (PV G z) G) 7 112 [(1, rf G k1), (3, .int x3), (4, .int x4), (5, .int x5)] [] σ := by
  unfold f_M_dropOld_112 at hF
  refine j_iinc C (v := x5 + (1 : Int32)) (lv' := [(5, .int (x5 + (1 : Int32))), (1, rf G k1), (3, .int x3), (4, .int x4)]) d_M_dropOld_112 3 rfl rfl (by decide) rfl ?_
  refine j_goto C 11 d_M_dropOld_115 (by decide) ?_
  refine j_sub C [(1, rf G k1), (3, .int x3), (4, .int x4), (5, .int (x5 + (1 : Int32)))] [1, 2, 3, 0] rfl ?_
  exact hK11 k1 x3 x4 (x5 + (1 : Int32)) hk1 σ hF
set_option maxHeartbeats 4000000 in
set_option maxRecDepth 100000 in
theorem b_M_dropOld_109 {X : XT} {G : GT} {z : MT} {K11 : Nat → Int32 → Int32 → Int32 → MT → Option MT} (C : CX X G b_M_dropOld 7 "TimeFloodModel" 0 0) (hr : XR X none) (hK11 : ∀ (k1 : Nat) (x3 : Int32) (x4 : Int32) (x5 : Int32) (hk1 : kdf k1 = 15) (σ : MT), K11 k1 x3 x4 x5 σ = some z → JW X G (QX X (PV G z) G) 7 11 [(1, rf G k1), (3, .int x3), (4, .int x4), (5, .int x5)] [] σ) (k1 : Nat) (x3 : Int32) (x4 : Int32) (x5 : Int32) (hk1 : kdf k1 = 15) (σ : MT) (hF : f_M_dropOld_109 K11 k1 x3 x4 x5 σ = some z) : JW X G (QX X (PV G z) G) 7 109 [(1, rf G k1), (3, .int x3), (4, .int x4), (5, .int x5)] [] σ := by
  unfold f_M_dropOld_109 at hF
  refine j_iinc C (v := x4 + (1 : Int32)) (lv' := [(4, .int (x4 + (1 : Int32))), (1, rf G k1), (3, .int x3), (5, .int x5)]) d_M_dropOld_109 2 rfl rfl (by decide) rfl ?_
  refine j_sub C [(1, rf G k1), (3, .int x3), (4, .int (x4 + (1 : Int32))), (5, .int x5)] [1, 2, 0, 3] rfl ?_
  exact b_M_dropOld_112 C hr hK11 k1 x3 (x4 + (1 : Int32)) x5 hk1 σ hF
set_option maxHeartbeats 4000000 in
set_option maxRecDepth 100000 in
theorem b_M_dropOld_94 {X : XT} {G : GT} {z : MT} {K11 : Nat → Int32 → Int32 → Int32 → MT → Option MT} (C : CX X G b_M_dropOld 7 "TimeFloodModel" 0 0) (hr : XR X none) (hK11 : ∀ (k1 : Nat) (x3 : Int32) (x4 : Int32) (x5 : Int32) (hk1 : kdf k1 = 15) (σ : MT), K11 k1 x3 x4 x5 σ = some z → JW X G (QX X (PV G z) G) 7 11 [(1, rf G k1), (3, .int x3), (4, .int x4), (5, .int x5)] [] σ) (k1 : Nat) (x3 : Int32) (x4 : Int32) (x5 : Int32) (x6 : Int32) (hk1 : kdf k1 = 15) (σ : MT) (hF : f_M_dropOld_94 K11 k1 x3 x4 x5 x6 σ = some z) : JW X G (QX X (PV G z) G) 7 94 [(1, rf G k1), (3, .int x3), (4, .int x4), (5, .int x5), (6, .int x6)] [] σ := by
  unfold f_M_dropOld_94 at hF
  refine j_aload_n C d_M_dropOld_94 rfl 0 rfl ?_
  refine j_iload_n C d_M_dropOld_95 rfl 1 rfl ?_
  refine j_bipush C (v := 7) d_M_dropOld_96 (by decide) ?_
  refine j_iadd C d_M_dropOld_98 ?_
  refine j_iconst C (v := 3) d_M_dropOld_99 (by decide) ?_
  refine j_iload C d_M_dropOld_100 2 rfl ?_
  refine j_imul C d_M_dropOld_102 ?_
  refine j_iadd C d_M_dropOld_103 ?_
  refine j_iconst C (v := 2) d_M_dropOld_104 (by decide) ?_
  refine j_iadd C d_M_dropOld_105 ?_
  refine j_iload C d_M_dropOld_106 4 rfl ?_
  obtain ⟨q108, hF⟩ := g_if hF
  refine j_iast C hk1 (by decide) (fun _ => rfl) (inb_v q108) d_M_dropOld_108 ?_
  refine j_sub C [(1, rf G k1), (3, .int x3), (4, .int x4), (5, .int x5)] [0, 1, 2, 3] rfl ?_
  exact b_M_dropOld_109 C hr hK11 k1 x3 x4 x5 hk1 (sI σ k1 (((x3 + (7 : Int32)) + ((3 : Int32) * x4)) + (2 : Int32)).toNatClampNeg x6) hF
set_option maxHeartbeats 4000000 in
set_option maxRecDepth 100000 in
theorem b_M_dropOld_68 {X : XT} {G : GT} {z : MT} {K11 : Nat → Int32 → Int32 → Int32 → MT → Option MT} (C : CX X G b_M_dropOld 7 "TimeFloodModel" 0 0) (hr : XR X none) (hK11 : ∀ (k1 : Nat) (x3 : Int32) (x4 : Int32) (x5 : Int32) (hk1 : kdf k1 = 15) (σ : MT), K11 k1 x3 x4 x5 σ = some z → JW X G (QX X (PV G z) G) 7 11 [(1, rf G k1), (3, .int x3), (4, .int x4), (5, .int x5)] [] σ) (k1 : Nat) (x3 : Int32) (x4 : Int32) (x5 : Int32) (x6 : Int32) (hk1 : kdf k1 = 15) (σ : MT) (hF : f_M_dropOld_68 K11 k1 x3 x4 x5 x6 σ = some z) : JW X G (QX X (PV G z) G) 7 68 [(1, rf G k1), (3, .int x3), (4, .int x4), (5, .int x5), (6, .int x6)] [] σ := by
  unfold f_M_dropOld_68 at hF
  refine j_aload_n C d_M_dropOld_68 rfl 0 rfl ?_
  refine j_iload_n C d_M_dropOld_69 rfl 1 rfl ?_
  refine j_bipush C (v := 7) d_M_dropOld_70 (by decide) ?_
  refine j_iadd C d_M_dropOld_72 ?_
  refine j_iconst C (v := 3) d_M_dropOld_73 (by decide) ?_
  refine j_iload C d_M_dropOld_74 2 rfl ?_
  refine j_imul C d_M_dropOld_76 ?_
  refine j_iadd C d_M_dropOld_77 ?_
  refine j_iconst C (v := 1) d_M_dropOld_78 (by decide) ?_
  refine j_iadd C d_M_dropOld_79 ?_
  refine j_aload_n C d_M_dropOld_80 rfl 0 rfl ?_
  refine j_iload_n C d_M_dropOld_81 rfl 1 rfl ?_
  refine j_bipush C (v := 7) d_M_dropOld_82 (by decide) ?_
  refine j_iadd C d_M_dropOld_84 ?_
  refine j_iconst C (v := 3) d_M_dropOld_85 (by decide) ?_
  refine j_iload C d_M_dropOld_86 3 rfl ?_
  refine j_imul C d_M_dropOld_88 ?_
  refine j_iadd C d_M_dropOld_89 ?_
  refine j_iconst C (v := 1) d_M_dropOld_90 (by decide) ?_
  refine j_iadd C d_M_dropOld_91 ?_
  obtain ⟨q92, hF⟩ := g_if hF
  refine j_iald C hk1 (by decide) rfl (inb_v q92) d_M_dropOld_92 ?_
  obtain ⟨q93, hF⟩ := g_if hF
  refine j_iast C hk1 (by decide) (fun _ => rfl) (inb_v q93) d_M_dropOld_93 ?_
  exact b_M_dropOld_94 C hr hK11 k1 x3 x4 x5 x6 hk1 (sI σ k1 (((x3 + (7 : Int32)) + ((3 : Int32) * x4)) + (1 : Int32)).toNatClampNeg (σ.1 k1 (((x3 + (7 : Int32)) + ((3 : Int32) * x5)) + (1 : Int32)).toNatClampNeg)) hF
set_option maxHeartbeats 4000000 in
set_option maxRecDepth 100000 in
theorem b_M_dropOld_39 {X : XT} {G : GT} {z : MT} {K11 : Nat → Int32 → Int32 → Int32 → MT → Option MT} (C : CX X G b_M_dropOld 7 "TimeFloodModel" 0 0) (hr : XR X none) (hK11 : ∀ (k1 : Nat) (x3 : Int32) (x4 : Int32) (x5 : Int32) (hk1 : kdf k1 = 15) (σ : MT), K11 k1 x3 x4 x5 σ = some z → JW X G (QX X (PV G z) G) 7 11 [(1, rf G k1), (3, .int x3), (4, .int x4), (5, .int x5)] [] σ) (k1 : Nat) (x3 : Int32) (x4 : Int32) (x5 : Int32) (x6 : Int32) (hk1 : kdf k1 = 15) (σ : MT) (hF : f_M_dropOld_39 K11 k1 x3 x4 x5 x6 σ = some z) : JW X G (QX X (PV G z) G) 7 39 [(1, rf G k1), (3, .int x3), (4, .int x4), (5, .int x5), (6, .int x6)] [] σ := by
  unfold f_M_dropOld_39 at hF
  refine j_iload C d_M_dropOld_39 4 rfl ?_
  refine j_bipush C (v := 9) d_M_dropOld_41 (by decide) ?_
  refine j_icmp_gt C 112 d_M_dropOld_43 (by decide) hF (fun q43 hF => ?_) (fun q43 hF => ?_)
  · refine j_sub C [(1, rf G k1), (3, .int x3), (4, .int x4), (5, .int x5)] [0, 1, 2, 3] rfl ?_
    exact b_M_dropOld_112 C hr hK11 k1 x3 x4 x5 hk1 σ hF
  · refine j_aload_n C d_M_dropOld_46 rfl 0 rfl ?_
    refine j_iload_n C d_M_dropOld_47 rfl 1 rfl ?_
    refine j_bipush C (v := 7) d_M_dropOld_48 (by decide) ?_
    refine j_iadd C d_M_dropOld_50 ?_
    refine j_iconst C (v := 3) d_M_dropOld_51 (by decide) ?_
    refine j_iload C d_M_dropOld_52 2 rfl ?_
    refine j_imul C d_M_dropOld_54 ?_
    refine j_iadd C d_M_dropOld_55 ?_
    refine j_aload_n C d_M_dropOld_56 rfl 0 rfl ?_
    refine j_iload_n C d_M_dropOld_57 rfl 1 rfl ?_
    refine j_bipush C (v := 7) d_M_dropOld_58 (by decide) ?_
    refine j_iadd C d_M_dropOld_60 ?_
    refine j_iconst C (v := 3) d_M_dropOld_61 (by decide) ?_
    refine j_iload C d_M_dropOld_62 3 rfl ?_
    refine j_imul C d_M_dropOld_64 ?_
    refine j_iadd C d_M_dropOld_65 ?_
    obtain ⟨q66, hF⟩ := g_if hF
    refine j_iald C hk1 (by decide) rfl (inb_v q66) d_M_dropOld_66 ?_
    obtain ⟨q67, hF⟩ := g_if hF
    refine j_iast C hk1 (by decide) (fun _ => rfl) (inb_v q67) d_M_dropOld_67 ?_
    exact b_M_dropOld_68 C hr hK11 k1 x3 x4 x5 x6 hk1 (sI σ k1 ((x3 + (7 : Int32)) + ((3 : Int32) * x4)).toNatClampNeg (σ.1 k1 ((x3 + (7 : Int32)) + ((3 : Int32) * x5)).toNatClampNeg)) hF
set_option maxHeartbeats 4000000 in
set_option maxRecDepth 100000 in
theorem b_M_dropOld_11 {X : XT} {G : GT} {z : MT} (C : CX X G b_M_dropOld 7 "TimeFloodModel" 0 0) (hr : XR X none) : ∀ (n : Nat) (k1 : Nat) (x3 : Int32) (x4 : Int32) (x5 : Int32) (hk1 : kdf k1 = 15) (σ : MT), f_M_dropOld_11 n k1 x3 x4 x5 σ = some z → JW X G (QX X (PV G z) G) 7 11 [(1, rf G k1), (3, .int x3), (4, .int x4), (5, .int x5)] [] σ := by
  intro n
  induction n with
  | zero =>
    intro k1 x3 x4 x5 hk1 σ hF
    rw [f_M_dropOld_11] at hF
    cases hF
  | succ n ih =>
    intro k1 x3 x4 x5 hk1 σ hF
    rw [f_M_dropOld_11] at hF
    refine j_iload C d_M_dropOld_11 3 rfl ?_
    refine j_aload_n C d_M_dropOld_13 rfl 0 rfl ?_
    refine j_iload_n C d_M_dropOld_14 rfl 1 rfl ?_
    refine j_bipush C (v := 6) d_M_dropOld_15 (by decide) ?_
    refine j_iadd C d_M_dropOld_17 ?_
    obtain ⟨q18, hF⟩ := g_if hF
    refine j_iald C hk1 (by decide) rfl (inb_v q18) d_M_dropOld_18 ?_
    refine j_icmp_ge C 118 d_M_dropOld_19 (by decide) hF (fun q19 hF => ?_) (fun q19 hF => ?_)
    · refine j_aload_n C d_M_dropOld_118 rfl 0 rfl ?_
      refine j_iload_n C d_M_dropOld_119 rfl 1 rfl ?_
      refine j_bipush C (v := 6) d_M_dropOld_120 (by decide) ?_
      refine j_iadd C d_M_dropOld_122 ?_
      refine j_iload C d_M_dropOld_123 2 rfl ?_
      obtain ⟨q125, hF⟩ := g_if hF
      refine j_iast C hk1 (by decide) (fun _ => rfl) (inb_v q125) d_M_dropOld_125 ?_
      cases hF
      exact j_vret C hr d_M_dropOld_126 rfl
    · refine j_aload_n C d_M_dropOld_22 rfl 0 rfl ?_
      refine j_iload_n C d_M_dropOld_23 rfl 1 rfl ?_
      refine j_bipush C (v := 7) d_M_dropOld_24 (by decide) ?_
      refine j_iadd C d_M_dropOld_26 ?_
      refine j_iconst C (v := 3) d_M_dropOld_27 (by decide) ?_
      refine j_iload C d_M_dropOld_28 3 rfl ?_
      refine j_imul C d_M_dropOld_30 ?_
      refine j_iadd C d_M_dropOld_31 ?_
      refine j_iconst C (v := 2) d_M_dropOld_32 (by decide) ?_
      refine j_iadd C d_M_dropOld_33 ?_
      obtain ⟨q34, hF⟩ := g_if hF
      refine j_iald C hk1 (by decide) rfl (inb_v q34) d_M_dropOld_34 ?_
      refine j_iconst C (v := 1) d_M_dropOld_35 (by decide) ?_
      refine j_iadd C d_M_dropOld_36 ?_
      refine j_istore C (lv' := [(6, .int ((σ.1 k1 (((x3 + (7 : Int32)) + ((3 : Int32) * x5)) + (2 : Int32)).toNatClampNeg) + (1 : Int32))), (1, rf G k1), (3, .int x3), (4, .int x4), (5, .int x5)]) d_M_dropOld_37 (by decide) rfl ?_
      refine j_sub C [(1, rf G k1), (3, .int x3), (4, .int x4), (5, .int x5), (6, .int ((σ.1 k1 (((x3 + (7 : Int32)) + ((3 : Int32) * x5)) + (2 : Int32)).toNatClampNeg) + (1 : Int32)))] [1, 2, 3, 4, 0] rfl ?_
      exact b_M_dropOld_39 C hr ih k1 x3 x4 x5 ((σ.1 k1 (((x3 + (7 : Int32)) + ((3 : Int32) * x5)) + (2 : Int32)).toNatClampNeg) + (1 : Int32)) hk1 σ hF
set_option maxHeartbeats 4000000 in
set_option maxRecDepth 100000 in
theorem c_M_dropOld (l : Launch) (G : GT) (k1 : Nat) (x2 : Int32) (σ : MT) (hk1 : kdf k1 = 15) {z : MT} (hF : f_M_dropOld k1 x2 σ = some z) : CTV l G y_M_dropOld b_M_dropOld 7 none 0 0 [rf G 38, rf G k1, .int x2] σ z := by
  refine entX [(0, rf G 38), (1, rf G k1), (2, .int x2)] "TimeFloodModel" (by decide +kernel) rfl rfl (Nat.le_of_ble_eq_true rfl) (fun X hXl hr C => ?_)
  unfold f_M_dropOld at hF
  refine j_bipush C (v := 19) d_M_dropOld_0 (by decide) ?_
  refine j_iload_n C d_M_dropOld_2 rfl 2 rfl ?_
  refine j_imul C d_M_dropOld_3 ?_
  refine j_istore_n C (lv' := [(3, .int ((19 : Int32) * x2)), (0, rf G 38), (1, rf G k1), (2, .int x2)]) d_M_dropOld_4 rfl (by decide) rfl ?_
  refine j_iconst C (v := 0) d_M_dropOld_5 (by decide) ?_
  refine j_istore C (lv' := [(4, .int (0 : Int32)), (3, .int ((19 : Int32) * x2)), (0, rf G 38), (1, rf G k1), (2, .int x2)]) d_M_dropOld_6 (by decide) rfl ?_
  refine j_iconst C (v := 0) d_M_dropOld_8 (by decide) ?_
  refine j_istore C (lv' := [(5, .int (0 : Int32)), (4, .int (0 : Int32)), (3, .int ((19 : Int32) * x2)), (0, rf G 38), (1, rf G k1), (2, .int x2)]) d_M_dropOld_9 (by decide) rfl ?_
  refine j_sub C [(1, rf G k1), (3, .int ((19 : Int32) * x2)), (4, .int (0 : Int32)), (5, .int (0 : Int32))] [4, 2, 1, 0] rfl ?_
  exact b_M_dropOld_11 C hr 1100 k1 ((19 : Int32) * x2) (0 : Int32) (0 : Int32) hk1 σ hF
set_option maxHeartbeats 4000000 in
set_option maxRecDepth 100000 in
theorem b_M_goOne_140 {X : XT} {G : GT} {z : MT} (C : CX X G b_M_goOne 4 "TimeFloodModel" 1 26) (hr : XR X none) (k1 : Nat) (x3 : Int32) (hk1 : kdf k1 = 15) (σ : MT) (hF : f_M_goOne_140 k1 x3 σ = some z) : JW X G (QX X (PV G z) G) 4 140 [(0, rf G 38), (1, rf G k1), (3, .int x3)] [] σ := by
  unfold f_M_goOne_140 at hF
  refine j_aload_n C d_M_goOne_140 rfl 1 rfl ?_
  refine j_iload_n C d_M_goOne_141 rfl 2 rfl ?_
  refine j_iconst C (v := 5) d_M_goOne_142 (by decide) ?_
  refine j_iadd C d_M_goOne_143 ?_
  refine j_aload_n C d_M_goOne_144 rfl 0 rfl ?_
  refine g_M_shy C (rfl : kdf 38 = 8) wd_667 d_M_goOne_145 ?_
  obtain ⟨q148, hF⟩ := g_if hF
  refine j_iast C hk1 (by decide) (fun _ => rfl) (inb_v q148) d_M_goOne_148 ?_
  cases hF
  exact j_vret C hr d_M_goOne_149 rfl
set_option maxHeartbeats 4000000 in
set_option maxRecDepth 100000 in
theorem b_M_goOne_127 {X : XT} {G : GT} {z : MT} (C : CX X G b_M_goOne 4 "TimeFloodModel" 1 26) (hr : XR X none) (k1 : Nat) (x3 : Int32) (hk1 : kdf k1 = 15) (σ : MT) (hF : f_M_goOne_127 k1 x3 σ = some z) : JW X G (QX X (PV G z) G) 4 127 [(0, rf G 38), (1, rf G k1), (3, .int x3)] [] σ := by
  unfold f_M_goOne_127 at hF
  refine j_aload_n C d_M_goOne_127 rfl 1 rfl ?_
  refine j_iload_n C d_M_goOne_128 rfl 2 rfl ?_
  refine j_bipush C (v := 6) d_M_goOne_129 (by decide) ?_
  refine j_iadd C d_M_goOne_131 ?_
  refine j_iconst C (v := 0) d_M_goOne_132 (by decide) ?_
  obtain ⟨q133, hF⟩ := g_if hF
  refine j_iast C hk1 (by decide) (fun _ => rfl) (inb_v q133) d_M_goOne_133 ?_
  refine j_aload_n C d_M_goOne_134 rfl 1 rfl ?_
  refine j_iload_n C d_M_goOne_135 rfl 2 rfl ?_
  refine j_iconst C (v := 4) d_M_goOne_136 (by decide) ?_
  refine j_iadd C d_M_goOne_137 ?_
  refine j_iconst C (v := 0) d_M_goOne_138 (by decide) ?_
  obtain ⟨q139, hF⟩ := g_if hF
  refine j_iast C hk1 (by decide) (fun _ => rfl) (inb_v q139) d_M_goOne_139 ?_
  exact b_M_goOne_140 C hr k1 x3 hk1 (sI (sI σ k1 (x3 + (6 : Int32)).toNatClampNeg (0 : Int32)) k1 (x3 + (4 : Int32)).toNatClampNeg (0 : Int32)) hF
set_option maxHeartbeats 4000000 in
set_option maxRecDepth 100000 in
theorem b_M_goOne_112 {X : XT} {G : GT} {z : MT} (C : CX X G b_M_goOne 4 "TimeFloodModel" 1 26) (hr : XR X none) (k1 : Nat) (x3 : Int32) (hk1 : kdf k1 = 15) (σ : MT) (hF : f_M_goOne_112 k1 x3 σ = some z) : JW X G (QX X (PV G z) G) 4 112 [(0, rf G 38), (1, rf G k1), (3, .int x3)] [] σ := by
  unfold f_M_goOne_112 at hF
  refine j_aload_n C d_M_goOne_112 rfl 1 rfl ?_
  refine j_iload_n C d_M_goOne_113 rfl 2 rfl ?_
  refine j_iconst C (v := 3) d_M_goOne_114 (by decide) ?_
  refine j_iadd C d_M_goOne_115 ?_
  refine j_aload_n C d_M_goOne_116 rfl 1 rfl ?_
  refine j_iload_n C d_M_goOne_117 rfl 2 rfl ?_
  refine j_iconst C (v := 3) d_M_goOne_118 (by decide) ?_
  refine j_iadd C d_M_goOne_119 ?_
  obtain ⟨q120, hF⟩ := g_if hF
  refine j_iald C hk1 (by decide) rfl (inb_v q120) d_M_goOne_120 ?_
  refine j_iconst C (v := 1) d_M_goOne_121 (by decide) ?_
  refine j_iadd C d_M_goOne_122 ?_
  refine j_bipush C (v := 64) d_M_goOne_123 (by decide) ?_
  refine j_irem C d_M_goOne_125 (by decide) ?_
  obtain ⟨q126, hF⟩ := g_if hF
  refine j_iast C hk1 (by decide) (fun _ => rfl) (inb_v q126) d_M_goOne_126 ?_
  exact b_M_goOne_127 C hr k1 x3 hk1 (sI σ k1 (x3 + (3 : Int32)).toNatClampNeg (((σ.1 k1 (x3 + (3 : Int32)).toNatClampNeg) + (1 : Int32)) - ((σ.1 k1 (x3 + (3 : Int32)).toNatClampNeg) + (1 : Int32)) / (64 : Int32) * (64 : Int32))) hF
set_option maxHeartbeats 4000000 in
set_option maxRecDepth 100000 in
theorem b_M_goOne_85 {X : XT} {G : GT} {z : MT} (C : CX X G b_M_goOne 4 "TimeFloodModel" 1 26) (hr : XR X none) (k1 : Nat) (x3 : Int32) (hk1 : kdf k1 = 15) (σ : MT) (hF : f_M_goOne_85 k1 x3 σ = some z) : JW X G (QX X (PV G z) G) 4 85 [(1, rf G k1), (3, .int x3)] [] σ := by
  unfold f_M_goOne_85 at hF
  refine j_aload_n C d_M_goOne_85 rfl 0 rfl ?_
  refine j_iload_n C d_M_goOne_86 rfl 1 rfl ?_
  refine j_iconst C (v := 4) d_M_goOne_87 (by decide) ?_
  refine j_iadd C d_M_goOne_88 ?_
  refine j_iconst C (v := 0) d_M_goOne_89 (by decide) ?_
  obtain ⟨q90, hF⟩ := g_if hF
  refine j_iast C hk1 (by decide) (fun _ => rfl) (inb_v q90) d_M_goOne_90 ?_
  refine j_goto C 149 d_M_goOne_91 (by decide) ?_
  cases hF
  exact j_vret C hr d_M_goOne_149 rfl
set_option maxHeartbeats 4000000 in
set_option maxRecDepth 100000 in
theorem b_M_goOne_59 {X : XT} {G : GT} {z : MT} (C : CX X G b_M_goOne 4 "TimeFloodModel" 1 26) (hr : XR X none) (k1 : Nat) (x2 : Int32) (x3 : Int32) (xs0 : Int32) (xs1 : Int32) (xs2 : Int32) (ks3 : Nat) (hk1 : kdf k1 = 15) (hks3 : kdf ks3 = 15) (σ : MT) (hF : f_M_goOne_59 k1 x2 x3 xs0 xs1 xs2 ks3 σ = some z) : JW X G (QX X (PV G z) G) 4 59 [(0, rf G 38), (1, rf G k1), (2, .int x2), (3, .int x3)] [.int xs0, .int xs1, .int xs2, rf G ks3] σ := by
  unfold f_M_goOne_59 at hF
  refine j_isub C d_M_goOne_59 ?_
  obtain ⟨q60, hF⟩ := g_if hF
  refine j_iast C hks3 (by decide) (fun _ => rfl) (inb_v q60) d_M_goOne_60 ?_
  refine j_aload_n C d_M_goOne_61 rfl 0 rfl ?_
  refine g_M_wasRoot C (rfl : kdf 38 = 8) wd_689 d_M_goOne_62 ?_
  refine j_iload_n C d_M_goOne_65 rfl 2 rfl ?_
  obtain ⟨q66, hF⟩ := g_if hF
  refine j_zald C (rfl : kdf 55 = 21) (by decide) rfl (inb_v q66) d_M_goOne_66 ?_
  refine j_if_eq C 94 d_M_goOne_67 (by decide) hF (fun q67 hF => ?_) (fun q67 hF => ?_)
  · refine j_aload_n C d_M_goOne_94 rfl 1 rfl ?_
    refine j_iload_n C d_M_goOne_95 rfl 3 rfl ?_
    refine j_iconst C (v := 4) d_M_goOne_96 (by decide) ?_
    refine j_iadd C d_M_goOne_97 ?_
    obtain ⟨q98, hF⟩ := g_if hF
    refine j_iald C hk1 (by decide) rfl (inb_v q98) d_M_goOne_98 ?_
    refine j_aload_n C d_M_goOne_99 rfl 0 rfl ?_
    refine g_M_patience C (rfl : kdf 38 = 8) wd_666 d_M_goOne_100 ?_
    refine j_icmp_le C 149 d_M_goOne_103 (by decide) hF (fun q103 hF => ?_) (fun q103 hF => ?_)
    · cases hF
      exact j_vret C hr d_M_goOne_149 rfl
    · refine j_aload_n C d_M_goOne_106 rfl 1 rfl ?_
      refine j_iload_n C d_M_goOne_107 rfl 3 rfl ?_
      refine j_iconst C (v := 2) d_M_goOne_108 (by decide) ?_
      refine j_iadd C d_M_goOne_109 ?_
      refine j_iload_n C d_M_goOne_110 rfl 2 rfl ?_
      obtain ⟨q111, hF⟩ := g_if hF
      refine j_iast C hk1 (by decide) (fun _ => rfl) (inb_v q111) d_M_goOne_111 ?_
      refine j_sub C [(0, rf G 38), (1, rf G k1), (3, .int x3)] [0, 1, 3] rfl ?_
      exact b_M_goOne_112 C hr k1 x3 hk1 (sI (sI σ ks3 xs2.toNatClampNeg (xs1 - xs0)) k1 (x3 + (2 : Int32)).toNatClampNeg x2) hF
  · refine j_aload_n C d_M_goOne_70 rfl 1 rfl ?_
    refine j_iload_n C d_M_goOne_71 rfl 3 rfl ?_
    refine j_iconst C (v := 3) d_M_goOne_72 (by decide) ?_
    refine j_iadd C d_M_goOne_73 ?_
    refine j_aload_n C d_M_goOne_74 rfl 1 rfl ?_
    refine j_iload_n C d_M_goOne_75 rfl 3 rfl ?_
    refine j_iconst C (v := 3) d_M_goOne_76 (by decide) ?_
    refine j_iadd C d_M_goOne_77 ?_
    obtain ⟨q78, hF⟩ := g_if hF
    refine j_iald C hk1 (by decide) rfl (inb_v q78) d_M_goOne_78 ?_
    refine j_iconst C (v := 1) d_M_goOne_79 (by decide) ?_
    refine j_iadd C d_M_goOne_80 ?_
    refine j_bipush C (v := 64) d_M_goOne_81 (by decide) ?_
    refine j_irem C d_M_goOne_83 (by decide) ?_
    obtain ⟨q84, hF⟩ := g_if hF
    refine j_iast C hk1 (by decide) (fun _ => rfl) (inb_v q84) d_M_goOne_84 ?_
    refine j_sub C [(1, rf G k1), (3, .int x3)] [1, 3] rfl ?_
    exact b_M_goOne_85 C hr k1 x3 hk1 (sI (sI σ ks3 xs2.toNatClampNeg (xs1 - xs0)) k1 (x3 + (3 : Int32)).toNatClampNeg ((((sI σ ks3 xs2.toNatClampNeg (xs1 - xs0)).1 k1 (x3 + (3 : Int32)).toNatClampNeg) + (1 : Int32)) - (((sI σ ks3 xs2.toNatClampNeg (xs1 - xs0)).1 k1 (x3 + (3 : Int32)).toNatClampNeg) + (1 : Int32)) / (64 : Int32) * (64 : Int32))) hF
set_option maxHeartbeats 4000000 in
set_option maxRecDepth 100000 in
theorem b_M_goOne_40 {X : XT} {G : GT} {z : MT} (C : CX X G b_M_goOne 4 "TimeFloodModel" 1 26) (hr : XR X none) (k1 : Nat) (x2 : Int32) (x3 : Int32) (hk1 : kdf k1 = 15) (σ : MT) (hF : f_M_goOne_40 k1 x2 x3 σ = some z) : JW X G (QX X (PV G z) G) 4 40 [(0, rf G 38), (1, rf G k1), (2, .int x2), (3, .int x3)] [] σ := by
  unfold f_M_goOne_40 at hF
  refine j_aload_n C d_M_goOne_40 rfl 1 rfl ?_
  refine j_iload_n C d_M_goOne_41 rfl 3 rfl ?_
  refine j_iconst C (v := 5) d_M_goOne_42 (by decide) ?_
  refine j_iadd C d_M_goOne_43 ?_
  refine j_dup2_11 C d_M_goOne_44 rfl rfl ?_
  obtain ⟨q45, hF⟩ := g_if hF
  refine j_iald C hk1 (by decide) rfl (inb_v q45) d_M_goOne_45 ?_
  refine j_aload_n C d_M_goOne_46 rfl 1 rfl ?_
  refine j_iload_n C d_M_goOne_47 rfl 3 rfl ?_
  refine j_iconst C (v := 5) d_M_goOne_48 (by decide) ?_
  refine j_iadd C d_M_goOne_49 ?_
  obtain ⟨q50, hF⟩ := g_if hF
  refine j_iald C hk1 (by decide) rfl (inb_v q50) d_M_goOne_50 ?_
  refine j_if_le C 58 d_M_goOne_51 (by decide) hF (fun q51 hF => ?_) (fun q51 hF => ?_)
  · refine j_iconst C (v := 0) d_M_goOne_58 (by decide) ?_
    exact b_M_goOne_59 C hr k1 x2 x3 (0 : Int32) (σ.1 k1 (x3 + (5 : Int32)).toNatClampNeg) (x3 + (5 : Int32)) k1 hk1 hk1 σ hF
  · refine j_iconst C (v := 1) d_M_goOne_54 (by decide) ?_
    refine j_goto C 59 d_M_goOne_55 (by decide) ?_
    exact b_M_goOne_59 C hr k1 x2 x3 (1 : Int32) (σ.1 k1 (x3 + (5 : Int32)).toNatClampNeg) (x3 + (5 : Int32)) k1 hk1 hk1 σ hF
set_option maxHeartbeats 4000000 in
set_option maxRecDepth 100000 in
theorem b_M_goOne_24 {X : XT} {G : GT} {z : MT} (C : CX X G b_M_goOne 4 "TimeFloodModel" 1 26) (hr : XR X none) (k1 : Nat) (x2 : Int32) (x3 : Int32) (xs0 : Int32) (xs1 : Int32) (hk1 : kdf k1 = 15) (σ : MT) (hF : f_M_goOne_24 k1 x2 x3 xs0 xs1 σ = some z) : JW X G (QX X (PV G z) G) 4 24 [(0, rf G 38), (1, rf G k1), (2, .int x2), (3, .int x3)] [.int xs0, .int xs1, rf G 55] σ := by
  unfold f_M_goOne_24 at hF
  obtain ⟨q24, hF⟩ := g_if hF
  refine j_zast C (rfl : kdf 55 = 21) (by decide) (fun _ => rfl) (inb_v q24) d_M_goOne_24 ?_
  refine j_aload_n C d_M_goOne_25 rfl 0 rfl ?_
  refine j_aload_n C d_M_goOne_26 rfl 1 rfl ?_
  refine j_iload_n C d_M_goOne_27 rfl 2 rfl ?_
  obtain ⟨r28, h28, hF⟩ := g_bind hF
  refine j_vv C (As := [rf G k1, .int x2]) (st := []) (c_M_dropOld (XL X) G k1 x2 (sI σ 55 xs1.toNatClampNeg (vp_nar .boolean xs0)) hk1 h28) (rfl : kdf 38 = 8) (by decide) rfl rfl m_M_dropOld wd_934 rfl rfl (Nat.le_of_ble_eq_true rfl) ⟨by decide, by decide⟩ d_M_goOne_28 ?_
  refine j_aload_n C d_M_goOne_31 rfl 1 rfl ?_
  refine j_iload_n C d_M_goOne_32 rfl 3 rfl ?_
  refine j_iconst C (v := 4) d_M_goOne_33 (by decide) ?_
  refine j_iadd C d_M_goOne_34 ?_
  refine j_dup2_11 C d_M_goOne_35 rfl rfl ?_
  obtain ⟨q36, hF⟩ := g_if hF
  refine j_iald C hk1 (by decide) rfl (inb_v q36) d_M_goOne_36 ?_
  refine j_iconst C (v := 1) d_M_goOne_37 (by decide) ?_
  refine j_iadd C d_M_goOne_38 ?_
  obtain ⟨q39, hF⟩ := g_if hF
  refine j_iast C hk1 (by decide) (fun _ => rfl) (inb_v q39) d_M_goOne_39 ?_
  exact b_M_goOne_40 C hr k1 x2 x3 hk1 (sI r28 k1 (x3 + (4 : Int32)).toNatClampNeg ((r28.1 k1 (x3 + (4 : Int32)).toNatClampNeg) + (1 : Int32))) hF
set_option maxHeartbeats 4000000 in
set_option maxRecDepth 100000 in
theorem c_M_goOne (l : Launch) (G : GT) (k1 : Nat) (x2 : Int32) (σ : MT) (hk1 : kdf k1 = 15) {z : MT} (hF : f_M_goOne k1 x2 σ = some z) : CTV l G y_M_goOne b_M_goOne 4 none 1 26 [rf G 38, rf G k1, .int x2] σ z := by
  refine entX [(0, rf G 38), (1, rf G k1), (2, .int x2)] "TimeFloodModel" (by decide +kernel) rfl rfl (Nat.le_of_ble_eq_true rfl) (fun X hXl hr C => ?_)
  unfold f_M_goOne at hF
  refine j_bipush C (v := 19) d_M_goOne_0 (by decide) ?_
  refine j_iload_n C d_M_goOne_2 rfl 2 rfl ?_
  refine j_imul C d_M_goOne_3 ?_
  refine j_istore_n C (lv' := [(3, .int ((19 : Int32) * x2)), (0, rf G 38), (1, rf G k1), (2, .int x2)]) d_M_goOne_4 rfl (by decide) rfl ?_
  refine j_aload_n C d_M_goOne_5 rfl 1 rfl ?_
  refine g_M_wasRoot C (rfl : kdf 38 = 8) wd_689 d_M_goOne_6 ?_
  refine j_iload_n C d_M_goOne_9 rfl 3 rfl ?_
  refine j_aload_n C d_M_goOne_10 rfl 2 rfl ?_
  refine j_iload_n C d_M_goOne_11 rfl 0 rfl ?_
  refine j_iconst C (v := 2) d_M_goOne_12 (by decide) ?_
  refine j_iadd C d_M_goOne_13 ?_
  obtain ⟨q14, hF⟩ := g_if hF
  refine j_iald C hk1 (by decide) rfl (inb_v q14) d_M_goOne_14 ?_
  refine j_iload_n C d_M_goOne_15 rfl 3 rfl ?_
  refine j_icmp_ne C 23 d_M_goOne_16 (by decide) hF (fun q16 hF => ?_) (fun q16 hF => ?_)
  · refine j_iconst C (v := 0) d_M_goOne_23 (by decide) ?_
    refine j_sub C [(0, rf G 38), (1, rf G k1), (2, .int x2), (3, .int ((19 : Int32) * x2))] [1, 2, 3, 0] rfl ?_
    exact b_M_goOne_24 C hr k1 x2 ((19 : Int32) * x2) (0 : Int32) x2 hk1 σ hF
  · refine j_iconst C (v := 1) d_M_goOne_19 (by decide) ?_
    refine j_goto C 24 d_M_goOne_20 (by decide) ?_
    refine j_sub C [(0, rf G 38), (1, rf G k1), (2, .int x2), (3, .int ((19 : Int32) * x2))] [1, 2, 3, 0] rfl ?_
    exact b_M_goOne_24 C hr k1 x2 ((19 : Int32) * x2) (1 : Int32) x2 hk1 σ hF
set_option maxHeartbeats 4000000 in
set_option maxRecDepth 100000 in
theorem b_M_laySent_88 {X : XT} {G : GT} {z : MT} {K2 : Nat → Int32 → MT → Option MT} (C : CX X G b_M_laySent 4 "TimeFloodModel" 4 112) (hr : XR X none) (hK2 : ∀ (k1 : Nat) (x2 : Int32) (hk1 : kdf k1 = 15) (σ : MT), K2 k1 x2 σ = some z → JW X G (QX X (PV G z) G) 4 2 [(0, rf G 38), (1, rf G k1), (2, .int x2)] [] σ) (k1 : Nat) (x2 : Int32) (hk1 : kdf k1 = 15) (σ : MT) (hF : f_M_laySent_88 K2 k1 x2 σ = some z) : JW X G (QX X (PV G z) G) 4 88 [(0, rf G 38), (1, rf G k1), (2, .int x2)] [] σ := by
  unfold f_M_laySent_88 at hF
  refine j_iinc C (v := x2 + (1 : Int32)) (lv' := [(2, .int (x2 + (1 : Int32))), (0, rf G 38), (1, rf G k1)]) d_M_laySent_88 2 rfl rfl (by decide) rfl ?_
  refine j_goto C 2 d_M_laySent_91 (by decide) ?_
  refine j_sub C [(0, rf G 38), (1, rf G k1), (2, .int (x2 + (1 : Int32)))] [1, 2, 0] rfl ?_
  exact hK2 k1 (x2 + (1 : Int32)) hk1 σ hF
set_option maxHeartbeats 4000000 in
set_option maxRecDepth 100000 in
theorem b_M_laySent_65 {X : XT} {G : GT} {z : MT} {K2 : Nat → Int32 → MT → Option MT} (C : CX X G b_M_laySent 4 "TimeFloodModel" 4 112) (hr : XR X none) (hK2 : ∀ (k1 : Nat) (x2 : Int32) (hk1 : kdf k1 = 15) (σ : MT), K2 k1 x2 σ = some z → JW X G (QX X (PV G z) G) 4 2 [(0, rf G 38), (1, rf G k1), (2, .int x2)] [] σ) (k1 : Nat) (x2 : Int32) (x3 : Int32) (hk1 : kdf k1 = 15) (σ : MT) (hF : f_M_laySent_65 K2 k1 x2 x3 σ = some z) : JW X G (QX X (PV G z) G) 4 65 [(0, rf G 38), (1, rf G k1), (2, .int x2), (3, .int x3)] [] σ := by
  unfold f_M_laySent_65 at hF
  refine j_aload_n C d_M_laySent_65 rfl 0 rfl ?_
  refine g_M_sentNumber C (rfl : kdf 38 = 8) wd_687 d_M_laySent_66 ?_
  refine j_iload_n C d_M_laySent_69 rfl 2 rfl ?_
  refine j_aload_n C d_M_laySent_70 rfl 1 rfl ?_
  refine j_iload_n C d_M_laySent_71 rfl 3 rfl ?_
  refine j_iconst C (v := 3) d_M_laySent_72 (by decide) ?_
  refine j_iadd C d_M_laySent_73 ?_
  obtain ⟨q74, hF⟩ := g_if hF
  refine j_iald C hk1 (by decide) rfl (inb_v q74) d_M_laySent_74 ?_
  obtain ⟨q75, hF⟩ := g_if hF
  refine j_iast C (rfl : kdf 53 = 11) (by decide) (fun _ => rfl) (inb_v q75) d_M_laySent_75 ?_
  refine j_aload_n C d_M_laySent_76 rfl 0 rfl ?_
  refine g_M_sentTime C (rfl : kdf 38 = 8) wd_688 d_M_laySent_77 ?_
  refine j_iload_n C d_M_laySent_80 rfl 2 rfl ?_
  refine j_aload_n C d_M_laySent_81 rfl 0 rfl ?_
  refine j_aload_n C d_M_laySent_82 rfl 1 rfl ?_
  refine j_iload_n C d_M_laySent_83 rfl 2 rfl ?_
  obtain ⟨r84, h84, hF⟩ := g_bind hF
  refine j_vi C (As := [rf G k1, .int x2]) (st := [.int x2, rf G 54]) (c_M_estimate (XL X) G k1 x2 (sI σ 53 x2.toNatClampNeg (σ.1 k1 (x3 + (3 : Int32)).toNatClampNeg)) hk1 h84) (rfl : kdf 38 = 8) (by decide) rfl rfl m_M_estimate wd_860 rfl rfl (Nat.le_of_ble_eq_true rfl) ⟨by decide, by decide⟩ d_M_laySent_84 ?_
  obtain ⟨q87, hF⟩ := g_if hF
  refine j_iast C (rfl : kdf 54 = 11) (by decide) (fun _ => rfl) (inb_v q87) d_M_laySent_87 ?_
  refine j_sub C [(0, rf G 38), (1, rf G k1), (2, .int x2)] [0, 1, 2] rfl ?_
  exact b_M_laySent_88 C hr hK2 k1 x2 hk1 (sI (sI σ 53 x2.toNatClampNeg (σ.1 k1 (x3 + (3 : Int32)).toNatClampNeg)) 54 x2.toNatClampNeg r84) hF
set_option maxHeartbeats 4000000 in
set_option maxRecDepth 100000 in
theorem b_M_laySent_53 {X : XT} {G : GT} {z : MT} {K2 : Nat → Int32 → MT → Option MT} (C : CX X G b_M_laySent 4 "TimeFloodModel" 4 112) (hr : XR X none) (hK2 : ∀ (k1 : Nat) (x2 : Int32) (hk1 : kdf k1 = 15) (σ : MT), K2 k1 x2 σ = some z → JW X G (QX X (PV G z) G) 4 2 [(0, rf G 38), (1, rf G k1), (2, .int x2)] [] σ) (k1 : Nat) (x2 : Int32) (x3 : Int32) (xs0 : Int32) (xs1 : Int32) (hk1 : kdf k1 = 15) (σ : MT) (hF : f_M_laySent_53 K2 k1 x2 x3 xs0 xs1 σ = some z) : JW X G (QX X (PV G z) G) 4 53 [(0, rf G 38), (1, rf G k1), (2, .int x2), (3, .int x3)] [.int xs0, .int xs1, rf G 51] σ := by
  unfold f_M_laySent_53 at hF
  obtain ⟨q53, hF⟩ := g_if hF
  refine j_zast C (rfl : kdf 51 = 21) (by decide) (fun _ => rfl) (inb_v q53) d_M_laySent_53 ?_
  refine j_aload_n C d_M_laySent_54 rfl 0 rfl ?_
  refine g_M_sentRoot C (rfl : kdf 38 = 8) wd_686 d_M_laySent_55 ?_
  refine j_iload_n C d_M_laySent_58 rfl 2 rfl ?_
  refine j_aload_n C d_M_laySent_59 rfl 1 rfl ?_
  refine j_iload_n C d_M_laySent_60 rfl 3 rfl ?_
  refine j_iconst C (v := 2) d_M_laySent_61 (by decide) ?_
  refine j_iadd C d_M_laySent_62 ?_
  obtain ⟨q63, hF⟩ := g_if hF
  refine j_iald C hk1 (by decide) rfl (inb_v q63) d_M_laySent_63 ?_
  obtain ⟨q64, hF⟩ := g_if hF
  refine j_iast C (rfl : kdf 52 = 11) (by decide) (fun _ => rfl) (inb_v q64) d_M_laySent_64 ?_
  exact b_M_laySent_65 C hr hK2 k1 x2 x3 hk1 (sI (sI σ 51 xs1.toNatClampNeg (vp_nar .boolean xs0)) 52 x2.toNatClampNeg ((sI σ 51 xs1.toNatClampNeg (vp_nar .boolean xs0)).1 k1 (x3 + (2 : Int32)).toNatClampNeg)) hF
set_option maxHeartbeats 4000000 in
set_option maxRecDepth 100000 in
theorem b_M_laySent_52 {X : XT} {G : GT} {z : MT} {K2 : Nat → Int32 → MT → Option MT} (C : CX X G b_M_laySent 4 "TimeFloodModel" 4 112) (hr : XR X none) (hK2 : ∀ (k1 : Nat) (x2 : Int32) (hk1 : kdf k1 = 15) (σ : MT), K2 k1 x2 σ = some z → JW X G (QX X (PV G z) G) 4 2 [(0, rf G 38), (1, rf G k1), (2, .int x2)] [] σ) (k1 : Nat) (x2 : Int32) (x3 : Int32) (xs0 : Int32) (hk1 : kdf k1 = 15) (σ : MT) (hF : f_M_laySent_52 K2 k1 x2 x3 xs0 σ = some z) : JW X G (QX X (PV G z) G) 4 52 [(0, rf G 38), (1, rf G k1), (2, .int x2), (3, .int x3)] [.int xs0, rf G 51] σ := by
  unfold f_M_laySent_52 at hF
  refine j_iconst C (v := 0) d_M_laySent_52 (by decide) ?_
  exact b_M_laySent_53 C hr hK2 k1 x2 x3 (0 : Int32) xs0 hk1 σ hF
set_option maxHeartbeats 4000000 in
set_option maxRecDepth 100000 in
theorem b_M_laySent_48 {X : XT} {G : GT} {z : MT} {K2 : Nat → Int32 → MT → Option MT} (C : CX X G b_M_laySent 4 "TimeFloodModel" 4 112) (hr : XR X none) (hK2 : ∀ (k1 : Nat) (x2 : Int32) (hk1 : kdf k1 = 15) (σ : MT), K2 k1 x2 σ = some z → JW X G (QX X (PV G z) G) 4 2 [(0, rf G 38), (1, rf G k1), (2, .int x2)] [] σ) (k1 : Nat) (x2 : Int32) (x3 : Int32) (xs0 : Int32) (hk1 : kdf k1 = 15) (σ : MT) (hF : f_M_laySent_48 K2 k1 x2 x3 xs0 σ = some z) : JW X G (QX X (PV G z) G) 4 48 [(0, rf G 38), (1, rf G k1), (2, .int x2), (3, .int x3)] [.int xs0, rf G 51] σ := by
  unfold f_M_laySent_48 at hF
  refine j_iconst C (v := 1) d_M_laySent_48 (by decide) ?_
  refine j_goto C 53 d_M_laySent_49 (by decide) ?_
  exact b_M_laySent_53 C hr hK2 k1 x2 x3 (1 : Int32) xs0 hk1 σ hF
set_option maxHeartbeats 4000000 in
set_option maxRecDepth 100000 in
theorem b_M_laySent_2 {X : XT} {G : GT} {z : MT} (C : CX X G b_M_laySent 4 "TimeFloodModel" 4 112) (hr : XR X none) : ∀ (n : Nat) (k1 : Nat) (x2 : Int32) (hk1 : kdf k1 = 15) (σ : MT), f_M_laySent_2 n k1 x2 σ = some z → JW X G (QX X (PV G z) G) 4 2 [(0, rf G 38), (1, rf G k1), (2, .int x2)] [] σ := by
  intro n
  induction n with
  | zero =>
    intro k1 x2 hk1 σ hF
    rw [f_M_laySent_2] at hF
    cases hF
  | succ n ih =>
    intro k1 x2 hk1 σ hF
    rw [f_M_laySent_2] at hF
    refine j_iload_n C d_M_laySent_2 rfl 2 rfl ?_
    refine j_aload_n C d_M_laySent_3 rfl 0 rfl ?_
    refine g_M_nodes C (rfl : kdf 38 = 8) wd_668 d_M_laySent_4 ?_
    refine j_icmp_ge C 94 d_M_laySent_7 (by decide) hF (fun q7 hF => ?_) (fun q7 hF => ?_)
    · cases hF
      exact j_vret C hr d_M_laySent_94 rfl
    · refine j_bipush C (v := 19) d_M_laySent_10 (by decide) ?_
      refine j_iload_n C d_M_laySent_12 rfl 2 rfl ?_
      refine j_imul C d_M_laySent_13 ?_
      refine j_istore_n C (lv' := [(3, .int ((19 : Int32) * x2)), (0, rf G 38), (1, rf G k1), (2, .int x2)]) d_M_laySent_14 rfl (by decide) rfl ?_
      refine j_aload_n C d_M_laySent_15 rfl 1 rfl ?_
      refine g_M_sends C (rfl : kdf 38 = 8) wd_685 d_M_laySent_16 ?_
      refine j_iload_n C d_M_laySent_19 rfl 3 rfl ?_
      refine j_aload_n C d_M_laySent_20 rfl 2 rfl ?_
      refine j_iload_n C d_M_laySent_21 rfl 0 rfl ?_
      refine j_iconst C (v := 0) d_M_laySent_22 (by decide) ?_
      refine j_iadd C d_M_laySent_23 ?_
      obtain ⟨q24, hF⟩ := g_if hF
      refine j_iald C hk1 (by decide) rfl (inb_v q24) d_M_laySent_24 ?_
      refine j_iconst C (v := 1) d_M_laySent_25 (by decide) ?_
      refine j_icmp_ne C 52 d_M_laySent_26 (by decide) hF (fun q26 hF => ?_) (fun q26 hF => ?_)
      · refine j_sub C [(0, rf G 38), (1, rf G k1), (2, .int x2), (3, .int ((19 : Int32) * x2))] [1, 2, 3, 0] rfl ?_
        exact b_M_laySent_52 C hr ih k1 x2 ((19 : Int32) * x2) x2 hk1 σ hF
      · refine j_aload_n C d_M_laySent_29 rfl 2 rfl ?_
        refine j_iload_n C d_M_laySent_30 rfl 0 rfl ?_
        refine j_iconst C (v := 2) d_M_laySent_31 (by decide) ?_
        refine j_iadd C d_M_laySent_32 ?_
        obtain ⟨q33, hF⟩ := g_if hF
        refine j_iald C hk1 (by decide) rfl (inb_v q33) d_M_laySent_33 ?_
        refine j_iload_n C d_M_laySent_34 rfl 3 rfl ?_
        refine j_icmp_eq C 48 d_M_laySent_35 (by decide) hF (fun q35 hF => ?_) (fun q35 hF => ?_)
        · refine j_sub C [(0, rf G 38), (1, rf G k1), (2, .int x2), (3, .int ((19 : Int32) * x2))] [1, 2, 3, 0] rfl ?_
          exact b_M_laySent_48 C hr ih k1 x2 ((19 : Int32) * x2) x2 hk1 σ hF
        · refine j_aload_n C d_M_laySent_38 rfl 2 rfl ?_
          refine j_iload_n C d_M_laySent_39 rfl 0 rfl ?_
          refine j_bipush C (v := 6) d_M_laySent_40 (by decide) ?_
          refine j_iadd C d_M_laySent_42 ?_
          obtain ⟨q43, hF⟩ := g_if hF
          refine j_iald C hk1 (by decide) rfl (inb_v q43) d_M_laySent_43 ?_
          refine j_iconst C (v := 1) d_M_laySent_44 (by decide) ?_
          refine j_icmp_le C 52 d_M_laySent_45 (by decide) hF (fun q45 hF => ?_) (fun q45 hF => ?_)
          · refine j_sub C [(0, rf G 38), (1, rf G k1), (2, .int x2), (3, .int ((19 : Int32) * x2))] [1, 2, 3, 0] rfl ?_
            exact b_M_laySent_52 C hr ih k1 x2 ((19 : Int32) * x2) x2 hk1 σ hF
          · refine j_sub C [(0, rf G 38), (1, rf G k1), (2, .int x2), (3, .int ((19 : Int32) * x2))] [1, 2, 3, 0] rfl ?_
            exact b_M_laySent_48 C hr ih k1 x2 ((19 : Int32) * x2) x2 hk1 σ hF
set_option maxHeartbeats 4000000 in
set_option maxRecDepth 100000 in
theorem c_M_laySent (l : Launch) (G : GT) (k1 : Nat) (σ : MT) (hk1 : kdf k1 = 15) {z : MT} (hF : f_M_laySent k1 σ = some z) : CTV l G y_M_laySent b_M_laySent 4 none 4 112 [rf G 38, rf G k1] σ z := by
  refine entX [(0, rf G 38), (1, rf G k1)] "TimeFloodModel" (by decide +kernel) rfl rfl (Nat.le_of_ble_eq_true rfl) (fun X hXl hr C => ?_)
  unfold f_M_laySent at hF
  refine j_iconst C (v := 0) d_M_laySent_0 (by decide) ?_
  refine j_istore_n C (lv' := [(2, .int (0 : Int32)), (0, rf G 38), (1, rf G k1)]) d_M_laySent_1 rfl (by decide) rfl ?_
  refine j_sub C [(0, rf G 38), (1, rf G k1), (2, .int (0 : Int32))] [1, 2, 0] rfl ?_
  exact b_M_laySent_2 C hr 1100 k1 (0 : Int32) hk1 σ hF
