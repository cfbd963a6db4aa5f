set_option maxHeartbeats 4000000 in
set_option maxRecDepth 100000 in
theorem c_TF_worth (l : Launch) (G : GT) (x1 : Int32) (σ : MT)  {z : (Int32 × MT)} (hF : f_TF_worth x1 σ = some z) : CTI l G y_TF_worth b_TF_worth 2 (some .int) 6 152 [rf G 0, .int x1] σ z.1 z.2 := by
  refine entX [(0, rf G 0), (1, .int x1)] "TimeFlood" (by decide +kernel) rfl rfl (Nat.le_of_ble_eq_true rfl) (fun X hXl hr C => ?_)
  unfold f_TF_worth at hF
  refine j_aload_n C d_TF_worth_0 rfl 0 rfl ?_
  refine g_TF_trial C (rfl : kdf 0 = 0) wd_245 d_TF_worth_1 ?_
  refine j_aload_n C d_TF_worth_4 rfl 0 rfl ?_
  refine g_TF_now C (rfl : kdf 0 = 0) wd_244 d_TF_worth_5 ?_
  obtain ⟨r8, h8, hF⟩ := g_bind hF
  refine j_vv C (As := [rf G 61]) (st := []) (c_St_copyFrom (XL X) G 83 61 σ (rfl : kdf 83 = 4) (rfl : kdf 61 = 4) h8) (rfl : kdf 83 = 4) (by decide) rfl rfl m_St_copyFrom wd_555 rfl rfl (Nat.le_of_ble_eq_true rfl) ⟨by decide, by decide⟩ d_TF_worth_8 ?_
  refine j_aload_n C d_TF_worth_11 rfl 0 rfl ?_
  refine g_TF_trial C (rfl : kdf 0 = 0) wd_245 d_TF_worth_12 ?_
  refine j_iload_n C d_TF_worth_15 rfl 1 rfl ?_
  obtain ⟨r16, h16, hF⟩ := g_bind hF
  refine j_vv C (As := [.int x1]) (st := []) (c_St_switchOffAllBut (XL X) G 83 x1 r8 (rfl : kdf 83 = 4) h16) (rfl : kdf 83 = 4) (by decide) rfl rfl m_St_switchOffAllBut wd_609 rfl rfl (Nat.le_of_ble_eq_true rfl) ⟨by decide, by decide⟩ d_TF_worth_16 ?_
  refine j_aload_n C d_TF_worth_19 rfl 0 rfl ?_
  refine g_TF_flood C (rfl : kdf 0 = 0) wd_242 d_TF_worth_20 ?_
  refine j_aload_n C d_TF_worth_23 rfl 0 rfl ?_
  refine g_TF_trial C (rfl : kdf 0 = 0) wd_245 d_TF_worth_24 ?_
  refine j_bipush C (v := 12) d_TF_worth_27 (by decide) ?_
  obtain ⟨r29, h29, hF⟩ := g_bind hF
  refine j_vv C (As := [rf G 83, .int (12 : Int32)]) (st := []) (c_Fl_passMany (XL X) G 83 (12 : Int32) r16 (rfl : kdf 83 = 4) h29) (rfl : kdf 14 = 3) (by decide) rfl rfl m_Fl_passMany wd_473 rfl rfl (Nat.le_of_ble_eq_true rfl) ⟨by decide, by decide⟩ d_TF_worth_29 ?_
  refine j_aload_n C d_TF_worth_32 rfl 0 rfl ?_
  refine g_TF_flood C (rfl : kdf 0 = 0) wd_242 d_TF_worth_33 ?_
  refine j_aload_n C d_TF_worth_36 rfl 0 rfl ?_
  refine g_TF_trial C (rfl : kdf 0 = 0) wd_245 d_TF_worth_37 ?_
  obtain ⟨r40, h40, hF⟩ := g_bind hF
  refine j_vi C (As := [rf G 83]) (st := []) (c_Fl_inTimeSet (XL X) G 83 r29 (rfl : kdf 83 = 4) h40) (rfl : kdf 14 = 3) (by decide) rfl rfl m_Fl_inTimeSet wd_377 rfl rfl (Nat.le_of_ble_eq_true rfl) ⟨by decide, by decide⟩ d_TF_worth_40 ?_
  obtain ⟨r43, h43, hF⟩ := g_bind hF
  refine j_si C (As := [.int r40]) (st := []) (c_In_bitCount (XL X) G r40 r29 h43) m_In_bitCount wd_515 rfl rfl (Nat.le_of_ble_eq_true rfl) ⟨by decide, by decide⟩ d_TF_worth_43 ?_
  cases hF
  exact j_iret (st := []) C hr d_TF_worth_46 rfl rfl
set_option maxHeartbeats 4000000 in
set_option maxRecDepth 100000 in
theorem c_Mt_abs (l : Launch) (G : GT) (y0 : Int64)  (σ : MT) {z : Int64} (hF : f_Mt_abs y0 = some z) : CTL l G y_Mt_abs b_Mt_abs 2 (some .long) 0 0 [.long y0] σ z σ := by
  refine entX [(0, .long y0)] "java/lang/Math" (by decide +kernel) rfl rfl (Nat.le_of_ble_eq_true rfl) (fun X hXl hr C => ?_)
  unfold f_Mt_abs at hF
  refine j_lload_n C d_Mt_abs_0 rfl 0 rfl ?_
  refine j_lconst C (v := 0) d_Mt_abs_1 (by decide) ?_
  refine j_lcmp C d_Mt_abs_2 ?_
  refine j_if_ge C 11 d_Mt_abs_3 (by decide) hF (fun q3 hF => ?_) (fun q3 hF => ?_)
  · refine j_lload_n C d_Mt_abs_11 rfl 0 rfl ?_
    cases hF
    exact j_lret (st := []) C hr d_Mt_abs_12 rfl rfl
  · refine j_lload_n C d_Mt_abs_6 rfl 0 rfl ?_
    refine j_lneg C d_Mt_abs_7 ?_
    refine j_goto C 12 d_Mt_abs_8 (by decide) ?_
    cases hF
    exact j_lret (st := []) C hr d_Mt_abs_12 rfl rfl
set_option maxHeartbeats 4000000 in
set_option maxRecDepth 100000 in
theorem b_TF_commonDivisor_9 {X : XT} {G : GT} {z : Int64} {σ : MT} (C : CX X G b_TF_commonDivisor 11 "TimeFlood" 0 0) (hr : XR X (some .long)) : ∀ (n : Nat) (y4 : Int64) (y6 : Int64) (x8 : Int32), f_TF_commonDivisor_9 n y4 y6 x8 = some z → JW X G (QX X (PL G z σ) G) 11 9 [(4, .long y4), (6, .long y6), (8, .int x8)] [] σ := by
  intro n
  induction n with
  | zero =>
    intro y4 y6 x8 hF
    rw [f_TF_commonDivisor_9] at hF
    cases hF
  | succ n ih =>
    intro y4 y6 x8 hF
    rw [f_TF_commonDivisor_9] at hF
    refine j_iload C d_TF_commonDivisor_9 2 rfl ?_
    refine j_sipush C (v := 1000) d_TF_commonDivisor_11 (by decide) ?_
    refine j_icmp_ge C 45 d_TF_commonDivisor_14 (by decide) hF (fun q14 hF => ?_) (fun q14 hF => ?_)
    · refine j_lload C d_TF_commonDivisor_45 0 rfl ?_
      cases hF
      exact j_lret (st := []) C hr d_TF_commonDivisor_47 rfl rfl
    · refine j_lload C d_TF_commonDivisor_17 1 rfl ?_
      refine j_lconst C (v := 0) d_TF_commonDivisor_19 (by decide) ?_
      refine j_lcmp C d_TF_commonDivisor_20 ?_
      refine j_if_eq C 45 d_TF_commonDivisor_21 (by decide) hF (fun q21 hF => ?_) (fun q21 hF => ?_)
      · refine j_lload C d_TF_commonDivisor_45 0 rfl ?_
        cases hF
        exact j_lret (st := []) C hr d_TF_commonDivisor_47 rfl rfl
      · refine j_lload C d_TF_commonDivisor_24 0 rfl ?_
        refine j_lload C d_TF_commonDivisor_26 1 rfl ?_
        obtain ⟨q28, hF⟩ := g_if hF
        refine j_lrem C d_TF_commonDivisor_28 q28 ?_
        refine j_lstore C (lv' := [(9, .long (y4 - y4 / y6 * y6)), (4, .long y4), (6, .long y6), (8, .int x8)]) d_TF_commonDivisor_29 (by decide) rfl ?_
        refine j_lload C d_TF_commonDivisor_31 2 rfl ?_
        refine j_lstore C (lv' := [(4, .long y6), (9, .long (y4 - y4 / y6 * y6)), (6, .long y6), (8, .int x8)]) d_TF_commonDivisor_33 (by decide) rfl ?_
        refine j_lload C d_TF_commonDivisor_35 1 rfl ?_
        refine j_lstore C (lv' := [(6, .long (y4 - y4 / y6 * y6)), (4, .long y6), (9, .long (y4 - y4 / y6 * y6)), (8, .int x8)]) d_TF_commonDivisor_37 (by decide) rfl ?_
        refine j_iinc C (v := x8 + (1 : Int32)) (lv' := [(8, .int (x8 + (1 : Int32))), (6, .long (y4 - y4 / y6 * y6)), (4, .long y6), (9, .long (y4 - y4 / y6 * y6))]) d_TF_commonDivisor_39 3 rfl rfl (by decide) rfl ?_
        refine j_goto C 9 d_TF_commonDivisor_42 (by decide) ?_
        refine j_sub C [(4, .long y6), (6, .long (y4 - y4 / y6 * y6)), (8, .int (x8 + (1 : Int32)))] [2, 1, 0] rfl ?_
        exact ih y6 (y4 - y4 / y6 * y6) (x8 + (1 : Int32)) hF
set_option maxHeartbeats 4000000 in
set_option maxRecDepth 100000 in
theorem c_TF_commonDivisor (l : Launch) (G : GT) (y0 : Int64) (y2 : Int64)  (σ : MT) {z : Int64} (hF : f_TF_commonDivisor y0 y2 = some z) : CTL l G y_TF_commonDivisor b_TF_commonDivisor 11 (some .long) 0 0 [.long y0, .long y2] σ z σ := by
  refine entX [(0, .long y0), (2, .long y2)] "TimeFlood" (by decide +kernel) rfl rfl (Nat.le_of_ble_eq_true rfl) (fun X hXl hr C => ?_)
  unfold f_TF_commonDivisor at hF
  refine j_lload_n C d_TF_commonDivisor_0 rfl 0 rfl ?_
  refine j_lstore C (lv' := [(4, .long y0), (0, .long y0), (2, .long y2)]) d_TF_commonDivisor_1 (by decide) rfl ?_
  refine j_lload_n C d_TF_commonDivisor_3 rfl 2 rfl ?_
  refine j_lstore C (lv' := [(6, .long y2), (4, .long y0), (0, .long y0), (2, .long y2)]) d_TF_commonDivisor_4 (by decide) rfl ?_
  refine j_iconst C (v := 0) d_TF_commonDivisor_6 (by decide) ?_
  refine j_istore C (lv' := [(8, .int (0 : Int32)), (6, .long y2), (4, .long y0), (0, .long y0), (2, .long y2)]) d_TF_commonDivisor_7 (by decide) rfl ?_
  refine j_sub C [(4, .long y0), (6, .long y2), (8, .int (0 : Int32))] [2, 1, 0] rfl ?_
  exact b_TF_commonDivisor_9 C hr 1100 y0 y2 (0 : Int32) hF
set_option maxHeartbeats 4000000 in
set_option maxRecDepth 100000 in
theorem b_TF_partOfFraction_10 {X : XT} {G : GT} {z : Int32} {σ : MT} (C : CX X G b_TF_partOfFraction 9 "TimeFlood" 1 30) (hr : XR X (some .int)) (y0 : Int64) (y2 : Int64) (ys0 : Int64) (hF : f_TF_partOfFraction_10 y0 y2 ys0 = some z) : JW X G (QX X (PI G z σ) G) 9 10 [(0, .long y0), (2, .long y2)] [.long ys0] σ := by
  unfold f_TF_partOfFraction_10 at hF
  refine j_lstore C (lv' := [(5, .long ys0), (0, .long y0), (2, .long y2)]) d_TF_partOfFraction_10 (by decide) rfl ?_
  refine j_lload_n C d_TF_partOfFraction_12 rfl 1 rfl ?_
  obtain ⟨r13, h13, hF⟩ := g_bind hF
  refine j_sl C (As := [.long y0]) (st := []) (c_Mt_abs (XL X) G y0 σ h13) m_Mt_abs wd_616 rfl rfl (Nat.le_of_ble_eq_true rfl) ⟨by decide, by decide⟩ d_TF_partOfFraction_13 ?_
  refine j_lload_n C d_TF_partOfFraction_16 rfl 2 rfl ?_
  obtain ⟨r17, h17, hF⟩ := g_bind hF
  refine j_sl C (As := [.long r13, .long y2]) (st := []) (c_TF_commonDivisor (XL X) G r13 y2 σ h17) m_TF_commonDivisor wd_619 rfl rfl (Nat.le_of_ble_eq_true rfl) ⟨by decide, by decide⟩ d_TF_partOfFraction_17 ?_
  refine j_lstore C (lv' := [(7, .long r17), (5, .long ys0), (0, .long y0), (2, .long y2)]) d_TF_partOfFraction_20 (by decide) rfl ?_
  refine j_lload C d_TF_partOfFraction_22 0 rfl ?_
  refine j_lconst C (v := 1) d_TF_partOfFraction_24 (by decide) ?_
  refine j_lcmp C d_TF_partOfFraction_25 ?_
  refine j_if_le C 37 d_TF_partOfFraction_26 (by decide) hF (fun q26 hF => ?_) (fun q26 hF => ?_)
  · refine j_lload C d_TF_partOfFraction_37 1 rfl ?_
    refine j_l2i C d_TF_partOfFraction_39 ?_
    cases hF
    exact j_iret (st := []) C hr d_TF_partOfFraction_40 rfl rfl
  · refine j_lload C d_TF_partOfFraction_29 1 rfl ?_
    refine j_lload C d_TF_partOfFraction_31 0 rfl ?_
    obtain ⟨q33, hF⟩ := g_if hF
    refine j_ldiv C d_TF_partOfFraction_33 q33 ?_
    refine j_goto C 39 d_TF_partOfFraction_34 (by decide) ?_
    refine j_l2i C d_TF_partOfFraction_39 ?_
    cases hF
    exact j_iret (st := []) C hr d_TF_partOfFraction_40 rfl rfl
set_option maxHeartbeats 4000000 in
set_option maxRecDepth 100000 in
theorem c_TF_partOfFraction (l : Launch) (G : GT) (y0 : Int64) (y2 : Int64) (x4 : Int32)  (σ : MT) {z : Int32} (hF : f_TF_partOfFraction y0 y2 x4 = some z) : CTI l G y_TF_partOfFraction b_TF_partOfFraction 9 (some .int) 1 30 [.long y0, .long y2, .int x4] σ z σ := by
  refine entX [(0, .long y0), (2, .long y2), (4, .int x4)] "TimeFlood" (by decide +kernel) rfl rfl (Nat.le_of_ble_eq_true rfl) (fun X hXl hr C => ?_)
  unfold f_TF_partOfFraction at hF
  refine j_iload C d_TF_partOfFraction_0 2 rfl ?_
  refine j_if_eq C 9 d_TF_partOfFraction_2 (by decide) hF (fun q2 hF => ?_) (fun q2 hF => ?_)
  · refine j_lload_n C d_TF_partOfFraction_9 rfl 1 rfl ?_
    refine j_sub C [(0, .long y0), (2, .long y2)] [0, 1] rfl ?_
    exact b_TF_partOfFraction_10 C hr y0 y2 y2 hF
  · refine j_lload_n C d_TF_partOfFraction_5 rfl 0 rfl ?_
    refine j_goto C 10 d_TF_partOfFraction_6 (by decide) ?_
    refine j_sub C [(0, .long y0), (2, .long y2)] [0, 1] rfl ?_
    exact b_TF_partOfFraction_10 C hr y0 y2 y0 hF
set_option maxHeartbeats 4000000 in
set_option maxRecDepth 100000 in
theorem b_TF_share_121 {X : XT} {G : GT} {z : (Int32 × MT)} {K54 : Int32 → Int32 → Int32 → Int32 → Int64 → Int32 → MT → Option (Int32 × MT)} (C : CX X G b_TF_share 10 "TimeFlood" 7 173) (hr : XR X (some .int)) (hK54 : ∀ (x1 : Int32) (x2 : Int32) (x3 : Int32) (x4 : Int32) (y5 : Int64) (x7 : Int32) (σ : MT), K54 x1 x2 x3 x4 y5 x7 σ = some z → JW X G (QX X (PI G z.1 z.2) G) 10 54 [(0, rf G 0), (1, .int x1), (2, .int x2), (3, .int x3), (4, .int x4), (5, .long y5), (7, .int x7)] [] σ) (x1 : Int32) (x2 : Int32) (x3 : Int32) (x4 : Int32) (y5 : Int64) (x7 : Int32) (σ : MT) (hF : f_TF_share_121 K54 x1 x2 x3 x4 y5 x7 σ = some z) : JW X G (QX X (PI G z.1 z.2) G) 10 121 [(0, rf G 0), (1, .int x1), (2, .int x2), (3, .int x3), (4, .int x4), (5, .long y5), (7, .int x7)] [] σ := by
  unfold f_TF_share_121 at hF
  refine j_iinc C (v := x7 + (1 : Int32)) (lv' := [(7, .int (x7 + (1 : Int32))), (0, rf G 0), (1, .int x1), (2, .int x2), (3, .int x3), (4, .int x4), (5, .long y5)]) d_TF_share_121 6 rfl rfl (by decide) rfl ?_
  refine j_goto C 54 d_TF_share_124 (by decide) ?_
  refine j_sub C [(0, rf G 0), (1, .int x1), (2, .int x2), (3, .int x3), (4, .int x4), (5, .long y5), (7, .int (x7 + (1 : Int32)))] [1, 2, 3, 4, 5, 6, 0] rfl ?_
  exact hK54 x1 x2 x3 x4 y5 (x7 + (1 : Int32)) σ hF
set_option maxHeartbeats 4000000 in
set_option maxRecDepth 100000 in
theorem b_TF_share_54 {X : XT} {G : GT} {z : (Int32 × MT)} (C : CX X G b_TF_share 10 "TimeFlood" 7 173) (hr : XR X (some .int)) : ∀ (n : Nat) (x1 : Int32) (x2 : Int32) (x3 : Int32) (x4 : Int32) (y5 : Int64) (x7 : Int32) (σ : MT), f_TF_share_54 n x1 x2 x3 x4 y5 x7 σ = some z → JW X G (QX X (PI G z.1 z.2) G) 10 54 [(0, rf G 0), (1, .int x1), (2, .int x2), (3, .int x3), (4, .int x4), (5, .long y5), (7, .int x7)] [] σ := by
  intro n
  induction n with
  | zero =>
    intro x1 x2 x3 x4 y5 x7 σ hF
    rw [f_TF_share_54] at hF
    cases hF
  | succ n ih =>
    intro x1 x2 x3 x4 y5 x7 σ hF
    rw [f_TF_share_54] at hF
    refine j_iload C d_TF_share_54 6 rfl ?_
    refine j_bipush C (v := 32) d_TF_share_56 (by decide) ?_
    refine j_icmp_ge C 127 d_TF_share_58 (by decide) hF (fun q58 hF => ?_) (fun q58 hF => ?_)
    · refine j_lload C d_TF_share_127 5 rfl ?_
      refine j_fa C wd_603 d_TF_share_129 (fun t129 a129 => ?_)
      refine j_iload C d_TF_share_132 4 rfl ?_
      refine j_iconst C (v := 1) d_TF_share_134 (by decide) ?_
      refine j_iadd C d_TF_share_135 ?_
      obtain ⟨q136, hF⟩ := g_if hF
      refine a129 _ _ _ _ _ (inb_v q136) d_TF_share_136 ?_
      refine j_i2l C d_TF_share_137 ?_
      refine j_iload_n C d_TF_share_138 rfl 2 rfl ?_
      obtain ⟨r139, h139, hF⟩ := g_bind hF
      refine j_si C (As := [.long y5, .long ((faV (x4 + (1 : Int32)).toNatClampNeg).toInt64), .int x2]) (st := []) (c_TF_partOfFraction (XL X) G y5 ((faV (x4 + (1 : Int32)).toNatClampNeg).toInt64) x2 σ h139) m_TF_partOfFraction wd_613 rfl rfl (Nat.le_of_ble_eq_true rfl) ⟨by decide, by decide⟩ d_TF_share_139 ?_
      cases hF
      exact j_iret (st := []) C hr d_TF_share_142 rfl rfl
    · refine j_iload C d_TF_share_61 6 rfl ?_
      refine j_iload_n C d_TF_share_63 rfl 3 rfl ?_
      refine j_iconst C (v := -1) d_TF_share_64 (by decide) ?_
      refine j_ixor C d_TF_share_65 ?_
      refine j_iand C d_TF_share_66 ?_
      refine j_if_ne C 121 d_TF_share_67 (by decide) hF (fun q67 hF => ?_) (fun q67 hF => ?_)
      · exact b_TF_share_121 C hr ih x1 x2 x3 x4 y5 x7 σ hF
      · refine j_iload C d_TF_share_70 6 rfl ?_
        obtain ⟨r72, h72, hF⟩ := g_bind hF
        refine j_si C (As := [.int x7]) (st := []) (c_In_bitCount (XL X) G x7 σ h72) m_In_bitCount wd_515 rfl rfl (Nat.le_of_ble_eq_true rfl) ⟨by decide, by decide⟩ d_TF_share_72 ?_
        refine j_istore C (lv' := [(8, .int r72), (0, rf G 0), (1, .int x1), (2, .int x2), (3, .int x3), (4, .int x4), (5, .long y5), (7, .int x7)]) d_TF_share_75 (by decide) rfl ?_
        refine j_fa C wd_603 d_TF_share_77 (fun t77 a77 => ?_)
        refine j_iload C d_TF_share_80 0 rfl ?_
        obtain ⟨q82, hF⟩ := g_if hF
        refine a77 _ _ _ _ _ (inb_v q82) d_TF_share_82 ?_
        refine j_fa C wd_603 d_TF_share_83 (fun t83 a83 => ?_)
        refine j_iload C d_TF_share_86 5 rfl ?_
        refine j_iload C d_TF_share_88 0 rfl ?_
        refine j_isub C d_TF_share_90 ?_
        obtain ⟨q91, hF⟩ := g_if hF
        refine a83 _ _ _ _ _ (inb_v q91) d_TF_share_91 ?_
        refine j_imul C d_TF_share_92 ?_
        refine j_istore C (lv' := [(9, .int ((faV r72.toNatClampNeg) * (faV (x4 - r72).toNatClampNeg))), (8, .int r72), (0, rf G 0), (1, .int x1), (2, .int x2), (3, .int x3), (4, .int x4), (5, .long y5), (7, .int x7)]) d_TF_share_93 (by decide) rfl ?_
        refine j_lload C d_TF_share_95 7 rfl ?_
        refine j_iload C d_TF_share_97 0 rfl ?_
        refine j_aload_n C d_TF_share_99 rfl 2 rfl ?_
        refine j_iload C d_TF_share_100 8 rfl ?_
        refine j_iconst C (v := 1) d_TF_share_102 (by decide) ?_
        refine j_iload_n C d_TF_share_103 rfl 3 rfl ?_
        refine j_ishl C d_TF_share_104 ?_
        refine j_ior C d_TF_share_105 ?_
        obtain ⟨r106, h106, hF⟩ := g_bind hF
        refine j_vi C (As := [.int (x7 ||| ((1 : Int32) <<< (x1 &&& 31)))]) (st := [.int ((faV r72.toNatClampNeg) * (faV (x4 - r72).toNatClampNeg)), .long y5]) (c_TF_worth (XL X) G (x7 ||| ((1 : Int32) <<< (x1 &&& 31))) σ h106) (rfl : kdf 0 = 0) (by decide) rfl rfl m_TF_worth wd_605 rfl rfl (Nat.le_of_ble_eq_true rfl) ⟨by decide, by decide⟩ d_TF_share_106 ?_
        refine j_aload_n C d_TF_share_109 rfl 2 rfl ?_
        refine j_iload C d_TF_share_110 8 rfl ?_
        obtain ⟨r112, h112, hF⟩ := g_bind hF
        refine j_vi C (As := [.int x7]) (st := [.int r106.1, .int ((faV r72.toNatClampNeg) * (faV (x4 - r72).toNatClampNeg)), .long y5]) (c_TF_worth (XL X) G x7 r106.2 h112) (rfl : kdf 0 = 0) (by decide) rfl rfl m_TF_worth wd_605 rfl rfl (Nat.le_of_ble_eq_true rfl) ⟨by decide, by decide⟩ d_TF_share_112 ?_
        refine j_isub C d_TF_share_115 ?_
        refine j_imul C d_TF_share_116 ?_
        refine j_i2l C d_TF_share_117 ?_
        refine j_ladd C d_TF_share_118 ?_
        refine j_lstore C (lv' := [(5, .long (y5 + ((((faV r72.toNatClampNeg) * (faV (x4 - r72).toNatClampNeg)) * (r106.1 - r112.1)).toInt64))), (9, .int ((faV r72.toNatClampNeg) * (faV (x4 - r72).toNatClampNeg))), (8, .int r72), (0, rf G 0), (1, .int x1), (2, .int x2), (3, .int x3), (4, .int x4), (7, .int x7)]) d_TF_share_119 (by decide) rfl ?_
        refine j_sub C [(0, rf G 0), (1, .int x1), (2, .int x2), (3, .int x3), (4, .int x4), (5, .long (y5 + ((((faV r72.toNatClampNeg) * (faV (x4 - r72).toNatClampNeg)) * (r106.1 - r112.1)).toInt64))), (7, .int x7)] [3, 4, 5, 6, 7, 0, 8] rfl ?_
        exact b_TF_share_121 C hr ih x1 x2 x3 x4 (y5 + ((((faV r72.toNatClampNeg) * (faV (x4 - r72).toNatClampNeg)) * (r106.1 - r112.1)).toInt64)) x7 r112.2 hF
set_option maxHeartbeats 4000000 in
set_option maxRecDepth 100000 in
theorem c_TF_share (l : Launch) (G : GT) (x1 : Int32) (x2 : Int32) (σ : MT)  {z : (Int32 × MT)} (hF : f_TF_share x1 x2 σ = some z) : CTI l G y_TF_share b_TF_share 10 (some .int) 7 173 [rf G 0, .int x1, .int x2] σ z.1 z.2 := by
  refine entX [(0, rf G 0), (1, .int x1), (2, .int x2)] "TimeFlood" (by decide +kernel) rfl rfl (Nat.le_of_ble_eq_true rfl) (fun X hXl hr C => ?_)
  unfold f_TF_share at hF
  refine j_aload_n C d_TF_share_0 rfl 0 rfl ?_
  refine j_iload_n C d_TF_share_1 rfl 1 rfl ?_
  obtain ⟨r2, h2, hF⟩ := g_bind hF
  refine j_vi C (As := [.int x1]) (st := []) (c_TF_hasNode (XL X) G x1 σ h2) (rfl : kdf 0 = 0) (by decide) rfl rfl m_TF_hasNode wd_425 rfl rfl (Nat.le_of_ble_eq_true rfl) ⟨by decide, by decide⟩ d_TF_share_2 ?_
  refine j_if_ne C 10 d_TF_share_5 (by decide) hF (fun q5 hF => ?_) (fun q5 hF => ?_)
  · refine j_aload_n C d_TF_share_10 rfl 0 rfl ?_
    refine g_TF_now C (rfl : kdf 0 = 0) wd_244 d_TF_share_11 ?_
    refine g_St_nodes C (rfl : kdf 61 = 4) wd_191 d_TF_share_14 ?_
    refine j_iload_n C d_TF_share_17 rfl 1 rfl ?_
    obtain ⟨q18, hF⟩ := g_if hF
    refine e_nodes C (rfl : kdf 62 = 32) (inb_v q18) d_TF_share_18 ?_
    refine g_Nd_on C (kd_node (rfl : kdf 62 = 32) (inb_v q18)) wd_143 d_TF_share_19 ?_
    refine j_if_ne C 28 d_TF_share_22 (by decide) hF (fun q22 hF => ?_) (fun q22 hF => ?_)
    · refine j_aload_n C d_TF_share_28 rfl 0 rfl ?_
      refine g_TF_now C (rfl : kdf 0 = 0) wd_244 d_TF_share_29 ?_
      obtain ⟨r32, h32, hF⟩ := g_bind hF
      refine j_vi C (As := []) (st := []) (c_St_onSet (XL X) G 61 σ (rfl : kdf 61 = 4) h32) (rfl : kdf 61 = 4) (by decide) rfl rfl m_St_onSet wd_365 rfl rfl (Nat.le_of_ble_eq_true rfl) ⟨by decide, by decide⟩ d_TF_share_32 ?_
      refine j_iconst C (v := 1) d_TF_share_35 (by decide) ?_
      refine j_iload_n C d_TF_share_36 rfl 1 rfl ?_
      refine j_ishl C d_TF_share_37 ?_
      refine j_iconst C (v := -1) d_TF_share_38 (by decide) ?_
      refine j_ixor C d_TF_share_39 ?_
      refine j_iand C d_TF_share_40 ?_
      refine j_istore_n C (lv' := [(3, .int (r32 &&& (((1 : Int32) <<< (x1 &&& 31)) ^^^ (-1 : Int32)))), (0, rf G 0), (1, .int x1), (2, .int x2)]) d_TF_share_41 rfl (by decide) rfl ?_
      refine j_iload_n C d_TF_share_42 rfl 0 rfl ?_
      obtain ⟨r43, h43, hF⟩ := g_bind hF
      refine j_si C (As := [.int (r32 &&& (((1 : Int32) <<< (x1 &&& 31)) ^^^ (-1 : Int32)))]) (st := []) (c_In_bitCount (XL X) G (r32 &&& (((1 : Int32) <<< (x1 &&& 31)) ^^^ (-1 : Int32))) σ h43) m_In_bitCount wd_515 rfl rfl (Nat.le_of_ble_eq_true rfl) ⟨by decide, by decide⟩ d_TF_share_43 ?_
      refine j_istore C (lv' := [(4, .int r43), (3, .int (r32 &&& (((1 : Int32) <<< (x1 &&& 31)) ^^^ (-1 : Int32)))), (0, rf G 0), (1, .int x1), (2, .int x2)]) d_TF_share_46 (by decide) rfl ?_
      refine j_lconst C (v := 0) d_TF_share_48 (by decide) ?_
      refine j_lstore C (lv' := [(5, .long (0 : Int64)), (4, .int r43), (3, .int (r32 &&& (((1 : Int32) <<< (x1 &&& 31)) ^^^ (-1 : Int32)))), (0, rf G 0), (1, .int x1), (2, .int x2)]) d_TF_share_49 (by decide) rfl ?_
      refine j_iconst C (v := 0) d_TF_share_51 (by decide) ?_
      refine j_istore C (lv' := [(7, .int (0 : Int32)), (5, .long (0 : Int64)), (4, .int r43), (3, .int (r32 &&& (((1 : Int32) <<< (x1 &&& 31)) ^^^ (-1 : Int32)))), (0, rf G 0), (1, .int x1), (2, .int x2)]) d_TF_share_52 (by decide) rfl ?_
      refine j_sub C [(0, rf G 0), (1, .int x1), (2, .int x2), (3, .int (r32 &&& (((1 : Int32) <<< (x1 &&& 31)) ^^^ (-1 : Int32)))), (4, .int r43), (5, .long (0 : Int64)), (7, .int (0 : Int32))] [4, 5, 6, 3, 2, 1, 0] rfl ?_
      exact b_TF_share_54 C hr 1100 x1 x2 (r32 &&& (((1 : Int32) <<< (x1 &&& 31)) ^^^ (-1 : Int32))) r43 (0 : Int64) (0 : Int32) σ hF
    · refine j_bipush C (v := -3) d_TF_share_25 (by decide) ?_
      cases hF
      exact j_iret (st := []) C hr d_TF_share_27 rfl rfl
  · refine j_iconst C (v := -1) d_TF_share_8 (by decide) ?_
    cases hF
    exact j_iret (st := []) C hr d_TF_share_9 rfl rfl
set_option maxHeartbeats 4000000 in
set_option maxRecDepth 100000 in
theorem b_TF_weightOfFailing_52 {X : XT} {G : GT} {z : Int64} {K5 : Int32 → Int32 → Int64 → Int32 → MT → Option Int64} {σ : MT} (C : CX X G b_TF_weightOfFailing 6 "TimeFlood" 1 21) (hr : XR X (some .long)) (hK5 : ∀ (x1 : Int32) (x2 : Int32) (y3 : Int64) (x5 : Int32), K5 x1 x2 y3 x5 σ = some z → JW X G (QX X (PL G z σ) G) 6 5 [(0, rf G 0), (1, .int x1), (2, .int x2), (3, .long y3), (5, .int x5)] [] σ) (x1 : Int32) (x2 : Int32) (y3 : Int64) (x5 : Int32) (hF : f_TF_weightOfFailing_52 K5 x1 x2 y3 x5 σ = some z) : JW X G (QX X (PL G z σ) G) 6 52 [(0, rf G 0), (1, .int x1), (2, .int x2), (3, .long y3), (5, .int x5)] [] σ := by
  unfold f_TF_weightOfFailing_52 at hF
  refine j_iinc C (v := x5 + (1 : Int32)) (lv' := [(5, .int (x5 + (1 : Int32))), (0, rf G 0), (1, .int x1), (2, .int x2), (3, .long y3)]) d_TF_weightOfFailing_52 4 rfl rfl (by decide) rfl ?_
  refine j_goto C 5 d_TF_weightOfFailing_55 (by decide) ?_
  refine j_sub C [(0, rf G 0), (1, .int x1), (2, .int x2), (3, .long y3), (5, .int (x5 + (1 : Int32)))] [1, 2, 3, 4, 0] rfl ?_
  exact hK5 x1 x2 y3 (x5 + (1 : Int32)) hF
set_option maxHeartbeats 4000000 in
set_option maxRecDepth 100000 in
theorem b_TF_weightOfFailing_50 {X : XT} {G : GT} {z : Int64} {K5 : Int32 → Int32 → Int64 → Int32 → MT → Option Int64} {σ : MT} (C : CX X G b_TF_weightOfFailing 6 "TimeFlood" 1 21) (hr : XR X (some .long)) (hK5 : ∀ (x1 : Int32) (x2 : Int32) (y3 : Int64) (x5 : Int32), K5 x1 x2 y3 x5 σ = some z → JW X G (QX X (PL G z σ) G) 6 5 [(0, rf G 0), (1, .int x1), (2, .int x2), (3, .long y3), (5, .int x5)] [] σ) (x1 : Int32) (x2 : Int32) (x5 : Int32) (ys0 : Int64) (ys1 : Int64) (hF : f_TF_weightOfFailing_50 K5 x1 x2 x5 ys0 ys1 σ = some z) : JW X G (QX X (PL G z σ) G) 6 50 [(0, rf G 0), (1, .int x1), (2, .int x2), (5, .int x5)] [.long ys0, .long ys1] σ := by
  unfold f_TF_weightOfFailing_50 at hF
  refine j_lmul C d_TF_weightOfFailing_50 ?_
  refine j_lstore_n C (lv' := [(3, .long (ys1 * ys0)), (0, rf G 0), (1, .int x1), (2, .int x2), (5, .int x5)]) d_TF_weightOfFailing_51 rfl (by decide) rfl ?_
  refine j_sub C [(0, rf G 0), (1, .int x1), (2, .int x2), (3, .long (ys1 * ys0)), (5, .int x5)] [1, 2, 3, 0, 4] rfl ?_
  exact b_TF_weightOfFailing_52 C hr hK5 x1 x2 (ys1 * ys0) x5 hF
set_option maxHeartbeats 4000000 in
set_option maxRecDepth 100000 in
theorem b_TF_weightOfFailing_5 {X : XT} {G : GT} {z : Int64} {σ : MT} (C : CX X G b_TF_weightOfFailing 6 "TimeFlood" 1 21) (hr : XR X (some .long)) : ∀ (n : Nat) (x1 : Int32) (x2 : Int32) (y3 : Int64) (x5 : Int32), f_TF_weightOfFailing_5 n x1 x2 y3 x5 σ = some z → JW X G (QX X (PL G z σ) G) 6 5 [(0, rf G 0), (1, .int x1), (2, .int x2), (3, .long y3), (5, .int x5)] [] σ := by
  intro n
  induction n with
  | zero =>
    intro x1 x2 y3 x5 hF
    rw [f_TF_weightOfFailing_5] at hF
    cases hF
  | succ n ih =>
    intro x1 x2 y3 x5 hF
    rw [f_TF_weightOfFailing_5] at hF
    refine j_iload C d_TF_weightOfFailing_5 4 rfl ?_
    refine j_aload_n C d_TF_weightOfFailing_7 rfl 0 rfl ?_
    refine g_TF_plan C (rfl : kdf 0 = 0) wd_243 d_TF_weightOfFailing_8 ?_
    refine g_Pl_linkCount C (rfl : kdf 15 = 2) wd_53 d_TF_weightOfFailing_11 ?_
    refine j_icmp_ge C 58 d_TF_weightOfFailing_14 (by decide) hF (fun q14 hF => ?_) (fun q14 hF => ?_)
    · refine j_lload_n C d_TF_weightOfFailing_58 rfl 3 rfl ?_
      cases hF
      exact j_lret (st := []) C hr d_TF_weightOfFailing_59 rfl rfl
    · refine j_aload_n C d_TF_weightOfFailing_17 rfl 0 rfl ?_
      refine g_TF_now C (rfl : kdf 0 = 0) wd_244 d_TF_weightOfFailing_18 ?_
      refine j_iload C d_TF_weightOfFailing_21 4 rfl ?_
      obtain ⟨r23, h23, hF⟩ := g_bind hF
      refine j_vi C (As := [.int x5]) (st := []) (c_St_isDown (XL X) G 61 x5 σ (rfl : kdf 61 = 4) h23) (rfl : kdf 61 = 4) (by decide) rfl rfl m_St_isDown wd_449 rfl rfl (Nat.le_of_ble_eq_true rfl) ⟨by decide, by decide⟩ d_TF_weightOfFailing_23 ?_
      refine j_if_ne C 52 d_TF_weightOfFailing_26 (by decide) hF (fun q26 hF => ?_) (fun q26 hF => ?_)
      · exact b_TF_weightOfFailing_52 C hr ih x1 x2 y3 x5 hF
      · refine j_lload_n C d_TF_weightOfFailing_29 rfl 3 rfl ?_
        refine j_iload_n C d_TF_weightOfFailing_30 rfl 1 rfl ?_
        refine j_iload C d_TF_weightOfFailing_31 4 rfl ?_
        refine j_ishr C d_TF_weightOfFailing_33 ?_
        refine j_iconst C (v := 1) d_TF_weightOfFailing_34 (by decide) ?_
        refine j_iand C d_TF_weightOfFailing_35 ?_
        refine j_iconst C (v := 1) d_TF_weightOfFailing_36 (by decide) ?_
        refine j_icmp_ne C 45 d_TF_weightOfFailing_37 (by decide) hF (fun q37 hF => ?_) (fun q37 hF => ?_)
        · refine j_bipush C (v := 10) d_TF_weightOfFailing_45 (by decide) ?_
          refine j_iload_n C d_TF_weightOfFailing_47 rfl 2 rfl ?_
          refine j_isub C d_TF_weightOfFailing_48 ?_
          refine j_i2l C d_TF_weightOfFailing_49 ?_
          refine j_sub C [(0, rf G 0), (1, .int x1), (2, .int x2), (5, .int x5)] [0, 1, 2, 4] rfl ?_
          exact b_TF_weightOfFailing_50 C hr ih x1 x2 x5 (((10 : Int32) - x2).toInt64) y3 hF
        · refine j_iload_n C d_TF_weightOfFailing_40 rfl 2 rfl ?_
          refine j_i2l C d_TF_weightOfFailing_41 ?_
          refine j_goto C 50 d_TF_weightOfFailing_42 (by decide) ?_
          refine j_sub C [(0, rf G 0), (1, .int x1), (2, .int x2), (5, .int x5)] [0, 1, 2, 4] rfl ?_
          exact b_TF_weightOfFailing_50 C hr ih x1 x2 x5 x2.toInt64 y3 hF
set_option maxHeartbeats 4000000 in
set_option maxRecDepth 100000 in
theorem c_TF_weightOfFailing (l : Launch) (G : GT) (x1 : Int32) (x2 : Int32) (σ : MT)  {z : Int64} (hF : f_TF_weightOfFailing x1 x2 σ = some z) : CTL l G y_TF_weightOfFailing b_TF_weightOfFailing 6 (some .long) 1 21 [rf G 0, .int x1, .int x2] σ z σ := by
  refine entX [(0, rf G 0), (1, .int x1), (2, .int x2)] "TimeFlood" (by decide +kernel) rfl rfl (Nat.le_of_ble_eq_true rfl) (fun X hXl hr C => ?_)
  unfold f_TF_weightOfFailing at hF
  refine j_lconst C (v := 1) d_TF_weightOfFailing_0 (by decide) ?_
  refine j_lstore_n C (lv' := [(3, .long (1 : Int64)), (0, rf G 0), (1, .int x1), (2, .int x2)]) d_TF_weightOfFailing_1 rfl (by decide) rfl ?_
  refine j_iconst C (v := 0) d_TF_weightOfFailing_2 (by decide) ?_
  refine j_istore C (lv' := [(5, .int (0 : Int32)), (3, .long (1 : Int64)), (0, rf G 0), (1, .int x1), (2, .int x2)]) d_TF_weightOfFailing_3 (by decide) rfl ?_
  refine j_sub C [(0, rf G 0), (1, .int x1), (2, .int x2), (3, .long (1 : Int64)), (5, .int (0 : Int32))] [2, 3, 4, 1, 0] rfl ?_
  exact b_TF_weightOfFailing_5 C hr 1100 x1 x2 (1 : Int64) (0 : Int32) hF
set_option maxHeartbeats 4000000 in
set_option maxRecDepth 100000 in
theorem c_TF_unitesWithout (l : Launch) (G : GT) (x1 : Int32) (x2 : Int32) (σ : MT)  {z : (Int32 × MT)} (hF : f_TF_unitesWithout x1 x2 σ = some z) : CTI l G y_TF_unitesWithout b_TF_unitesWithout 3 (some .boolean) 6 140 [rf G 0, .int x1, .int x2] σ z.1 z.2 := by
  refine entX [(0, rf G 0), (1, .int x1), (2, .int x2)] "TimeFlood" (by decide +kernel) rfl rfl (Nat.le_of_ble_eq_true rfl) (fun X hXl hr C => ?_)
  unfold f_TF_unitesWithout at hF
  refine j_aload_n C d_TF_unitesWithout_0 rfl 0 rfl ?_
  refine g_TF_trial C (rfl : kdf 0 = 0) wd_245 d_TF_unitesWithout_1 ?_
  refine j_aload_n C d_TF_unitesWithout_4 rfl 0 rfl ?_
  refine g_TF_now C (rfl : kdf 0 = 0) wd_244 d_TF_unitesWithout_5 ?_
  obtain ⟨r8, h8, hF⟩ := g_bind hF
  refine j_vv C (As := [rf G 61]) (st := []) (c_St_copyFrom (XL X) G 83 61 σ (rfl : kdf 83 = 4) (rfl : kdf 61 = 4) h8) (rfl : kdf 83 = 4) (by decide) rfl rfl m_St_copyFrom wd_555 rfl rfl (Nat.le_of_ble_eq_true rfl) ⟨by decide, by decide⟩ d_TF_unitesWithout_8 ?_
  refine j_aload_n C d_TF_unitesWithout_11 rfl 0 rfl ?_
  refine g_TF_trial C (rfl : kdf 0 = 0) wd_245 d_TF_unitesWithout_12 ?_
  refine j_dup C d_TF_unitesWithout_15 rfl ?_
  refine g_St_downSet C (rfl : kdf 83 = 4) wd_188 d_TF_unitesWithout_16 ?_
  refine j_iload_n C d_TF_unitesWithout_19 rfl 1 rfl ?_
  refine j_ior C d_TF_unitesWithout_20 ?_
  refine p_St_downSet C (rfl : kdf 83 = 4) wd_188 d_TF_unitesWithout_21 ?_
  refine j_aload_n C d_TF_unitesWithout_24 rfl 0 rfl ?_
  refine g_TF_flood C (rfl : kdf 0 = 0) wd_242 d_TF_unitesWithout_25 ?_
  refine j_aload_n C d_TF_unitesWithout_28 rfl 0 rfl ?_
  refine g_TF_trial C (rfl : kdf 0 = 0) wd_245 d_TF_unitesWithout_29 ?_
  refine j_iload_n C d_TF_unitesWithout_32 rfl 2 rfl ?_
  obtain ⟨r33, h33, hF⟩ := g_bind hF
  refine j_vv C (As := [rf G 83, .int x2]) (st := []) (c_Fl_passMany (XL X) G 83 x2 (sI r8 83 1 ((r8.1 83 1) ||| x1)) (rfl : kdf 83 = 4) h33) (rfl : kdf 14 = 3) (by decide) rfl rfl m_Fl_passMany wd_473 rfl rfl (Nat.le_of_ble_eq_true rfl) ⟨by decide, by decide⟩ d_TF_unitesWithout_33 ?_
  refine j_aload_n C d_TF_unitesWithout_36 rfl 0 rfl ?_
  refine g_TF_trial C (rfl : kdf 0 = 0) wd_245 d_TF_unitesWithout_37 ?_
  obtain ⟨r40, h40, hF⟩ := g_bind hF
  refine j_vi C (As := []) (st := []) (c_St_isUnited (XL X) G 83 r33 (rfl : kdf 83 = 4) h40) (rfl : kdf 83 = 4) (by decide) rfl rfl m_St_isUnited wd_417 rfl rfl (Nat.le_of_ble_eq_true rfl) ⟨by decide, by decide⟩ d_TF_unitesWithout_40 ?_
  obtain ⟨qz, hF⟩ := g_if hF
  cases hF
  exact j_zret (st := []) C hr (zb_n (zbb_z qz)) d_TF_unitesWithout_43 rfl rfl
set_option maxHeartbeats 4000000 in
set_option maxRecDepth 100000 in
theorem b_TF_tenToTheUpLinks_32 {X : XT} {G : GT} {z : Int64} {K4 : Int64 → Int32 → MT → Option Int64} {σ : MT} (C : CX X G b_TF_tenToTheUpLinks 4 "TimeFlood" 1 21) (hr : XR X (some .long)) (hK4 : ∀ (y1 : Int64) (x3 : Int32), K4 y1 x3 σ = some z → JW X G (QX X (PL G z σ) G) 4 4 [(0, rf G 0), (1, .long y1), (3, .int x3)] [] σ) (y1 : Int64) (x3 : Int32) (hF : f_TF_tenToTheUpLinks_32 K4 y1 x3 σ = some z) : JW X G (QX X (PL G z σ) G) 4 32 [(0, rf G 0), (1, .long y1), (3, .int x3)] [] σ := by
  unfold f_TF_tenToTheUpLinks_32 at hF
  refine j_iinc C (v := x3 + (1 : Int32)) (lv' := [(3, .int (x3 + (1 : Int32))), (0, rf G 0), (1, .long y1)]) d_TF_tenToTheUpLinks_32 2 rfl rfl (by decide) rfl ?_
  refine j_goto C 4 d_TF_tenToTheUpLinks_35 (by decide) ?_
  refine j_sub C [(0, rf G 0), (1, .long y1), (3, .int (x3 + (1 : Int32)))] [1, 2, 0] rfl ?_
  exact hK4 y1 (x3 + (1 : Int32)) hF
set_option maxHeartbeats 4000000 in
set_option maxRecDepth 100000 in
theorem b_TF_tenToTheUpLinks_4 {X : XT} {G : GT} {z : Int64} {σ : MT} (C : CX X G b_TF_tenToTheUpLinks 4 "TimeFlood" 1 21) (hr : XR X (some .long)) : ∀ (n : Nat) (y1 : Int64) (x3 : Int32), f_TF_tenToTheUpLinks_4 n y1 x3 σ = some z → JW X G (QX X (PL G z σ) G) 4 4 [(0, rf G 0), (1, .long y1), (3, .int x3)] [] σ := by
  intro n
  induction n with
  | zero =>
    intro y1 x3 hF
    rw [f_TF_tenToTheUpLinks_4] at hF
    cases hF
  | succ n ih =>
    intro y1 x3 hF
    rw [f_TF_tenToTheUpLinks_4] at hF
    refine j_iload_n C d_TF_tenToTheUpLinks_4 rfl 2 rfl ?_
    refine j_aload_n C d_TF_tenToTheUpLinks_5 rfl 0 rfl ?_
    refine g_TF_plan C (rfl : kdf 0 = 0) wd_243 d_TF_tenToTheUpLinks_6 ?_
    refine g_Pl_linkCount C (rfl : kdf 15 = 2) wd_53 d_TF_tenToTheUpLinks_9 ?_
    refine j_icmp_ge C 38 d_TF_tenToTheUpLinks_12 (by decide) hF (fun q12 hF => ?_) (fun q12 hF => ?_)
    · refine j_lload_n C d_TF_tenToTheUpLinks_38 rfl 1 rfl ?_
      cases hF
      exact j_lret (st := []) C hr d_TF_tenToTheUpLinks_39 rfl rfl
    · refine j_aload_n C d_TF_tenToTheUpLinks_15 rfl 0 rfl ?_
      refine g_TF_now C (rfl : kdf 0 = 0) wd_244 d_TF_tenToTheUpLinks_16 ?_
      refine j_iload_n C d_TF_tenToTheUpLinks_19 rfl 2 rfl ?_
      obtain ⟨r20, h20, hF⟩ := g_bind hF
      refine j_vi C (As := [.int x3]) (st := []) (c_St_isDown (XL X) G 61 x3 σ (rfl : kdf 61 = 4) h20) (rfl : kdf 61 = 4) (by decide) rfl rfl m_St_isDown wd_449 rfl rfl (Nat.le_of_ble_eq_true rfl) ⟨by decide, by decide⟩ d_TF_tenToTheUpLinks_20 ?_
      refine j_if_ne C 32 d_TF_tenToTheUpLinks_23 (by decide) hF (fun q23 hF => ?_) (fun q23 hF => ?_)
      · exact b_TF_tenToTheUpLinks_32 C hr ih y1 x3 hF
      · refine j_lload_n C d_TF_tenToTheUpLinks_26 rfl 1 rfl ?_
        refine j_ldc2 C wd_638 d_TF_tenToTheUpLinks_27 ?_
        refine j_lmul C d_TF_tenToTheUpLinks_30 ?_
        refine j_lstore_n C (lv' := [(1, .long (y1 * (10 : Int64))), (0, rf G 0), (3, .int x3)]) d_TF_tenToTheUpLinks_31 rfl (by decide) rfl ?_
        refine j_sub C [(0, rf G 0), (1, .long (y1 * (10 : Int64))), (3, .int x3)] [1, 0, 2] rfl ?_
        exact b_TF_tenToTheUpLinks_32 C hr ih (y1 * (10 : Int64)) x3 hF
set_option maxHeartbeats 4000000 in
set_option maxRecDepth 100000 in
theorem c_TF_tenToTheUpLinks (l : Launch) (G : GT) (σ : MT)  {z : Int64} (hF : f_TF_tenToTheUpLinks σ = some z) : CTL l G y_TF_tenToTheUpLinks b_TF_tenToTheUpLinks 4 (some .long) 1 21 [rf G 0] σ z σ := by
  refine entX [(0, rf G 0)] "TimeFlood" (by decide +kernel) rfl rfl (Nat.le_of_ble_eq_true rfl) (fun X hXl hr C => ?_)
  unfold f_TF_tenToTheUpLinks at hF
  refine j_lconst C (v := 1) d_TF_tenToTheUpLinks_0 (by decide) ?_
  refine j_lstore_n C (lv' := [(1, .long (1 : Int64)), (0, rf G 0)]) d_TF_tenToTheUpLinks_1 rfl (by decide) rfl ?_
  refine j_iconst C (v := 0) d_TF_tenToTheUpLinks_2 (by decide) ?_
  refine j_istore_n C (lv' := [(3, .int (0 : Int32)), (1, .long (1 : Int64)), (0, rf G 0)]) d_TF_tenToTheUpLinks_3 rfl (by decide) rfl ?_
  refine j_sub C [(0, rf G 0), (1, .long (1 : Int64)), (3, .int (0 : Int32))] [2, 1, 0] rfl ?_
  exact b_TF_tenToTheUpLinks_4 C hr 1100 (1 : Int64) (0 : Int32) hF
set_option maxHeartbeats 4000000 in
set_option maxRecDepth 100000 in
theorem b_TF_chance_89 {X : XT} {G : GT} {z : (Int32 × MT)} {K29 : Int32 → Int32 → Int32 → Int64 → Int32 → MT → Option (Int32 × MT)} (C : CX X G b_TF_chance 9 "TimeFlood" 7 162) (hr : XR X (some .int)) (hK29 : ∀ (x1 : Int32) (x2 : Int32) (x3 : Int32) (y4 : Int64) (x6 : Int32) (σ : MT), K29 x1 x2 x3 y4 x6 σ = some z → JW X G (QX X (PI G z.1 z.2) G) 9 29 [(0, rf G 0), (1, .int x1), (2, .int x2), (3, .int x3), (4, .long y4), (6, .int x6)] [] σ) (x1 : Int32) (x2 : Int32) (x3 : Int32) (y4 : Int64) (x6 : Int32) (σ : MT) (hF : f_TF_chance_89 K29 x1 x2 x3 y4 x6 σ = some z) : JW X G (QX X (PI G z.1 z.2) G) 9 89 [(0, rf G 0), (1, .int x1), (2, .int x2), (3, .int x3), (4, .long y4), (6, .int x6)] [] σ := by
  unfold f_TF_chance_89 at hF
  refine j_iinc C (v := x6 + (1 : Int32)) (lv' := [(6, .int (x6 + (1 : Int32))), (0, rf G 0), (1, .int x1), (2, .int x2), (3, .int x3), (4, .long y4)]) d_TF_chance_89 5 rfl rfl (by decide) rfl ?_
  refine j_goto C 29 d_TF_chance_92 (by decide) ?_
  refine j_sub C [(0, rf G 0), (1, .int x1), (2, .int x2), (3, .int x3), (4, .long y4), (6, .int (x6 + (1 : Int32)))] [1, 2, 3, 4, 5, 0] rfl ?_
  exact hK29 x1 x2 x3 y4 (x6 + (1 : Int32)) σ hF
set_option maxHeartbeats 4000000 in
set_option maxRecDepth 100000 in
theorem b_TF_chance_29 {X : XT} {G : GT} {z : (Int32 × MT)} (C : CX X G b_TF_chance 9 "TimeFlood" 7 162) (hr : XR X (some .int)) : ∀ (n : Nat) (x1 : Int32) (x2 : Int32) (x3 : Int32) (y4 : Int64) (x6 : Int32) (σ : MT), f_TF_chance_29 n x1 x2 x3 y4 x6 σ = some z → JW X G (QX X (PI G z.1 z.2) G) 9 29 [(0, rf G 0), (1, .int x1), (2, .int x2), (3, .int x3), (4, .long y4), (6, .int x6)] [] σ := by
  intro n
  induction n with
  | zero =>
    intro x1 x2 x3 y4 x6 σ hF
    rw [f_TF_chance_29] at hF
    cases hF
  | succ n ih =>
    intro x1 x2 x3 y4 x6 σ hF
    rw [f_TF_chance_29] at hF
    refine j_iload C d_TF_chance_29 5 rfl ?_
    refine j_iconst C (v := 1) d_TF_chance_31 (by decide) ?_
    refine j_aload_n C d_TF_chance_32 rfl 0 rfl ?_
    refine g_TF_plan C (rfl : kdf 0 = 0) wd_243 d_TF_chance_33 ?_
    refine g_Pl_linkCount C (rfl : kdf 15 = 2) wd_53 d_TF_chance_36 ?_
    refine j_ishl C d_TF_chance_39 ?_
    refine j_icmp_ge C 95 d_TF_chance_40 (by decide) hF (fun q40 hF => ?_) (fun q40 hF => ?_)
    · refine j_lload C d_TF_chance_95 4 rfl ?_
      refine j_aload_n C d_TF_chance_97 rfl 0 rfl ?_
      obtain ⟨r98, h98, hF⟩ := g_bind hF
      refine j_vl C (As := []) (st := [.long y4]) (c_TF_tenToTheUpLinks (XL X) G σ h98) (rfl : kdf 0 = 0) (by decide) rfl rfl m_TF_tenToTheUpLinks wd_634 rfl rfl (Nat.le_of_ble_eq_true rfl) ⟨by decide, by decide⟩ d_TF_chance_98 ?_
      refine j_iload_n C d_TF_chance_101 rfl 3 rfl ?_
      obtain ⟨r102, h102, hF⟩ := g_bind hF
      refine j_si C (As := [.long y4, .long r98, .int x3]) (st := []) (c_TF_partOfFraction (XL X) G y4 r98 x3 σ h102) m_TF_partOfFraction wd_613 rfl rfl (Nat.le_of_ble_eq_true rfl) ⟨by decide, by decide⟩ d_TF_chance_102 ?_
      cases hF
      exact j_iret (st := []) C hr d_TF_chance_105 rfl rfl
    · refine j_iload C d_TF_chance_43 5 rfl ?_
      refine j_aload_n C d_TF_chance_45 rfl 0 rfl ?_
      refine g_TF_now C (rfl : kdf 0 = 0) wd_244 d_TF_chance_46 ?_
      refine g_St_downSet C (rfl : kdf 61 = 4) wd_188 d_TF_chance_49 ?_
      refine j_iand C d_TF_chance_52 ?_
      refine j_if_ne C 89 d_TF_chance_53 (by decide) hF (fun q53 hF => ?_) (fun q53 hF => ?_)
      · exact b_TF_chance_89 C hr ih x1 x2 x3 y4 x6 σ hF
      · refine j_aload_n C d_TF_chance_56 rfl 0 rfl ?_
        refine j_iload C d_TF_chance_57 5 rfl ?_
        refine j_iload_n C d_TF_chance_59 rfl 2 rfl ?_
        obtain ⟨r60, h60, hF⟩ := g_bind hF
        refine j_vl C (As := [.int x6, .int x2]) (st := []) (c_TF_weightOfFailing (XL X) G x6 x2 σ h60) (rfl : kdf 0 = 0) (by decide) rfl rfl m_TF_weightOfFailing wd_626 rfl rfl (Nat.le_of_ble_eq_true rfl) ⟨by decide, by decide⟩ d_TF_chance_60 ?_
        refine j_lstore C (lv' := [(7, .long r60), (0, rf G 0), (1, .int x1), (2, .int x2), (3, .int x3), (4, .long y4), (6, .int x6)]) d_TF_chance_63 (by decide) rfl ?_
        refine j_lload C d_TF_chance_65 0 rfl ?_
        refine j_lconst C (v := 0) d_TF_chance_67 (by decide) ?_
        refine j_lcmp C d_TF_chance_68 ?_
        refine j_if_eq C 89 d_TF_chance_69 (by decide) hF (fun q69 hF => ?_) (fun q69 hF => ?_)
        · refine j_sub C [(0, rf G 0), (1, .int x1), (2, .int x2), (3, .int x3), (4, .long y4), (6, .int x6)] [1, 2, 3, 4, 5, 6] rfl ?_
          exact b_TF_chance_89 C hr ih x1 x2 x3 y4 x6 σ hF
        · refine j_aload_n C d_TF_chance_72 rfl 1 rfl ?_
          refine j_iload C d_TF_chance_73 6 rfl ?_
          refine j_iload_n C d_TF_chance_75 rfl 2 rfl ?_
          obtain ⟨r76, h76, hF⟩ := g_bind hF
          refine j_vi C (As := [.int x6, .int x1]) (st := []) (c_TF_unitesWithout (XL X) G x6 x1 σ h76) (rfl : kdf 0 = 0) (by decide) rfl rfl m_TF_unitesWithout wd_630 rfl rfl (Nat.le_of_ble_eq_true rfl) ⟨by decide, by decide⟩ d_TF_chance_76 ?_
          refine j_if_eq C 89 d_TF_chance_79 (by decide) hF (fun q79 hF => ?_) (fun q79 hF => ?_)
          · refine j_sub C [(0, rf G 0), (1, .int x1), (2, .int x2), (3, .int x3), (4, .long y4), (6, .int x6)] [1, 2, 3, 4, 5, 6] rfl ?_
            exact b_TF_chance_89 C hr ih x1 x2 x3 y4 x6 r76.2 hF
          · refine j_lload C d_TF_chance_82 5 rfl ?_
            refine j_lload C d_TF_chance_84 0 rfl ?_
            refine j_ladd C d_TF_chance_86 ?_
            refine j_lstore C (lv' := [(4, .long (y4 + r60)), (7, .long r60), (0, rf G 0), (1, .int x1), (2, .int x2), (3, .int x3), (6, .int x6)]) d_TF_chance_87 (by decide) rfl ?_
            refine j_sub C [(0, rf G 0), (1, .int x1), (2, .int x2), (3, .int x3), (4, .long (y4 + r60)), (6, .int x6)] [2, 3, 4, 5, 0, 6] rfl ?_
            exact b_TF_chance_89 C hr ih x1 x2 x3 (y4 + r60) x6 r76.2 hF
set_option maxHeartbeats 4000000 in
set_option maxRecDepth 100000 in
theorem c_TF_chance (l : Launch) (G : GT) (x1 : Int32) (x2 : Int32) (x3 : Int32) (σ : MT)  {z : (Int32 × MT)} (hF : f_TF_chance x1 x2 x3 σ = some z) : CTI l G y_TF_chance b_TF_chance 9 (some .int) 7 162 [rf G 0, .int x1, .int x2, .int x3] σ z.1 z.2 := by
  refine entX [(0, rf G 0), (1, .int x1), (2, .int x2), (3, .int x3)] "TimeFlood" (by decide +kernel) rfl rfl (Nat.le_of_ble_eq_true rfl) (fun X hXl hr C => ?_)
  unfold f_TF_chance at hF
  refine j_iload_n C d_TF_chance_0 rfl 1 rfl ?_
  refine j_if_lt C 20 d_TF_chance_1 (by decide) hF (fun q1 hF => ?_) (fun q1 hF => ?_)
  · refine j_bipush C (v := -2) d_TF_chance_20 (by decide) ?_
    cases hF
    exact j_iret (st := []) C hr d_TF_chance_22 rfl rfl
  · refine j_iload_n C d_TF_chance_4 rfl 1 rfl ?_
    refine j_bipush C (v := 20) d_TF_chance_5 (by decide) ?_
    refine j_icmp_gt C 20 d_TF_chance_7 (by decide) hF (fun q7 hF => ?_) (fun q7 hF => ?_)
    · refine j_bipush C (v := -2) d_TF_chance_20 (by decide) ?_
      cases hF
      exact j_iret (st := []) C hr d_TF_chance_22 rfl rfl
    · refine j_iload_n C d_TF_chance_10 rfl 2 rfl ?_
      refine j_if_lt C 20 d_TF_chance_11 (by decide) hF (fun q11 hF => ?_) (fun q11 hF => ?_)
      · refine j_bipush C (v := -2) d_TF_chance_20 (by decide) ?_
        cases hF
        exact j_iret (st := []) C hr d_TF_chance_22 rfl rfl
      · refine j_iload_n C d_TF_chance_14 rfl 2 rfl ?_
        refine j_bipush C (v := 10) d_TF_chance_15 (by decide) ?_
        refine j_icmp_le C 23 d_TF_chance_17 (by decide) hF (fun q17 hF => ?_) (fun q17 hF => ?_)
        · refine j_lconst C (v := 0) d_TF_chance_23 (by decide) ?_
          refine j_lstore C (lv' := [(4, .long (0 : Int64)), (0, rf G 0), (1, .int x1), (2, .int x2), (3, .int x3)]) d_TF_chance_24 (by decide) rfl ?_
          refine j_iconst C (v := 0) d_TF_chance_26 (by decide) ?_
          refine j_istore C (lv' := [(6, .int (0 : Int32)), (4, .long (0 : Int64)), (0, rf G 0), (1, .int x1), (2, .int x2), (3, .int x3)]) d_TF_chance_27 (by decide) rfl ?_
          refine j_sub C [(0, rf G 0), (1, .int x1), (2, .int x2), (3, .int x3), (4, .long (0 : Int64)), (6, .int (0 : Int32))] [2, 3, 4, 5, 1, 0] rfl ?_
          exact b_TF_chance_29 C hr 1100 x1 x2 x3 (0 : Int64) (0 : Int32) σ hF
        · refine j_bipush C (v := -2) d_TF_chance_20 (by decide) ?_
          cases hF
          exact j_iret (st := []) C hr d_TF_chance_22 rfl rfl
set_option maxHeartbeats 4000000 in
set_option maxRecDepth 100000 in
theorem c_TF_seed (l : Launch) (G : GT) (y1 : Int64) (σ : MT)  {z : (Int64 × MT)} (hF : f_TF_seed y1 σ = some z) : CTL l G y_TF_seed b_TF_seed 5 (some .long) 0 0 [rf G 0, .long y1] σ z.1 z.2 := by
  refine entX [(0, rf G 0), (1, .long y1)] "TimeFlood" (by decide +kernel) rfl rfl (Nat.le_of_ble_eq_true rfl) (fun X hXl hr C => ?_)
  unfold f_TF_seed at hF
  refine j_aload_n C d_TF_seed_0 rfl 0 rfl ?_
  refine g_TF_seedNow C (rfl : kdf 0 = 0) wd_250 d_TF_seed_1 ?_
  refine j_lstore_n C (lv' := [(3, .long (σ.2 0)), (0, rf G 0), (1, .long y1)]) d_TF_seed_4 rfl (by decide) rfl ?_
  refine j_aload_n C d_TF_seed_5 rfl 1 rfl ?_
  refine j_lload_n C d_TF_seed_6 rfl 2 rfl ?_
  refine p_TF_seedNow C (rfl : kdf 0 = 0) wd_250 d_TF_seed_7 ?_
  refine j_lload_n C d_TF_seed_10 rfl 0 rfl ?_
  cases hF
  exact j_lret (st := []) C hr d_TF_seed_11 rfl rfl
set_option maxHeartbeats 4000000 in
set_option maxRecDepth 100000 in
theorem b_TF_drawn_97 {X : XT} {G : GT} {z : (Int32 × MT)} {K29 : Int32 → Int32 → Int32 → MT → Option (Int32 × MT)} (C : CX X G b_TF_drawn 5 "TimeFlood" 6 152) (hr : XR X (some .int)) (hK29 : ∀ (x1 : Int32) (x2 : Int32) (x3 : Int32) (σ : MT), K29 x1 x2 x3 σ = some z → JW X G (QX X (PI G z.1 z.2) G) 5 29 [(0, rf G 0), (1, .int x1), (2, .int x2), (3, .int x3)] [] σ) (x1 : Int32) (x2 : Int32) (x3 : Int32) (σ : MT) (hF : f_TF_drawn_97 K29 x1 x2 x3 σ = some z) : JW X G (QX X (PI G z.1 z.2) G) 5 97 [(0, rf G 0), (1, .int x1), (2, .int x2), (3, .int x3)] [] σ := by
  unfold f_TF_drawn_97 at hF
  refine j_aload_n C d_TF_drawn_97 rfl 0 rfl ?_
  refine g_TF_flood C (rfl : kdf 0 = 0) wd_242 d_TF_drawn_98 ?_
  refine j_aload_n C d_TF_drawn_101 rfl 0 rfl ?_
  refine g_TF_trial C (rfl : kdf 0 = 0) wd_245 d_TF_drawn_102 ?_
  obtain ⟨r105, h105, hF⟩ := g_bind hF
  refine j_vv C (As := [rf G 83]) (st := []) (c_Fl_pass (XL X) G 83 σ (rfl : kdf 83 = 4) h105) (rfl : kdf 14 = 3) (by decide) rfl rfl m_Fl_pass wd_560 rfl rfl (Nat.le_of_ble_eq_true rfl) ⟨by decide, by decide⟩ d_TF_drawn_105 ?_
  refine j_iload_n C d_TF_drawn_108 rfl 2 rfl ?_
  refine j_aload_n C d_TF_drawn_109 rfl 0 rfl ?_
  refine g_TF_flood C (rfl : kdf 0 = 0) wd_242 d_TF_drawn_110 ?_
  refine j_aload_n C d_TF_drawn_113 rfl 0 rfl ?_
  refine g_TF_trial C (rfl : kdf 0 = 0) wd_245 d_TF_drawn_114 ?_
  obtain ⟨r117, h117, hF⟩ := g_bind hF
  refine j_vi C (As := [rf G 83]) (st := [.int x2]) (c_Fl_inTimeSet (XL X) G 83 r105 (rfl : kdf 83 = 4) h117) (rfl : kdf 14 = 3) (by decide) rfl rfl m_Fl_inTimeSet wd_377 rfl rfl (Nat.le_of_ble_eq_true rfl) ⟨by decide, by decide⟩ d_TF_drawn_117 ?_
  obtain ⟨r120, h120, hF⟩ := g_bind hF
  refine j_si C (As := [.int r117]) (st := [.int x2]) (c_In_bitCount (XL X) G r117 r105 h120) m_In_bitCount wd_515 rfl rfl (Nat.le_of_ble_eq_true rfl) ⟨by decide, by decide⟩ d_TF_drawn_120 ?_
  refine j_iadd C d_TF_drawn_123 ?_
  refine j_istore_n C (lv' := [(2, .int (x2 + r120)), (0, rf G 0), (1, .int x1), (3, .int x3)]) d_TF_drawn_124 rfl (by decide) rfl ?_
  refine j_iinc C (v := x3 + (1 : Int32)) (lv' := [(3, .int (x3 + (1 : Int32))), (2, .int (x2 + r120)), (0, rf G 0), (1, .int x1)]) d_TF_drawn_125 3 rfl rfl (by decide) rfl ?_
  refine j_goto C 29 d_TF_drawn_128 (by decide) ?_
  refine j_sub C [(0, rf G 0), (1, .int x1), (2, .int (x2 + r120)), (3, .int (x3 + (1 : Int32)))] [2, 3, 1, 0] rfl ?_
  exact hK29 x1 (x2 + r120) (x3 + (1 : Int32)) r105 hF
set_option maxHeartbeats 4000000 in
set_option maxRecDepth 100000 in
theorem b_TF_drawn_60 {X : XT} {G : GT} {z : (Int32 × MT)} {K29 : Int32 → Int32 → Int32 → MT → Option (Int32 × MT)} (C : CX X G b_TF_drawn 5 "TimeFlood" 6 152) (hr : XR X (some .int)) (hK29 : ∀ (x1 : Int32) (x2 : Int32) (x3 : Int32) (σ : MT), K29 x1 x2 x3 σ = some z → JW X G (QX X (PI G z.1 z.2) G) 5 29 [(0, rf G 0), (1, .int x1), (2, .int x2), (3, .int x3)] [] σ) (x1 : Int32) (x2 : Int32) (x3 : Int32) (x4 : Int32) (σ : MT) (hF : f_TF_drawn_60 K29 x1 x2 x3 x4 σ = some z) : JW X G (QX X (PI G z.1 z.2) G) 5 60 [(0, rf G 0), (1, .int x1), (2, .int x2), (3, .int x3), (4, .int x4)] [] σ := by
  unfold f_TF_drawn_60 at hF
  refine j_aload_n C d_TF_drawn_60 rfl 0 rfl ?_
  refine g_TF_plan C (rfl : kdf 0 = 0) wd_243 d_TF_drawn_61 ?_
  refine g_Pl_linkCount C (rfl : kdf 15 = 2) wd_53 d_TF_drawn_64 ?_
  refine j_if_le C 97 d_TF_drawn_67 (by decide) hF (fun q67 hF => ?_) (fun q67 hF => ?_)
  · refine j_sub C [(0, rf G 0), (1, .int x1), (2, .int x2), (3, .int x3)] [0, 1, 2, 3] rfl ?_
    exact b_TF_drawn_97 C hr hK29 x1 x2 x3 σ hF
  · refine j_iload C d_TF_drawn_70 4 rfl ?_
    refine j_bipush C (v := 16) d_TF_drawn_72 (by decide) ?_
    refine j_idiv C d_TF_drawn_74 (by decide) ?_
    refine j_iconst C (v := 2) d_TF_drawn_75 (by decide) ?_
    refine j_irem C d_TF_drawn_76 (by decide) ?_
    refine j_if_ne C 97 d_TF_drawn_77 (by decide) hF (fun q77 hF => ?_) (fun q77 hF => ?_)
    · refine j_sub C [(0, rf G 0), (1, .int x1), (2, .int x2), (3, .int x3)] [0, 1, 2, 3] rfl ?_
      exact b_TF_drawn_97 C hr hK29 x1 x2 x3 σ hF
    · refine j_aload_n C d_TF_drawn_80 rfl 0 rfl ?_
      refine g_TF_trial C (rfl : kdf 0 = 0) wd_245 d_TF_drawn_81 ?_
      refine j_iload C d_TF_drawn_84 4 rfl ?_
      refine j_aload_n C d_TF_drawn_86 rfl 0 rfl ?_
      refine g_TF_plan C (rfl : kdf 0 = 0) wd_243 d_TF_drawn_87 ?_
      refine g_Pl_linkCount C (rfl : kdf 15 = 2) wd_53 d_TF_drawn_90 ?_
      obtain ⟨q93, hF⟩ := g_if hF
      refine j_irem C d_TF_drawn_93 q93 ?_
      obtain ⟨r94, h94, hF⟩ := g_bind hF
      refine j_vv C (As := [.int (x4 - x4 / (σ.1 15 4) * (σ.1 15 4))]) (st := []) (c_St_flipLink (XL X) G 83 (x4 - x4 / (σ.1 15 4) * (σ.1 15 4)) σ (rfl : kdf 83 = 4) h94) (rfl : kdf 83 = 4) (by decide) rfl rfl m_St_flipLink wd_525 rfl rfl (Nat.le_of_ble_eq_true rfl) ⟨by decide, by decide⟩ d_TF_drawn_94 ?_
      refine j_sub C [(0, rf G 0), (1, .int x1), (2, .int x2), (3, .int x3)] [0, 1, 2, 3] rfl ?_
      exact b_TF_drawn_97 C hr hK29 x1 x2 x3 r94 hF
set_option maxHeartbeats 4000000 in
set_option maxRecDepth 100000 in
theorem b_TF_drawn_50 {X : XT} {G : GT} {z : (Int32 × MT)} {K29 : Int32 → Int32 → Int32 → MT → Option (Int32 × MT)} (C : CX X G b_TF_drawn 5 "TimeFlood" 6 152) (hr : XR X (some .int)) (hK29 : ∀ (x1 : Int32) (x2 : Int32) (x3 : Int32) (σ : MT), K29 x1 x2 x3 σ = some z → JW X G (QX X (PI G z.1 z.2) G) 5 29 [(0, rf G 0), (1, .int x1), (2, .int x2), (3, .int x3)] [] σ) (x1 : Int32) (x2 : Int32) (x3 : Int32) (σ : MT) (hF : f_TF_drawn_50 K29 x1 x2 x3 σ = some z) : JW X G (QX X (PI G z.1 z.2) G) 5 50 [(0, rf G 0), (1, .int x1), (2, .int x2), (3, .int x3)] [] σ := by
  unfold f_TF_drawn_50 at hF
  refine j_aload_n C d_TF_drawn_50 rfl 0 rfl ?_
  refine g_TF_seedNow C (rfl : kdf 0 = 0) wd_250 d_TF_drawn_51 ?_
  refine j_bipush C (v := 33) d_TF_drawn_54 (by decide) ?_
  refine j_lushr C d_TF_drawn_56 ?_
  refine j_l2i C d_TF_drawn_57 ?_
  refine j_istore C (lv' := [(4, .int ((((σ.2 0).toUInt64 >>> ((33 : Int32).toInt64.toUInt64 &&& Int64.toUInt64 63)).toInt64).toInt32)), (0, rf G 0), (1, .int x1), (2, .int x2), (3, .int x3)]) d_TF_drawn_58 (by decide) rfl ?_
  refine j_sub C [(0, rf G 0), (1, .int x1), (2, .int x2), (3, .int x3), (4, .int ((((σ.2 0).toUInt64 >>> ((33 : Int32).toInt64.toUInt64 &&& Int64.toUInt64 63)).toInt64).toInt32))] [1, 2, 3, 4, 0] rfl ?_
  exact b_TF_drawn_60 C hr hK29 x1 x2 x3 ((((σ.2 0).toUInt64 >>> ((33 : Int32).toInt64.toUInt64 &&& Int64.toUInt64 63)).toInt64).toInt32) σ hF
set_option maxHeartbeats 4000000 in
set_option maxRecDepth 100000 in
theorem b_TF_drawn_29 {X : XT} {G : GT} {z : (Int32 × MT)} (C : CX X G b_TF_drawn 5 "TimeFlood" 6 152) (hr : XR X (some .int)) : ∀ (n : Nat) (x1 : Int32) (x2 : Int32) (x3 : Int32) (σ : MT), f_TF_drawn_29 n x1 x2 x3 σ = some z → JW X G (QX X (PI G z.1 z.2) G) 5 29 [(0, rf G 0), (1, .int x1), (2, .int x2), (3, .int x3)] [] σ := by
  intro n
  induction n with
  | zero =>
    intro x1 x2 x3 σ hF
    rw [f_TF_drawn_29] at hF
    cases hF
  | succ n ih =>
    intro x1 x2 x3 σ hF
    rw [f_TF_drawn_29] at hF
    refine j_iload_n C d_TF_drawn_29 rfl 3 rfl ?_
    refine j_iload_n C d_TF_drawn_30 rfl 1 rfl ?_
    refine j_icmp_ge C 131 d_TF_drawn_31 (by decide) hF (fun q31 hF => ?_) (fun q31 hF => ?_)
    · refine j_iload_n C d_TF_drawn_131 rfl 2 rfl ?_
      cases hF
      exact j_iret (st := []) C hr d_TF_drawn_132 rfl rfl
    · refine j_aload_n C d_TF_drawn_34 rfl 0 rfl ?_
      refine j_aload_n C d_TF_drawn_35 rfl 0 rfl ?_
      refine g_TF_seedNow C (rfl : kdf 0 = 0) wd_250 d_TF_drawn_36 ?_
      refine j_ldc2 C wd_647 d_TF_drawn_39 ?_
      refine j_lmul C d_TF_drawn_42 ?_
      refine j_ldc2 C wd_648 d_TF_drawn_43 ?_
      refine j_ladd C d_TF_drawn_46 ?_
      refine p_TF_seedNow C (rfl : kdf 0 = 0) wd_250 d_TF_drawn_47 ?_
      exact b_TF_drawn_50 C hr ih x1 x2 x3 (sL σ 0 (((σ.2 0) * (6364136223846793005 : Int64)) + (1442695040888963407 : Int64))) hF
set_option maxHeartbeats 4000000 in
set_option maxRecDepth 100000 in
theorem c_TF_drawn (l : Launch) (G : GT) (x1 : Int32) (σ : MT)  {z : (Int32 × MT)} (hF : f_TF_drawn x1 σ = some z) : CTI l G y_TF_drawn b_TF_drawn 5 (some .int) 6 152 [rf G 0, .int x1] σ z.1 z.2 := by
  refine entX [(0, rf G 0), (1, .int x1)] "TimeFlood" (by decide +kernel) rfl rfl (Nat.le_of_ble_eq_true rfl) (fun X hXl hr C => ?_)
  unfold f_TF_drawn at hF
  refine j_iload_n C d_TF_drawn_0 rfl 1 rfl ?_
  refine j_iconst C (v := 1) d_TF_drawn_1 (by decide) ?_
  refine j_icmp_lt C 11 d_TF_drawn_2 (by decide) hF (fun q2 hF => ?_) (fun q2 hF => ?_)
  · refine j_bipush C (v := -2) d_TF_drawn_11 (by decide) ?_
    cases hF
    exact j_iret (st := []) C hr d_TF_drawn_13 rfl rfl
  · refine j_iload_n C d_TF_drawn_5 rfl 1 rfl ?_
    refine j_bipush C (v := 20) d_TF_drawn_6 (by decide) ?_
    refine j_icmp_le C 14 d_TF_drawn_8 (by decide) hF (fun q8 hF => ?_) (fun q8 hF => ?_)
    · refine j_aload_n C d_TF_drawn_14 rfl 0 rfl ?_
      refine g_TF_trial C (rfl : kdf 0 = 0) wd_245 d_TF_drawn_15 ?_
      refine j_aload_n C d_TF_drawn_18 rfl 0 rfl ?_
      refine g_TF_now C (rfl : kdf 0 = 0) wd_244 d_TF_drawn_19 ?_
      obtain ⟨r22, h22, hF⟩ := g_bind hF
      refine j_vv C (As := [rf G 61]) (st := []) (c_St_copyFrom (XL X) G 83 61 σ (rfl : kdf 83 = 4) (rfl : kdf 61 = 4) h22) (rfl : kdf 83 = 4) (by decide) rfl rfl m_St_copyFrom wd_555 rfl rfl (Nat.le_of_ble_eq_true rfl) ⟨by decide, by decide⟩ d_TF_drawn_22 ?_
      refine j_iconst C (v := 0) d_TF_drawn_25 (by decide) ?_
      refine j_istore_n C (lv' := [(2, .int (0 : Int32)), (0, rf G 0), (1, .int x1)]) d_TF_drawn_26 rfl (by decide) rfl ?_
      refine j_iconst C (v := 0) d_TF_drawn_27 (by decide) ?_
      refine j_istore_n C (lv' := [(3, .int (0 : Int32)), (2, .int (0 : Int32)), (0, rf G 0), (1, .int x1)]) d_TF_drawn_28 rfl (by decide) rfl ?_
      refine j_sub C [(0, rf G 0), (1, .int x1), (2, .int (0 : Int32)), (3, .int (0 : Int32))] [2, 3, 1, 0] rfl ?_
      exact b_TF_drawn_29 C hr 1100 x1 (0 : Int32) (0 : Int32) r22 hF
    · refine j_bipush C (v := -2) d_TF_drawn_11 (by decide) ?_
      cases hF
      exact j_iret (st := []) C hr d_TF_drawn_13 rfl rfl
set_option maxHeartbeats 4000000 in
set_option maxRecDepth 100000 in
theorem c_TF_keep (l : Launch) (G : GT) (x1 : Int32) (σ : MT)  {z : (Int32 × MT)} (hF : f_TF_keep x1 σ = some z) : CTI l G y_TF_keep b_TF_keep 2 (some .int) 3 73 [rf G 0, .int x1] σ z.1 z.2 := by
  refine entX [(0, rf G 0), (1, .int x1)] "TimeFlood" (by decide +kernel) rfl rfl (Nat.le_of_ble_eq_true rfl) (fun X hXl hr C => ?_)
  unfold f_TF_keep at hF
  refine j_iload_n C d_TF_keep_0 rfl 1 rfl ?_
  refine j_if_lt C 9 d_TF_keep_1 (by decide) hF (fun q1 hF => ?_) (fun q1 hF => ?_)
  · refine j_iconst C (v := -1) d_TF_keep_9 (by decide) ?_
    cases hF
    exact j_iret (st := []) C hr d_TF_keep_10 rfl rfl
  · refine j_iload_n C d_TF_keep_4 rfl 1 rfl ?_
    refine j_iconst C (v := 2) d_TF_keep_5 (by decide) ?_
    refine j_icmp_lt C 11 d_TF_keep_6 (by decide) hF (fun q6 hF => ?_) (fun q6 hF => ?_)
    · refine j_aload_n C d_TF_keep_11 rfl 0 rfl ?_
      refine g_TF_slots C (rfl : kdf 0 = 0) wd_247 d_TF_keep_12 ?_
      refine j_iload_n C d_TF_keep_15 rfl 1 rfl ?_
      obtain ⟨q16, hF⟩ := g_if hF
      refine e_slots C (rfl : kdf 32 = 30) (inb_v q16) d_TF_keep_16 ?_
      refine j_aload_n C d_TF_keep_17 rfl 0 rfl ?_
      refine g_TF_now C (rfl : kdf 0 = 0) wd_244 d_TF_keep_18 ?_
      obtain ⟨r21, h21, hF⟩ := g_bind hF
      refine j_vv C (As := [rf G 61]) (st := []) (c_St_copyFrom (XL X) G (105 + 22 * x1.toNatClampNeg) 61 σ (kd_slot (inb_v q16)) (rfl : kdf 61 = 4) h21) (kd_slot (inb_v q16)) (by decide) rfl rfl m_St_copyFrom wd_555 rfl rfl (Nat.le_of_ble_eq_true rfl) ⟨by decide, by decide⟩ d_TF_keep_21 ?_
      refine j_aload_n C d_TF_keep_24 rfl 0 rfl ?_
      refine g_TF_slotFilled C (rfl : kdf 0 = 0) wd_248 d_TF_keep_25 ?_
      refine j_iload_n C d_TF_keep_28 rfl 1 rfl ?_
      refine j_iconst C (v := 1) d_TF_keep_29 (by decide) ?_
      obtain ⟨q30, hF⟩ := g_if hF
      refine j_zast C (rfl : kdf 33 = 22) (by decide) (fun _ => rfl) (inb_v q30) d_TF_keep_30 ?_
      refine j_aload_n C d_TF_keep_31 rfl 0 rfl ?_
      refine g_TF_now C (rfl : kdf 0 = 0) wd_244 d_TF_keep_32 ?_
      refine g_St_time C (rfl : kdf 61 = 4) wd_186 d_TF_keep_35 ?_
      cases hF
      exact j_iret (st := []) C hr d_TF_keep_38 rfl rfl
    · refine j_iconst C (v := -1) d_TF_keep_9 (by decide) ?_
      cases hF
      exact j_iret (st := []) C hr d_TF_keep_10 rfl rfl
set_option maxHeartbeats 4000000 in
set_option maxRecDepth 100000 in
theorem c_TF_again (l : Launch) (G : GT) (x1 : Int32) (σ : MT)  {z : (Int32 × MT)} (hF : f_TF_again x1 σ = some z) : CTI l G y_TF_again b_TF_again 2 (some .int) 3 73 [rf G 0, .int x1] σ z.1 z.2 := by
  refine entX [(0, rf G 0), (1, .int x1)] "TimeFlood" (by decide +kernel) rfl rfl (Nat.le_of_ble_eq_true rfl) (fun X hXl hr C => ?_)
  unfold f_TF_again at hF
  refine j_iload_n C d_TF_again_0 rfl 1 rfl ?_
  refine j_if_lt C 9 d_TF_again_1 (by decide) hF (fun q1 hF => ?_) (fun q1 hF => ?_)
  · refine j_iconst C (v := -1) d_TF_again_9 (by decide) ?_
    cases hF
    exact j_iret (st := []) C hr d_TF_again_10 rfl rfl
  · refine j_iload_n C d_TF_again_4 rfl 1 rfl ?_
    refine j_iconst C (v := 2) d_TF_again_5 (by decide) ?_
    refine j_icmp_lt C 11 d_TF_again_6 (by decide) hF (fun q6 hF => ?_) (fun q6 hF => ?_)
    · refine j_aload_n C d_TF_again_11 rfl 0 rfl ?_
      refine g_TF_slotFilled C (rfl : kdf 0 = 0) wd_248 d_TF_again_12 ?_
      refine j_iload_n C d_TF_again_15 rfl 1 rfl ?_
      obtain ⟨q16, hF⟩ := g_if hF
      refine j_zald C (rfl : kdf 33 = 22) (by decide) rfl (inb_v q16) d_TF_again_16 ?_
      refine j_if_ne C 23 d_TF_again_17 (by decide) hF (fun q17 hF => ?_) (fun q17 hF => ?_)
      · refine j_aload_n C d_TF_again_23 rfl 0 rfl ?_
        refine g_TF_now C (rfl : kdf 0 = 0) wd_244 d_TF_again_24 ?_
        refine j_aload_n C d_TF_again_27 rfl 0 rfl ?_
        refine g_TF_slots C (rfl : kdf 0 = 0) wd_247 d_TF_again_28 ?_
        refine j_iload_n C d_TF_again_31 rfl 1 rfl ?_
        obtain ⟨q32, hF⟩ := g_if hF
        refine e_slots C (rfl : kdf 32 = 30) (inb_v q32) d_TF_again_32 ?_
        obtain ⟨r33, h33, hF⟩ := g_bind hF
        refine j_vv C (As := [rf G (105 + 22 * x1.toNatClampNeg)]) (st := []) (c_St_copyFrom (XL X) G 61 (105 + 22 * x1.toNatClampNeg) σ (rfl : kdf 61 = 4) (kd_slot (inb_v q32)) h33) (rfl : kdf 61 = 4) (by decide) rfl rfl m_St_copyFrom wd_555 rfl rfl (Nat.le_of_ble_eq_true rfl) ⟨by decide, by decide⟩ d_TF_again_33 ?_
        refine j_aload_n C d_TF_again_36 rfl 0 rfl ?_
        refine g_TF_journal C (rfl : kdf 0 = 0) wd_246 d_TF_again_37 ?_
        obtain ⟨r40, h40, hF⟩ := g_bind hF
        refine j_vv C (As := []) (st := []) (c_Jr_clear (XL X) G r33 h40) (rfl : kdf 30 = 6) (by decide) rfl rfl m_Jr_clear wd_357 rfl rfl (Nat.le_of_ble_eq_true rfl) ⟨by decide, by decide⟩ d_TF_again_40 ?_
        refine j_aload_n C d_TF_again_43 rfl 0 rfl ?_
        refine g_TF_now C (rfl : kdf 0 = 0) wd_244 d_TF_again_44 ?_
        refine g_St_time C (rfl : kdf 61 = 4) wd_186 d_TF_again_47 ?_
        cases hF
        exact j_iret (st := []) C hr d_TF_again_50 rfl rfl
      · refine j_bipush C (v := -3) d_TF_again_20 (by decide) ?_
        cases hF
        exact j_iret (st := []) C hr d_TF_again_22 rfl rfl
    · refine j_iconst C (v := -1) d_TF_again_9 (by decide) ?_
      cases hF
      exact j_iret (st := []) C hr d_TF_again_10 rfl rfl
set_option maxHeartbeats 4000000 in
set_option maxRecDepth 100000 in
theorem b_M_copy_2 {X : XT} {G : GT} {z : MT} (C : CX X G b_M_copy 3 "TimeFloodModel" 0 0) (hr : XR X none) : ∀ (n : Nat) (k0 : Nat) (k1 : Nat) (x2 : Int32) (hk0 : kdf k0 = 15) (hk1 : kdf k1 = 15) (σ : MT), f_M_copy_2 n k0 k1 x2 σ = some z → JW X G (QX X (PV G z) G) 3 2 [(0, rf G k0), (1, rf G k1), (2, .int x2)] [] σ := by
  intro n
  induction n with
  | zero =>
    intro k0 k1 x2 hk0 hk1 σ hF
    rw [f_M_copy_2] at hF
    cases hF
  | succ n ih =>
    intro k0 k1 x2 hk0 hk1 σ hF
    rw [f_M_copy_2] at hF
    refine j_iload_n C d_M_copy_2 rfl 2 rfl ?_
    refine j_bipush C (v := 103) d_M_copy_3 (by decide) ?_
    refine j_icmp_ge C 20 d_M_copy_5 (by decide) hF (fun q5 hF => ?_) (fun q5 hF => ?_)
    · cases hF
      exact j_vret C hr d_M_copy_20 rfl
    · refine j_aload_n C d_M_copy_8 rfl 1 rfl ?_
      refine j_iload_n C d_M_copy_9 rfl 2 rfl ?_
      refine j_aload_n C d_M_copy_10 rfl 0 rfl ?_
      refine j_iload_n C d_M_copy_11 rfl 2 rfl ?_
      obtain ⟨q12, hF⟩ := g_if hF
      refine j_iald C hk0 (by decide) rfl (inb_v q12) d_M_copy_12 ?_
      obtain ⟨q13, hF⟩ := g_if hF
      refine j_iast C hk1 (by decide) (fun _ => rfl) (inb_v q13) d_M_copy_13 ?_
      refine j_iinc C (v := x2 + (1 : Int32)) (lv' := [(2, .int (x2 + (1 : Int32))), (0, rf G k0), (1, rf G k1)]) d_M_copy_14 2 rfl rfl (by decide) rfl ?_
      refine j_goto C 2 d_M_copy_17 (by decide) ?_
      refine j_sub C [(0, rf G k0), (1, rf G k1), (2, .int (x2 + (1 : Int32)))] [1, 2, 0] rfl ?_
      exact ih k0 k1 (x2 + (1 : Int32)) hk0 hk1 (sI σ k1 x2.toNatClampNeg (σ.1 k0 x2.toNatClampNeg)) hF
set_option maxHeartbeats 4000000 in
set_option maxRecDepth 100000 in
theorem c_M_copy (l : Launch) (G : GT) (k0 : Nat) (k1 : Nat) (σ : MT) (hk0 : kdf k0 = 15) (hk1 : kdf k1 = 15) {z : MT} (hF : f_M_copy k0 k1 σ = some z) : CTV l G y_M_copy b_M_copy 3 none 0 0 [rf G k0, rf G k1] σ z := by
  refine entX [(0, rf G k0), (1, rf G k1)] "TimeFloodModel" (by decide +kernel) rfl rfl (Nat.le_of_ble_eq_true rfl) (fun X hXl hr C => ?_)
  unfold f_M_copy at hF
  refine j_iconst C (v := 0) d_M_copy_0 (by decide) ?_
  refine j_istore_n C (lv' := [(2, .int (0 : Int32)), (0, rf G k0), (1, rf G k1)]) d_M_copy_1 rfl (by decide) rfl ?_
  refine j_sub C [(0, rf G k0), (1, rf G k1), (2, .int (0 : Int32))] [1, 2, 0] rfl ?_
  exact b_M_copy_2 C hr 1100 k0 k1 (0 : Int32) hk0 hk1 σ hF
set_option maxHeartbeats 4000000 in
set_option maxRecDepth 100000 in
theorem c_M_in (l : Launch) (G : GT) (y0 : Int64) (y2 : Int64) (y4 : Int64)  (σ : MT) {z : Int32} (hF : f_M_in y0 y2 y4 = some z) : CTI l G y_M_in b_M_in 6 (some .boolean) 0 0 [.long y0, .long y2, .long y4] σ z σ := by
  refine entX [(0, .long y0), (2, .long y2), (4, .long y4)] "TimeFloodModel" (by decide +kernel) rfl rfl (Nat.le_of_ble_eq_true rfl) (fun X hXl hr C => ?_)
  unfold f_M_in at hF
  refine j_lload_n C d_M_in_0 rfl 0 rfl ?_
  refine j_lload_n C d_M_in_1 rfl 1 rfl ?_
  refine j_lcmp C d_M_in_2 ?_
  refine j_if_lt C 17 d_M_in_3 (by decide) hF (fun q3 hF => ?_) (fun q3 hF => ?_)
  · refine j_iconst C (v := 0) d_M_in_17 (by decide) ?_
    cases hF
    exact j_zret (st := []) C hr rfl d_M_in_18 rfl rfl
  · refine j_lload_n C d_M_in_6 rfl 0 rfl ?_
    refine j_lload C d_M_in_7 2 rfl ?_
    refine j_lcmp C d_M_in_9 ?_
    refine j_if_gt C 17 d_M_in_10 (by decide) hF (fun q10 hF => ?_) (fun q10 hF => ?_)
    · refine j_iconst C (v := 0) d_M_in_17 (by decide) ?_
      cases hF
      exact j_zret (st := []) C hr rfl d_M_in_18 rfl rfl
    · refine j_iconst C (v := 1) d_M_in_13 (by decide) ?_
      refine j_goto C 18 d_M_in_14 (by decide) ?_
      cases hF
      exact j_zret (st := []) C hr rfl d_M_in_18 rfl rfl
set_option maxHeartbeats 4000000 in
set_option maxRecDepth 100000 in
theorem c_M_has (l : Launch) (G : GT) (x0 : Int32) (x1 : Int32)  (σ : MT) {z : Int32} (hF : f_M_has x0 x1 = some z) : CTI l G y_M_has b_M_has 2 (some .boolean) 0 0 [.int x0, .int x1] σ z σ := by
  refine entX [(0, .int x0), (1, .int x1)] "TimeFloodModel" (by decide +kernel) rfl rfl (Nat.le_of_ble_eq_true rfl) (fun X hXl hr C => ?_)
  unfold f_M_has at hF
  refine j_iload_n C d_M_has_0 rfl 0 rfl ?_
  refine j_iload_n C d_M_has_1 rfl 1 rfl ?_
  refine j_ishr C d_M_has_2 ?_
  refine j_iconst C (v := 1) d_M_has_3 (by decide) ?_
  refine j_iand C d_M_has_4 ?_
  refine j_iconst C (v := 1) d_M_has_5 (by decide) ?_
  refine j_icmp_ne C 13 d_M_has_6 (by decide) hF (fun q6 hF => ?_) (fun q6 hF => ?_)
  · refine j_iconst C (v := 0) d_M_has_13 (by decide) ?_
    cases hF
    exact j_zret (st := []) C hr rfl d_M_has_14 rfl rfl
  · refine j_iconst C (v := 1) d_M_has_9 (by decide) ?_
    refine j_goto C 14 d_M_has_10 (by decide) ?_
    cases hF
    exact j_zret (st := []) C hr rfl d_M_has_14 rfl rfl
set_option maxHeartbeats 4000000 in
set_option maxRecDepth 100000 in
theorem b_M_ones_4 {X : XT} {G : GT} {z : Int32} {σ : MT} (C : CX X G b_M_ones 3 "TimeFloodModel" 0 0) (hr : XR X (some .int)) : ∀ (n : Nat) (x0 : Int32) (x1 : Int32) (x2 : Int32), f_M_ones_4 n x0 x1 x2 = some z → JW X G (QX X (PI G z σ) G) 3 4 [(0, .int x0), (1, .int x1), (2, .int x2)] [] σ := by
  intro n
  induction n with
  | zero =>
    intro x0 x1 x2 hF
    rw [f_M_ones_4] at hF
    cases hF
  | succ n ih =>
    intro x0 x1 x2 hF
    rw [f_M_ones_4] at hF
    refine j_iload_n C d_M_ones_4 rfl 2 rfl ?_
    refine j_bipush C (v := 7) d_M_ones_5 (by decide) ?_
    refine j_icmp_ge C 24 d_M_ones_7 (by decide) hF (fun q7 hF => ?_) (fun q7 hF => ?_)
    · refine j_iload_n C d_M_ones_24 rfl 1 rfl ?_
      cases hF
      exact j_iret (st := []) C hr d_M_ones_25 rfl rfl
    · refine j_iload_n C d_M_ones_10 rfl 1 rfl ?_
      refine j_iload_n C d_M_ones_11 rfl 0 rfl ?_
      refine j_iload_n C d_M_ones_12 rfl 2 rfl ?_
      refine j_ishr C d_M_ones_13 ?_
      refine j_iconst C (v := 1) d_M_ones_14 (by decide) ?_
      refine j_iand C d_M_ones_15 ?_
      refine j_iadd C d_M_ones_16 ?_
      refine j_istore_n C (lv' := [(1, .int (x1 + ((x0 >>> (x2 &&& 31)) &&& (1 : Int32)))), (0, .int x0), (2, .int x2)]) d_M_ones_17 rfl (by decide) rfl ?_
      refine j_iinc C (v := x2 + (1 : Int32)) (lv' := [(2, .int (x2 + (1 : Int32))), (1, .int (x1 + ((x0 >>> (x2 &&& 31)) &&& (1 : Int32)))), (0, .int x0)]) d_M_ones_18 2 rfl rfl (by decide) rfl ?_
      refine j_goto C 4 d_M_ones_21 (by decide) ?_
      refine j_sub C [(0, .int x0), (1, .int (x1 + ((x0 >>> (x2 &&& 31)) &&& (1 : Int32)))), (2, .int (x2 + (1 : Int32)))] [2, 1, 0] rfl ?_
      exact ih x0 (x1 + ((x0 >>> (x2 &&& 31)) &&& (1 : Int32))) (x2 + (1 : Int32)) hF
set_option maxHeartbeats 4000000 in
set_option maxRecDepth 100000 in
theorem c_M_ones (l : Launch) (G : GT) (x0 : Int32)  (σ : MT) {z : Int32} (hF : f_M_ones x0 = some z) : CTI l G y_M_ones b_M_ones 3 (some .int) 0 0 [.int x0] σ z σ := by
  refine entX [(0, .int x0)] "TimeFloodModel" (by decide +kernel) rfl rfl (Nat.le_of_ble_eq_true rfl) (fun X hXl hr C => ?_)
  unfold f_M_ones at hF
  refine j_iconst C (v := 0) d_M_ones_0 (by decide) ?_
  refine j_istore_n C (lv' := [(1, .int (0 : Int32)), (0, .int x0)]) d_M_ones_1 rfl (by decide) rfl ?_
  refine j_iconst C (v := 0) d_M_ones_2 (by decide) ?_
  refine j_istore_n C (lv' := [(2, .int (0 : Int32)), (1, .int (0 : Int32)), (0, .int x0)]) d_M_ones_3 rfl (by decide) rfl ?_
  refine j_sub C [(0, .int x0), (1, .int (0 : Int32)), (2, .int (0 : Int32))] [2, 1, 0] rfl ?_
  exact b_M_ones_4 C hr 1100 x0 (0 : Int32) (0 : Int32) hF
set_option maxHeartbeats 4000000 in
set_option maxRecDepth 100000 in
theorem b_M_raised_4 {X : XT} {G : GT} {z : Int32} {σ : MT} (C : CX X G b_M_raised 4 "TimeFloodModel" 0 0) (hr : XR X (some .int)) : ∀ (n : Nat) (x0 : Int32) (x1 : Int32) (x2 : Int32) (x3 : Int32), f_M_raised_4 n x0 x1 x2 x3 = some z → JW X G (QX X (PI G z σ) G) 4 4 [(0, .int x0), (1, .int x1), (2, .int x2), (3, .int x3)] [] σ := by
  intro n
  induction n with
  | zero =>
    intro x0 x1 x2 x3 hF
    rw [f_M_raised_4] at hF
    cases hF
  | succ n ih =>
    intro x0 x1 x2 x3 hF
    rw [f_M_raised_4] at hF
    refine j_iload_n C d_M_raised_4 rfl 3 rfl ?_
    refine j_iload_n C d_M_raised_5 rfl 1 rfl ?_
    refine j_icmp_ge C 19 d_M_raised_6 (by decide) hF (fun q6 hF => ?_) (fun q6 hF => ?_)
    · refine j_iload_n C d_M_raised_19 rfl 2 rfl ?_
      cases hF
      exact j_iret (st := []) C hr d_M_raised_20 rfl rfl
    · refine j_iload_n C d_M_raised_9 rfl 2 rfl ?_
      refine j_iload_n C d_M_raised_10 rfl 0 rfl ?_
      refine j_imul C d_M_raised_11 ?_
      refine j_istore_n C (lv' := [(2, .int (x2 * x0)), (0, .int x0), (1, .int x1), (3, .int x3)]) d_M_raised_12 rfl (by decide) rfl ?_
      refine j_iinc C (v := x3 + (1 : Int32)) (lv' := [(3, .int (x3 + (1 : Int32))), (2, .int (x2 * x0)), (0, .int x0), (1, .int x1)]) d_M_raised_13 3 rfl rfl (by decide) rfl ?_
      refine j_goto C 4 d_M_raised_16 (by decide) ?_
      refine j_sub C [(0, .int x0), (1, .int x1), (2, .int (x2 * x0)), (3, .int (x3 + (1 : Int32)))] [2, 3, 1, 0] rfl ?_
      exact ih x0 x1 (x2 * x0) (x3 + (1 : Int32)) hF
set_option maxHeartbeats 4000000 in
set_option maxRecDepth 100000 in
theorem c_M_raised (l : Launch) (G : GT) (x0 : Int32) (x1 : Int32)  (σ : MT) {z : Int32} (hF : f_M_raised x0 x1 = some z) : CTI l G y_M_raised b_M_raised 4 (some .int) 0 0 [.int x0, .int x1] σ z σ := by
  refine entX [(0, .int x0), (1, .int x1)] "TimeFloodModel" (by decide +kernel) rfl rfl (Nat.le_of_ble_eq_true rfl) (fun X hXl hr C => ?_)
  unfold f_M_raised at hF
  refine j_iconst C (v := 1) d_M_raised_0 (by decide) ?_
  refine j_istore_n C (lv' := [(2, .int (1 : Int32)), (0, .int x0), (1, .int x1)]) d_M_raised_1 rfl (by decide) rfl ?_
  refine j_iconst C (v := 0) d_M_raised_2 (by decide) ?_
  refine j_istore_n C (lv' := [(3, .int (0 : Int32)), (2, .int (1 : Int32)), (0, .int x0), (1, .int x1)]) d_M_raised_3 rfl (by decide) rfl ?_
  refine j_sub C [(0, .int x0), (1, .int x1), (2, .int (1 : Int32)), (3, .int (0 : Int32))] [2, 3, 1, 0] rfl ?_
  exact b_M_raised_4 C hr 1100 x0 x1 (1 : Int32) (0 : Int32) hF
set_option maxHeartbeats 4000000 in
set_option maxRecDepth 100000 in
theorem b_M_factorial_4 {X : XT} {G : GT} {z : Int32} {σ : MT} (C : CX X G b_M_factorial 3 "TimeFloodModel" 0 0) (hr : XR X (some .int)) : ∀ (n : Nat) (x0 : Int32) (x1 : Int32) (x2 : Int32), f_M_factorial_4 n x0 x1 x2 = some z → JW X G (QX X (PI G z σ) G) 3 4 [(0, .int x0), (1, .int x1), (2, .int x2)] [] σ := by
  intro n
  induction n with
  | zero =>
    intro x0 x1 x2 hF
    rw [f_M_factorial_4] at hF
    cases hF
  | succ n ih =>
    intro x0 x1 x2 hF
    rw [f_M_factorial_4] at hF
    refine j_iload_n C d_M_factorial_4 rfl 2 rfl ?_
    refine j_iload_n C d_M_factorial_5 rfl 0 rfl ?_
    refine j_icmp_gt C 19 d_M_factorial_6 (by decide) hF (fun q6 hF => ?_) (fun q6 hF => ?_)
    · refine j_iload_n C d_M_factorial_19 rfl 1 rfl ?_
      cases hF
      exact j_iret (st := []) C hr d_M_factorial_20 rfl rfl
    · refine j_iload_n C d_M_factorial_9 rfl 1 rfl ?_
      refine j_iload_n C d_M_factorial_10 rfl 2 rfl ?_
      refine j_imul C d_M_factorial_11 ?_
      refine j_istore_n C (lv' := [(1, .int (x1 * x2)), (0, .int x0), (2, .int x2)]) d_M_factorial_12 rfl (by decide) rfl ?_
      refine j_iinc C (v := x2 + (1 : Int32)) (lv' := [(2, .int (x2 + (1 : Int32))), (1, .int (x1 * x2)), (0, .int x0)]) d_M_factorial_13 2 rfl rfl (by decide) rfl ?_
      refine j_goto C 4 d_M_factorial_16 (by decide) ?_
      refine j_sub C [(0, .int x0), (1, .int (x1 * x2)), (2, .int (x2 + (1 : Int32)))] [2, 1, 0] rfl ?_
      exact ih x0 (x1 * x2) (x2 + (1 : Int32)) hF
set_option maxHeartbeats 4000000 in
set_option maxRecDepth 100000 in
theorem c_M_factorial (l : Launch) (G : GT) (x0 : Int32)  (σ : MT) {z : Int32} (hF : f_M_factorial x0 = some z) : CTI l G y_M_factorial b_M_factorial 3 (some .int) 0 0 [.int x0] σ z σ := by
  refine entX [(0, .int x0)] "TimeFloodModel" (by decide +kernel) rfl rfl (Nat.le_of_ble_eq_true rfl) (fun X hXl hr C => ?_)
  unfold f_M_factorial at hF
  refine j_iconst C (v := 1) d_M_factorial_0 (by decide) ?_
  refine j_istore_n C (lv' := [(1, .int (1 : Int32)), (0, .int x0)]) d_M_factorial_1 rfl (by decide) rfl ?_
  refine j_iconst C (v := 2) d_M_factorial_2 (by decide) ?_
  refine j_istore_n C (lv' := [(2, .int (2 : Int32)), (1, .int (1 : Int32)), (0, .int x0)]) d_M_factorial_3 rfl (by decide) rfl ?_
  refine j_sub C [(0, .int x0), (1, .int (1 : Int32)), (2, .int (2 : Int32))] [2, 1, 0] rfl ?_
  exact b_M_factorial_4 C hr 1100 x0 (1 : Int32) (2 : Int32) hF
set_option maxHeartbeats 4000000 in
set_option maxRecDepth 100000 in
theorem b_M_fraction_14 {X : XT} {G : GT} {z : Int32} {σ : MT} (C : CX X G b_M_fraction 6 "TimeFloodModel" 0 0) (hr : XR X (some .int)) : ∀ (n : Nat) (x0 : Int32) (x1 : Int32) (x2 : Int32) (x3 : Int32) (x4 : Int32), f_M_fraction_14 n x0 x1 x2 x3 x4 = some z → JW X G (QX X (PI G z σ) G) 6 14 [(0, .int x0), (1, .int x1), (2, .int x2), (3, .int x3), (4, .int x4)] [] σ := by
  intro n
  induction n with
  | zero =>
    intro x0 x1 x2 x3 x4 hF
    rw [f_M_fraction_14] at hF
    cases hF
  | succ n ih =>
    intro x0 x1 x2 x3 x4 hF
    rw [f_M_fraction_14] at hF
    refine j_iload C d_M_fraction_14 4 rfl ?_
    refine j_if_eq C 35 d_M_fraction_16 (by decide) hF (fun q16 hF => ?_) (fun q16 hF => ?_)
    · refine j_iload_n C d_M_fraction_35 rfl 2 rfl ?_
      refine j_if_eq C 45 d_M_fraction_36 (by decide) hF (fun q36 hF => ?_) (fun q36 hF => ?_)
      · refine j_iload_n C d_M_fraction_45 rfl 1 rfl ?_
        refine j_iload_n C d_M_fraction_46 rfl 3 rfl ?_
        obtain ⟨q47, hF⟩ := g_if hF
        refine j_idiv C d_M_fraction_47 q47 ?_
        cases hF
        exact j_iret (st := []) C hr d_M_fraction_48 rfl rfl
      · refine j_iload_n C d_M_fraction_39 rfl 0 rfl ?_
        refine j_iload_n C d_M_fraction_40 rfl 3 rfl ?_
        obtain ⟨q41, hF⟩ := g_if hF
        refine j_idiv C d_M_fraction_41 q41 ?_
        refine j_goto C 48 d_M_fraction_42 (by decide) ?_
        cases hF
        exact j_iret (st := []) C hr d_M_fraction_48 rfl rfl
    · refine j_iload_n C d_M_fraction_19 rfl 3 rfl ?_
      refine j_iload C d_M_fraction_20 4 rfl ?_
      obtain ⟨q22, hF⟩ := g_if hF
      refine j_irem C d_M_fraction_22 q22 ?_
      refine j_istore C (lv' := [(5, .int (x3 - x3 / x4 * x4)), (0, .int x0), (1, .int x1), (2, .int x2), (3, .int x3), (4, .int x4)]) d_M_fraction_23 (by decide) rfl ?_
      refine j_iload C d_M_fraction_25 5 rfl ?_
      refine j_istore_n C (lv' := [(3, .int x4), (5, .int (x3 - x3 / x4 * x4)), (0, .int x0), (1, .int x1), (2, .int x2), (4, .int x4)]) d_M_fraction_27 rfl (by decide) rfl ?_
      refine j_iload C d_M_fraction_28 1 rfl ?_
      refine j_istore C (lv' := [(4, .int (x3 - x3 / x4 * x4)), (3, .int x4), (5, .int (x3 - x3 / x4 * x4)), (0, .int x0), (1, .int x1), (2, .int x2)]) d_M_fraction_30 (by decide) rfl ?_
      refine j_goto C 14 d_M_fraction_32 (by decide) ?_
      refine j_sub C [(0, .int x0), (1, .int x1), (2, .int x2), (3, .int x4), (4, .int (x3 - x3 / x4 * x4))] [3, 4, 5, 1, 0] rfl ?_
      exact ih x0 x1 x2 x4 (x3 - x3 / x4 * x4) hF
set_option maxHeartbeats 4000000 in
set_option maxRecDepth 100000 in
theorem b_M_fraction_10 {X : XT} {G : GT} {z : Int32} {σ : MT} (C : CX X G b_M_fraction 6 "TimeFloodModel" 0 0) (hr : XR X (some .int)) (x0 : Int32) (x1 : Int32) (x2 : Int32) (xs0 : Int32) (hF : f_M_fraction_10 x0 x1 x2 xs0 = some z) : JW X G (QX X (PI G z σ) G) 6 10 [(0, .int x0), (1, .int x1), (2, .int x2)] [.int xs0] σ := by
  unfold f_M_fraction_10 at hF
  refine j_istore_n C (lv' := [(3, .int xs0), (0, .int x0), (1, .int x1), (2, .int x2)]) d_M_fraction_10 rfl (by decide) rfl ?_
  refine j_iload_n C d_M_fraction_11 rfl 2 rfl ?_
  refine j_istore C (lv' := [(4, .int x1), (3, .int xs0), (0, .int x0), (1, .int x1), (2, .int x2)]) d_M_fraction_12 (by decide) rfl ?_
  refine j_sub C [(0, .int x0), (1, .int x1), (2, .int x2), (3, .int xs0), (4, .int x1)] [2, 3, 4, 1, 0] rfl ?_
  exact b_M_fraction_14 C hr 1100 x0 x1 x2 xs0 x1 hF
set_option maxHeartbeats 4000000 in
set_option maxRecDepth 100000 in
theorem c_M_fraction (l : Launch) (G : GT) (x0 : Int32) (x1 : Int32) (x2 : Int32)  (σ : MT) {z : Int32} (hF : f_M_fraction x0 x1 x2 = some z) : CTI l G y_M_fraction b_M_fraction 6 (some .int) 0 0 [.int x0, .int x1, .int x2] σ z σ := by
  refine entX [(0, .int x0), (1, .int x1), (2, .int x2)] "TimeFloodModel" (by decide +kernel) rfl rfl (Nat.le_of_ble_eq_true rfl) (fun X hXl hr C => ?_)
  unfold f_M_fraction at hF
  refine j_iload_n C d_M_fraction_0 rfl 0 rfl ?_
  refine j_if_ge C 9 d_M_fraction_1 (by decide) hF (fun q1 hF => ?_) (fun q1 hF => ?_)
  · refine j_iload_n C d_M_fraction_9 rfl 0 rfl ?_
    exact b_M_fraction_10 C hr x0 x1 x2 x0 hF
  · refine j_iload_n C d_M_fraction_4 rfl 0 rfl ?_
    refine j_ineg C d_M_fraction_5 ?_
    refine j_goto C 10 d_M_fraction_6 (by decide) ?_
    exact b_M_fraction_10 C hr x0 x1 x2 (-x0) hF
set_option maxHeartbeats 4000000 in
set_option maxRecDepth 100000 in
theorem c_M_down (l : Launch) (G : GT) (y0 : Int64) (y2 : Int64)  (σ : MT) {z : Int64} (hF : f_M_down y0 y2 = some z) : CTL l G y_M_down b_M_down 6 (some .long) 0 0 [.long y0, .long y2] σ z σ := by
  refine entX [(0, .long y0), (2, .long y2)] "TimeFloodModel" (by decide +kernel) rfl rfl (Nat.le_of_ble_eq_true rfl) (fun X hXl hr C => ?_)
  unfold f_M_down at hF
  refine j_lload_n C d_M_down_0 rfl 0 rfl ?_
  refine j_lload_n C d_M_down_1 rfl 1 rfl ?_
  obtain ⟨q2, hF⟩ := g_if hF
  refine j_ldiv C d_M_down_2 q2 ?_
  refine j_lstore C (lv' := [(4, .long (y0 / y2)), (0, .long y0), (2, .long y2)]) d_M_down_3 (by decide) rfl ?_
  refine j_lload_n C d_M_down_5 rfl 1 rfl ?_
  refine j_lload_n C d_M_down_6 rfl 2 rfl ?_
  obtain ⟨q7, hF⟩ := g_if hF
  refine j_lrem C d_M_down_7 q7 ?_
  refine j_lconst C (v := 0) d_M_down_8 (by decide) ?_
  refine j_lcmp C d_M_down_9 ?_
  refine j_if_ge C 20 d_M_down_10 (by decide) hF (fun q10 hF => ?_) (fun q10 hF => ?_)
  · refine j_lload C d_M_down_20 0 rfl ?_
    cases hF
    exact j_lret (st := []) C hr d_M_down_22 rfl rfl
  · refine j_lload C d_M_down_13 0 rfl ?_
    refine j_lconst C (v := 1) d_M_down_15 (by decide) ?_
    refine j_lsub C d_M_down_16 ?_
    refine j_goto C 22 d_M_down_17 (by decide) ?_
    cases hF
    exact j_lret (st := []) C hr d_M_down_22 rfl rfl
set_option maxHeartbeats 4000000 in
set_option maxRecDepth 100000 in
theorem c_M_round (l : Launch) (G : GT) (y0 : Int64)  (σ : MT) {z : Int32} (hF : f_M_round y0 = some z) : CTI l G y_M_round b_M_round 2 (some .int) 1 25 [.long y0] σ z σ := by
  refine entX [(0, .long y0)] "TimeFloodModel" (by decide +kernel) rfl rfl (Nat.le_of_ble_eq_true rfl) (fun X hXl hr C => ?_)
  unfold f_M_round at hF
  refine j_lload_n C d_M_round_0 rfl 0 rfl ?_
  refine j_lload_n C d_M_round_1 rfl 0 rfl ?_
  refine j_ldc2 C wd_876 d_M_round_2 ?_
  obtain ⟨r5, h5, hF⟩ := g_bind hF
  refine j_sl C (As := [.long y0, .long (1024 : Int64)]) (st := [.long y0]) (c_M_down (XL X) G y0 (1024 : Int64) σ h5) m_M_down wd_870 rfl rfl (Nat.le_of_ble_eq_true rfl) ⟨by decide, by decide⟩ d_M_round_5 ?_
  refine j_ldc2 C wd_876 d_M_round_8 ?_
  refine j_lmul C d_M_round_11 ?_
  refine j_lsub C d_M_round_12 ?_
  refine j_l2i C d_M_round_13 ?_
  cases hF
  exact j_iret (st := []) C hr d_M_round_14 rfl rfl
set_option maxHeartbeats 4000000 in
set_option maxRecDepth 100000 in
theorem c_M_near (l : Launch) (G : GT) (y0 : Int64)  (σ : MT) {z : Int32} (hF : f_M_near y0 = some z) : CTI l G y_M_near b_M_near 3 (some .int) 2 46 [.long y0] σ z σ := by
  refine entX [(0, .long y0)] "TimeFloodModel" (by decide +kernel) rfl rfl (Nat.le_of_ble_eq_true rfl) (fun X hXl hr C => ?_)
  unfold f_M_near at hF
  refine j_lload_n C d_M_near_0 rfl 0 rfl ?_
  obtain ⟨r1, h1, hF⟩ := g_bind hF
  refine j_si C (As := [.long y0]) (st := []) (c_M_round (XL X) G y0 σ h1) m_M_round wd_873 rfl rfl (Nat.le_of_ble_eq_true rfl) ⟨by decide, by decide⟩ d_M_near_1 ?_
  refine j_istore_n C (lv' := [(2, .int r1), (0, .long y0)]) d_M_near_4 rfl (by decide) rfl ?_
  refine j_iload_n C d_M_near_5 rfl 0 rfl ?_
  refine j_sipush C (v := 511) d_M_near_6 (by decide) ?_
  refine j_icmp_le C 20 d_M_near_9 (by decide) hF (fun q9 hF => ?_) (fun q9 hF => ?_)
  · refine j_iload_n C d_M_near_20 rfl 0 rfl ?_
    cases hF
    exact j_iret (st := []) C hr d_M_near_21 rfl rfl
  · refine j_iload_n C d_M_near_12 rfl 0 rfl ?_
    refine j_sipush C (v := 1024) d_M_near_13 (by decide) ?_
    refine j_isub C d_M_near_16 ?_
    refine j_goto C 21 d_M_near_17 (by decide) ?_
    cases hF
    exact j_iret (st := []) C hr d_M_near_21 rfl rfl
set_option maxHeartbeats 4000000 in
set_option maxRecDepth 100000 in
theorem c_M_isNode (l : Launch) (G : GT) (x1 : Int32) (σ : MT)  {z : Int32} (hF : f_M_isNode x1 σ = some z) : CTI l G y_M_isNode b_M_isNode 2 (some .boolean) 1 25 [rf G 38, .int x1] σ z σ := by
  refine entX [(0, rf G 38), (1, .int x1)] "TimeFloodModel" (by decide +kernel) rfl rfl (Nat.le_of_ble_eq_true rfl) (fun X hXl hr C => ?_)
  unfold f_M_isNode at hF
  refine j_iload_n C d_M_isNode_0 rfl 1 rfl ?_
  refine j_i2l C d_M_isNode_1 ?_
  refine j_lconst C (v := 0) d_M_isNode_2 (by decide) ?_
  refine j_aload_n C d_M_isNode_3 rfl 0 rfl ?_
  refine g_M_nodes C (rfl : kdf 38 = 8) wd_668 d_M_isNode_4 ?_
  refine j_iconst C (v := 1) d_M_isNode_7 (by decide) ?_
  refine j_isub C d_M_isNode_8 ?_
  refine j_i2l C d_M_isNode_9 ?_
  obtain ⟨r10, h10, hF⟩ := g_bind hF
  refine j_si C (As := [.long x1.toInt64, .long (0 : Int64), .long (((σ.1 38 5) - (1 : Int32)).toInt64)]) (st := []) (c_M_in (XL X) G x1.toInt64 (0 : Int64) (((σ.1 38 5) - (1 : Int32)).toInt64) σ h10) m_M_in wd_786 rfl rfl (Nat.le_of_ble_eq_true rfl) ⟨by decide, by decide⟩ d_M_isNode_10 ?_
  obtain ⟨qz, hF⟩ := g_if hF
  cases hF
  exact j_zret (st := []) C hr (zb_n (zbb_z qz)) d_M_isNode_13 rfl rfl
set_option maxHeartbeats 4000000 in
set_option maxRecDepth 100000 in
theorem c_M_isLink (l : Launch) (G : GT) (x1 : Int32) (σ : MT)  {z : Int32} (hF : f_M_isLink x1 σ = some z) : CTI l G y_M_isLink b_M_isLink 2 (some .boolean) 1 25 [rf G 38, .int x1] σ z σ := by
  refine entX [(0, rf G 38), (1, .int x1)] "TimeFloodModel" (by decide +kernel) rfl rfl (Nat.le_of_ble_eq_true rfl) (fun X hXl hr C => ?_)
  unfold f_M_isLink at hF
  refine j_iload_n C d_M_isLink_0 rfl 1 rfl ?_
  refine j_i2l C d_M_isLink_1 ?_
  refine j_lconst C (v := 0) d_M_isLink_2 (by decide) ?_
  refine j_aload_n C d_M_isLink_3 rfl 0 rfl ?_
  refine g_M_links C (rfl : kdf 38 = 8) wd_670 d_M_isLink_4 ?_
  refine j_iconst C (v := 1) d_M_isLink_7 (by decide) ?_
  refine j_isub C d_M_isLink_8 ?_
  refine j_i2l C d_M_isLink_9 ?_
  obtain ⟨r10, h10, hF⟩ := g_bind hF
  refine j_si C (As := [.long x1.toInt64, .long (0 : Int64), .long (((σ.1 38 7) - (1 : Int32)).toInt64)]) (st := []) (c_M_in (XL X) G x1.toInt64 (0 : Int64) (((σ.1 38 7) - (1 : Int32)).toInt64) σ h10) m_M_in wd_786 rfl rfl (Nat.le_of_ble_eq_true rfl) ⟨by decide, by decide⟩ d_M_isLink_10 ?_
  obtain ⟨qz, hF⟩ := g_if hF
  cases hF
  exact j_zret (st := []) C hr (zb_n (zbb_z qz)) d_M_isLink_13 rfl rfl
set_option maxHeartbeats 4000000 in
set_option maxRecDepth 100000 in
theorem b_M_write_47 {X : XT} {G : GT} {z : (Int32 × MT)} (C : CX X G b_M_write 2 "TimeFloodModel" 1 25) (hr : XR X (some .int)) (σ : MT) (hF : f_M_write_47 σ = some z) : JW X G (QX X (PI G z.1 z.2) G) 2 47 [(0, rf G 38)] [] σ := by
  unfold f_M_write_47 at hF
  refine j_aload_n C d_M_write_47 rfl 0 rfl ?_
  refine g_M_length C (rfl : kdf 38 = 8) wd_664 d_M_write_48 ?_
  cases hF
  exact j_iret (st := []) C hr d_M_write_51 rfl rfl
set_option maxHeartbeats 4000000 in
set_option maxRecDepth 100000 in
theorem c_M_write (l : Launch) (G : GT) (x1 : Int32) (σ : MT)  {z : (Int32 × MT)} (hF : f_M_write x1 σ = some z) : CTI l G y_M_write b_M_write 2 (some .int) 1 25 [rf G 38, .int x1] σ z.1 z.2 := by
  refine entX [(0, rf G 38), (1, .int x1)] "TimeFloodModel" (by decide +kernel) rfl rfl (Nat.le_of_ble_eq_true rfl) (fun X hXl hr C => ?_)
  unfold f_M_write at hF
  refine j_iload_n C d_M_write_0 rfl 1 rfl ?_
  refine j_i2l C d_M_write_1 ?_
  refine j_lconst C (v := 0) d_M_write_2 (by decide) ?_
  refine j_ldc2 C wd_785 d_M_write_3 ?_
  obtain ⟨r6, h6, hF⟩ := g_bind hF
  refine j_si C (As := [.long x1.toInt64, .long (0 : Int64), .long (255 : Int64)]) (st := []) (c_M_in (XL X) G x1.toInt64 (0 : Int64) (255 : Int64) σ h6) m_M_in wd_786 rfl rfl (Nat.le_of_ble_eq_true rfl) ⟨by decide, by decide⟩ d_M_write_6 ?_
  refine j_if_ne C 15 d_M_write_9 (by decide) hF (fun q9 hF => ?_) (fun q9 hF => ?_)
  · refine j_aload_n C d_M_write_15 rfl 0 rfl ?_
    refine g_M_length C (rfl : kdf 38 = 8) wd_664 d_M_write_16 ?_
    refine j_bipush C (v := 60) d_M_write_19 (by decide) ?_
    refine j_icmp_ne C 27 d_M_write_21 (by decide) hF (fun q21 hF => ?_) (fun q21 hF => ?_)
    · refine j_aload_n C d_M_write_27 rfl 0 rfl ?_
      refine g_M_text C (rfl : kdf 38 = 8) wd_663 d_M_write_28 ?_
      refine j_aload_n C d_M_write_31 rfl 0 rfl ?_
      refine g_M_length C (rfl : kdf 38 = 8) wd_664 d_M_write_32 ?_
      refine j_iload_n C d_M_write_35 rfl 1 rfl ?_
      obtain ⟨q36, hF⟩ := g_if hF
      refine j_iast C (rfl : kdf 39 = 14) (by decide) (fun _ => rfl) (inb_v q36) d_M_write_36 ?_
      refine j_aload_n C d_M_write_37 rfl 0 rfl ?_
      refine j_dup C d_M_write_38 rfl ?_
      refine g_M_length C (rfl : kdf 38 = 8) wd_664 d_M_write_39 ?_
      refine j_iconst C (v := 1) d_M_write_42 (by decide) ?_
      refine j_iadd C d_M_write_43 ?_
      refine p_M_length C (rfl : kdf 38 = 8) wd_664 d_M_write_44 ?_
      refine j_sub C [(0, rf G 38)] [0] rfl ?_
      exact b_M_write_47 C hr (sI (sI σ 39 (σ.1 38 1).toNatClampNeg x1) 38 1 (((sI σ 39 (σ.1 38 1).toNatClampNeg x1).1 38 1) + (1 : Int32))) hF
    · refine j_bipush C (v := -4) d_M_write_24 (by decide) ?_
      cases hF
      exact j_iret (st := []) C hr d_M_write_26 rfl rfl
  · refine j_bipush C (v := -2) d_M_write_12 (by decide) ?_
    cases hF
    exact j_iret (st := []) C hr d_M_write_14 rfl rfl
set_option maxHeartbeats 4000000 in
set_option maxRecDepth 100000 in
theorem c_M_wipe (l : Launch) (G : GT) (σ : MT)  {z : (Int32 × MT)} (hF : f_M_wipe σ = some z) : CTI l G y_M_wipe b_M_wipe 2 (some .int) 0 0 [rf G 38] σ z.1 z.2 := by
  refine entX [(0, rf G 38)] "TimeFloodModel" (by decide +kernel) rfl rfl (Nat.le_of_ble_eq_true rfl) (fun X hXl hr C => ?_)
  unfold f_M_wipe at hF
  refine j_aload_n C d_M_wipe_0 rfl 0 rfl ?_
  refine g_M_length C (rfl : kdf 38 = 8) wd_664 d_M_wipe_1 ?_
  refine j_istore_n C (lv' := [(1, .int (σ.1 38 1)), (0, rf G 38)]) d_M_wipe_4 rfl (by decide) rfl ?_
  refine j_aload_n C d_M_wipe_5 rfl 1 rfl ?_
  refine j_iconst C (v := 0) d_M_wipe_6 (by decide) ?_
  refine p_M_length C (rfl : kdf 38 = 8) wd_664 d_M_wipe_7 ?_
  refine j_iload_n C d_M_wipe_10 rfl 0 rfl ?_
  cases hF
  exact j_iret (st := []) C hr d_M_wipe_11 rfl rfl
set_option maxHeartbeats 4000000 in
set_option maxRecDepth 100000 in
theorem b_M_areLinkedAsRead_67 {X : XT} {G : GT} {z : Int32} {K5 : Int32 → Int32 → Int32 → Int32 → MT → Option Int32} {σ : MT} (C : CX X G b_M_areLinkedAsRead 5 "TimeFloodModel" 0 0) (hr : XR X (some .boolean)) (hK5 : ∀ (x1 : Int32) (x2 : Int32) (x3 : Int32) (x4 : Int32), K5 x1 x2 x3 x4 σ = some z → JW X G (QX X (PI G z σ) G) 5 5 [(0, rf G 38), (1, .int x1), (2, .int x2), (3, .int x3), (4, .int x4)] [] σ) (x1 : Int32) (x2 : Int32) (x4 : Int32) (xs0 : Int32) (hF : f_M_areLinkedAsRead_67 K5 x1 x2 x4 xs0 σ = some z) : JW X G (QX X (PI G z σ) G) 5 67 [(0, rf G 38), (1, .int x1), (2, .int x2), (4, .int x4)] [.int xs0] σ := by
  unfold f_M_areLinkedAsRead_67 at hF
  refine j_istore_n C (lv' := [(3, .int xs0), (0, rf G 38), (1, .int x1), (2, .int x2), (4, .int x4)]) d_M_areLinkedAsRead_67 rfl (by decide) rfl ?_
  refine j_iinc C (v := x4 + (1 : Int32)) (lv' := [(4, .int (x4 + (1 : Int32))), (3, .int xs0), (0, rf G 38), (1, .int x1), (2, .int x2)]) d_M_areLinkedAsRead_68 4 rfl rfl (by decide) rfl ?_
  refine j_goto C 5 d_M_areLinkedAsRead_71 (by decide) ?_
  refine j_sub C [(0, rf G 38), (1, .int x1), (2, .int x2), (3, .int xs0), (4, .int (x4 + (1 : Int32)))] [2, 3, 4, 1, 0] rfl ?_
  exact hK5 x1 x2 xs0 (x4 + (1 : Int32)) hF
set_option maxHeartbeats 4000000 in
set_option maxRecDepth 100000 in
theorem b_M_areLinkedAsRead_62 {X : XT} {G : GT} {z : Int32} {K5 : Int32 → Int32 → Int32 → Int32 → MT → Option Int32} {σ : MT} (C : CX X G b_M_areLinkedAsRead 5 "TimeFloodModel" 0 0) (hr : XR X (some .boolean)) (hK5 : ∀ (x1 : Int32) (x2 : Int32) (x3 : Int32) (x4 : Int32), K5 x1 x2 x3 x4 σ = some z → JW X G (QX X (PI G z σ) G) 5 5 [(0, rf G 38), (1, .int x1), (2, .int x2), (3, .int x3), (4, .int x4)] [] σ) (x1 : Int32) (x2 : Int32) (x4 : Int32) (hF : f_M_areLinkedAsRead_62 K5 x1 x2 x4 σ = some z) : JW X G (QX X (PI G z σ) G) 5 62 [(0, rf G 38), (1, .int x1), (2, .int x2), (4, .int x4)] [] σ := by
  unfold f_M_areLinkedAsRead_62 at hF
  refine j_iconst C (v := 1) d_M_areLinkedAsRead_62 (by decide) ?_
  refine j_goto C 67 d_M_areLinkedAsRead_63 (by decide) ?_
  exact b_M_areLinkedAsRead_67 C hr hK5 x1 x2 x4 (1 : Int32) hF
set_option maxHeartbeats 4000000 in
set_option maxRecDepth 100000 in
theorem b_M_areLinkedAsRead_66 {X : XT} {G : GT} {z : Int32} {K5 : Int32 → Int32 → Int32 → Int32 → MT → Option Int32} {σ : MT} (C : CX X G b_M_areLinkedAsRead 5 "TimeFloodModel" 0 0) (hr : XR X (some .boolean)) (hK5 : ∀ (x1 : Int32) (x2 : Int32) (x3 : Int32) (x4 : Int32), K5 x1 x2 x3 x4 σ = some z → JW X G (QX X (PI G z σ) G) 5 5 [(0, rf G 38), (1, .int x1), (2, .int x2), (3, .int x3), (4, .int x4)] [] σ) (x1 : Int32) (x2 : Int32) (x4 : Int32) (hF : f_M_areLinkedAsRead_66 K5 x1 x2 x4 σ = some z) : JW X G (QX X (PI G z σ) G) 5 66 [(0, rf G 38), (1, .int x1), (2, .int x2), (4, .int x4)] [] σ := by
  unfold f_M_areLinkedAsRead_66 at hF
  refine j_iconst C (v := 0) d_M_areLinkedAsRead_66 (by decide) ?_
  exact b_M_areLinkedAsRead_67 C hr hK5 x1 x2 x4 (0 : Int32) hF
set_option maxHeartbeats 4000000 in
set_option maxRecDepth 100000 in
theorem b_M_areLinkedAsRead_40 {X : XT} {G : GT} {z : Int32} {K5 : Int32 → Int32 → Int32 → Int32 → MT → Option Int32} {σ : MT} (C : CX X G b_M_areLinkedAsRead 5 "TimeFloodModel" 0 0) (hr : XR X (some .boolean)) (hK5 : ∀ (x1 : Int32) (x2 : Int32) (x3 : Int32) (x4 : Int32), K5 x1 x2 x3 x4 σ = some z → JW X G (QX X (PI G z σ) G) 5 5 [(0, rf G 38), (1, .int x1), (2, .int x2), (3, .int x3), (4, .int x4)] [] σ) (x1 : Int32) (x2 : Int32) (x4 : Int32) (hF : f_M_areLinkedAsRead_40 K5 x1 x2 x4 σ = some z) : JW X G (QX X (PI G z σ) G) 5 40 [(0, rf G 38), (1, .int x1), (2, .int x2), (4, .int x4)] [] σ := by
  unfold f_M_areLinkedAsRead_40 at hF
  refine j_aload_n C d_M_areLinkedAsRead_40 rfl 0 rfl ?_
  refine g_M_readOne C (rfl : kdf 38 = 8) wd_698 d_M_areLinkedAsRead_41 ?_
  refine j_iload C d_M_areLinkedAsRead_44 3 rfl ?_
  obtain ⟨q46, hF⟩ := g_if hF
  refine j_iald C (rfl : kdf 59 = 13) (by decide) rfl (inb_v q46) d_M_areLinkedAsRead_46 ?_
  refine j_iload_n C d_M_areLinkedAsRead_47 rfl 2 rfl ?_
  refine j_icmp_ne C 66 d_M_areLinkedAsRead_48 (by decide) hF (fun q48 hF => ?_) (fun q48 hF => ?_)
  · exact b_M_areLinkedAsRead_66 C hr hK5 x1 x2 x4 hF
  · refine j_aload_n C d_M_areLinkedAsRead_51 rfl 0 rfl ?_
    refine g_M_readOther C (rfl : kdf 38 = 8) wd_699 d_M_areLinkedAsRead_52 ?_
    refine j_iload C d_M_areLinkedAsRead_55 3 rfl ?_
    obtain ⟨q57, hF⟩ := g_if hF
    refine j_iald C (rfl : kdf 60 = 13) (by decide) rfl (inb_v q57) d_M_areLinkedAsRead_57 ?_
    refine j_iload_n C d_M_areLinkedAsRead_58 rfl 1 rfl ?_
    refine j_icmp_ne C 66 d_M_areLinkedAsRead_59 (by decide) hF (fun q59 hF => ?_) (fun q59 hF => ?_)
    · exact b_M_areLinkedAsRead_66 C hr hK5 x1 x2 x4 hF
    · exact b_M_areLinkedAsRead_62 C hr hK5 x1 x2 x4 hF
set_option maxHeartbeats 4000000 in
set_option maxRecDepth 100000 in
theorem b_M_areLinkedAsRead_5 {X : XT} {G : GT} {z : Int32} {σ : MT} (C : CX X G b_M_areLinkedAsRead 5 "TimeFloodModel" 0 0) (hr : XR X (some .boolean)) : ∀ (n : Nat) (x1 : Int32) (x2 : Int32) (x3 : Int32) (x4 : Int32), f_M_areLinkedAsRead_5 n x1 x2 x3 x4 σ = some z → JW X G (QX X (PI G z σ) G) 5 5 [(0, rf G 38), (1, .int x1), (2, .int x2), (3, .int x3), (4, .int x4)] [] σ := by
  intro n
  induction n with
  | zero =>
    intro x1 x2 x3 x4 hF
    rw [f_M_areLinkedAsRead_5] at hF
    cases hF
  | succ n ih =>
    intro x1 x2 x3 x4 hF
    rw [f_M_areLinkedAsRead_5] at hF
    refine j_iload C d_M_areLinkedAsRead_5 4 rfl ?_
    refine j_aload_n C d_M_areLinkedAsRead_7 rfl 0 rfl ?_
    refine g_M_readLinks C (rfl : kdf 38 = 8) wd_697 d_M_areLinkedAsRead_8 ?_
    refine j_icmp_ge C 74 d_M_areLinkedAsRead_11 (by decide) hF (fun q11 hF => ?_) (fun q11 hF => ?_)
    · refine j_iload_n C d_M_areLinkedAsRead_74 rfl 3 rfl ?_
      obtain ⟨qz, hF⟩ := g_if hF
      cases hF
      exact j_zret (st := []) C hr (zb_n (zbb_z qz)) d_M_areLinkedAsRead_75 rfl rfl
    · refine j_iload_n C d_M_areLinkedAsRead_14 rfl 3 rfl ?_
      refine j_if_ne C 62 d_M_areLinkedAsRead_15 (by decide) hF (fun q15 hF => ?_) (fun q15 hF => ?_)
      · refine j_sub C [(0, rf G 38), (1, .int x1), (2, .int x2), (4, .int x4)] [0, 1, 2, 4] rfl ?_
        exact b_M_areLinkedAsRead_62 C hr ih x1 x2 x4 hF
      · refine j_aload_n C d_M_areLinkedAsRead_18 rfl 0 rfl ?_
        refine g_M_readOne C (rfl : kdf 38 = 8) wd_698 d_M_areLinkedAsRead_19 ?_
        refine j_iload C d_M_areLinkedAsRead_22 4 rfl ?_
        obtain ⟨q24, hF⟩ := g_if hF
        refine j_iald C (rfl : kdf 59 = 13) (by decide) rfl (inb_v q24) d_M_areLinkedAsRead_24 ?_
        refine j_iload_n C d_M_areLinkedAsRead_25 rfl 1 rfl ?_
        refine j_icmp_ne C 40 d_M_areLinkedAsRead_26 (by decide) hF (fun q26 hF => ?_) (fun q26 hF => ?_)
        · refine j_sub C [(0, rf G 38), (1, .int x1), (2, .int x2), (4, .int x4)] [0, 1, 2, 4] rfl ?_
          exact b_M_areLinkedAsRead_40 C hr ih x1 x2 x4 hF
        · refine j_aload_n C d_M_areLinkedAsRead_29 rfl 0 rfl ?_
          refine g_M_readOther C (rfl : kdf 38 = 8) wd_699 d_M_areLinkedAsRead_30 ?_
          refine j_iload C d_M_areLinkedAsRead_33 4 rfl ?_
          obtain ⟨q35, hF⟩ := g_if hF
          refine j_iald C (rfl : kdf 60 = 13) (by decide) rfl (inb_v q35) d_M_areLinkedAsRead_35 ?_
          refine j_iload_n C d_M_areLinkedAsRead_36 rfl 2 rfl ?_
          refine j_icmp_eq C 62 d_M_areLinkedAsRead_37 (by decide) hF (fun q37 hF => ?_) (fun q37 hF => ?_)
          · refine j_sub C [(0, rf G 38), (1, .int x1), (2, .int x2), (4, .int x4)] [0, 1, 2, 4] rfl ?_
            exact b_M_areLinkedAsRead_62 C hr ih x1 x2 x4 hF
          · refine j_sub C [(0, rf G 38), (1, .int x1), (2, .int x2), (4, .int x4)] [0, 1, 2, 4] rfl ?_
            exact b_M_areLinkedAsRead_40 C hr ih x1 x2 x4 hF
set_option maxHeartbeats 4000000 in
set_option maxRecDepth 100000 in
theorem c_M_areLinkedAsRead (l : Launch) (G : GT) (x1 : Int32) (x2 : Int32) (σ : MT)  {z : Int32} (hF : f_M_areLinkedAsRead x1 x2 σ = some z) : CTI l G y_M_areLinkedAsRead b_M_areLinkedAsRead 5 (some .boolean) 0 0 [rf G 38, .int x1, .int x2] σ z σ := by
  refine entX [(0, rf G 38), (1, .int x1), (2, .int x2)] "TimeFloodModel" (by decide +kernel) rfl rfl (Nat.le_of_ble_eq_true rfl) (fun X hXl hr C => ?_)
  unfold f_M_areLinkedAsRead at hF
  refine j_iconst C (v := 0) d_M_areLinkedAsRead_0 (by decide) ?_
  refine j_istore_n C (lv' := [(3, .int (0 : Int32)), (0, rf G 38), (1, .int x1), (2, .int x2)]) d_M_areLinkedAsRead_1 rfl (by decide) rfl ?_
  refine j_iconst C (v := 0) d_M_areLinkedAsRead_2 (by decide) ?_
  refine j_istore C (lv' := [(4, .int (0 : Int32)), (3, .int (0 : Int32)), (0, rf G 38), (1, .int x1), (2, .int x2)]) d_M_areLinkedAsRead_3 (by decide) rfl ?_
  refine j_sub C [(0, rf G 38), (1, .int x1), (2, .int x2), (3, .int (0 : Int32)), (4, .int (0 : Int32))] [2, 3, 4, 1, 0] rfl ?_
  exact b_M_areLinkedAsRead_5 C hr 1100 x1 x2 (0 : Int32) (0 : Int32) hF
set_option maxHeartbeats 4000000 in
set_option maxRecDepth 100000 in
theorem b_M_isFullAsRead_35 {X : XT} {G : GT} {z : Int32} {K4 : Int32 → Int32 → Int32 → MT → Option Int32} {σ : MT} (C : CX X G b_M_isFullAsRead 4 "TimeFloodModel" 1 24) (hr : XR X (some .boolean)) (hK4 : ∀ (x1 : Int32) (x2 : Int32) (x3 : Int32), K4 x1 x2 x3 σ = some z → JW X G (QX X (PI G z σ) G) 4 4 [(0, rf G 38), (1, .int x1), (2, .int x2), (3, .int x3)] [] σ) (x1 : Int32) (x3 : Int32) (xs0 : Int32) (hF : f_M_isFullAsRead_35 K4 x1 x3 xs0 σ = some z) : JW X G (QX X (PI G z σ) G) 4 35 [(0, rf G 38), (1, .int x1), (3, .int x3)] [.int xs0] σ := by
  unfold f_M_isFullAsRead_35 at hF
  refine j_istore_n C (lv' := [(2, .int xs0), (0, rf G 38), (1, .int x1), (3, .int x3)]) d_M_isFullAsRead_35 rfl (by decide) rfl ?_
  refine j_iinc C (v := x3 + (1 : Int32)) (lv' := [(3, .int (x3 + (1 : Int32))), (2, .int xs0), (0, rf G 38), (1, .int x1)]) d_M_isFullAsRead_36 3 rfl rfl (by decide) rfl ?_
  refine j_goto C 4 d_M_isFullAsRead_39 (by decide) ?_
  refine j_sub C [(0, rf G 38), (1, .int x1), (2, .int xs0), (3, .int (x3 + (1 : Int32)))] [2, 3, 1, 0] rfl ?_
  exact hK4 x1 xs0 (x3 + (1 : Int32)) hF
set_option maxHeartbeats 4000000 in
set_option maxRecDepth 100000 in
theorem b_M_isFullAsRead_34 {X : XT} {G : GT} {z : Int32} {K4 : Int32 → Int32 → Int32 → MT → Option Int32} {σ : MT} (C : CX X G b_M_isFullAsRead 4 "TimeFloodModel" 1 24) (hr : XR X (some .boolean)) (hK4 : ∀ (x1 : Int32) (x2 : Int32) (x3 : Int32), K4 x1 x2 x3 σ = some z → JW X G (QX X (PI G z σ) G) 4 4 [(0, rf G 38), (1, .int x1), (2, .int x2), (3, .int x3)] [] σ) (x1 : Int32) (x3 : Int32) (hF : f_M_isFullAsRead_34 K4 x1 x3 σ = some z) : JW X G (QX X (PI G z σ) G) 4 34 [(0, rf G 38), (1, .int x1), (3, .int x3)] [] σ := by
  unfold f_M_isFullAsRead_34 at hF
  refine j_iconst C (v := 0) d_M_isFullAsRead_34 (by decide) ?_
  exact b_M_isFullAsRead_35 C hr hK4 x1 x3 (0 : Int32) hF
set_option maxHeartbeats 4000000 in
set_option maxRecDepth 100000 in
theorem b_M_isFullAsRead_30 {X : XT} {G : GT} {z : Int32} {K4 : Int32 → Int32 → Int32 → MT → Option Int32} {σ : MT} (C : CX X G b_M_isFullAsRead 4 "TimeFloodModel" 1 24) (hr : XR X (some .boolean)) (hK4 : ∀ (x1 : Int32) (x2 : Int32) (x3 : Int32), K4 x1 x2 x3 σ = some z → JW X G (QX X (PI G z σ) G) 4 4 [(0, rf G 38), (1, .int x1), (2, .int x2), (3, .int x3)] [] σ) (x1 : Int32) (x3 : Int32) (hF : f_M_isFullAsRead_30 K4 x1 x3 σ = some z) : JW X G (QX X (PI G z σ) G) 4 30 [(0, rf G 38), (1, .int x1), (3, .int x3)] [] σ := by
  unfold f_M_isFullAsRead_30 at hF
  refine j_iconst C (v := 1) d_M_isFullAsRead_30 (by decide) ?_
  refine j_goto C 35 d_M_isFullAsRead_31 (by decide) ?_
  exact b_M_isFullAsRead_35 C hr hK4 x1 x3 (1 : Int32) hF
set_option maxHeartbeats 4000000 in
set_option maxRecDepth 100000 in
theorem b_M_isFullAsRead_4 {X : XT} {G : GT} {z : Int32} {σ : MT} (C : CX X G b_M_isFullAsRead 4 "TimeFloodModel" 1 24) (hr : XR X (some .boolean)) : ∀ (n : Nat) (x1 : Int32) (x2 : Int32) (x3 : Int32), f_M_isFullAsRead_4 n x1 x2 x3 σ = some z → JW X G (QX X (PI G z σ) G) 4 4 [(0, rf G 38), (1, .int x1), (2, .int x2), (3, .int x3)] [] σ := by
  intro n
  induction n with
  | zero =>
    intro x1 x2 x3 hF
    rw [f_M_isFullAsRead_4] at hF
    cases hF
  | succ n ih =>
    intro x1 x2 x3 hF
    rw [f_M_isFullAsRead_4] at hF
    refine j_iload_n C d_M_isFullAsRead_4 rfl 3 rfl ?_
    refine j_aload_n C d_M_isFullAsRead_5 rfl 0 rfl ?_
    refine g_M_readNodes C (rfl : kdf 38 = 8) wd_694 d_M_isFullAsRead_6 ?_
    refine j_icmp_ge C 42 d_M_isFullAsRead_9 (by decide) hF (fun q9 hF => ?_) (fun q9 hF => ?_)
    · refine j_iload_n C d_M_isFullAsRead_42 rfl 2 rfl ?_
      obtain ⟨qz, hF⟩ := g_if hF
      cases hF
      exact j_zret (st := []) C hr (zb_n (zbb_z qz)) d_M_isFullAsRead_43 rfl rfl
    · refine j_iload_n C d_M_isFullAsRead_12 rfl 2 rfl ?_
      refine j_if_eq C 34 d_M_isFullAsRead_13 (by decide) hF (fun q13 hF => ?_) (fun q13 hF => ?_)
      · refine j_sub C [(0, rf G 38), (1, .int x1), (3, .int x3)] [0, 1, 3] rfl ?_
        exact b_M_isFullAsRead_34 C hr ih x1 x3 hF
      · refine j_iload_n C d_M_isFullAsRead_16 rfl 3 rfl ?_
        refine j_iload_n C d_M_isFullAsRead_17 rfl 1 rfl ?_
        refine j_icmp_eq C 30 d_M_isFullAsRead_18 (by decide) hF (fun q18 hF => ?_) (fun q18 hF => ?_)
        · refine j_sub C [(0, rf G 38), (1, .int x1), (3, .int x3)] [0, 1, 3] rfl ?_
          exact b_M_isFullAsRead_30 C hr ih x1 x3 hF
        · refine j_aload_n C d_M_isFullAsRead_21 rfl 0 rfl ?_
          refine j_iload_n C d_M_isFullAsRead_22 rfl 1 rfl ?_
          refine j_iload_n C d_M_isFullAsRead_23 rfl 3 rfl ?_
          obtain ⟨r24, h24, hF⟩ := g_bind hF
          refine j_vi C (As := [.int x1, .int x3]) (st := []) (c_M_areLinkedAsRead (XL X) G x1 x3 σ h24) (rfl : kdf 38 = 8) (by decide) rfl rfl m_M_areLinkedAsRead wd_826 rfl rfl (Nat.le_of_ble_eq_true rfl) ⟨by decide, by decide⟩ d_M_isFullAsRead_24 ?_
          refine j_if_eq C 34 d_M_isFullAsRead_27 (by decide) hF (fun q27 hF => ?_) (fun q27 hF => ?_)
          · refine j_sub C [(0, rf G 38), (1, .int x1), (3, .int x3)] [0, 1, 3] rfl ?_
            exact b_M_isFullAsRead_34 C hr ih x1 x3 hF
          · refine j_sub C [(0, rf G 38), (1, .int x1), (3, .int x3)] [0, 1, 3] rfl ?_
            exact b_M_isFullAsRead_30 C hr ih x1 x3 hF
set_option maxHeartbeats 4000000 in
set_option maxRecDepth 100000 in
theorem c_M_isFullAsRead (l : Launch) (G : GT) (x1 : Int32) (σ : MT)  {z : Int32} (hF : f_M_isFullAsRead x1 σ = some z) : CTI l G y_M_isFullAsRead b_M_isFullAsRead 4 (some .boolean) 1 24 [rf G 38, .int x1] σ z σ := by
  refine entX [(0, rf G 38), (1, .int x1)] "TimeFloodModel" (by decide +kernel) rfl rfl (Nat.le_of_ble_eq_true rfl) (fun X hXl hr C => ?_)
  unfold f_M_isFullAsRead at hF
  refine j_iconst C (v := 1) d_M_isFullAsRead_0 (by decide) ?_
  refine j_istore_n C (lv' := [(2, .int (1 : Int32)), (0, rf G 38), (1, .int x1)]) d_M_isFullAsRead_1 rfl (by decide) rfl ?_
  refine j_iconst C (v := 0) d_M_isFullAsRead_2 (by decide) ?_
  refine j_istore_n C (lv' := [(3, .int (0 : Int32)), (2, .int (1 : Int32)), (0, rf G 38), (1, .int x1)]) d_M_isFullAsRead_3 rfl (by decide) rfl ?_
  refine j_sub C [(0, rf G 38), (1, .int x1), (2, .int (1 : Int32)), (3, .int (0 : Int32))] [2, 3, 1, 0] rfl ?_
  exact b_M_isFullAsRead_4 C hr 1100 x1 (1 : Int32) (0 : Int32) hF
set_option maxHeartbeats 4000000 in
set_option maxRecDepth 100000 in
theorem b_M_mayLink_29 {X : XT} {G : GT} {z : Int32} {K4 : Int32 → Int32 → MT → Option Int32} {σ : MT} (C : CX X G b_M_mayLink 3 "TimeFloodModel" 2 47) (hr : XR X (some .boolean)) (hK4 : ∀ (x1 : Int32) (x2 : Int32), K4 x1 x2 σ = some z → JW X G (QX X (PI G z σ) G) 3 4 [(0, rf G 38), (1, .int x1), (2, .int x2)] [] σ) (x2 : Int32) (xs0 : Int32) (hF : f_M_mayLink_29 K4 x2 xs0 σ = some z) : JW X G (QX X (PI G z σ) G) 3 29 [(0, rf G 38), (2, .int x2)] [.int xs0] σ := by
  unfold f_M_mayLink_29 at hF
  refine j_istore_n C (lv' := [(1, .int xs0), (0, rf G 38), (2, .int x2)]) d_M_mayLink_29 rfl (by decide) rfl ?_
  refine j_iinc C (v := x2 + (1 : Int32)) (lv' := [(2, .int (x2 + (1 : Int32))), (1, .int xs0), (0, rf G 38)]) d_M_mayLink_30 2 rfl rfl (by decide) rfl ?_
  refine j_goto C 4 d_M_mayLink_33 (by decide) ?_
  refine j_sub C [(0, rf G 38), (1, .int xs0), (2, .int (x2 + (1 : Int32)))] [2, 1, 0] rfl ?_
  exact hK4 xs0 (x2 + (1 : Int32)) hF
set_option maxHeartbeats 4000000 in
set_option maxRecDepth 100000 in
theorem b_M_mayLink_24 {X : XT} {G : GT} {z : Int32} {K4 : Int32 → Int32 → MT → Option Int32} {σ : MT} (C : CX X G b_M_mayLink 3 "TimeFloodModel" 2 47) (hr : XR X (some .boolean)) (hK4 : ∀ (x1 : Int32) (x2 : Int32), K4 x1 x2 σ = some z → JW X G (QX X (PI G z σ) G) 3 4 [(0, rf G 38), (1, .int x1), (2, .int x2)] [] σ) (x2 : Int32) (hF : f_M_mayLink_24 K4 x2 σ = some z) : JW X G (QX X (PI G z σ) G) 3 24 [(0, rf G 38), (2, .int x2)] [] σ := by
  unfold f_M_mayLink_24 at hF
  refine j_iconst C (v := 1) d_M_mayLink_24 (by decide) ?_
  refine j_goto C 29 d_M_mayLink_25 (by decide) ?_
  exact b_M_mayLink_29 C hr hK4 x2 (1 : Int32) hF
set_option maxHeartbeats 4000000 in
set_option maxRecDepth 100000 in
theorem b_M_mayLink_4 {X : XT} {G : GT} {z : Int32} {σ : MT} (C : CX X G b_M_mayLink 3 "TimeFloodModel" 2 47) (hr : XR X (some .boolean)) : ∀ (n : Nat) (x1 : Int32) (x2 : Int32), f_M_mayLink_4 n x1 x2 σ = some z → JW X G (QX X (PI G z σ) G) 3 4 [(0, rf G 38), (1, .int x1), (2, .int x2)] [] σ := by
  intro n
  induction n with
  | zero =>
    intro x1 x2 hF
    rw [f_M_mayLink_4] at hF
    cases hF
  | succ n ih =>
    intro x1 x2 hF
    rw [f_M_mayLink_4] at hF
    refine j_iload_n C d_M_mayLink_4 rfl 2 rfl ?_
    refine j_aload_n C d_M_mayLink_5 rfl 0 rfl ?_
    refine g_M_readNodes C (rfl : kdf 38 = 8) wd_694 d_M_mayLink_6 ?_
    refine j_icmp_ge C 36 d_M_mayLink_9 (by decide) hF (fun q9 hF => ?_) (fun q9 hF => ?_)
    · refine j_iload_n C d_M_mayLink_36 rfl 1 rfl ?_
      refine j_if_eq C 53 d_M_mayLink_37 (by decide) hF (fun q37 hF => ?_) (fun q37 hF => ?_)
      · refine j_iconst C (v := 0) d_M_mayLink_53 (by decide) ?_
        cases hF
        exact j_zret (st := []) C hr rfl d_M_mayLink_54 rfl rfl
      · refine j_aload_n C d_M_mayLink_40 rfl 0 rfl ?_
        refine g_M_readLinks C (rfl : kdf 38 = 8) wd_697 d_M_mayLink_41 ?_
        refine j_bipush C (v := 7) d_M_mayLink_44 (by decide) ?_
        refine j_icmp_ge C 53 d_M_mayLink_46 (by decide) hF (fun q46 hF => ?_) (fun q46 hF => ?_)
        · refine j_iconst C (v := 0) d_M_mayLink_53 (by decide) ?_
          cases hF
          exact j_zret (st := []) C hr rfl d_M_mayLink_54 rfl rfl
        · refine j_iconst C (v := 1) d_M_mayLink_49 (by decide) ?_
          refine j_goto C 54 d_M_mayLink_50 (by decide) ?_
          cases hF
          exact j_zret (st := []) C hr rfl d_M_mayLink_54 rfl rfl
    · refine j_iload_n C d_M_mayLink_12 rfl 1 rfl ?_
      refine j_if_ne C 24 d_M_mayLink_13 (by decide) hF (fun q13 hF => ?_) (fun q13 hF => ?_)
      · refine j_sub C [(0, rf G 38), (2, .int x2)] [0, 2] rfl ?_
        exact b_M_mayLink_24 C hr ih x2 hF
      · refine j_aload_n C d_M_mayLink_16 rfl 0 rfl ?_
        refine j_iload_n C d_M_mayLink_17 rfl 2 rfl ?_
        obtain ⟨r18, h18, hF⟩ := g_bind hF
        refine j_vi C (As := [.int x2]) (st := []) (c_M_isFullAsRead (XL X) G x2 σ h18) (rfl : kdf 38 = 8) (by decide) rfl rfl m_M_isFullAsRead wd_822 rfl rfl (Nat.le_of_ble_eq_true rfl) ⟨by decide, by decide⟩ d_M_mayLink_18 ?_
        refine j_if_ne C 28 d_M_mayLink_21 (by decide) hF (fun q21 hF => ?_) (fun q21 hF => ?_)
        · refine j_iconst C (v := 0) d_M_mayLink_28 (by decide) ?_
          refine j_sub C [(0, rf G 38), (2, .int x2)] [0, 2] rfl ?_
          exact b_M_mayLink_29 C hr ih x2 (0 : Int32) hF
        · refine j_sub C [(0, rf G 38), (2, .int x2)] [0, 2] rfl ?_
          exact b_M_mayLink_24 C hr ih x2 hF
set_option maxHeartbeats 4000000 in
set_option maxRecDepth 100000 in
theorem c_M_mayLink (l : Launch) (G : GT) (σ : MT)  {z : Int32} (hF : f_M_mayLink σ = some z) : CTI l G y_M_mayLink b_M_mayLink 3 (some .boolean) 2 47 [rf G 38] σ z σ := by
  refine entX [(0, rf G 38)] "TimeFloodModel" (by decide +kernel) rfl rfl (Nat.le_of_ble_eq_true rfl) (fun X hXl hr C => ?_)
  unfold f_M_mayLink at hF
  refine j_iconst C (v := 0) d_M_mayLink_0 (by decide) ?_
  refine j_istore_n C (lv' := [(1, .int (0 : Int32)), (0, rf G 38)]) d_M_mayLink_1 rfl (by decide) rfl ?_
  refine j_iconst C (v := 0) d_M_mayLink_2 (by decide) ?_
  refine j_istore_n C (lv' := [(2, .int (0 : Int32)), (1, .int (0 : Int32)), (0, rf G 38)]) d_M_mayLink_3 rfl (by decide) rfl ?_
  refine j_sub C [(0, rf G 38), (1, .int (0 : Int32)), (2, .int (0 : Int32))] [2, 1, 0] rfl ?_
  exact b_M_mayLink_4 C hr 1100 (0 : Int32) (0 : Int32) hF
set_option maxHeartbeats 4000000 in
set_option maxRecDepth 100000 in
theorem b_M_takeHead_68 {X : XT} {G : GT} {z : (Int32 × MT)} (C : CX X G b_M_takeHead 2 "TimeFloodModel" 1 25) (hr : XR X (some .boolean)) (x1 : Int32) (σ : MT) (hF : f_M_takeHead_68 x1 σ = some z) : JW X G (QX X (PI G z.1 z.2) G) 2 68 [(0, rf G 38), (1, .int x1)] [] σ := by
  unfold f_M_takeHead_68 at hF
  refine j_iload_n C d_M_takeHead_68 rfl 1 rfl ?_
  refine j_i2l C d_M_takeHead_69 ?_
  refine j_lconst C (v := 0) d_M_takeHead_70 (by decide) ?_
  refine j_ldc2 C wd_810 d_M_takeHead_71 ?_
  obtain ⟨r74, h74, hF⟩ := g_bind hF
  refine j_si C (As := [.long x1.toInt64, .long (0 : Int64), .long (9 : Int64)]) (st := []) (c_M_in (XL X) G x1.toInt64 (0 : Int64) (9 : Int64) σ h74) m_M_in wd_786 rfl rfl (Nat.le_of_ble_eq_true rfl) ⟨by decide, by decide⟩ d_M_takeHead_74 ?_
  refine j_if_eq C 101 d_M_takeHead_77 (by decide) hF (fun q77 hF => ?_) (fun q77 hF => ?_)
  · refine j_iconst C (v := 0) d_M_takeHead_101 (by decide) ?_
    cases hF
    exact j_zret (st := []) C hr rfl d_M_takeHead_102 rfl rfl
  · refine j_aload_n C d_M_takeHead_80 rfl 0 rfl ?_
    refine g_M_readWide C (rfl : kdf 38 = 8) wd_691 d_M_takeHead_81 ?_
    refine j_i2l C d_M_takeHead_84 ?_
    refine j_ldc2 C wd_811 d_M_takeHead_85 ?_
    refine j_ldc2 C wd_812 d_M_takeHead_88 ?_
    obtain ⟨r91, h91, hF⟩ := g_bind hF
    refine j_si C (As := [.long ((σ.1 38 28).toInt64), .long (8 : Int64), .long (32 : Int64)]) (st := []) (c_M_in (XL X) G ((σ.1 38 28).toInt64) (8 : Int64) (32 : Int64) σ h91) m_M_in wd_786 rfl rfl (Nat.le_of_ble_eq_true rfl) ⟨by decide, by decide⟩ d_M_takeHead_91 ?_
    refine j_if_eq C 101 d_M_takeHead_94 (by decide) hF (fun q94 hF => ?_) (fun q94 hF => ?_)
    · refine j_iconst C (v := 0) d_M_takeHead_101 (by decide) ?_
      cases hF
      exact j_zret (st := []) C hr rfl d_M_takeHead_102 rfl rfl
    · refine j_iconst C (v := 1) d_M_takeHead_97 (by decide) ?_
      refine j_goto C 102 d_M_takeHead_98 (by decide) ?_
      cases hF
      exact j_zret (st := []) C hr rfl d_M_takeHead_102 rfl rfl
set_option maxHeartbeats 4000000 in
set_option maxRecDepth 100000 in
theorem b_M_takeHead_128 {X : XT} {G : GT} {z : (Int32 × MT)} (C : CX X G b_M_takeHead 2 "TimeFloodModel" 1 25) (hr : XR X (some .boolean)) (x1 : Int32) (σ : MT) (hF : f_M_takeHead_128 x1 σ = some z) : JW X G (QX X (PI G z.1 z.2) G) 2 128 [(1, .int x1)] [] σ := by
  unfold f_M_takeHead_128 at hF
  refine j_iload_n C d_M_takeHead_128 rfl 0 rfl ?_
  refine j_i2l C d_M_takeHead_129 ?_
  refine j_lconst C (v := 0) d_M_takeHead_130 (by decide) ?_
  refine j_ldc2 C wd_810 d_M_takeHead_131 ?_
  obtain ⟨r134, h134, hF⟩ := g_bind hF
  refine j_si C (As := [.long x1.toInt64, .long (0 : Int64), .long (9 : Int64)]) (st := []) (c_M_in (XL X) G x1.toInt64 (0 : Int64) (9 : Int64) σ h134) m_M_in wd_786 rfl rfl (Nat.le_of_ble_eq_true rfl) ⟨by decide, by decide⟩ d_M_takeHead_134 ?_
  obtain ⟨qz, hF⟩ := g_if hF
  cases hF
  exact j_zret (st := []) C hr (zb_n (zbb_z qz)) d_M_takeHead_137 rfl rfl
set_option maxHeartbeats 4000000 in
set_option maxRecDepth 100000 in
theorem c_M_takeHead (l : Launch) (G : GT) (x1 : Int32) (σ : MT)  {z : (Int32 × MT)} (hF : f_M_takeHead x1 σ = some z) : CTI l G y_M_takeHead b_M_takeHead 2 (some .boolean) 1 25 [rf G 38, .int x1] σ z.1 z.2 := by
  refine entX [(0, rf G 38), (1, .int x1)] "TimeFloodModel" (by decide +kernel) rfl rfl (Nat.le_of_ble_eq_true rfl) (fun X hXl hr C => ?_)
  unfold f_M_takeHead at hF
  refine j_aload_n C d_M_takeHead_0 rfl 0 rfl ?_
  refine j_dup C d_M_takeHead_1 rfl ?_
  refine g_M_place C (rfl : kdf 38 = 8) wd_701 d_M_takeHead_2 ?_
  refine j_iconst C (v := 1) d_M_takeHead_5 (by decide) ?_
  refine j_iadd C d_M_takeHead_6 ?_
  refine p_M_place C (rfl : kdf 38 = 8) wd_701 d_M_takeHead_7 ?_
  refine j_aload_n C d_M_takeHead_10 rfl 0 rfl ?_
  refine g_M_place C (rfl : kdf 38 = 8) wd_701 d_M_takeHead_11 ?_
  refine g_ite hF (fun q hF => ?_) (fun q14_0 hF => ?_)
  · refine j_tabIn C 40 q d_M_takeHead_14 (by decide) (by decide) (off := 26) rfl (by decide) ?_
    refine j_aload_n C d_M_takeHead_40 rfl 0 rfl ?_
    refine j_iload_n C d_M_takeHead_41 rfl 1 rfl ?_
    refine p_M_readWide C (rfl : kdf 38 = 8) wd_691 d_M_takeHead_42 ?_
    refine j_iload_n C d_M_takeHead_45 rfl 1 rfl ?_
    refine j_i2l C d_M_takeHead_46 ?_
    refine j_lconst C (v := 0) d_M_takeHead_47 (by decide) ?_
    refine j_ldc2 C wd_809 d_M_takeHead_48 ?_
    obtain ⟨r51, h51, hF⟩ := g_bind hF
    refine j_si C (As := [.long x1.toInt64, .long (0 : Int64), .long (3 : Int64)]) (st := []) (c_M_in (XL X) G x1.toInt64 (0 : Int64) (3 : Int64) (sI (sI σ 38 38 ((σ.1 38 38) + (1 : Int32))) 38 28 x1) h51) m_M_in wd_786 rfl rfl (Nat.le_of_ble_eq_true rfl) ⟨by decide, by decide⟩ d_M_takeHead_51 ?_
    obtain ⟨qz, hF⟩ := g_if hF
    cases hF
    exact j_zret (st := []) C hr (zb_n (zbb_z qz)) d_M_takeHead_54 rfl rfl
  refine g_ite hF (fun q hF => ?_) (fun q14_1 hF => ?_)
  · refine j_tabIn C 55 q d_M_takeHead_14 (by decide) (by decide) (off := 41) rfl (by decide) ?_
    refine j_aload_n C d_M_takeHead_55 rfl 0 rfl ?_
    refine j_bipush C (v := 10) d_M_takeHead_56 (by decide) ?_
    refine j_aload_n C d_M_takeHead_58 rfl 0 rfl ?_
    refine g_M_readWide C (rfl : kdf 38 = 8) wd_691 d_M_takeHead_59 ?_
    refine j_imul C d_M_takeHead_62 ?_
    refine j_iload_n C d_M_takeHead_63 rfl 1 rfl ?_
    refine j_iadd C d_M_takeHead_64 ?_
    refine p_M_readWide C (rfl : kdf 38 = 8) wd_691 d_M_takeHead_65 ?_
    exact b_M_takeHead_68 C hr x1 (sI (sI σ 38 38 ((σ.1 38 38) + (1 : Int32))) 38 28 (((10 : Int32) * ((sI σ 38 38 ((σ.1 38 38) + (1 : Int32))).1 38 28)) + x1)) hF
  refine g_ite hF (fun q hF => ?_) (fun q14_2 hF => ?_)
  · refine j_tabIn C 103 q d_M_takeHead_14 (by decide) (by decide) (off := 89) rfl (by decide) ?_
    refine j_aload_n C d_M_takeHead_103 rfl 0 rfl ?_
    refine j_iload_n C d_M_takeHead_104 rfl 1 rfl ?_
    refine p_M_readPatience C (rfl : kdf 38 = 8) wd_692 d_M_takeHead_105 ?_
    refine j_iload_n C d_M_takeHead_108 rfl 1 rfl ?_
    refine j_i2l C d_M_takeHead_109 ?_
    refine j_lconst C (v := 1) d_M_takeHead_110 (by decide) ?_
    refine j_ldc2 C wd_810 d_M_takeHead_111 ?_
    obtain ⟨r114, h114, hF⟩ := g_bind hF
    refine j_si C (As := [.long x1.toInt64, .long (1 : Int64), .long (9 : Int64)]) (st := []) (c_M_in (XL X) G x1.toInt64 (1 : Int64) (9 : Int64) (sI (sI σ 38 38 ((σ.1 38 38) + (1 : Int32))) 38 29 x1) h114) m_M_in wd_786 rfl rfl (Nat.le_of_ble_eq_true rfl) ⟨by decide, by decide⟩ d_M_takeHead_114 ?_
    obtain ⟨qz, hF⟩ := g_if hF
    cases hF
    exact j_zret (st := []) C hr (zb_n (zbb_z qz)) d_M_takeHead_117 rfl rfl
  refine j_tabOut C 118 d_M_takeHead_14 (by have t0 := lv_neT q14_0 (a := 1) rfl; have t1 := lv_neT q14_1 (a := 2) rfl; have t2 := lv_neT q14_2 (a := 3) rfl; omega) (by decide) ?_
  refine j_aload_n C d_M_takeHead_118 rfl 0 rfl ?_
  refine j_iload_n C d_M_takeHead_119 rfl 1 rfl ?_
  refine p_M_readShy C (rfl : kdf 38 = 8) wd_693 d_M_takeHead_120 ?_
  refine j_aload_n C d_M_takeHead_123 rfl 0 rfl ?_
  refine j_iconst C (v := 0) d_M_takeHead_124 (by decide) ?_
  refine p_M_part C (rfl : kdf 38 = 8) wd_700 d_M_takeHead_125 ?_
  refine j_sub C [(1, .int x1)] [1] rfl ?_
  exact b_M_takeHead_128 C hr x1 (sI (sI (sI σ 38 38 ((σ.1 38 38) + (1 : Int32))) 38 30 x1) 38 37 (0 : Int32)) hF
