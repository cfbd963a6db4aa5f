set_option maxHeartbeats 4000000 in
set_option maxRecDepth 100000 in
theorem b_M_note_28 {X : XT} {G : GT} {z : MT} {K2 : Int32 → MT → Option MT} (C : CX X G b_M_note 2 "TimeFloodModel" 0 0) (hr : XR X none) (hK2 : ∀ (x1 : Int32) (σ : MT), K2 x1 σ = some z → JW X G (QX X (PV G z) G) 2 2 [(0, rf G 38), (1, .int x1)] [] σ) (x1 : Int32) (σ : MT) (hF : f_M_note_28 K2 x1 σ = some z) : JW X G (QX X (PV G z) G) 2 28 [(0, rf G 38), (1, .int x1)] [] σ := by
  unfold f_M_note_28 at hF
  refine j_iinc C (v := x1 + (1 : Int32)) (lv' := [(1, .int (x1 + (1 : Int32))), (0, rf G 38)]) d_M_note_28 1 rfl rfl (by decide) rfl ?_
  refine j_goto C 2 d_M_note_31 (by decide) ?_
  refine j_sub C [(0, rf G 38), (1, .int (x1 + (1 : Int32)))] [1, 0] rfl ?_
  exact hK2 (x1 + (1 : Int32)) σ hF
set_option maxHeartbeats 4000000 in
set_option maxRecDepth 100000 in
theorem b_M_note_2 {X : XT} {G : GT} {z : MT} (C : CX X G b_M_note 2 "TimeFloodModel" 0 0) (hr : XR X none) : ∀ (n : Nat) (x1 : Int32) (σ : MT), f_M_note_2 n x1 σ = some z → JW X G (QX X (PV G z) G) 2 2 [(0, rf G 38), (1, .int x1)] [] σ := by
  intro n
  induction n with
  | zero =>
    intro x1 σ hF
    rw [f_M_note_2] at hF
    cases hF
  | succ n ih =>
    intro x1 σ hF
    rw [f_M_note_2] at hF
    refine j_iload_n C d_M_note_2 rfl 1 rfl ?_
    refine j_bipush C (v := 103) d_M_note_3 (by decide) ?_
    refine j_icmp_ge C 34 d_M_note_5 (by decide) hF (fun q5 hF => ?_) (fun q5 hF => ?_)
    · refine j_aload_n C d_M_note_34 rfl 0 rfl ?_
      refine j_aload_n C d_M_note_35 rfl 0 rfl ?_
      refine g_M_next C (rfl : kdf 38 = 8) wd_677 d_M_note_36 ?_
      refine j_iconst C (v := 1) d_M_note_39 (by decide) ?_
      refine j_iadd C d_M_note_40 ?_
      refine j_bipush C (v := 14) d_M_note_41 (by decide) ?_
      refine j_irem C d_M_note_43 (by decide) ?_
      refine p_M_next C (rfl : kdf 38 = 8) wd_677 d_M_note_44 ?_
      refine j_aload_n C d_M_note_47 rfl 0 rfl ?_
      refine j_aload_n C d_M_note_48 rfl 0 rfl ?_
      refine g_M_acts C (rfl : kdf 38 = 8) wd_676 d_M_note_49 ?_
      refine j_bipush C (v := 14) d_M_note_52 (by decide) ?_
      refine j_icmp_ge C 66 d_M_note_54 (by decide) hF (fun q54 hF => ?_) (fun q54 hF => ?_)
      · refine j_bipush C (v := 14) d_M_note_66 (by decide) ?_
        refine p_M_acts C (rfl : kdf 38 = 8) wd_676 d_M_note_68 ?_
        cases hF
        exact j_vret C hr d_M_note_71 rfl
      · refine j_aload_n C d_M_note_57 rfl 0 rfl ?_
        refine g_M_acts C (rfl : kdf 38 = 8) wd_676 d_M_note_58 ?_
        refine j_iconst C (v := 1) d_M_note_61 (by decide) ?_
        refine j_iadd C d_M_note_62 ?_
        refine j_goto C 68 d_M_note_63 (by decide) ?_
        refine p_M_acts C (rfl : kdf 38 = 8) wd_676 d_M_note_68 ?_
        cases hF
        exact j_vret C hr d_M_note_71 rfl
    · refine j_aload_n C d_M_note_8 rfl 0 rfl ?_
      refine g_M_diary C (rfl : kdf 38 = 8) wd_675 d_M_note_9 ?_
      refine j_bipush C (v := 103) d_M_note_12 (by decide) ?_
      refine j_aload_n C d_M_note_14 rfl 0 rfl ?_
      refine g_M_next C (rfl : kdf 38 = 8) wd_677 d_M_note_15 ?_
      refine j_imul C d_M_note_18 ?_
      refine j_iload_n C d_M_note_19 rfl 1 rfl ?_
      refine j_iadd C d_M_note_20 ?_
      refine j_aload_n C d_M_note_21 rfl 0 rfl ?_
      refine g_M_now C (rfl : kdf 38 = 8) wd_673 d_M_note_22 ?_
      refine j_iload_n C d_M_note_25 rfl 1 rfl ?_
      obtain ⟨q26, hF⟩ := g_if hF
      refine j_iald C (rfl : kdf 43 = 15) (by decide) rfl (inb_v q26) d_M_note_26 ?_
      obtain ⟨q27, hF⟩ := g_if hF
      refine j_iast C (rfl : kdf 45 = 16) (by decide) (fun _ => rfl) (inb_v q27) d_M_note_27 ?_
      exact b_M_note_28 C hr ih x1 (sI σ 45 (((103 : Int32) * (σ.1 38 14)) + x1).toNatClampNeg (σ.1 43 x1.toNatClampNeg)) hF
set_option maxHeartbeats 4000000 in
set_option maxRecDepth 100000 in
theorem c_M_note (l : Launch) (G : GT) (σ : MT)  {z : MT} (hF : f_M_note σ = some z) : CTV l G y_M_note b_M_note 2 none 0 0 [rf G 38] σ z := by
  refine entX [(0, rf G 38)] "TimeFloodModel" (by decide +kernel) rfl rfl (Nat.le_of_ble_eq_true rfl) (fun X hXl hr C => ?_)
  unfold f_M_note at hF
  refine j_iconst C (v := 0) d_M_note_0 (by decide) ?_
  refine j_istore_n C (lv' := [(1, .int (0 : Int32)), (0, rf G 38)]) d_M_note_1 rfl (by decide) rfl ?_
  refine j_sub C [(0, rf G 38), (1, .int (0 : Int32))] [1, 0] rfl ?_
  exact b_M_note_2 C hr 1100 (0 : Int32) σ hF
set_option maxHeartbeats 4000000 in
set_option maxRecDepth 100000 in
theorem b_M_period_21 {X : XT} {G : GT} {z : (Int32 × MT)} (C : CX X G b_M_period 3 "TimeFloodModel" 6 159) (hr : XR X (some .int)) : ∀ (n : Nat) (x1 : Int32) (x2 : Int32) (σ : MT), f_M_period_21 n x1 x2 σ = some z → JW X G (QX X (PI G z.1 z.2) G) 3 21 [(0, rf G 38), (1, .int x1), (2, .int x2)] [] σ := by
  intro n
  induction n with
  | zero =>
    intro x1 x2 σ hF
    rw [f_M_period_21] at hF
    cases hF
  | succ n ih =>
    intro x1 x2 σ hF
    rw [f_M_period_21] at hF
    refine j_iload_n C d_M_period_21 rfl 2 rfl ?_
    refine j_iload_n C d_M_period_22 rfl 1 rfl ?_
    refine j_icmp_ge C 40 d_M_period_23 (by decide) hF (fun q23 hF => ?_) (fun q23 hF => ?_)
    · refine j_aload_n C d_M_period_40 rfl 0 rfl ?_
      refine j_aload_n C d_M_period_41 rfl 0 rfl ?_
      refine g_M_now C (rfl : kdf 38 = 8) wd_673 d_M_period_42 ?_
      obtain ⟨r45, h45, hF⟩ := g_bind hF
      refine j_vi C (As := [rf G 43]) (st := []) (c_M_inTime (XL X) G 43 σ (rfl : kdf 43 = 15) h45) (rfl : kdf 38 = 8) (by decide) rfl rfl m_M_inTime wd_852 rfl rfl (Nat.le_of_ble_eq_true rfl) ⟨by decide, by decide⟩ d_M_period_45 ?_
      obtain ⟨r48, h48, hF⟩ := g_bind hF
      refine j_si C (As := [.int r45]) (st := []) (c_M_ones (XL X) G r45 σ h48) m_M_ones wd_955 rfl rfl (Nat.le_of_ble_eq_true rfl) ⟨by decide, by decide⟩ d_M_period_48 ?_
      cases hF
      exact j_iret (st := []) C hr d_M_period_51 rfl rfl
    · refine j_aload_n C d_M_period_26 rfl 0 rfl ?_
      refine j_aload_n C d_M_period_27 rfl 0 rfl ?_
      refine g_M_now C (rfl : kdf 38 = 8) wd_673 d_M_period_28 ?_
      obtain ⟨r31, h31, hF⟩ := g_bind hF
      refine j_vv C (As := [rf G 43]) (st := []) (c_M_goOn (XL X) G 43 σ (rfl : kdf 43 = 15) h31) (rfl : kdf 38 = 8) (by decide) rfl rfl m_M_goOn wd_926 rfl rfl (Nat.le_of_ble_eq_true rfl) ⟨by decide, by decide⟩ d_M_period_31 ?_
      refine j_iinc C (v := x2 + (1 : Int32)) (lv' := [(2, .int (x2 + (1 : Int32))), (0, rf G 38), (1, .int x1)]) d_M_period_34 2 rfl rfl (by decide) rfl ?_
      refine j_goto C 21 d_M_period_37 (by decide) ?_
      refine j_sub C [(0, rf G 38), (1, .int x1), (2, .int (x2 + (1 : Int32)))] [1, 2, 0] rfl ?_
      exact ih x1 (x2 + (1 : Int32)) r31 hF
set_option maxHeartbeats 4000000 in
set_option maxRecDepth 100000 in
theorem c_M_period (l : Launch) (G : GT) (x1 : Int32) (σ : MT)  {z : (Int32 × MT)} (hF : f_M_period x1 σ = some z) : CTI l G y_M_period b_M_period 3 (some .int) 6 159 [rf G 38, .int x1] σ z.1 z.2 := by
  refine entX [(0, rf G 38), (1, .int x1)] "TimeFloodModel" (by decide +kernel) rfl rfl (Nat.le_of_ble_eq_true rfl) (fun X hXl hr C => ?_)
  unfold f_M_period at hF
  refine j_iload_n C d_M_period_0 rfl 1 rfl ?_
  refine j_i2l C d_M_period_1 ?_
  refine j_lconst C (v := 1) d_M_period_2 (by decide) ?_
  refine j_ldc2 C wd_921 d_M_period_3 ?_
  obtain ⟨r6, h6, hF⟩ := g_bind hF
  refine j_si C (As := [.long x1.toInt64, .long (1 : Int64), .long (99 : Int64)]) (st := []) (c_M_in (XL X) G x1.toInt64 (1 : Int64) (99 : Int64) σ h6) m_M_in wd_786 rfl rfl (Nat.le_of_ble_eq_true rfl) ⟨by decide, by decide⟩ d_M_period_6 ?_
  refine j_if_ne C 15 d_M_period_9 (by decide) hF (fun q9 hF => ?_) (fun q9 hF => ?_)
  · refine j_aload_n C d_M_period_15 rfl 0 rfl ?_
    obtain ⟨r16, h16, hF⟩ := g_bind hF
    refine j_vv C (As := []) (st := []) (c_M_note (XL X) G σ h16) (rfl : kdf 38 = 8) (by decide) rfl rfl m_M_note wd_922 rfl rfl (Nat.le_of_ble_eq_true rfl) ⟨by decide, by decide⟩ d_M_period_16 ?_
    refine j_iconst C (v := 0) d_M_period_19 (by decide) ?_
    refine j_istore_n C (lv' := [(2, .int (0 : Int32)), (0, rf G 38), (1, .int x1)]) d_M_period_20 rfl (by decide) rfl ?_
    refine j_sub C [(0, rf G 38), (1, .int x1), (2, .int (0 : Int32))] [1, 2, 0] rfl ?_
    exact b_M_period_21 C hr 1100 x1 (0 : Int32) r16 hF
  · refine j_bipush C (v := -2) d_M_period_12 (by decide) ?_
    cases hF
    exact j_iret (st := []) C hr d_M_period_14 rfl rfl
set_option maxHeartbeats 4000000 in
set_option maxRecDepth 100000 in
theorem b_M_turn_34 {X : XT} {G : GT} {z : (Int32 × MT)} (C : CX X G b_M_turn 2 "TimeFloodModel" 2 46) (hr : XR X (some .int)) (x1 : Int32) (σ : MT) (hF : f_M_turn_34 x1 σ = some z) : JW X G (QX X (PI G z.1 z.2) G) 2 34 [(0, rf G 38), (1, .int x1)] [] σ := by
  unfold f_M_turn_34 at hF
  refine j_aload_n C d_M_turn_34 rfl 0 rfl ?_
  refine g_M_now C (rfl : kdf 38 = 8) wd_673 d_M_turn_35 ?_
  refine j_bipush C (v := 95) d_M_turn_38 (by decide) ?_
  refine j_iload_n C d_M_turn_40 rfl 1 rfl ?_
  refine j_iadd C d_M_turn_41 ?_
  obtain ⟨q42, hF⟩ := g_if hF
  refine j_iald C (rfl : kdf 43 = 15) (by decide) rfl (inb_v q42) d_M_turn_42 ?_
  cases hF
  exact j_iret (st := []) C hr d_M_turn_43 rfl rfl
set_option maxHeartbeats 4000000 in
set_option maxRecDepth 100000 in
theorem c_M_turn (l : Launch) (G : GT) (x1 : Int32) (σ : MT)  {z : (Int32 × MT)} (hF : f_M_turn x1 σ = some z) : CTI l G y_M_turn b_M_turn 2 (some .int) 2 46 [rf G 38, .int x1] σ z.1 z.2 := by
  refine entX [(0, rf G 38), (1, .int x1)] "TimeFloodModel" (by decide +kernel) rfl rfl (Nat.le_of_ble_eq_true rfl) (fun X hXl hr C => ?_)
  unfold f_M_turn at hF
  refine j_aload_n C d_M_turn_0 rfl 0 rfl ?_
  refine j_iload_n C d_M_turn_1 rfl 1 rfl ?_
  obtain ⟨r2, h2, hF⟩ := g_bind hF
  refine j_vi C (As := [.int x1]) (st := []) (c_M_isLink (XL X) G x1 σ h2) (rfl : kdf 38 = 8) (by decide) rfl rfl m_M_isLink wd_913 rfl rfl (Nat.le_of_ble_eq_true rfl) ⟨by decide, by decide⟩ d_M_turn_2 ?_
  refine j_if_ne C 10 d_M_turn_5 (by decide) hF (fun q5 hF => ?_) (fun q5 hF => ?_)
  · refine j_aload_n C d_M_turn_10 rfl 0 rfl ?_
    obtain ⟨r11, h11, hF⟩ := g_bind hF
    refine j_vv C (As := []) (st := []) (c_M_note (XL X) G σ h11) (rfl : kdf 38 = 8) (by decide) rfl rfl m_M_note wd_922 rfl rfl (Nat.le_of_ble_eq_true rfl) ⟨by decide, by decide⟩ d_M_turn_11 ?_
    refine j_aload_n C d_M_turn_14 rfl 0 rfl ?_
    refine g_M_now C (rfl : kdf 38 = 8) wd_673 d_M_turn_15 ?_
    refine j_bipush C (v := 95) d_M_turn_18 (by decide) ?_
    refine j_iload_n C d_M_turn_20 rfl 1 rfl ?_
    refine j_iadd C d_M_turn_21 ?_
    refine j_iconst C (v := 1) d_M_turn_22 (by decide) ?_
    refine j_aload_n C d_M_turn_23 rfl 0 rfl ?_
    refine g_M_now C (rfl : kdf 38 = 8) wd_673 d_M_turn_24 ?_
    refine j_bipush C (v := 95) d_M_turn_27 (by decide) ?_
    refine j_iload_n C d_M_turn_29 rfl 1 rfl ?_
    refine j_iadd C d_M_turn_30 ?_
    obtain ⟨q31, hF⟩ := g_if hF
    refine j_iald C (rfl : kdf 43 = 15) (by decide) rfl (inb_v q31) d_M_turn_31 ?_
    refine j_isub C d_M_turn_32 ?_
    obtain ⟨q33, hF⟩ := g_if hF
    refine j_iast C (rfl : kdf 43 = 15) (by decide) (fun _ => rfl) (inb_v q33) d_M_turn_33 ?_
    exact b_M_turn_34 C hr x1 (sI r11 43 ((95 : Int32) + x1).toNatClampNeg ((1 : Int32) - (r11.1 43 ((95 : Int32) + x1).toNatClampNeg))) hF
  · refine j_iconst C (v := -1) d_M_turn_8 (by decide) ?_
    cases hF
    exact j_iret (st := []) C hr d_M_turn_9 rfl rfl
set_option maxHeartbeats 4000000 in
set_option maxRecDepth 100000 in
theorem c_M_powerOn (l : Launch) (G : GT) (k0 : Nat) (x1 : Int32) (σ : MT) (hk0 : kdf k0 = 15) {z : MT} (hF : f_M_powerOn k0 x1 σ = some z) : CTV l G y_M_powerOn b_M_powerOn 2 none 1 22 [rf G k0, .int x1] σ z := by
  refine entX [(0, rf G k0), (1, .int x1)] "TimeFloodModel" (by decide +kernel) rfl rfl (Nat.le_of_ble_eq_true rfl) (fun X hXl hr C => ?_)
  unfold f_M_powerOn at hF
  refine j_aload_n C d_M_powerOn_0 rfl 0 rfl ?_
  refine j_iload_n C d_M_powerOn_1 rfl 1 rfl ?_
  obtain ⟨r2, h2, hF⟩ := g_bind hF
  refine j_si C (As := [rf G k0, .int x1]) (st := []) (c_M_isOn (XL X) G k0 x1 σ hk0 h2) m_M_isOn wd_849 rfl rfl (Nat.le_of_ble_eq_true rfl) ⟨by decide, by decide⟩ d_M_powerOn_2 ?_
  refine j_if_eq C 20 d_M_powerOn_5 (by decide) hF (fun q5 hF => ?_) (fun q5 hF => ?_)
  · refine j_aload_n C d_M_powerOn_20 rfl 0 rfl ?_
    refine j_iload_n C d_M_powerOn_21 rfl 1 rfl ?_
    obtain ⟨r22, h22, hF⟩ := g_bind hF
    refine j_sv C (As := [rf G k0, .int x1]) (st := []) (c_M_first (XL X) G k0 x1 σ hk0 h22) m_M_first wd_838 rfl rfl (Nat.le_of_ble_eq_true rfl) ⟨by decide, by decide⟩ d_M_powerOn_22 ?_
    cases hF
    exact j_vret C hr d_M_powerOn_25 rfl
  · refine j_aload_n C d_M_powerOn_8 rfl 0 rfl ?_
    refine j_bipush C (v := 19) d_M_powerOn_9 (by decide) ?_
    refine j_iload_n C d_M_powerOn_11 rfl 1 rfl ?_
    refine j_imul C d_M_powerOn_12 ?_
    refine j_iconst C (v := 0) d_M_powerOn_13 (by decide) ?_
    refine j_iadd C d_M_powerOn_14 ?_
    refine j_iconst C (v := 0) d_M_powerOn_15 (by decide) ?_
    obtain ⟨q16, hF⟩ := g_if hF
    refine j_iast C hk0 (by decide) (fun _ => rfl) (inb_v q16) d_M_powerOn_16 ?_
    refine j_goto C 25 d_M_powerOn_17 (by decide) ?_
    cases hF
    exact j_vret C hr d_M_powerOn_25 rfl
set_option maxHeartbeats 4000000 in
set_option maxRecDepth 100000 in
theorem c_M_power (l : Launch) (G : GT) (x1 : Int32) (σ : MT)  {z : (Int32 × MT)} (hF : f_M_power x1 σ = some z) : CTI l G y_M_power b_M_power 2 (some .int) 2 46 [rf G 38, .int x1] σ z.1 z.2 := by
  refine entX [(0, rf G 38), (1, .int x1)] "TimeFloodModel" (by decide +kernel) rfl rfl (Nat.le_of_ble_eq_true rfl) (fun X hXl hr C => ?_)
  unfold f_M_power at hF
  refine j_aload_n C d_M_power_0 rfl 0 rfl ?_
  refine j_iload_n C d_M_power_1 rfl 1 rfl ?_
  obtain ⟨r2, h2, hF⟩ := g_bind hF
  refine j_vi C (As := [.int x1]) (st := []) (c_M_isNode (XL X) G x1 σ h2) (rfl : kdf 38 = 8) (by decide) rfl rfl m_M_isNode wd_894 rfl rfl (Nat.le_of_ble_eq_true rfl) ⟨by decide, by decide⟩ d_M_power_2 ?_
  refine j_if_ne C 10 d_M_power_5 (by decide) hF (fun q5 hF => ?_) (fun q5 hF => ?_)
  · refine j_aload_n C d_M_power_10 rfl 0 rfl ?_
    obtain ⟨r11, h11, hF⟩ := g_bind hF
    refine j_vv C (As := []) (st := []) (c_M_note (XL X) G σ h11) (rfl : kdf 38 = 8) (by decide) rfl rfl m_M_note wd_922 rfl rfl (Nat.le_of_ble_eq_true rfl) ⟨by decide, by decide⟩ d_M_power_11 ?_
    refine j_aload_n C d_M_power_14 rfl 0 rfl ?_
    refine g_M_now C (rfl : kdf 38 = 8) wd_673 d_M_power_15 ?_
    refine j_iload_n C d_M_power_18 rfl 1 rfl ?_
    obtain ⟨r19, h19, hF⟩ := g_bind hF
    refine j_sv C (As := [rf G 43, .int x1]) (st := []) (c_M_powerOn (XL X) G 43 x1 r11 (rfl : kdf 43 = 15) h19) m_M_powerOn wd_966 rfl rfl (Nat.le_of_ble_eq_true rfl) ⟨by decide, by decide⟩ d_M_power_19 ?_
    refine j_aload_n C d_M_power_22 rfl 0 rfl ?_
    refine g_M_now C (rfl : kdf 38 = 8) wd_673 d_M_power_23 ?_
    refine j_bipush C (v := 19) d_M_power_26 (by decide) ?_
    refine j_iload_n C d_M_power_28 rfl 1 rfl ?_
    refine j_imul C d_M_power_29 ?_
    refine j_iconst C (v := 0) d_M_power_30 (by decide) ?_
    refine j_iadd C d_M_power_31 ?_
    obtain ⟨q32, hF⟩ := g_if hF
    refine j_iald C (rfl : kdf 43 = 15) (by decide) rfl (inb_v q32) d_M_power_32 ?_
    cases hF
    exact j_iret (st := []) C hr d_M_power_33 rfl rfl
  · refine j_iconst C (v := -1) d_M_power_8 (by decide) ?_
    cases hF
    exact j_iret (st := []) C hr d_M_power_9 rfl rfl
set_option maxHeartbeats 4000000 in
set_option maxRecDepth 100000 in
theorem c_M_drift (l : Launch) (G : GT) (x1 : Int32) (x2 : Int32) (σ : MT)  {z : (Int32 × MT)} (hF : f_M_drift x1 x2 σ = some z) : CTI l G y_M_drift b_M_drift 3 (some .int) 3 70 [rf G 38, .int x1, .int x2] σ z.1 z.2 := by
  refine entX [(0, rf G 38), (1, .int x1), (2, .int x2)] "TimeFloodModel" (by decide +kernel) rfl rfl (Nat.le_of_ble_eq_true rfl) (fun X hXl hr C => ?_)
  unfold f_M_drift at hF
  refine j_aload_n C d_M_drift_0 rfl 0 rfl ?_
  refine j_iload_n C d_M_drift_1 rfl 1 rfl ?_
  obtain ⟨r2, h2, hF⟩ := g_bind hF
  refine j_vi C (As := [.int x1]) (st := []) (c_M_isNode (XL X) G x1 σ h2) (rfl : kdf 38 = 8) (by decide) rfl rfl m_M_isNode wd_894 rfl rfl (Nat.le_of_ble_eq_true rfl) ⟨by decide, by decide⟩ d_M_drift_2 ?_
  refine j_if_ne C 10 d_M_drift_5 (by decide) hF (fun q5 hF => ?_) (fun q5 hF => ?_)
  · refine j_iload_n C d_M_drift_10 rfl 2 rfl ?_
    refine j_i2l C d_M_drift_11 ?_
    refine j_ldc2 C wd_973 d_M_drift_12 ?_
    refine j_ldc2 C wd_974 d_M_drift_15 ?_
    obtain ⟨r18, h18, hF⟩ := g_bind hF
    refine j_si C (As := [.long x2.toInt64, .long (-4 : Int64), .long (5 : Int64)]) (st := []) (c_M_in (XL X) G x2.toInt64 (-4 : Int64) (5 : Int64) σ h18) m_M_in wd_786 rfl rfl (Nat.le_of_ble_eq_true rfl) ⟨by decide, by decide⟩ d_M_drift_18 ?_
    refine j_if_ne C 27 d_M_drift_21 (by decide) hF (fun q21 hF => ?_) (fun q21 hF => ?_)
    · refine j_aload_n C d_M_drift_27 rfl 0 rfl ?_
      obtain ⟨r28, h28, hF⟩ := g_bind hF
      refine j_vv C (As := []) (st := []) (c_M_note (XL X) G σ h28) (rfl : kdf 38 = 8) (by decide) rfl rfl m_M_note wd_922 rfl rfl (Nat.le_of_ble_eq_true rfl) ⟨by decide, by decide⟩ d_M_drift_28 ?_
      refine j_aload_n C d_M_drift_31 rfl 0 rfl ?_
      refine g_M_now C (rfl : kdf 38 = 8) wd_673 d_M_drift_32 ?_
      refine j_bipush C (v := 19) d_M_drift_35 (by decide) ?_
      refine j_iload_n C d_M_drift_37 rfl 1 rfl ?_
      refine j_imul C d_M_drift_38 ?_
      refine j_iconst C (v := 1) d_M_drift_39 (by decide) ?_
      refine j_iadd C d_M_drift_40 ?_
      refine j_iload_n C d_M_drift_41 rfl 2 rfl ?_
      obtain ⟨q42, hF⟩ := g_if hF
      refine j_iast C (rfl : kdf 43 = 15) (by decide) (fun _ => rfl) (inb_v q42) d_M_drift_42 ?_
      refine j_aload_n C d_M_drift_43 rfl 0 rfl ?_
      refine j_aload_n C d_M_drift_44 rfl 0 rfl ?_
      refine g_M_now C (rfl : kdf 38 = 8) wd_673 d_M_drift_45 ?_
      refine j_iload_n C d_M_drift_48 rfl 1 rfl ?_
      obtain ⟨r49, h49, hF⟩ := g_bind hF
      refine j_vi C (As := [rf G 43, .int x1]) (st := []) (c_M_clockOf (XL X) G 43 x1 (sI r28 43 (((19 : Int32) * x1) + (1 : Int32)).toNatClampNeg x2) (rfl : kdf 43 = 15) h49) (rfl : kdf 38 = 8) (by decide) rfl rfl m_M_clockOf wd_864 rfl rfl (Nat.le_of_ble_eq_true rfl) ⟨by decide, by decide⟩ d_M_drift_49 ?_
      cases hF
      exact j_iret (st := []) C hr d_M_drift_52 rfl rfl
    · refine j_bipush C (v := -2) d_M_drift_24 (by decide) ?_
      cases hF
      exact j_iret (st := []) C hr d_M_drift_26 rfl rfl
  · refine j_iconst C (v := -1) d_M_drift_8 (by decide) ?_
    cases hF
    exact j_iret (st := []) C hr d_M_drift_9 rfl rfl
set_option maxHeartbeats 4000000 in
set_option maxRecDepth 100000 in
theorem b_M_undo_64 {X : XT} {G : GT} {z : (Int32 × MT)} {K38 : Int32 → MT → Option (Int32 × MT)} (C : CX X G b_M_undo 2 "TimeFloodModel" 0 0) (hr : XR X (some .int)) (hK38 : ∀ (x1 : Int32) (σ : MT), K38 x1 σ = some z → JW X G (QX X (PI G z.1 z.2) G) 2 38 [(0, rf G 38), (1, .int x1)] [] σ) (x1 : Int32) (σ : MT) (hF : f_M_undo_64 K38 x1 σ = some z) : JW X G (QX X (PI G z.1 z.2) G) 2 64 [(0, rf G 38), (1, .int x1)] [] σ := by
  unfold f_M_undo_64 at hF
  refine j_iinc C (v := x1 + (1 : Int32)) (lv' := [(1, .int (x1 + (1 : Int32))), (0, rf G 38)]) d_M_undo_64 1 rfl rfl (by decide) rfl ?_
  refine j_goto C 38 d_M_undo_67 (by decide) ?_
  refine j_sub C [(0, rf G 38), (1, .int (x1 + (1 : Int32)))] [1, 0] rfl ?_
  exact hK38 (x1 + (1 : Int32)) σ hF
set_option maxHeartbeats 4000000 in
set_option maxRecDepth 100000 in
theorem b_M_undo_38 {X : XT} {G : GT} {z : (Int32 × MT)} (C : CX X G b_M_undo 2 "TimeFloodModel" 0 0) (hr : XR X (some .int)) : ∀ (n : Nat) (x1 : Int32) (σ : MT), f_M_undo_38 n x1 σ = some z → JW X G (QX X (PI G z.1 z.2) G) 2 38 [(0, rf G 38), (1, .int x1)] [] σ := by
  intro n
  induction n with
  | zero =>
    intro x1 σ hF
    rw [f_M_undo_38] at hF
    cases hF
  | succ n ih =>
    intro x1 σ hF
    rw [f_M_undo_38] at hF
    refine j_iload_n C d_M_undo_38 rfl 1 rfl ?_
    refine j_bipush C (v := 103) d_M_undo_39 (by decide) ?_
    refine j_icmp_ge C 70 d_M_undo_41 (by decide) hF (fun q41 hF => ?_) (fun q41 hF => ?_)
    · refine j_aload_n C d_M_undo_70 rfl 0 rfl ?_
      refine g_M_acts C (rfl : kdf 38 = 8) wd_676 d_M_undo_71 ?_
      cases hF
      exact j_iret (st := []) C hr d_M_undo_74 rfl rfl
    · refine j_aload_n C d_M_undo_44 rfl 0 rfl ?_
      refine g_M_now C (rfl : kdf 38 = 8) wd_673 d_M_undo_45 ?_
      refine j_iload_n C d_M_undo_48 rfl 1 rfl ?_
      refine j_aload_n C d_M_undo_49 rfl 0 rfl ?_
      refine g_M_diary C (rfl : kdf 38 = 8) wd_675 d_M_undo_50 ?_
      refine j_bipush C (v := 103) d_M_undo_53 (by decide) ?_
      refine j_aload_n C d_M_undo_55 rfl 0 rfl ?_
      refine g_M_next C (rfl : kdf 38 = 8) wd_677 d_M_undo_56 ?_
      refine j_imul C d_M_undo_59 ?_
      refine j_iload_n C d_M_undo_60 rfl 1 rfl ?_
      refine j_iadd C d_M_undo_61 ?_
      obtain ⟨q62, hF⟩ := g_if hF
      refine j_iald C (rfl : kdf 45 = 16) (by decide) rfl (inb_v q62) d_M_undo_62 ?_
      obtain ⟨q63, hF⟩ := g_if hF
      refine j_iast C (rfl : kdf 43 = 15) (by decide) (fun _ => rfl) (inb_v q63) d_M_undo_63 ?_
      exact b_M_undo_64 C hr ih x1 (sI σ 43 x1.toNatClampNeg (σ.1 45 (((103 : Int32) * (σ.1 38 14)) + x1).toNatClampNeg)) hF
set_option maxHeartbeats 4000000 in
set_option maxRecDepth 100000 in
theorem b_M_undo_36 {X : XT} {G : GT} {z : (Int32 × MT)} (C : CX X G b_M_undo 2 "TimeFloodModel" 0 0) (hr : XR X (some .int)) (σ : MT) (hF : f_M_undo_36 σ = some z) : JW X G (QX X (PI G z.1 z.2) G) 2 36 [(0, rf G 38)] [] σ := by
  unfold f_M_undo_36 at hF
  refine j_iconst C (v := 0) d_M_undo_36 (by decide) ?_
  refine j_istore_n C (lv' := [(1, .int (0 : Int32)), (0, rf G 38)]) d_M_undo_37 rfl (by decide) rfl ?_
  refine j_sub C [(0, rf G 38), (1, .int (0 : Int32))] [1, 0] rfl ?_
  exact b_M_undo_38 C hr 1100 (0 : Int32) σ hF
set_option maxHeartbeats 4000000 in
set_option maxRecDepth 100000 in
theorem c_M_undo (l : Launch) (G : GT) (σ : MT)  {z : (Int32 × MT)} (hF : f_M_undo σ = some z) : CTI l G y_M_undo b_M_undo 2 (some .int) 0 0 [rf G 38] σ z.1 z.2 := by
  refine entX [(0, rf G 38)] "TimeFloodModel" (by decide +kernel) rfl rfl (Nat.le_of_ble_eq_true rfl) (fun X hXl hr C => ?_)
  unfold f_M_undo at hF
  refine j_aload_n C d_M_undo_0 rfl 0 rfl ?_
  refine g_M_acts C (rfl : kdf 38 = 8) wd_676 d_M_undo_1 ?_
  refine j_if_ne C 10 d_M_undo_4 (by decide) hF (fun q4 hF => ?_) (fun q4 hF => ?_)
  · refine j_aload_n C d_M_undo_10 rfl 0 rfl ?_
    refine j_dup C d_M_undo_11 rfl ?_
    refine g_M_acts C (rfl : kdf 38 = 8) wd_676 d_M_undo_12 ?_
    refine j_iconst C (v := 1) d_M_undo_15 (by decide) ?_
    refine j_isub C d_M_undo_16 ?_
    refine p_M_acts C (rfl : kdf 38 = 8) wd_676 d_M_undo_17 ?_
    refine j_aload_n C d_M_undo_20 rfl 0 rfl ?_
    refine j_aload_n C d_M_undo_21 rfl 0 rfl ?_
    refine g_M_next C (rfl : kdf 38 = 8) wd_677 d_M_undo_22 ?_
    refine j_bipush C (v := 14) d_M_undo_25 (by decide) ?_
    refine j_iadd C d_M_undo_27 ?_
    refine j_iconst C (v := 1) d_M_undo_28 (by decide) ?_
    refine j_isub C d_M_undo_29 ?_
    refine j_bipush C (v := 14) d_M_undo_30 (by decide) ?_
    refine j_irem C d_M_undo_32 (by decide) ?_
    refine p_M_next C (rfl : kdf 38 = 8) wd_677 d_M_undo_33 ?_
    exact b_M_undo_36 C hr (sI (sI σ 38 13 ((σ.1 38 13) - (1 : Int32))) 38 14 (((((sI σ 38 13 ((σ.1 38 13) - (1 : Int32))).1 38 14) + (14 : Int32)) - (1 : Int32)) - ((((sI σ 38 13 ((σ.1 38 13) - (1 : Int32))).1 38 14) + (14 : Int32)) - (1 : Int32)) / (14 : Int32) * (14 : Int32))) hF
  · refine j_bipush C (v := -3) d_M_undo_7 (by decide) ?_
    cases hF
    exact j_iret (st := []) C hr d_M_undo_9 rfl rfl
set_option maxHeartbeats 4000000 in
set_option maxRecDepth 100000 in
theorem c_M_ahead (l : Launch) (G : GT) (x1 : Int32) (x2 : Int32) (x3 : Int32) (σ : MT)  {z : (Int32 × MT)} (hF : f_M_ahead x1 x2 x3 σ = some z) : CTI l G y_M_ahead b_M_ahead 4 (some .int) 7 180 [rf G 38, .int x1, .int x2, .int x3] σ z.1 z.2 := by
  refine entX [(0, rf G 38), (1, .int x1), (2, .int x2), (3, .int x3)] "TimeFloodModel" (by decide +kernel) rfl rfl (Nat.le_of_ble_eq_true rfl) (fun X hXl hr C => ?_)
  unfold f_M_ahead at hF
  refine j_aload_n C d_M_ahead_0 rfl 0 rfl ?_
  refine j_iload_n C d_M_ahead_1 rfl 2 rfl ?_
  obtain ⟨r2, h2, hF⟩ := g_bind hF
  refine j_vi C (As := [.int x2]) (st := []) (c_M_isNode (XL X) G x2 σ h2) (rfl : kdf 38 = 8) (by decide) rfl rfl m_M_isNode wd_894 rfl rfl (Nat.le_of_ble_eq_true rfl) ⟨by decide, by decide⟩ d_M_ahead_2 ?_
  refine j_if_ne C 10 d_M_ahead_5 (by decide) hF (fun q5 hF => ?_) (fun q5 hF => ?_)
  · refine j_iload_n C d_M_ahead_10 rfl 1 rfl ?_
    refine j_i2l C d_M_ahead_11 ?_
    refine j_lconst C (v := 0) d_M_ahead_12 (by decide) ?_
    refine j_ldc2 C wd_921 d_M_ahead_13 ?_
    obtain ⟨r16, h16, hF⟩ := g_bind hF
    refine j_si C (As := [.long x1.toInt64, .long (0 : Int64), .long (99 : Int64)]) (st := []) (c_M_in (XL X) G x1.toInt64 (0 : Int64) (99 : Int64) σ h16) m_M_in wd_786 rfl rfl (Nat.le_of_ble_eq_true rfl) ⟨by decide, by decide⟩ d_M_ahead_16 ?_
    refine j_if_eq C 36 d_M_ahead_19 (by decide) hF (fun q19 hF => ?_) (fun q19 hF => ?_)
    · refine j_bipush C (v := -2) d_M_ahead_36 (by decide) ?_
      cases hF
      exact j_iret (st := []) C hr d_M_ahead_38 rfl rfl
    · refine j_iload_n C d_M_ahead_22 rfl 3 rfl ?_
      refine j_i2l C d_M_ahead_23 ?_
      refine j_ldc2 C wd_908 d_M_ahead_24 ?_
      refine j_ldc2 C wd_903 d_M_ahead_27 ?_
      obtain ⟨r30, h30, hF⟩ := g_bind hF
      refine j_si C (As := [.long x3.toInt64, .long (2 : Int64), .long (10 : Int64)]) (st := []) (c_M_in (XL X) G x3.toInt64 (2 : Int64) (10 : Int64) σ h30) m_M_in wd_786 rfl rfl (Nat.le_of_ble_eq_true rfl) ⟨by decide, by decide⟩ d_M_ahead_30 ?_
      refine j_if_ne C 39 d_M_ahead_33 (by decide) hF (fun q33 hF => ?_) (fun q33 hF => ?_)
      · refine j_aload_n C d_M_ahead_39 rfl 0 rfl ?_
        refine g_M_now C (rfl : kdf 38 = 8) wd_673 d_M_ahead_40 ?_
        refine j_aload_n C d_M_ahead_43 rfl 0 rfl ?_
        refine g_M_trial C (rfl : kdf 38 = 8) wd_674 d_M_ahead_44 ?_
        obtain ⟨r47, h47, hF⟩ := g_bind hF
        refine j_sv C (As := [rf G 43, rf G 44]) (st := []) (c_M_copy (XL X) G 43 44 σ (rfl : kdf 43 = 15) (rfl : kdf 44 = 15) h47) m_M_copy wd_983 rfl rfl (Nat.le_of_ble_eq_true rfl) ⟨by decide, by decide⟩ d_M_ahead_47 ?_
        refine j_aload_n C d_M_ahead_50 rfl 0 rfl ?_
        refine j_iload_n C d_M_ahead_51 rfl 1 rfl ?_
        obtain ⟨r52, h52, hF⟩ := g_bind hF
        refine j_vv C (As := [.int x1]) (st := []) (c_M_tryPeriods (XL X) G x1 r47 h52) (rfl : kdf 38 = 8) (by decide) rfl rfl m_M_tryPeriods wd_986 rfl rfl (Nat.le_of_ble_eq_true rfl) ⟨by decide, by decide⟩ d_M_ahead_52 ?_
        refine j_aload_n C d_M_ahead_55 rfl 0 rfl ?_
        refine j_aload_n C d_M_ahead_56 rfl 0 rfl ?_
        refine g_M_trial C (rfl : kdf 38 = 8) wd_674 d_M_ahead_57 ?_
        refine j_iload_n C d_M_ahead_60 rfl 2 rfl ?_
        refine j_iload_n C d_M_ahead_61 rfl 3 rfl ?_
        obtain ⟨r62, h62, hF⟩ := g_bind hF
        refine j_vi C (As := [rf G 44, .int x2, .int x3]) (st := []) (c_M_tell (XL X) G 44 x2 x3 r52 (rfl : kdf 44 = 15) h62) (rfl : kdf 38 = 8) (by decide) rfl rfl m_M_tell wd_898 rfl rfl (Nat.le_of_ble_eq_true rfl) ⟨by decide, by decide⟩ d_M_ahead_62 ?_
        cases hF
        exact j_iret (st := []) C hr d_M_ahead_65 rfl rfl
      · refine j_bipush C (v := -2) d_M_ahead_36 (by decide) ?_
        cases hF
        exact j_iret (st := []) C hr d_M_ahead_38 rfl rfl
  · refine j_iconst C (v := -1) d_M_ahead_8 (by decide) ?_
    cases hF
    exact j_iret (st := []) C hr d_M_ahead_9 rfl rfl
set_option maxHeartbeats 4000000 in
set_option maxRecDepth 100000 in
theorem b_M_agree_13 {X : XT} {G : GT} {z : (Int32 × MT)} (C : CX X G b_M_agree 2 "TimeFloodModel" 6 158) (hr : XR X (some .int)) : ∀ (n : Nat) (x1 : Int32) (σ : MT), f_M_agree_13 n x1 σ = some z → JW X G (QX X (PI G z.1 z.2) G) 2 13 [(0, rf G 38), (1, .int x1)] [] σ := by
  intro n
  induction n with
  | zero =>
    intro x1 σ hF
    rw [f_M_agree_13] at hF
    cases hF
  | succ n ih =>
    intro x1 σ hF
    rw [f_M_agree_13] at hF
    refine j_iload_n C d_M_agree_13 rfl 1 rfl ?_
    refine j_bipush C (v := 60) d_M_agree_14 (by decide) ?_
    refine j_icmp_gt C 46 d_M_agree_16 (by decide) hF (fun q16 hF => ?_) (fun q16 hF => ?_)
    · refine j_bipush C (v := -9) d_M_agree_46 (by decide) ?_
      cases hF
      exact j_iret (st := []) C hr d_M_agree_48 rfl rfl
    · refine j_aload_n C d_M_agree_19 rfl 0 rfl ?_
      refine j_aload_n C d_M_agree_20 rfl 0 rfl ?_
      refine g_M_trial C (rfl : kdf 38 = 8) wd_674 d_M_agree_21 ?_
      obtain ⟨r24, h24, hF⟩ := g_bind hF
      refine j_vi C (As := [rf G 44]) (st := []) (c_M_isOne (XL X) G 44 σ (rfl : kdf 44 = 15) h24) (rfl : kdf 38 = 8) (by decide) rfl rfl m_M_isOne wd_886 rfl rfl (Nat.le_of_ble_eq_true rfl) ⟨by decide, by decide⟩ d_M_agree_24 ?_
      refine j_if_eq C 32 d_M_agree_27 (by decide) hF (fun q27 hF => ?_) (fun q27 hF => ?_)
      · refine j_aload_n C d_M_agree_32 rfl 0 rfl ?_
        refine j_aload_n C d_M_agree_33 rfl 0 rfl ?_
        refine g_M_trial C (rfl : kdf 38 = 8) wd_674 d_M_agree_34 ?_
        obtain ⟨r37, h37, hF⟩ := g_bind hF
        refine j_vv C (As := [rf G 44]) (st := []) (c_M_goOn (XL X) G 44 σ (rfl : kdf 44 = 15) h37) (rfl : kdf 38 = 8) (by decide) rfl rfl m_M_goOn wd_926 rfl rfl (Nat.le_of_ble_eq_true rfl) ⟨by decide, by decide⟩ d_M_agree_37 ?_
        refine j_iinc C (v := x1 + (1 : Int32)) (lv' := [(1, .int (x1 + (1 : Int32))), (0, rf G 38)]) d_M_agree_40 1 rfl rfl (by decide) rfl ?_
        refine j_goto C 13 d_M_agree_43 (by decide) ?_
        refine j_sub C [(0, rf G 38), (1, .int (x1 + (1 : Int32)))] [1, 0] rfl ?_
        exact ih (x1 + (1 : Int32)) r37 hF
      · refine j_iload_n C d_M_agree_30 rfl 1 rfl ?_
        cases hF
        exact j_iret (st := []) C hr d_M_agree_31 rfl rfl
set_option maxHeartbeats 4000000 in
set_option maxRecDepth 100000 in
theorem c_M_agree (l : Launch) (G : GT) (σ : MT)  {z : (Int32 × MT)} (hF : f_M_agree σ = some z) : CTI l G y_M_agree b_M_agree 2 (some .int) 6 158 [rf G 38] σ z.1 z.2 := by
  refine entX [(0, rf G 38)] "TimeFloodModel" (by decide +kernel) rfl rfl (Nat.le_of_ble_eq_true rfl) (fun X hXl hr C => ?_)
  unfold f_M_agree at hF
  refine j_aload_n C d_M_agree_0 rfl 0 rfl ?_
  refine g_M_now C (rfl : kdf 38 = 8) wd_673 d_M_agree_1 ?_
  refine j_aload_n C d_M_agree_4 rfl 0 rfl ?_
  refine g_M_trial C (rfl : kdf 38 = 8) wd_674 d_M_agree_5 ?_
  obtain ⟨r8, h8, hF⟩ := g_bind hF
  refine j_sv C (As := [rf G 43, rf G 44]) (st := []) (c_M_copy (XL X) G 43 44 σ (rfl : kdf 43 = 15) (rfl : kdf 44 = 15) h8) m_M_copy wd_983 rfl rfl (Nat.le_of_ble_eq_true rfl) ⟨by decide, by decide⟩ d_M_agree_8 ?_
  refine j_iconst C (v := 0) d_M_agree_11 (by decide) ?_
  refine j_istore_n C (lv' := [(1, .int (0 : Int32)), (0, rf G 38)]) d_M_agree_12 rfl (by decide) rfl ?_
  refine j_sub C [(0, rf G 38), (1, .int (0 : Int32))] [1, 0] rfl ?_
  exact b_M_agree_13 C hr 1100 (0 : Int32) r8 hF
set_option maxHeartbeats 4000000 in
set_option maxRecDepth 100000 in
theorem b_M_judged_99 {X : XT} {G : GT} {z : (Int32 × MT)} (C : CX X G b_M_judged 4 "TimeFloodModel" 7 180) (hr : XR X (some .boolean)) (σ : MT) (hF : f_M_judged_99 σ = some z) : JW X G (QX X (PI G z.1 z.2) G) 4 99 [] [] σ := by
  unfold f_M_judged_99 at hF
  refine j_iconst C (v := 1) d_M_judged_99 (by decide) ?_
  cases hF
  exact j_zret (st := []) C hr rfl d_M_judged_100 rfl rfl
set_option maxHeartbeats 4000000 in
set_option maxRecDepth 100000 in
theorem c_M_judged (l : Launch) (G : GT) (x1 : Int32) (x2 : Int32) (x3 : Int32) (σ : MT)  {z : (Int32 × MT)} (hF : f_M_judged x1 x2 x3 σ = some z) : CTI l G y_M_judged b_M_judged 4 (some .boolean) 7 180 [rf G 38, .int x1, .int x2, .int x3] σ z.1 z.2 := by
  refine entX [(0, rf G 38), (1, .int x1), (2, .int x2), (3, .int x3)] "TimeFloodModel" (by decide +kernel) rfl rfl (Nat.le_of_ble_eq_true rfl) (fun X hXl hr C => ?_)
  unfold f_M_judged at hF
  refine j_iload_n C d_M_judged_0 rfl 1 rfl ?_
  refine g_ite hF (fun q hF => ?_) (fun q1_0 hF => ?_)
  · refine j_tabIn C 40 q d_M_judged_1 (by decide) (by decide) (off := 39) rfl (by decide) ?_
    refine j_aload_n C d_M_judged_40 rfl 0 rfl ?_
    refine j_bipush C (v := 10) d_M_judged_41 (by decide) ?_
    refine j_iload_n C d_M_judged_43 rfl 2 rfl ?_
    refine j_imul C d_M_judged_44 ?_
    refine j_iload_n C d_M_judged_45 rfl 3 rfl ?_
    refine j_iadd C d_M_judged_46 ?_
    obtain ⟨r47, h47, hF⟩ := g_bind hF
    refine j_vv C (As := [.int (((10 : Int32) * x2) + x3)]) (st := []) (c_M_tryPeriods (XL X) G (((10 : Int32) * x2) + x3) σ h47) (rfl : kdf 38 = 8) (by decide) rfl rfl m_M_tryPeriods wd_986 rfl rfl (Nat.le_of_ble_eq_true rfl) ⟨by decide, by decide⟩ d_M_judged_47 ?_
    refine j_bipush C (v := 10) d_M_judged_50 (by decide) ?_
    refine j_iload_n C d_M_judged_52 rfl 2 rfl ?_
    refine j_imul C d_M_judged_53 ?_
    refine j_iload_n C d_M_judged_54 rfl 3 rfl ?_
    refine j_iadd C d_M_judged_55 ?_
    refine j_if_le C 63 d_M_judged_56 (by decide) hF (fun q56 hF => ?_) (fun q56 hF => ?_)
    · refine j_iconst C (v := 0) d_M_judged_63 (by decide) ?_
      cases hF
      exact j_zret (st := []) C hr rfl d_M_judged_64 rfl rfl
    · refine j_iconst C (v := 1) d_M_judged_59 (by decide) ?_
      refine j_goto C 64 d_M_judged_60 (by decide) ?_
      cases hF
      exact j_zret (st := []) C hr rfl d_M_judged_64 rfl rfl
  refine g_ite hF (fun q hF => ?_) (fun q1_1 hF => ?_)
  · refine j_tabIn C 65 q d_M_judged_1 (by decide) (by decide) (off := 64) rfl (by decide) ?_
    refine j_iload_n C d_M_judged_65 rfl 2 rfl ?_
    refine j_if_ne C 77 d_M_judged_66 (by decide) hF (fun q66 hF => ?_) (fun q66 hF => ?_)
    · refine j_iconst C (v := 0) d_M_judged_77 (by decide) ?_
      cases hF
      exact j_zret (st := []) C hr rfl d_M_judged_78 rfl rfl
    · refine j_aload_n C d_M_judged_69 rfl 0 rfl ?_
      refine j_iload_n C d_M_judged_70 rfl 3 rfl ?_
      obtain ⟨r71, h71, hF⟩ := g_bind hF
      refine j_vi C (As := [.int x3]) (st := []) (c_M_isLink (XL X) G x3 σ h71) (rfl : kdf 38 = 8) (by decide) rfl rfl m_M_isLink wd_913 rfl rfl (Nat.le_of_ble_eq_true rfl) ⟨by decide, by decide⟩ d_M_judged_71 ?_
      refine j_if_ne C 79 d_M_judged_74 (by decide) hF (fun q74 hF => ?_) (fun q74 hF => ?_)
      · refine j_aload_n C d_M_judged_79 rfl 0 rfl ?_
        refine g_M_trial C (rfl : kdf 38 = 8) wd_674 d_M_judged_80 ?_
        refine j_bipush C (v := 95) d_M_judged_83 (by decide) ?_
        refine j_iload_n C d_M_judged_85 rfl 3 rfl ?_
        refine j_iadd C d_M_judged_86 ?_
        refine j_iconst C (v := 1) d_M_judged_87 (by decide) ?_
        refine j_aload_n C d_M_judged_88 rfl 0 rfl ?_
        refine g_M_trial C (rfl : kdf 38 = 8) wd_674 d_M_judged_89 ?_
        refine j_bipush C (v := 95) d_M_judged_92 (by decide) ?_
        refine j_iload_n C d_M_judged_94 rfl 3 rfl ?_
        refine j_iadd C d_M_judged_95 ?_
        obtain ⟨q96, hF⟩ := g_if hF
        refine j_iald C (rfl : kdf 44 = 15) (by decide) rfl (inb_v q96) d_M_judged_96 ?_
        refine j_isub C d_M_judged_97 ?_
        obtain ⟨q98, hF⟩ := g_if hF
        refine j_iast C (rfl : kdf 44 = 15) (by decide) (fun _ => rfl) (inb_v q98) d_M_judged_98 ?_
        refine j_sub C [] [] rfl ?_
        exact b_M_judged_99 C hr (sI σ 44 ((95 : Int32) + x3).toNatClampNeg ((1 : Int32) - (σ.1 44 ((95 : Int32) + x3).toNatClampNeg))) hF
      · refine j_iconst C (v := 0) d_M_judged_77 (by decide) ?_
        cases hF
        exact j_zret (st := []) C hr rfl d_M_judged_78 rfl rfl
  refine g_ite hF (fun q hF => ?_) (fun q1_2 hF => ?_)
  · refine j_tabIn C 101 q d_M_judged_1 (by decide) (by decide) (off := 100) rfl (by decide) ?_
    refine j_iload_n C d_M_judged_101 rfl 2 rfl ?_
    refine j_if_ne C 113 d_M_judged_102 (by decide) hF (fun q102 hF => ?_) (fun q102 hF => ?_)
    · refine j_iconst C (v := 0) d_M_judged_113 (by decide) ?_
      cases hF
      exact j_zret (st := []) C hr rfl d_M_judged_114 rfl rfl
    · refine j_aload_n C d_M_judged_105 rfl 0 rfl ?_
      refine j_iload_n C d_M_judged_106 rfl 3 rfl ?_
      obtain ⟨r107, h107, hF⟩ := g_bind hF
      refine j_vi C (As := [.int x3]) (st := []) (c_M_isNode (XL X) G x3 σ h107) (rfl : kdf 38 = 8) (by decide) rfl rfl m_M_isNode wd_894 rfl rfl (Nat.le_of_ble_eq_true rfl) ⟨by decide, by decide⟩ d_M_judged_107 ?_
      refine j_if_ne C 115 d_M_judged_110 (by decide) hF (fun q110 hF => ?_) (fun q110 hF => ?_)
      · refine j_aload_n C d_M_judged_115 rfl 0 rfl ?_
        refine g_M_trial C (rfl : kdf 38 = 8) wd_674 d_M_judged_116 ?_
        refine j_iload_n C d_M_judged_119 rfl 3 rfl ?_
        obtain ⟨r120, h120, hF⟩ := g_bind hF
        refine j_sv C (As := [rf G 44, .int x3]) (st := []) (c_M_powerOn (XL X) G 44 x3 σ (rfl : kdf 44 = 15) h120) m_M_powerOn wd_966 rfl rfl (Nat.le_of_ble_eq_true rfl) ⟨by decide, by decide⟩ d_M_judged_120 ?_
        refine j_iconst C (v := 1) d_M_judged_123 (by decide) ?_
        cases hF
        exact j_zret (st := []) C hr rfl d_M_judged_124 rfl rfl
      · refine j_iconst C (v := 0) d_M_judged_113 (by decide) ?_
        cases hF
        exact j_zret (st := []) C hr rfl d_M_judged_114 rfl rfl
  refine g_ite hF (fun q hF => ?_) (fun q1_3 hF => ?_)
  · refine j_tabIn C 125 q d_M_judged_1 (by decide) (by decide) (off := 124) rfl (by decide) ?_
    refine j_aload_n C d_M_judged_125 rfl 0 rfl ?_
    refine j_iload_n C d_M_judged_126 rfl 2 rfl ?_
    obtain ⟨r127, h127, hF⟩ := g_bind hF
    refine j_vi C (As := [.int x2]) (st := []) (c_M_isNode (XL X) G x2 σ h127) (rfl : kdf 38 = 8) (by decide) rfl rfl m_M_isNode wd_894 rfl rfl (Nat.le_of_ble_eq_true rfl) ⟨by decide, by decide⟩ d_M_judged_127 ?_
    refine j_if_eq C 171 d_M_judged_130 (by decide) hF (fun q130 hF => ?_) (fun q130 hF => ?_)
    · refine j_iconst C (v := 0) d_M_judged_171 (by decide) ?_
      cases hF
      exact j_zret (st := []) C hr rfl d_M_judged_172 rfl rfl
    · refine j_aload_n C d_M_judged_133 rfl 0 rfl ?_
      refine j_iload_n C d_M_judged_134 rfl 3 rfl ?_
      obtain ⟨r135, h135, hF⟩ := g_bind hF
      refine j_vi C (As := [.int x3]) (st := []) (c_M_isNode (XL X) G x3 σ h135) (rfl : kdf 38 = 8) (by decide) rfl rfl m_M_isNode wd_894 rfl rfl (Nat.le_of_ble_eq_true rfl) ⟨by decide, by decide⟩ d_M_judged_135 ?_
      refine j_if_eq C 171 d_M_judged_138 (by decide) hF (fun q138 hF => ?_) (fun q138 hF => ?_)
      · refine j_iconst C (v := 0) d_M_judged_171 (by decide) ?_
        cases hF
        exact j_zret (st := []) C hr rfl d_M_judged_172 rfl rfl
      · refine j_aload_n C d_M_judged_141 rfl 0 rfl ?_
        refine g_M_trial C (rfl : kdf 38 = 8) wd_674 d_M_judged_142 ?_
        refine j_iload_n C d_M_judged_145 rfl 2 rfl ?_
        obtain ⟨r146, h146, hF⟩ := g_bind hF
        refine j_si C (As := [rf G 44, .int x2]) (st := []) (c_M_isOn (XL X) G 44 x2 σ (rfl : kdf 44 = 15) h146) m_M_isOn wd_849 rfl rfl (Nat.le_of_ble_eq_true rfl) ⟨by decide, by decide⟩ d_M_judged_146 ?_
        refine j_if_eq C 171 d_M_judged_149 (by decide) hF (fun q149 hF => ?_) (fun q149 hF => ?_)
        · refine j_iconst C (v := 0) d_M_judged_171 (by decide) ?_
          cases hF
          exact j_zret (st := []) C hr rfl d_M_judged_172 rfl rfl
        · refine j_aload_n C d_M_judged_152 rfl 0 rfl ?_
          refine g_M_trial C (rfl : kdf 38 = 8) wd_674 d_M_judged_153 ?_
          refine j_bipush C (v := 19) d_M_judged_156 (by decide) ?_
          refine j_iload_n C d_M_judged_158 rfl 2 rfl ?_
          refine j_imul C d_M_judged_159 ?_
          refine j_iconst C (v := 2) d_M_judged_160 (by decide) ?_
          refine j_iadd C d_M_judged_161 ?_
          obtain ⟨q162, hF⟩ := g_if hF
          refine j_iald C (rfl : kdf 44 = 15) (by decide) rfl (inb_v q162) d_M_judged_162 ?_
          refine j_iload_n C d_M_judged_163 rfl 3 rfl ?_
          refine j_icmp_ne C 171 d_M_judged_164 (by decide) hF (fun q164 hF => ?_) (fun q164 hF => ?_)
          · refine j_iconst C (v := 0) d_M_judged_171 (by decide) ?_
            cases hF
            exact j_zret (st := []) C hr rfl d_M_judged_172 rfl rfl
          · refine j_iconst C (v := 1) d_M_judged_167 (by decide) ?_
            refine j_goto C 172 d_M_judged_168 (by decide) ?_
            cases hF
            exact j_zret (st := []) C hr rfl d_M_judged_172 rfl rfl
  refine g_ite hF (fun q hF => ?_) (fun q1_4 hF => ?_)
  · refine j_tabIn C 173 q d_M_judged_1 (by decide) (by decide) (off := 172) rfl (by decide) ?_
    refine j_iload_n C d_M_judged_173 rfl 2 rfl ?_
    refine j_if_ne C 204 d_M_judged_174 (by decide) hF (fun q174 hF => ?_) (fun q174 hF => ?_)
    · refine j_iconst C (v := 0) d_M_judged_204 (by decide) ?_
      cases hF
      exact j_zret (st := []) C hr rfl d_M_judged_205 rfl rfl
    · refine j_aload_n C d_M_judged_177 rfl 0 rfl ?_
      refine j_iload_n C d_M_judged_178 rfl 3 rfl ?_
      obtain ⟨r179, h179, hF⟩ := g_bind hF
      refine j_vi C (As := [.int x3]) (st := []) (c_M_isNode (XL X) G x3 σ h179) (rfl : kdf 38 = 8) (by decide) rfl rfl m_M_isNode wd_894 rfl rfl (Nat.le_of_ble_eq_true rfl) ⟨by decide, by decide⟩ d_M_judged_179 ?_
      refine j_if_eq C 204 d_M_judged_182 (by decide) hF (fun q182 hF => ?_) (fun q182 hF => ?_)
      · refine j_iconst C (v := 0) d_M_judged_204 (by decide) ?_
        cases hF
        exact j_zret (st := []) C hr rfl d_M_judged_205 rfl rfl
      · refine j_aload_n C d_M_judged_185 rfl 0 rfl ?_
        refine j_aload_n C d_M_judged_186 rfl 0 rfl ?_
        refine g_M_trial C (rfl : kdf 38 = 8) wd_674 d_M_judged_187 ?_
        obtain ⟨r190, h190, hF⟩ := g_bind hF
        refine j_vi C (As := [rf G 44]) (st := []) (c_M_inTime (XL X) G 44 σ (rfl : kdf 44 = 15) h190) (rfl : kdf 38 = 8) (by decide) rfl rfl m_M_inTime wd_852 rfl rfl (Nat.le_of_ble_eq_true rfl) ⟨by decide, by decide⟩ d_M_judged_190 ?_
        refine j_iload_n C d_M_judged_193 rfl 3 rfl ?_
        obtain ⟨r194, h194, hF⟩ := g_bind hF
        refine j_si C (As := [.int r190, .int x3]) (st := []) (c_M_has (XL X) G r190 x3 σ h194) m_M_has wd_1006 rfl rfl (Nat.le_of_ble_eq_true rfl) ⟨by decide, by decide⟩ d_M_judged_194 ?_
        refine j_if_eq C 204 d_M_judged_197 (by decide) hF (fun q197 hF => ?_) (fun q197 hF => ?_)
        · refine j_iconst C (v := 0) d_M_judged_204 (by decide) ?_
          cases hF
          exact j_zret (st := []) C hr rfl d_M_judged_205 rfl rfl
        · refine j_iconst C (v := 1) d_M_judged_200 (by decide) ?_
          refine j_goto C 205 d_M_judged_201 (by decide) ?_
          cases hF
          exact j_zret (st := []) C hr rfl d_M_judged_205 rfl rfl
  refine g_ite hF (fun q hF => ?_) (fun q1_5 hF => ?_)
  · refine j_tabIn C 206 q d_M_judged_1 (by decide) (by decide) (off := 205) rfl (by decide) ?_
    refine j_aload_n C d_M_judged_206 rfl 0 rfl ?_
    refine j_iload_n C d_M_judged_207 rfl 2 rfl ?_
    obtain ⟨r208, h208, hF⟩ := g_bind hF
    refine j_vi C (As := [.int x2]) (st := []) (c_M_isNode (XL X) G x2 σ h208) (rfl : kdf 38 = 8) (by decide) rfl rfl m_M_isNode wd_894 rfl rfl (Nat.le_of_ble_eq_true rfl) ⟨by decide, by decide⟩ d_M_judged_208 ?_
    refine j_if_eq C 245 d_M_judged_211 (by decide) hF (fun q211 hF => ?_) (fun q211 hF => ?_)
    · refine j_iconst C (v := 0) d_M_judged_245 (by decide) ?_
      cases hF
      exact j_zret (st := []) C hr rfl d_M_judged_246 rfl rfl
    · refine j_aload_n C d_M_judged_214 rfl 0 rfl ?_
      refine g_M_trial C (rfl : kdf 38 = 8) wd_674 d_M_judged_215 ?_
      refine j_iload_n C d_M_judged_218 rfl 2 rfl ?_
      obtain ⟨r219, h219, hF⟩ := g_bind hF
      refine j_si C (As := [rf G 44, .int x2]) (st := []) (c_M_isOn (XL X) G 44 x2 σ (rfl : kdf 44 = 15) h219) m_M_isOn wd_849 rfl rfl (Nat.le_of_ble_eq_true rfl) ⟨by decide, by decide⟩ d_M_judged_219 ?_
      refine j_if_eq C 245 d_M_judged_222 (by decide) hF (fun q222 hF => ?_) (fun q222 hF => ?_)
      · refine j_iconst C (v := 0) d_M_judged_245 (by decide) ?_
        cases hF
        exact j_zret (st := []) C hr rfl d_M_judged_246 rfl rfl
      · refine j_aload_n C d_M_judged_225 rfl 0 rfl ?_
        refine g_M_trial C (rfl : kdf 38 = 8) wd_674 d_M_judged_226 ?_
        refine j_bipush C (v := 19) d_M_judged_229 (by decide) ?_
        refine j_iload_n C d_M_judged_231 rfl 2 rfl ?_
        refine j_imul C d_M_judged_232 ?_
        refine j_bipush C (v := 6) d_M_judged_233 (by decide) ?_
        refine j_iadd C d_M_judged_235 ?_
        obtain ⟨q236, hF⟩ := g_if hF
        refine j_iald C (rfl : kdf 44 = 15) (by decide) rfl (inb_v q236) d_M_judged_236 ?_
        refine j_iload_n C d_M_judged_237 rfl 3 rfl ?_
        refine j_icmp_ne C 245 d_M_judged_238 (by decide) hF (fun q238 hF => ?_) (fun q238 hF => ?_)
        · refine j_iconst C (v := 0) d_M_judged_245 (by decide) ?_
          cases hF
          exact j_zret (st := []) C hr rfl d_M_judged_246 rfl rfl
        · refine j_iconst C (v := 1) d_M_judged_241 (by decide) ?_
          refine j_goto C 246 d_M_judged_242 (by decide) ?_
          cases hF
          exact j_zret (st := []) C hr rfl d_M_judged_246 rfl rfl
  refine j_tabOut C 247 d_M_judged_1 (by have t0 := lv_neT q1_0 (a := 1) rfl; have t1 := lv_neT q1_1 (a := 2) rfl; have t2 := lv_neT q1_2 (a := 3) rfl; have t3 := lv_neT q1_3 (a := 4) rfl; have t4 := lv_neT q1_4 (a := 5) rfl; have t5 := lv_neT q1_5 (a := 6) rfl; omega) (by decide) ?_
  refine j_iconst C (v := 0) d_M_judged_247 (by decide) ?_
  cases hF
  exact j_zret (st := []) C hr rfl d_M_judged_248 rfl rfl
set_option maxHeartbeats 4000000 in
set_option maxRecDepth 100000 in
theorem b_M_thousands_4 {X : XT} {G : GT} {z : Int64} {σ : MT} (C : CX X G b_M_thousands 4 "TimeFloodModel" 0 0) (hr : XR X (some .long)) : ∀ (n : Nat) (x0 : Int32) (y1 : Int64) (x3 : Int32), f_M_thousands_4 n x0 y1 x3 = some z → JW X G (QX X (PL G z σ) G) 4 4 [(0, .int x0), (1, .long y1), (3, .int x3)] [] σ := by
  intro n
  induction n with
  | zero =>
    intro x0 y1 x3 hF
    rw [f_M_thousands_4] at hF
    cases hF
  | succ n ih =>
    intro x0 y1 x3 hF
    rw [f_M_thousands_4] at hF
    refine j_iload_n C d_M_thousands_4 rfl 2 rfl ?_
    refine j_iload_n C d_M_thousands_5 rfl 0 rfl ?_
    refine j_icmp_ge C 21 d_M_thousands_6 (by decide) hF (fun q6 hF => ?_) (fun q6 hF => ?_)
    · refine j_lload_n C d_M_thousands_21 rfl 1 rfl ?_
      cases hF
      exact j_lret (st := []) C hr d_M_thousands_22 rfl rfl
    · refine j_lload_n C d_M_thousands_9 rfl 1 rfl ?_
      refine j_ldc2 C wd_1001 d_M_thousands_10 ?_
      refine j_lmul C d_M_thousands_13 ?_
      refine j_lstore_n C (lv' := [(1, .long (y1 * (1000 : Int64))), (0, .int x0), (3, .int x3)]) d_M_thousands_14 rfl (by decide) rfl ?_
      refine j_iinc C (v := x3 + (1 : Int32)) (lv' := [(3, .int (x3 + (1 : Int32))), (1, .long (y1 * (1000 : Int64))), (0, .int x0)]) d_M_thousands_15 2 rfl rfl (by decide) rfl ?_
      refine j_goto C 4 d_M_thousands_18 (by decide) ?_
      refine j_sub C [(0, .int x0), (1, .long (y1 * (1000 : Int64))), (3, .int (x3 + (1 : Int32)))] [2, 1, 0] rfl ?_
      exact ih x0 (y1 * (1000 : Int64)) (x3 + (1 : Int32)) hF
set_option maxHeartbeats 4000000 in
set_option maxRecDepth 100000 in
theorem c_M_thousands (l : Launch) (G : GT) (x0 : Int32)  (σ : MT) {z : Int64} (hF : f_M_thousands x0 = some z) : CTL l G y_M_thousands b_M_thousands 4 (some .long) 0 0 [.int x0] σ z σ := by
  refine entX [(0, .int x0)] "TimeFloodModel" (by decide +kernel) rfl rfl (Nat.le_of_ble_eq_true rfl) (fun X hXl hr C => ?_)
  unfold f_M_thousands at hF
  refine j_lconst C (v := 1) d_M_thousands_0 (by decide) ?_
  refine j_lstore_n C (lv' := [(1, .long (1 : Int64)), (0, .int x0)]) d_M_thousands_1 rfl (by decide) rfl ?_
  refine j_iconst C (v := 0) d_M_thousands_2 (by decide) ?_
  refine j_istore_n C (lv' := [(3, .int (0 : Int32)), (1, .long (1 : Int64)), (0, .int x0)]) d_M_thousands_3 rfl (by decide) rfl ?_
  refine j_sub C [(0, .int x0), (1, .long (1 : Int64)), (3, .int (0 : Int32))] [2, 1, 0] rfl ?_
  exact b_M_thousands_4 C hr 1100 x0 (1 : Int64) (0 : Int32) hF
set_option maxHeartbeats 4000000 in
set_option maxRecDepth 100000 in
theorem b_M_judge_43 {X : XT} {G : GT} {z : (Int32 × MT)} (C : CX X G b_M_judge 6 "TimeFloodModel" 8 203) (hr : XR X (some .int)) : ∀ (n : Nat) (x1 : Int32) (y2 : Int64) (x4 : Int32) (σ : MT), f_M_judge_43 n x1 y2 x4 σ = some z → JW X G (QX X (PI G z.1 z.2) G) 6 43 [(0, rf G 38), (1, .int x1), (2, .long y2), (4, .int x4)] [] σ := by
  intro n
  induction n with
  | zero =>
    intro x1 y2 x4 σ hF
    rw [f_M_judge_43] at hF
    cases hF
  | succ n ih =>
    intro x1 y2 x4 σ hF
    rw [f_M_judge_43] at hF
    refine j_iload C d_M_judge_43 3 rfl ?_
    refine j_iload_n C d_M_judge_45 rfl 1 rfl ?_
    refine j_icmp_ge C 101 d_M_judge_46 (by decide) hF (fun q46 hF => ?_) (fun q46 hF => ?_)
    · refine j_bipush C (v := -9) d_M_judge_101 (by decide) ?_
      cases hF
      exact j_iret (st := []) C hr d_M_judge_103 rfl rfl
    · refine j_lload_n C d_M_judge_49 rfl 2 rfl ?_
      refine j_iload_n C d_M_judge_50 rfl 1 rfl ?_
      refine j_iconst C (v := 1) d_M_judge_51 (by decide) ?_
      refine j_isub C d_M_judge_52 ?_
      refine j_iload C d_M_judge_53 3 rfl ?_
      refine j_isub C d_M_judge_55 ?_
      obtain ⟨r56, h56, hF⟩ := g_bind hF
      refine j_sl C (As := [.int ((x1 - (1 : Int32)) - x4)]) (st := [.long y2]) (c_M_thousands (XL X) G ((x1 - (1 : Int32)) - x4) σ h56) m_M_thousands wd_998 rfl rfl (Nat.le_of_ble_eq_true rfl) ⟨by decide, by decide⟩ d_M_judge_56 ?_
      obtain ⟨q59, hF⟩ := g_if hF
      refine j_ldiv C d_M_judge_59 q59 ?_
      refine j_ldc2 C wd_1001 d_M_judge_60 ?_
      refine j_lrem C d_M_judge_63 (by decide) ?_
      refine j_l2i C d_M_judge_64 ?_
      refine j_istore C (lv' := [(5, .int (((y2 / r56) - (y2 / r56) / (1000 : Int64) * (1000 : Int64)).toInt32)), (0, rf G 38), (1, .int x1), (2, .long y2), (4, .int x4)]) d_M_judge_65 (by decide) rfl ?_
      refine j_aload_n C d_M_judge_67 rfl 1 rfl ?_
      refine j_iload C d_M_judge_68 0 rfl ?_
      refine j_bipush C (v := 100) d_M_judge_70 (by decide) ?_
      refine j_idiv C d_M_judge_72 (by decide) ?_
      refine j_iload C d_M_judge_73 0 rfl ?_
      refine j_bipush C (v := 10) d_M_judge_75 (by decide) ?_
      refine j_idiv C d_M_judge_77 (by decide) ?_
      refine j_bipush C (v := 10) d_M_judge_78 (by decide) ?_
      refine j_irem C d_M_judge_80 (by decide) ?_
      refine j_iload C d_M_judge_81 0 rfl ?_
      refine j_bipush C (v := 10) d_M_judge_83 (by decide) ?_
      refine j_irem C d_M_judge_85 (by decide) ?_
      obtain ⟨r86, h86, hF⟩ := g_bind hF
      refine j_vi C (As := [.int ((((y2 / r56) - (y2 / r56) / (1000 : Int64) * (1000 : Int64)).toInt32) / (100 : Int32)), .int (((((y2 / r56) - (y2 / r56) / (1000 : Int64) * (1000 : Int64)).toInt32) / (10 : Int32)) - ((((y2 / r56) - (y2 / r56) / (1000 : Int64) * (1000 : Int64)).toInt32) / (10 : Int32)) / (10 : Int32) * (10 : Int32)), .int ((((y2 / r56) - (y2 / r56) / (1000 : Int64) * (1000 : Int64)).toInt32) - (((y2 / r56) - (y2 / r56) / (1000 : Int64) * (1000 : Int64)).toInt32) / (10 : Int32) * (10 : Int32))]) (st := []) (c_M_judged (XL X) G ((((y2 / r56) - (y2 / r56) / (1000 : Int64) * (1000 : Int64)).toInt32) / (100 : Int32)) (((((y2 / r56) - (y2 / r56) / (1000 : Int64) * (1000 : Int64)).toInt32) / (10 : Int32)) - ((((y2 / r56) - (y2 / r56) / (1000 : Int64) * (1000 : Int64)).toInt32) / (10 : Int32)) / (10 : Int32) * (10 : Int32)) ((((y2 / r56) - (y2 / r56) / (1000 : Int64) * (1000 : Int64)).toInt32) - (((y2 / r56) - (y2 / r56) / (1000 : Int64) * (1000 : Int64)).toInt32) / (10 : Int32) * (10 : Int32)) σ h86) (rfl : kdf 38 = 8) (by decide) rfl rfl m_M_judged wd_1002 rfl rfl (Nat.le_of_ble_eq_true rfl) ⟨by decide, by decide⟩ d_M_judge_86 ?_
      refine j_if_ne C 95 d_M_judge_89 (by decide) hF (fun q89 hF => ?_) (fun q89 hF => ?_)
      · refine j_iinc C (v := x4 + (1 : Int32)) (lv' := [(4, .int (x4 + (1 : Int32))), (5, .int (((y2 / r56) - (y2 / r56) / (1000 : Int64) * (1000 : Int64)).toInt32)), (0, rf G 38), (1, .int x1), (2, .long y2)]) d_M_judge_95 4 rfl rfl (by decide) rfl ?_
        refine j_goto C 43 d_M_judge_98 (by decide) ?_
        refine j_sub C [(0, rf G 38), (1, .int x1), (2, .long y2), (4, .int (x4 + (1 : Int32)))] [2, 3, 4, 0] rfl ?_
        exact ih x1 y2 (x4 + (1 : Int32)) r86.2 hF
      · refine j_iload C d_M_judge_92 4 rfl ?_
        cases hF
        exact j_iret (st := []) C hr d_M_judge_94 rfl rfl
set_option maxHeartbeats 4000000 in
set_option maxRecDepth 100000 in
theorem c_M_judge (l : Launch) (G : GT) (x1 : Int32) (y2 : Int64) (σ : MT)  {z : (Int32 × MT)} (hF : f_M_judge x1 y2 σ = some z) : CTI l G y_M_judge b_M_judge 6 (some .int) 8 203 [rf G 38, .int x1, .long y2] σ z.1 z.2 := by
  refine entX [(0, rf G 38), (1, .int x1), (2, .long y2)] "TimeFloodModel" (by decide +kernel) rfl rfl (Nat.le_of_ble_eq_true rfl) (fun X hXl hr C => ?_)
  unfold f_M_judge at hF
  refine j_iload_n C d_M_judge_0 rfl 1 rfl ?_
  refine j_i2l C d_M_judge_1 ?_
  refine j_lconst C (v := 1) d_M_judge_2 (by decide) ?_
  refine j_ldc2 C wd_902 d_M_judge_3 ?_
  obtain ⟨r6, h6, hF⟩ := g_bind hF
  refine j_si C (As := [.long x1.toInt64, .long (1 : Int64), .long (4 : Int64)]) (st := []) (c_M_in (XL X) G x1.toInt64 (1 : Int64) (4 : Int64) σ h6) m_M_in wd_786 rfl rfl (Nat.le_of_ble_eq_true rfl) ⟨by decide, by decide⟩ d_M_judge_6 ?_
  refine j_if_eq C 26 d_M_judge_9 (by decide) hF (fun q9 hF => ?_) (fun q9 hF => ?_)
  · refine j_bipush C (v := -2) d_M_judge_26 (by decide) ?_
    cases hF
    exact j_iret (st := []) C hr d_M_judge_28 rfl rfl
  · refine j_lload_n C d_M_judge_12 rfl 2 rfl ?_
    refine j_lconst C (v := 0) d_M_judge_13 (by decide) ?_
    refine j_iload_n C d_M_judge_14 rfl 1 rfl ?_
    obtain ⟨r15, h15, hF⟩ := g_bind hF
    refine j_sl C (As := [.int x1]) (st := [.long (0 : Int64), .long y2]) (c_M_thousands (XL X) G x1 σ h15) m_M_thousands wd_998 rfl rfl (Nat.le_of_ble_eq_true rfl) ⟨by decide, by decide⟩ d_M_judge_15 ?_
    refine j_lconst C (v := 1) d_M_judge_18 (by decide) ?_
    refine j_lsub C d_M_judge_19 ?_
    obtain ⟨r20, h20, hF⟩ := g_bind hF
    refine j_si C (As := [.long y2, .long (0 : Int64), .long (r15 - (1 : Int64))]) (st := []) (c_M_in (XL X) G y2 (0 : Int64) (r15 - (1 : Int64)) σ h20) m_M_in wd_786 rfl rfl (Nat.le_of_ble_eq_true rfl) ⟨by decide, by decide⟩ d_M_judge_20 ?_
    refine j_if_ne C 29 d_M_judge_23 (by decide) hF (fun q23 hF => ?_) (fun q23 hF => ?_)
    · refine j_aload_n C d_M_judge_29 rfl 0 rfl ?_
      refine g_M_now C (rfl : kdf 38 = 8) wd_673 d_M_judge_30 ?_
      refine j_aload_n C d_M_judge_33 rfl 0 rfl ?_
      refine g_M_trial C (rfl : kdf 38 = 8) wd_674 d_M_judge_34 ?_
      obtain ⟨r37, h37, hF⟩ := g_bind hF
      refine j_sv C (As := [rf G 43, rf G 44]) (st := []) (c_M_copy (XL X) G 43 44 σ (rfl : kdf 43 = 15) (rfl : kdf 44 = 15) h37) m_M_copy wd_983 rfl rfl (Nat.le_of_ble_eq_true rfl) ⟨by decide, by decide⟩ d_M_judge_37 ?_
      refine j_iconst C (v := 0) d_M_judge_40 (by decide) ?_
      refine j_istore C (lv' := [(4, .int (0 : Int32)), (0, rf G 38), (1, .int x1), (2, .long y2)]) d_M_judge_41 (by decide) rfl ?_
      refine j_sub C [(0, rf G 38), (1, .int x1), (2, .long y2), (4, .int (0 : Int32))] [1, 2, 3, 0] rfl ?_
      exact b_M_judge_43 C hr 1100 x1 y2 (0 : Int32) r37 hF
    · refine j_bipush C (v := -2) d_M_judge_26 (by decide) ?_
      cases hF
      exact j_iret (st := []) C hr d_M_judge_28 rfl rfl
set_option maxHeartbeats 4000000 in
set_option maxRecDepth 100000 in
theorem b_M_see_91 {X : XT} {G : GT} {z : (Int32 × MT)} (C : CX X G b_M_see 4 "TimeFloodModel" 2 46) (hr : XR X (some .int)) (σ : MT) (hF : f_M_see_91 σ = some z) : JW X G (QX X (PI G z.1 z.2) G) 4 91 [(0, rf G 38)] [] σ := by
  unfold f_M_see_91 at hF
  refine j_aload_n C d_M_see_91 rfl 0 rfl ?_
  refine g_M_seen C (rfl : kdf 38 = 8) wd_683 d_M_see_92 ?_
  cases hF
  exact j_iret (st := []) C hr d_M_see_95 rfl rfl
set_option maxHeartbeats 4000000 in
set_option maxRecDepth 100000 in
theorem b_M_see_71 {X : XT} {G : GT} {z : (Int32 × MT)} (C : CX X G b_M_see 4 "TimeFloodModel" 2 46) (hr : XR X (some .int)) (x3 : Int32) (σ : MT) (hF : f_M_see_71 x3 σ = some z) : JW X G (QX X (PI G z.1 z.2) G) 4 71 [(0, rf G 38), (3, .int x3)] [] σ := by
  unfold f_M_see_71 at hF
  refine j_aload_n C d_M_see_71 rfl 0 rfl ?_
  refine g_M_seenRoot C (rfl : kdf 38 = 8) wd_682 d_M_see_72 ?_
  refine j_aload_n C d_M_see_75 rfl 0 rfl ?_
  refine g_M_seen C (rfl : kdf 38 = 8) wd_683 d_M_see_76 ?_
  refine j_iload_n C d_M_see_79 rfl 1 rfl ?_
  obtain ⟨q80, hF⟩ := g_if hF
  refine j_iast C (rfl : kdf 50 = 12) (by decide) (fun _ => rfl) (inb_v q80) d_M_see_80 ?_
  refine j_aload_n C d_M_see_81 rfl 0 rfl ?_
  refine j_dup C d_M_see_82 rfl ?_
  refine g_M_seen C (rfl : kdf 38 = 8) wd_683 d_M_see_83 ?_
  refine j_iconst C (v := 1) d_M_see_86 (by decide) ?_
  refine j_iadd C d_M_see_87 ?_
  refine p_M_seen C (rfl : kdf 38 = 8) wd_683 d_M_see_88 ?_
  refine j_sub C [(0, rf G 38)] [0] rfl ?_
  exact b_M_see_91 C hr (sI (sI σ 50 (σ.1 38 20).toNatClampNeg x3) 38 20 (((sI σ 50 (σ.1 38 20).toNatClampNeg x3).1 38 20) + (1 : Int32))) hF
set_option maxHeartbeats 4000000 in
set_option maxRecDepth 100000 in
theorem b_M_see_39 {X : XT} {G : GT} {z : (Int32 × MT)} (C : CX X G b_M_see 4 "TimeFloodModel" 2 46) (hr : XR X (some .int)) (x1 : Int32) (x2 : Int32) (x3 : Int32) (σ : MT) (hF : f_M_see_39 x1 x2 x3 σ = some z) : JW X G (QX X (PI G z.1 z.2) G) 4 39 [(0, rf G 38), (1, .int x1), (2, .int x2), (3, .int x3)] [] σ := by
  unfold f_M_see_39 at hF
  refine j_aload_n C d_M_see_39 rfl 0 rfl ?_
  refine g_M_seen C (rfl : kdf 38 = 8) wd_683 d_M_see_40 ?_
  refine j_bipush C (v := 6) d_M_see_43 (by decide) ?_
  refine j_icmp_ne C 51 d_M_see_45 (by decide) hF (fun q45 hF => ?_) (fun q45 hF => ?_)
  · refine j_aload_n C d_M_see_51 rfl 0 rfl ?_
    refine g_M_seenNode C (rfl : kdf 38 = 8) wd_680 d_M_see_52 ?_
    refine j_aload_n C d_M_see_55 rfl 0 rfl ?_
    refine g_M_seen C (rfl : kdf 38 = 8) wd_683 d_M_see_56 ?_
    refine j_iload_n C d_M_see_59 rfl 1 rfl ?_
    obtain ⟨q60, hF⟩ := g_if hF
    refine j_iast C (rfl : kdf 48 = 12) (by decide) (fun _ => rfl) (inb_v q60) d_M_see_60 ?_
    refine j_aload_n C d_M_see_61 rfl 0 rfl ?_
    refine g_M_seenBehind C (rfl : kdf 38 = 8) wd_681 d_M_see_62 ?_
    refine j_aload_n C d_M_see_65 rfl 0 rfl ?_
    refine g_M_seen C (rfl : kdf 38 = 8) wd_683 d_M_see_66 ?_
    refine j_iload_n C d_M_see_69 rfl 2 rfl ?_
    obtain ⟨q70, hF⟩ := g_if hF
    refine j_iast C (rfl : kdf 49 = 12) (by decide) (fun _ => rfl) (inb_v q70) d_M_see_70 ?_
    refine j_sub C [(0, rf G 38), (3, .int x3)] [0, 3] rfl ?_
    exact b_M_see_71 C hr x3 (sI (sI σ 48 (σ.1 38 20).toNatClampNeg x1) 49 ((sI σ 48 (σ.1 38 20).toNatClampNeg x1).1 38 20).toNatClampNeg x2) hF
  · refine j_bipush C (v := -4) d_M_see_48 (by decide) ?_
    cases hF
    exact j_iret (st := []) C hr d_M_see_50 rfl rfl
set_option maxHeartbeats 4000000 in
set_option maxRecDepth 100000 in
theorem c_M_see (l : Launch) (G : GT) (x1 : Int32) (x2 : Int32) (x3 : Int32) (σ : MT)  {z : (Int32 × MT)} (hF : f_M_see x1 x2 x3 σ = some z) : CTI l G y_M_see b_M_see 4 (some .int) 2 46 [rf G 38, .int x1, .int x2, .int x3] σ z.1 z.2 := by
  refine entX [(0, rf G 38), (1, .int x1), (2, .int x2), (3, .int x3)] "TimeFloodModel" (by decide +kernel) rfl rfl (Nat.le_of_ble_eq_true rfl) (fun X hXl hr C => ?_)
  unfold f_M_see at hF
  refine j_aload_n C d_M_see_0 rfl 0 rfl ?_
  refine j_iload_n C d_M_see_1 rfl 1 rfl ?_
  obtain ⟨r2, h2, hF⟩ := g_bind hF
  refine j_vi C (As := [.int x1]) (st := []) (c_M_isNode (XL X) G x1 σ h2) (rfl : kdf 38 = 8) (by decide) rfl rfl m_M_isNode wd_894 rfl rfl (Nat.le_of_ble_eq_true rfl) ⟨by decide, by decide⟩ d_M_see_2 ?_
  refine j_if_ne C 10 d_M_see_5 (by decide) hF (fun q5 hF => ?_) (fun q5 hF => ?_)
  · refine j_iload_n C d_M_see_10 rfl 2 rfl ?_
    refine j_i2l C d_M_see_11 ?_
    refine j_lconst C (v := 0) d_M_see_12 (by decide) ?_
    refine j_ldc2 C wd_1013 d_M_see_13 ?_
    obtain ⟨r16, h16, hF⟩ := g_bind hF
    refine j_si C (As := [.long x2.toInt64, .long (0 : Int64), .long (20 : Int64)]) (st := []) (c_M_in (XL X) G x2.toInt64 (0 : Int64) (20 : Int64) σ h16) m_M_in wd_786 rfl rfl (Nat.le_of_ble_eq_true rfl) ⟨by decide, by decide⟩ d_M_see_16 ?_
    refine j_if_eq C 36 d_M_see_19 (by decide) hF (fun q19 hF => ?_) (fun q19 hF => ?_)
    · refine j_bipush C (v := -2) d_M_see_36 (by decide) ?_
      cases hF
      exact j_iret (st := []) C hr d_M_see_38 rfl rfl
    · refine j_aload_n C d_M_see_22 rfl 0 rfl ?_
      refine j_iload_n C d_M_see_23 rfl 3 rfl ?_
      obtain ⟨r24, h24, hF⟩ := g_bind hF
      refine j_vi C (As := [.int x3]) (st := []) (c_M_isNode (XL X) G x3 σ h24) (rfl : kdf 38 = 8) (by decide) rfl rfl m_M_isNode wd_894 rfl rfl (Nat.le_of_ble_eq_true rfl) ⟨by decide, by decide⟩ d_M_see_24 ?_
      refine j_if_ne C 39 d_M_see_27 (by decide) hF (fun q27 hF => ?_) (fun q27 hF => ?_)
      · exact b_M_see_39 C hr x1 x2 x3 σ hF
      · refine j_iload_n C d_M_see_30 rfl 3 rfl ?_
        refine j_bipush C (v := -9) d_M_see_31 (by decide) ?_
        refine j_icmp_eq C 39 d_M_see_33 (by decide) hF (fun q33 hF => ?_) (fun q33 hF => ?_)
        · exact b_M_see_39 C hr x1 x2 x3 σ hF
        · refine j_bipush C (v := -2) d_M_see_36 (by decide) ?_
          cases hF
          exact j_iret (st := []) C hr d_M_see_38 rfl rfl
  · refine j_iconst C (v := -1) d_M_see_8 (by decide) ?_
    cases hF
    exact j_iret (st := []) C hr d_M_see_9 rfl rfl
set_option maxHeartbeats 4000000 in
set_option maxRecDepth 100000 in
theorem c_M_unsee (l : Launch) (G : GT) (σ : MT)  {z : (Int32 × MT)} (hF : f_M_unsee σ = some z) : CTI l G y_M_unsee b_M_unsee 2 (some .int) 0 0 [rf G 38] σ z.1 z.2 := by
  refine entX [(0, rf G 38)] "TimeFloodModel" (by decide +kernel) rfl rfl (Nat.le_of_ble_eq_true rfl) (fun X hXl hr C => ?_)
  unfold f_M_unsee at hF
  refine j_aload_n C d_M_unsee_0 rfl 0 rfl ?_
  refine g_M_seen C (rfl : kdf 38 = 8) wd_683 d_M_unsee_1 ?_
  refine j_istore_n C (lv' := [(1, .int (σ.1 38 20)), (0, rf G 38)]) d_M_unsee_4 rfl (by decide) rfl ?_
  refine j_aload_n C d_M_unsee_5 rfl 1 rfl ?_
  refine j_iconst C (v := 0) d_M_unsee_6 (by decide) ?_
  refine p_M_seen C (rfl : kdf 38 = 8) wd_683 d_M_unsee_7 ?_
  refine j_iload_n C d_M_unsee_10 rfl 0 rfl ?_
  cases hF
  exact j_iret (st := []) C hr d_M_unsee_11 rfl rfl
set_option maxHeartbeats 4000000 in
set_option maxRecDepth 100000 in
theorem b_M_isSoBy_77 {X : XT} {G : GT} {z : (Int32 × MT)} (C : CX X G b_M_isSoBy 5 "TimeFloodModel" 7 180) (hr : XR X (some .boolean)) (x2 : Int32) (xs0 : Int32) (σ : MT) (hF : f_M_isSoBy_77 x2 xs0 σ = some z) : JW X G (QX X (PI G z.1 z.2) G) 5 77 [(0, rf G 38), (2, .int x2)] [.int xs0] σ := by
  unfold f_M_isSoBy_77 at hF
  refine j_istore C (lv' := [(4, .int xs0), (0, rf G 38), (2, .int x2)]) d_M_isSoBy_77 (by decide) rfl ?_
  refine j_iload C d_M_isSoBy_79 0 rfl ?_
  refine j_aload_n C d_M_isSoBy_81 rfl 1 rfl ?_
  refine g_M_seenRoot C (rfl : kdf 38 = 8) wd_682 d_M_isSoBy_82 ?_
  refine j_iload_n C d_M_isSoBy_85 rfl 2 rfl ?_
  obtain ⟨q86, hF⟩ := g_if hF
  refine j_iald C (rfl : kdf 50 = 12) (by decide) rfl (inb_v q86) d_M_isSoBy_86 ?_
  refine j_icmp_ne C 94 d_M_isSoBy_87 (by decide) hF (fun q87 hF => ?_) (fun q87 hF => ?_)
  · refine j_iconst C (v := 0) d_M_isSoBy_94 (by decide) ?_
    cases hF
    exact j_zret (st := []) C hr rfl d_M_isSoBy_95 rfl rfl
  · refine j_iconst C (v := 1) d_M_isSoBy_90 (by decide) ?_
    refine j_goto C 95 d_M_isSoBy_91 (by decide) ?_
    cases hF
    exact j_zret (st := []) C hr rfl d_M_isSoBy_95 rfl rfl
set_option maxHeartbeats 4000000 in
set_option maxRecDepth 100000 in
theorem b_M_isSoBy_40 {X : XT} {G : GT} {z : (Int32 × MT)} (C : CX X G b_M_isSoBy 5 "TimeFloodModel" 7 180) (hr : XR X (some .boolean)) (x2 : Int32) (x3 : Int32) (σ : MT) (hF : f_M_isSoBy_40 x2 x3 σ = some z) : JW X G (QX X (PI G z.1 z.2) G) 5 40 [(0, rf G 38), (2, .int x2), (3, .int x3)] [] σ := by
  unfold f_M_isSoBy_40 at hF
  refine j_aload_n C d_M_isSoBy_40 rfl 0 rfl ?_
  refine j_aload_n C d_M_isSoBy_41 rfl 0 rfl ?_
  refine g_M_seenBehind C (rfl : kdf 38 = 8) wd_681 d_M_isSoBy_42 ?_
  refine j_iload_n C d_M_isSoBy_45 rfl 1 rfl ?_
  obtain ⟨q46, hF⟩ := g_if hF
  refine j_iald C (rfl : kdf 49 = 12) (by decide) rfl (inb_v q46) d_M_isSoBy_46 ?_
  obtain ⟨r47, h47, hF⟩ := g_bind hF
  refine j_vv C (As := [.int (σ.1 49 x2.toNatClampNeg)]) (st := []) (c_M_tryPeriods (XL X) G (σ.1 49 x2.toNatClampNeg) σ h47) (rfl : kdf 38 = 8) (by decide) rfl rfl m_M_tryPeriods wd_986 rfl rfl (Nat.le_of_ble_eq_true rfl) ⟨by decide, by decide⟩ d_M_isSoBy_47 ?_
  refine j_aload_n C d_M_isSoBy_50 rfl 0 rfl ?_
  refine g_M_trial C (rfl : kdf 38 = 8) wd_674 d_M_isSoBy_51 ?_
  refine j_iload_n C d_M_isSoBy_54 rfl 2 rfl ?_
  obtain ⟨r55, h55, hF⟩ := g_bind hF
  refine j_si C (As := [rf G 44, .int x3]) (st := []) (c_M_isOn (XL X) G 44 x3 r47 (rfl : kdf 44 = 15) h55) m_M_isOn wd_849 rfl rfl (Nat.le_of_ble_eq_true rfl) ⟨by decide, by decide⟩ d_M_isSoBy_55 ?_
  refine j_if_eq C 75 d_M_isSoBy_58 (by decide) hF (fun q58 hF => ?_) (fun q58 hF => ?_)
  · refine j_bipush C (v := -9) d_M_isSoBy_75 (by decide) ?_
    refine j_sub C [(0, rf G 38), (2, .int x2)] [0, 1] rfl ?_
    exact b_M_isSoBy_77 C hr x2 (-9 : Int32) r47 hF
  · refine j_aload_n C d_M_isSoBy_61 rfl 0 rfl ?_
    refine g_M_trial C (rfl : kdf 38 = 8) wd_674 d_M_isSoBy_62 ?_
    refine j_bipush C (v := 19) d_M_isSoBy_65 (by decide) ?_
    refine j_iload_n C d_M_isSoBy_67 rfl 2 rfl ?_
    refine j_imul C d_M_isSoBy_68 ?_
    refine j_iconst C (v := 2) d_M_isSoBy_69 (by decide) ?_
    refine j_iadd C d_M_isSoBy_70 ?_
    obtain ⟨q71, hF⟩ := g_if hF
    refine j_iald C (rfl : kdf 44 = 15) (by decide) rfl (inb_v q71) d_M_isSoBy_71 ?_
    refine j_goto C 77 d_M_isSoBy_72 (by decide) ?_
    refine j_sub C [(0, rf G 38), (2, .int x2)] [0, 1] rfl ?_
    exact b_M_isSoBy_77 C hr x2 (r47.1 44 (((19 : Int32) * x3) + (2 : Int32)).toNatClampNeg) r47 hF
set_option maxHeartbeats 4000000 in
set_option maxRecDepth 100000 in
theorem c_M_isSoBy (l : Launch) (G : GT) (x1 : Int32) (x2 : Int32) (σ : MT)  {z : (Int32 × MT)} (hF : f_M_isSoBy x1 x2 σ = some z) : CTI l G y_M_isSoBy b_M_isSoBy 5 (some .boolean) 7 180 [rf G 38, .int x1, .int x2] σ z.1 z.2 := by
  refine entX [(0, rf G 38), (1, .int x1), (2, .int x2)] "TimeFloodModel" (by decide +kernel) rfl rfl (Nat.le_of_ble_eq_true rfl) (fun X hXl hr C => ?_)
  unfold f_M_isSoBy at hF
  refine j_aload_n C d_M_isSoBy_0 rfl 0 rfl ?_
  refine g_M_seenNode C (rfl : kdf 38 = 8) wd_680 d_M_isSoBy_1 ?_
  refine j_iload_n C d_M_isSoBy_4 rfl 2 rfl ?_
  obtain ⟨q5, hF⟩ := g_if hF
  refine j_iald C (rfl : kdf 48 = 12) (by decide) rfl (inb_v q5) d_M_isSoBy_5 ?_
  refine j_istore_n C (lv' := [(3, .int (σ.1 48 x2.toNatClampNeg)), (0, rf G 38), (1, .int x1), (2, .int x2)]) d_M_isSoBy_6 rfl (by decide) rfl ?_
  refine j_aload_n C d_M_isSoBy_7 rfl 1 rfl ?_
  refine j_iload_n C d_M_isSoBy_8 rfl 0 rfl ?_
  obtain ⟨r9, h9, hF⟩ := g_bind hF
  refine j_vi C (As := [.int (σ.1 48 x2.toNatClampNeg)]) (st := []) (c_M_isNode (XL X) G (σ.1 48 x2.toNatClampNeg) σ h9) (rfl : kdf 38 = 8) (by decide) rfl rfl m_M_isNode wd_894 rfl rfl (Nat.le_of_ble_eq_true rfl) ⟨by decide, by decide⟩ d_M_isSoBy_9 ?_
  refine j_if_ne C 17 d_M_isSoBy_12 (by decide) hF (fun q12 hF => ?_) (fun q12 hF => ?_)
  · refine j_aload_n C d_M_isSoBy_17 rfl 1 rfl ?_
    refine g_M_now C (rfl : kdf 38 = 8) wd_673 d_M_isSoBy_18 ?_
    refine j_aload_n C d_M_isSoBy_21 rfl 1 rfl ?_
    refine g_M_trial C (rfl : kdf 38 = 8) wd_674 d_M_isSoBy_22 ?_
    obtain ⟨r25, h25, hF⟩ := g_bind hF
    refine j_sv C (As := [rf G 43, rf G 44]) (st := []) (c_M_copy (XL X) G 43 44 σ (rfl : kdf 43 = 15) (rfl : kdf 44 = 15) h25) m_M_copy wd_983 rfl rfl (Nat.le_of_ble_eq_true rfl) ⟨by decide, by decide⟩ d_M_isSoBy_25 ?_
    refine j_aload_n C d_M_isSoBy_28 rfl 1 rfl ?_
    refine g_M_trial C (rfl : kdf 38 = 8) wd_674 d_M_isSoBy_29 ?_
    refine j_bipush C (v := 19) d_M_isSoBy_32 (by decide) ?_
    refine j_iload_n C d_M_isSoBy_34 rfl 2 rfl ?_
    refine j_imul C d_M_isSoBy_35 ?_
    refine j_iconst C (v := 0) d_M_isSoBy_36 (by decide) ?_
    refine j_iadd C d_M_isSoBy_37 ?_
    refine j_iconst C (v := 0) d_M_isSoBy_38 (by decide) ?_
    obtain ⟨q39, hF⟩ := g_if hF
    refine j_iast C (rfl : kdf 44 = 15) (by decide) (fun _ => rfl) (inb_v q39) d_M_isSoBy_39 ?_
    refine j_sub C [(0, rf G 38), (2, .int x2), (3, .int (σ.1 48 x2.toNatClampNeg))] [1, 3, 0] rfl ?_
    exact b_M_isSoBy_40 C hr x2 (σ.1 48 x2.toNatClampNeg) (sI r25 44 (((19 : Int32) * x1) + (0 : Int32)).toNatClampNeg (0 : Int32)) hF
  · refine j_iconst C (v := 1) d_M_isSoBy_15 (by decide) ?_
    cases hF
    exact j_zret (st := []) C hr rfl d_M_isSoBy_16 rfl rfl
set_option maxHeartbeats 4000000 in
set_option maxRecDepth 100000 in
theorem b_M_which_52 {X : XT} {G : GT} {z : (Int32 × MT)} {K24 : Int32 → Int32 → Int32 → Int32 → MT → Option (Int32 × MT)} (C : CX X G b_M_which 5 "TimeFloodModel" 8 204) (hr : XR X (some .int)) (hK24 : ∀ (x1 : Int32) (x2 : Int32) (x3 : Int32) (x4 : Int32) (σ : MT), K24 x1 x2 x3 x4 σ = some z → JW X G (QX X (PI G z.1 z.2) G) 5 24 [(0, rf G 38), (1, .int x1), (2, .int x2), (3, .int x3), (4, .int x4)] [] σ) (x1 : Int32) (x2 : Int32) (x4 : Int32) (xs0 : Int32) (σ : MT) (hF : f_M_which_52 K24 x1 x2 x4 xs0 σ = some z) : JW X G (QX X (PI G z.1 z.2) G) 5 52 [(0, rf G 38), (1, .int x1), (2, .int x2), (4, .int x4)] [.int xs0] σ := by
  unfold f_M_which_52 at hF
  refine j_istore_n C (lv' := [(3, .int xs0), (0, rf G 38), (1, .int x1), (2, .int x2), (4, .int x4)]) d_M_which_52 rfl (by decide) rfl ?_
  refine j_iinc C (v := x4 + (1 : Int32)) (lv' := [(4, .int (x4 + (1 : Int32))), (3, .int xs0), (0, rf G 38), (1, .int x1), (2, .int x2)]) d_M_which_53 4 rfl rfl (by decide) rfl ?_
  refine j_goto C 24 d_M_which_56 (by decide) ?_
  refine j_sub C [(0, rf G 38), (1, .int x1), (2, .int x2), (3, .int xs0), (4, .int (x4 + (1 : Int32)))] [2, 3, 4, 1, 0] rfl ?_
  exact hK24 x1 x2 xs0 (x4 + (1 : Int32)) σ hF
set_option maxHeartbeats 4000000 in
set_option maxRecDepth 100000 in
theorem b_M_which_51 {X : XT} {G : GT} {z : (Int32 × MT)} {K24 : Int32 → Int32 → Int32 → Int32 → MT → Option (Int32 × MT)} (C : CX X G b_M_which 5 "TimeFloodModel" 8 204) (hr : XR X (some .int)) (hK24 : ∀ (x1 : Int32) (x2 : Int32) (x3 : Int32) (x4 : Int32) (σ : MT), K24 x1 x2 x3 x4 σ = some z → JW X G (QX X (PI G z.1 z.2) G) 5 24 [(0, rf G 38), (1, .int x1), (2, .int x2), (3, .int x3), (4, .int x4)] [] σ) (x1 : Int32) (x2 : Int32) (x4 : Int32) (σ : MT) (hF : f_M_which_51 K24 x1 x2 x4 σ = some z) : JW X G (QX X (PI G z.1 z.2) G) 5 51 [(0, rf G 38), (1, .int x1), (2, .int x2), (4, .int x4)] [] σ := by
  unfold f_M_which_51 at hF
  refine j_iconst C (v := 0) d_M_which_51 (by decide) ?_
  exact b_M_which_52 C hr hK24 x1 x2 x4 (0 : Int32) σ hF
set_option maxHeartbeats 4000000 in
set_option maxRecDepth 100000 in
theorem b_M_which_24 {X : XT} {G : GT} {z : (Int32 × MT)} {K71 : Int32 → Int32 → Int32 → MT → Option (Int32 × MT)} (C : CX X G b_M_which 5 "TimeFloodModel" 8 204) (hr : XR X (some .int)) (hK71 : ∀ (x2 : Int32) (xs0 : Int32) (xs1 : Int32) (σ : MT), K71 x2 xs0 xs1 σ = some z → JW X G (QX X (PI G z.1 z.2) G) 5 71 [(0, rf G 38), (2, .int x2)] [.int xs0, .int xs1] σ) : ∀ (n : Nat) (x1 : Int32) (x2 : Int32) (x3 : Int32) (x4 : Int32) (σ : MT), f_M_which_24 K71 n x1 x2 x3 x4 σ = some z → JW X G (QX X (PI G z.1 z.2) G) 5 24 [(0, rf G 38), (1, .int x1), (2, .int x2), (3, .int x3), (4, .int x4)] [] σ := by
  intro n
  induction n with
  | zero =>
    intro x1 x2 x3 x4 σ hF
    rw [f_M_which_24] at hF
    cases hF
  | succ n ih =>
    intro x1 x2 x3 x4 σ hF
    rw [f_M_which_24] at hF
    refine j_iload C d_M_which_24 4 rfl ?_
    refine j_aload_n C d_M_which_26 rfl 0 rfl ?_
    refine g_M_seen C (rfl : kdf 38 = 8) wd_683 d_M_which_27 ?_
    refine j_icmp_ge C 59 d_M_which_30 (by decide) hF (fun q30 hF => ?_) (fun q30 hF => ?_)
    · refine j_iload_n C d_M_which_59 rfl 1 rfl ?_
      refine j_iload_n C d_M_which_60 rfl 3 rfl ?_
      refine j_if_eq C 70 d_M_which_61 (by decide) hF (fun q61 hF => ?_) (fun q61 hF => ?_)
      · refine j_iconst C (v := 0) d_M_which_70 (by decide) ?_
        refine j_sub C [(0, rf G 38), (2, .int x2)] [0, 2] rfl ?_
        exact hK71 x2 (0 : Int32) x1 σ hF
      · refine j_iconst C (v := 1) d_M_which_64 (by decide) ?_
        refine j_iload_n C d_M_which_65 rfl 2 rfl ?_
        refine j_ishl C d_M_which_66 ?_
        refine j_goto C 71 d_M_which_67 (by decide) ?_
        refine j_sub C [(0, rf G 38), (2, .int x2)] [0, 2] rfl ?_
        exact hK71 x2 ((1 : Int32) <<< (x2 &&& 31)) x1 σ hF
    · refine j_iload_n C d_M_which_33 rfl 3 rfl ?_
      refine j_if_eq C 51 d_M_which_34 (by decide) hF (fun q34 hF => ?_) (fun q34 hF => ?_)
      · refine j_sub C [(0, rf G 38), (1, .int x1), (2, .int x2), (4, .int x4)] [0, 1, 2, 4] rfl ?_
        exact b_M_which_51 C hr ih x1 x2 x4 σ hF
      · refine j_aload_n C d_M_which_37 rfl 0 rfl ?_
        refine j_iload_n C d_M_which_38 rfl 2 rfl ?_
        refine j_iload C d_M_which_39 4 rfl ?_
        obtain ⟨r41, h41, hF⟩ := g_bind hF
        refine j_vi C (As := [.int x2, .int x4]) (st := []) (c_M_isSoBy (XL X) G x2 x4 σ h41) (rfl : kdf 38 = 8) (by decide) rfl rfl m_M_isSoBy wd_1022 rfl rfl (Nat.le_of_ble_eq_true rfl) ⟨by decide, by decide⟩ d_M_which_41 ?_
        refine j_if_eq C 51 d_M_which_44 (by decide) hF (fun q44 hF => ?_) (fun q44 hF => ?_)
        · refine j_sub C [(0, rf G 38), (1, .int x1), (2, .int x2), (4, .int x4)] [0, 1, 2, 4] rfl ?_
          exact b_M_which_51 C hr ih x1 x2 x4 r41.2 hF
        · refine j_iconst C (v := 1) d_M_which_47 (by decide) ?_
          refine j_goto C 52 d_M_which_48 (by decide) ?_
          refine j_sub C [(0, rf G 38), (1, .int x1), (2, .int x2), (4, .int x4)] [0, 1, 2, 4] rfl ?_
          exact b_M_which_52 C hr ih x1 x2 x4 (1 : Int32) r41.2 hF
set_option maxHeartbeats 4000000 in
set_option maxRecDepth 100000 in
theorem b_M_which_71 {X : XT} {G : GT} {z : (Int32 × MT)} {K4 : Int32 → Int32 → MT → Option (Int32 × MT)} (C : CX X G b_M_which 5 "TimeFloodModel" 8 204) (hr : XR X (some .int)) (hK4 : ∀ (x1 : Int32) (x2 : Int32) (σ : MT), K4 x1 x2 σ = some z → JW X G (QX X (PI G z.1 z.2) G) 5 4 [(0, rf G 38), (1, .int x1), (2, .int x2)] [] σ) (x2 : Int32) (xs0 : Int32) (xs1 : Int32) (σ : MT) (hF : f_M_which_71 K4 x2 xs0 xs1 σ = some z) : JW X G (QX X (PI G z.1 z.2) G) 5 71 [(0, rf G 38), (2, .int x2)] [.int xs0, .int xs1] σ := by
  unfold f_M_which_71 at hF
  refine j_ior C d_M_which_71 ?_
  refine j_istore_n C (lv' := [(1, .int (xs1 ||| xs0)), (0, rf G 38), (2, .int x2)]) d_M_which_72 rfl (by decide) rfl ?_
  refine j_iinc C (v := x2 + (1 : Int32)) (lv' := [(2, .int (x2 + (1 : Int32))), (1, .int (xs1 ||| xs0)), (0, rf G 38)]) d_M_which_73 2 rfl rfl (by decide) rfl ?_
  refine j_goto C 4 d_M_which_76 (by decide) ?_
  refine j_sub C [(0, rf G 38), (1, .int (xs1 ||| xs0)), (2, .int (x2 + (1 : Int32)))] [2, 1, 0] rfl ?_
  exact hK4 (xs1 ||| xs0) (x2 + (1 : Int32)) σ hF
set_option maxHeartbeats 4000000 in
set_option maxRecDepth 100000 in
theorem b_M_which_4 {X : XT} {G : GT} {z : (Int32 × MT)} (C : CX X G b_M_which 5 "TimeFloodModel" 8 204) (hr : XR X (some .int)) : ∀ (n : Nat) (x1 : Int32) (x2 : Int32) (σ : MT), f_M_which_4 n x1 x2 σ = some z → JW X G (QX X (PI G z.1 z.2) G) 5 4 [(0, rf G 38), (1, .int x1), (2, .int x2)] [] σ := by
  intro n
  induction n with
  | zero =>
    intro x1 x2 σ hF
    rw [f_M_which_4] at hF
    cases hF
  | succ n ih =>
    intro x1 x2 σ hF
    rw [f_M_which_4] at hF
    refine j_iload_n C d_M_which_4 rfl 2 rfl ?_
    refine j_aload_n C d_M_which_5 rfl 0 rfl ?_
    refine g_M_nodes C (rfl : kdf 38 = 8) wd_668 d_M_which_6 ?_
    refine j_icmp_ge C 79 d_M_which_9 (by decide) hF (fun q9 hF => ?_) (fun q9 hF => ?_)
    · refine j_iload_n C d_M_which_79 rfl 1 rfl ?_
      cases hF
      exact j_iret (st := []) C hr d_M_which_80 rfl rfl
    · refine j_aload_n C d_M_which_12 rfl 0 rfl ?_
      refine g_M_now C (rfl : kdf 38 = 8) wd_673 d_M_which_13 ?_
      refine j_iload_n C d_M_which_16 rfl 2 rfl ?_
      obtain ⟨r17, h17, hF⟩ := g_bind hF
      refine j_si C (As := [rf G 43, .int x2]) (st := []) (c_M_isOn (XL X) G 43 x2 σ (rfl : kdf 43 = 15) h17) m_M_isOn wd_849 rfl rfl (Nat.le_of_ble_eq_true rfl) ⟨by decide, by decide⟩ d_M_which_17 ?_
      refine j_istore_n C (lv' := [(3, .int r17), (0, rf G 38), (1, .int x1), (2, .int x2)]) d_M_which_20 rfl (by decide) rfl ?_
      refine j_iconst C (v := 0) d_M_which_21 (by decide) ?_
      refine j_istore C (lv' := [(4, .int (0 : Int32)), (3, .int r17), (0, rf G 38), (1, .int x1), (2, .int x2)]) d_M_which_22 (by decide) rfl ?_
      refine j_sub C [(0, rf G 38), (1, .int x1), (2, .int x2), (3, .int r17), (4, .int (0 : Int32))] [2, 3, 4, 1, 0] rfl ?_
      exact b_M_which_24 C hr (b_M_which_71 C hr ih) 1100 x1 x2 r17 (0 : Int32) σ hF
set_option maxHeartbeats 4000000 in
set_option maxRecDepth 100000 in
theorem c_M_which (l : Launch) (G : GT) (σ : MT)  {z : (Int32 × MT)} (hF : f_M_which σ = some z) : CTI l G y_M_which b_M_which 5 (some .int) 8 204 [rf G 38] σ z.1 z.2 := by
  refine entX [(0, rf G 38)] "TimeFloodModel" (by decide +kernel) rfl rfl (Nat.le_of_ble_eq_true rfl) (fun X hXl hr C => ?_)
  unfold f_M_which at hF
  refine j_iconst C (v := 0) d_M_which_0 (by decide) ?_
  refine j_istore_n C (lv' := [(1, .int (0 : Int32)), (0, rf G 38)]) d_M_which_1 rfl (by decide) rfl ?_
  refine j_iconst C (v := 0) d_M_which_2 (by decide) ?_
  refine j_istore_n C (lv' := [(2, .int (0 : Int32)), (1, .int (0 : Int32)), (0, rf G 38)]) d_M_which_3 rfl (by decide) rfl ?_
  refine j_sub C [(0, rf G 38), (1, .int (0 : Int32)), (2, .int (0 : Int32))] [2, 1, 0] rfl ?_
  exact b_M_which_4 C hr 1100 (0 : Int32) (0 : Int32) σ hF
set_option maxHeartbeats 4000000 in
set_option maxRecDepth 100000 in
theorem b_M_inTimeBy_54 {X : XT} {G : GT} {z : (Int32 × MT)} {K13 : Int32 → Int32 → MT → Option (Int32 × MT)} (C : CX X G b_M_inTimeBy 3 "TimeFloodModel" 7 180) (hr : XR X (some .int)) (hK13 : ∀ (x1 : Int32) (x2 : Int32) (σ : MT), K13 x1 x2 σ = some z → JW X G (QX X (PI G z.1 z.2) G) 3 13 [(0, rf G 38), (1, .int x1), (2, .int x2)] [] σ) (x1 : Int32) (x2 : Int32) (xs0 : Int32) (xs1 : Int32) (σ : MT) (hF : f_M_inTimeBy_54 K13 x1 x2 xs0 xs1 σ = some z) : JW X G (QX X (PI G z.1 z.2) G) 3 54 [(0, rf G 38), (1, .int x1), (2, .int x2)] [.int xs0, .int xs1, rf G 44] σ := by
  unfold f_M_inTimeBy_54 at hF
  obtain ⟨q54, hF⟩ := g_if hF
  refine j_iast C (rfl : kdf 44 = 15) (by decide) (fun _ => rfl) (inb_v q54) d_M_inTimeBy_54 ?_
  refine j_iinc C (v := x2 + (1 : Int32)) (lv' := [(2, .int (x2 + (1 : Int32))), (0, rf G 38), (1, .int x1)]) d_M_inTimeBy_55 2 rfl rfl (by decide) rfl ?_
  refine j_goto C 13 d_M_inTimeBy_58 (by decide) ?_
  refine j_sub C [(0, rf G 38), (1, .int x1), (2, .int (x2 + (1 : Int32)))] [1, 2, 0] rfl ?_
  exact hK13 x1 (x2 + (1 : Int32)) (sI σ 44 xs1.toNatClampNeg xs0) hF
set_option maxHeartbeats 4000000 in
set_option maxRecDepth 100000 in
theorem b_M_inTimeBy_13 {X : XT} {G : GT} {z : (Int32 × MT)} (C : CX X G b_M_inTimeBy 3 "TimeFloodModel" 7 180) (hr : XR X (some .int)) : ∀ (n : Nat) (x1 : Int32) (x2 : Int32) (σ : MT), f_M_inTimeBy_13 n x1 x2 σ = some z → JW X G (QX X (PI G z.1 z.2) G) 3 13 [(0, rf G 38), (1, .int x1), (2, .int x2)] [] σ := by
  intro n
  induction n with
  | zero =>
    intro x1 x2 σ hF
    rw [f_M_inTimeBy_13] at hF
    cases hF
  | succ n ih =>
    intro x1 x2 σ hF
    rw [f_M_inTimeBy_13] at hF
    refine j_iload_n C d_M_inTimeBy_13 rfl 2 rfl ?_
    refine j_aload_n C d_M_inTimeBy_14 rfl 0 rfl ?_
    refine g_M_nodes C (rfl : kdf 38 = 8) wd_668 d_M_inTimeBy_15 ?_
    refine j_icmp_ge C 61 d_M_inTimeBy_18 (by decide) hF (fun q18 hF => ?_) (fun q18 hF => ?_)
    · refine j_aload_n C d_M_inTimeBy_61 rfl 0 rfl ?_
      refine j_bipush C (v := 12) d_M_inTimeBy_62 (by decide) ?_
      obtain ⟨r64, h64, hF⟩ := g_bind hF
      refine j_vv C (As := [.int (12 : Int32)]) (st := []) (c_M_tryPeriods (XL X) G (12 : Int32) σ h64) (rfl : kdf 38 = 8) (by decide) rfl rfl m_M_tryPeriods wd_986 rfl rfl (Nat.le_of_ble_eq_true rfl) ⟨by decide, by decide⟩ d_M_inTimeBy_64 ?_
      refine j_aload_n C d_M_inTimeBy_67 rfl 0 rfl ?_
      refine j_aload_n C d_M_inTimeBy_68 rfl 0 rfl ?_
      refine g_M_trial C (rfl : kdf 38 = 8) wd_674 d_M_inTimeBy_69 ?_
      obtain ⟨r72, h72, hF⟩ := g_bind hF
      refine j_vi C (As := [rf G 44]) (st := []) (c_M_inTime (XL X) G 44 r64 (rfl : kdf 44 = 15) h72) (rfl : kdf 38 = 8) (by decide) rfl rfl m_M_inTime wd_852 rfl rfl (Nat.le_of_ble_eq_true rfl) ⟨by decide, by decide⟩ d_M_inTimeBy_72 ?_
      obtain ⟨r75, h75, hF⟩ := g_bind hF
      refine j_si C (As := [.int r72]) (st := []) (c_M_ones (XL X) G r72 r64 h75) m_M_ones wd_955 rfl rfl (Nat.le_of_ble_eq_true rfl) ⟨by decide, by decide⟩ d_M_inTimeBy_75 ?_
      cases hF
      exact j_iret (st := []) C hr d_M_inTimeBy_78 rfl rfl
    · refine j_aload_n C d_M_inTimeBy_21 rfl 0 rfl ?_
      refine g_M_trial C (rfl : kdf 38 = 8) wd_674 d_M_inTimeBy_22 ?_
      refine j_bipush C (v := 19) d_M_inTimeBy_25 (by decide) ?_
      refine j_iload_n C d_M_inTimeBy_27 rfl 2 rfl ?_
      refine j_imul C d_M_inTimeBy_28 ?_
      refine j_iconst C (v := 0) d_M_inTimeBy_29 (by decide) ?_
      refine j_iadd C d_M_inTimeBy_30 ?_
      refine j_iload_n C d_M_inTimeBy_31 rfl 1 rfl ?_
      refine j_iload_n C d_M_inTimeBy_32 rfl 2 rfl ?_
      obtain ⟨r33, h33, hF⟩ := g_bind hF
      refine j_si C (As := [.int x1, .int x2]) (st := [.int (((19 : Int32) * x2) + (0 : Int32)), rf G 44]) (c_M_has (XL X) G x1 x2 σ h33) m_M_has wd_1006 rfl rfl (Nat.le_of_ble_eq_true rfl) ⟨by decide, by decide⟩ d_M_inTimeBy_33 ?_
      refine j_if_eq C 53 d_M_inTimeBy_36 (by decide) hF (fun q36 hF => ?_) (fun q36 hF => ?_)
      · refine j_iconst C (v := 0) d_M_inTimeBy_53 (by decide) ?_
        exact b_M_inTimeBy_54 C hr ih x1 x2 (0 : Int32) (((19 : Int32) * x2) + (0 : Int32)) σ hF
      · refine j_aload_n C d_M_inTimeBy_39 rfl 0 rfl ?_
        refine g_M_trial C (rfl : kdf 38 = 8) wd_674 d_M_inTimeBy_40 ?_
        refine j_bipush C (v := 19) d_M_inTimeBy_43 (by decide) ?_
        refine j_iload_n C d_M_inTimeBy_45 rfl 2 rfl ?_
        refine j_imul C d_M_inTimeBy_46 ?_
        refine j_iconst C (v := 0) d_M_inTimeBy_47 (by decide) ?_
        refine j_iadd C d_M_inTimeBy_48 ?_
        obtain ⟨q49, hF⟩ := g_if hF
        refine j_iald C (rfl : kdf 44 = 15) (by decide) rfl (inb_v q49) d_M_inTimeBy_49 ?_
        refine j_goto C 54 d_M_inTimeBy_50 (by decide) ?_
        exact b_M_inTimeBy_54 C hr ih x1 x2 (σ.1 44 (((19 : Int32) * x2) + (0 : Int32)).toNatClampNeg) (((19 : Int32) * x2) + (0 : Int32)) σ hF
set_option maxHeartbeats 4000000 in
set_option maxRecDepth 100000 in
theorem c_M_inTimeBy (l : Launch) (G : GT) (x1 : Int32) (σ : MT)  {z : (Int32 × MT)} (hF : f_M_inTimeBy x1 σ = some z) : CTI l G y_M_inTimeBy b_M_inTimeBy 3 (some .int) 7 180 [rf G 38, .int x1] σ z.1 z.2 := by
  refine entX [(0, rf G 38), (1, .int x1)] "TimeFloodModel" (by decide +kernel) rfl rfl (Nat.le_of_ble_eq_true rfl) (fun X hXl hr C => ?_)
  unfold f_M_inTimeBy at hF
  refine j_aload_n C d_M_inTimeBy_0 rfl 0 rfl ?_
  refine g_M_now C (rfl : kdf 38 = 8) wd_673 d_M_inTimeBy_1 ?_
  refine j_aload_n C d_M_inTimeBy_4 rfl 0 rfl ?_
  refine g_M_trial C (rfl : kdf 38 = 8) wd_674 d_M_inTimeBy_5 ?_
  obtain ⟨r8, h8, hF⟩ := g_bind hF
  refine j_sv C (As := [rf G 43, rf G 44]) (st := []) (c_M_copy (XL X) G 43 44 σ (rfl : kdf 43 = 15) (rfl : kdf 44 = 15) h8) m_M_copy wd_983 rfl rfl (Nat.le_of_ble_eq_true rfl) ⟨by decide, by decide⟩ d_M_inTimeBy_8 ?_
  refine j_iconst C (v := 0) d_M_inTimeBy_11 (by decide) ?_
  refine j_istore_n C (lv' := [(2, .int (0 : Int32)), (0, rf G 38), (1, .int x1)]) d_M_inTimeBy_12 rfl (by decide) rfl ?_
  refine j_sub C [(0, rf G 38), (1, .int x1), (2, .int (0 : Int32))] [1, 2, 0] rfl ?_
  exact b_M_inTimeBy_13 C hr 1100 x1 (0 : Int32) r8 hF
set_option maxHeartbeats 4000000 in
set_option maxRecDepth 100000 in
theorem b_M_share_71 {X : XT} {G : GT} {z : (Int32 × MT)} {K39 : Int32 → Int32 → Int32 → Int32 → Int32 → MT → Option (Int32 × MT)} (C : CX X G b_M_share 8 "TimeFloodModel" 8 202) (hr : XR X (some .int)) (hK39 : ∀ (x1 : Int32) (x2 : Int32) (x3 : Int32) (x4 : Int32) (x5 : Int32) (σ : MT), K39 x1 x2 x3 x4 x5 σ = some z → JW X G (QX X (PI G z.1 z.2) G) 8 39 [(0, rf G 38), (1, .int x1), (2, .int x2), (3, .int x3), (4, .int x4), (5, .int x5)] [] σ) (x1 : Int32) (x2 : Int32) (x3 : Int32) (x4 : Int32) (x5 : Int32) (xs0 : Int32) (xs1 : Int32) (σ : MT) (hF : f_M_share_71 K39 x1 x2 x3 x4 x5 xs0 xs1 σ = some z) : JW X G (QX X (PI G z.1 z.2) G) 8 71 [(0, rf G 38), (1, .int x1), (2, .int x2), (3, .int x3), (4, .int x4), (5, .int x5)] [.int xs0, .int xs1, rf G 56] σ := by
  unfold f_M_share_71 at hF
  obtain ⟨q71, hF⟩ := g_if hF
  refine j_iast C (rfl : kdf 56 = 18) (by decide) (fun _ => rfl) (inb_v q71) d_M_share_71 ?_
  refine j_iinc C (v := x5 + (1 : Int32)) (lv' := [(5, .int (x5 + (1 : Int32))), (0, rf G 38), (1, .int x1), (2, .int x2), (3, .int x3), (4, .int x4)]) d_M_share_72 5 rfl rfl (by decide) rfl ?_
  refine j_goto C 39 d_M_share_75 (by decide) ?_
  refine j_sub C [(0, rf G 38), (1, .int x1), (2, .int x2), (3, .int x3), (4, .int x4), (5, .int (x5 + (1 : Int32)))] [1, 2, 3, 4, 5, 0] rfl ?_
  exact hK39 x1 x2 x3 x4 (x5 + (1 : Int32)) (sI σ 56 xs1.toNatClampNeg xs0) hF
set_option maxHeartbeats 4000000 in
set_option maxRecDepth 100000 in
theorem b_M_share_39 {X : XT} {G : GT} {z : (Int32 × MT)} {K84 : Int32 → Int32 → Int32 → Int32 → Int32 → Int32 → MT → Option (Int32 × MT)} (C : CX X G b_M_share 8 "TimeFloodModel" 8 202) (hr : XR X (some .int)) (hK84 : ∀ (x1 : Int32) (x2 : Int32) (x3 : Int32) (x4 : Int32) (x5 : Int32) (x6 : Int32) (σ : MT), K84 x1 x2 x3 x4 x5 x6 σ = some z → JW X G (QX X (PI G z.1 z.2) G) 8 84 [(0, rf G 38), (1, .int x1), (2, .int x2), (3, .int x3), (4, .int x4), (5, .int x5), (6, .int x6)] [] σ) : ∀ (n : Nat) (x1 : Int32) (x2 : Int32) (x3 : Int32) (x4 : Int32) (x5 : Int32) (σ : MT), f_M_share_39 K84 n x1 x2 x3 x4 x5 σ = some z → JW X G (QX X (PI G z.1 z.2) G) 8 39 [(0, rf G 38), (1, .int x1), (2, .int x2), (3, .int x3), (4, .int x4), (5, .int x5)] [] σ := by
  intro n
  induction n with
  | zero =>
    intro x1 x2 x3 x4 x5 σ hF
    rw [f_M_share_39] at hF
    cases hF
  | succ n ih =>
    intro x1 x2 x3 x4 x5 σ hF
    rw [f_M_share_39] at hF
    refine j_iload C d_M_share_39 5 rfl ?_
    refine j_bipush C (v := 32) d_M_share_41 (by decide) ?_
    refine j_icmp_ge C 78 d_M_share_43 (by decide) hF (fun q43 hF => ?_) (fun q43 hF => ?_)
    · refine j_iconst C (v := 0) d_M_share_78 (by decide) ?_
      refine j_istore C (lv' := [(5, .int (0 : Int32)), (0, rf G 38), (1, .int x1), (2, .int x2), (3, .int x3), (4, .int x4)]) d_M_share_79 (by decide) rfl ?_
      refine j_iconst C (v := 0) d_M_share_81 (by decide) ?_
      refine j_istore C (lv' := [(6, .int (0 : Int32)), (5, .int (0 : Int32)), (0, rf G 38), (1, .int x1), (2, .int x2), (3, .int x3), (4, .int x4)]) d_M_share_82 (by decide) rfl ?_
      refine j_sub C [(0, rf G 38), (1, .int x1), (2, .int x2), (3, .int x3), (4, .int x4), (5, .int (0 : Int32)), (6, .int (0 : Int32))] [2, 3, 4, 5, 6, 1, 0] rfl ?_
      exact hK84 x1 x2 x3 x4 (0 : Int32) (0 : Int32) σ hF
    · refine j_aload_n C d_M_share_46 rfl 0 rfl ?_
      refine g_M_worth C (rfl : kdf 38 = 8) wd_690 d_M_share_47 ?_
      refine j_iload C d_M_share_50 5 rfl ?_
      refine j_iload C d_M_share_52 5 rfl ?_
      refine j_iload_n C d_M_share_54 rfl 3 rfl ?_
      refine j_iconst C (v := -1) d_M_share_55 (by decide) ?_
      refine j_ixor C d_M_share_56 ?_
      refine j_iand C d_M_share_57 ?_
      refine j_if_ne C 70 d_M_share_58 (by decide) hF (fun q58 hF => ?_) (fun q58 hF => ?_)
      · refine j_iconst C (v := 0) d_M_share_70 (by decide) ?_
        exact b_M_share_71 C hr ih x1 x2 x3 x4 x5 (0 : Int32) x5 σ hF
      · refine j_aload_n C d_M_share_61 rfl 0 rfl ?_
        refine j_iload C d_M_share_62 5 rfl ?_
        obtain ⟨r64, h64, hF⟩ := g_bind hF
        refine j_vi C (As := [.int x5]) (st := [.int x5, rf G 56]) (c_M_inTimeBy (XL X) G x5 σ h64) (rfl : kdf 38 = 8) (by decide) rfl rfl m_M_inTimeBy wd_1030 rfl rfl (Nat.le_of_ble_eq_true rfl) ⟨by decide, by decide⟩ d_M_share_64 ?_
        refine j_goto C 71 d_M_share_67 (by decide) ?_
        exact b_M_share_71 C hr ih x1 x2 x3 x4 x5 r64.1 x5 r64.2 hF
set_option maxHeartbeats 4000000 in
set_option maxRecDepth 100000 in
theorem b_M_share_157 {X : XT} {G : GT} {z : (Int32 × MT)} {K84 : Int32 → Int32 → Int32 → Int32 → Int32 → Int32 → MT → Option (Int32 × MT)} (C : CX X G b_M_share 8 "TimeFloodModel" 8 202) (hr : XR X (some .int)) (hK84 : ∀ (x1 : Int32) (x2 : Int32) (x3 : Int32) (x4 : Int32) (x5 : Int32) (x6 : Int32) (σ : MT), K84 x1 x2 x3 x4 x5 x6 σ = some z → JW X G (QX X (PI G z.1 z.2) G) 8 84 [(0, rf G 38), (1, .int x1), (2, .int x2), (3, .int x3), (4, .int x4), (5, .int x5), (6, .int x6)] [] σ) (x1 : Int32) (x2 : Int32) (x3 : Int32) (x4 : Int32) (x5 : Int32) (x6 : Int32) (σ : MT) (hF : f_M_share_157 K84 x1 x2 x3 x4 x5 x6 σ = some z) : JW X G (QX X (PI G z.1 z.2) G) 8 157 [(0, rf G 38), (1, .int x1), (2, .int x2), (3, .int x3), (4, .int x4), (5, .int x5), (6, .int x6)] [] σ := by
  unfold f_M_share_157 at hF
  refine j_iinc C (v := x6 + (1 : Int32)) (lv' := [(6, .int (x6 + (1 : Int32))), (0, rf G 38), (1, .int x1), (2, .int x2), (3, .int x3), (4, .int x4), (5, .int x5)]) d_M_share_157 6 rfl rfl (by decide) rfl ?_
  refine j_goto C 84 d_M_share_160 (by decide) ?_
  refine j_sub C [(0, rf G 38), (1, .int x1), (2, .int x2), (3, .int x3), (4, .int x4), (5, .int x5), (6, .int (x6 + (1 : Int32)))] [1, 2, 3, 4, 5, 6, 0] rfl ?_
  exact hK84 x1 x2 x3 x4 x5 (x6 + (1 : Int32)) σ hF
set_option maxHeartbeats 4000000 in
set_option maxRecDepth 100000 in
theorem b_M_share_84 {X : XT} {G : GT} {z : (Int32 × MT)} (C : CX X G b_M_share 8 "TimeFloodModel" 8 202) (hr : XR X (some .int)) : ∀ (n : Nat) (x1 : Int32) (x2 : Int32) (x3 : Int32) (x4 : Int32) (x5 : Int32) (x6 : Int32) (σ : MT), f_M_share_84 n x1 x2 x3 x4 x5 x6 σ = some z → JW X G (QX X (PI G z.1 z.2) G) 8 84 [(0, rf G 38), (1, .int x1), (2, .int x2), (3, .int x3), (4, .int x4), (5, .int x5), (6, .int x6)] [] σ := by
  intro n
  induction n with
  | zero =>
    intro x1 x2 x3 x4 x5 x6 σ hF
    rw [f_M_share_84] at hF
    cases hF
  | succ n ih =>
    intro x1 x2 x3 x4 x5 x6 σ hF
    rw [f_M_share_84] at hF
    refine j_iload C d_M_share_84 6 rfl ?_
    refine j_bipush C (v := 32) d_M_share_86 (by decide) ?_
    refine j_icmp_ge C 163 d_M_share_88 (by decide) hF (fun q88 hF => ?_) (fun q88 hF => ?_)
    · refine j_iload C d_M_share_163 5 rfl ?_
      refine j_iload C d_M_share_165 4 rfl ?_
      obtain ⟨r167, h167, hF⟩ := g_bind hF
      refine j_si C (As := [.int x4]) (st := [.int x5]) (c_M_factorial (XL X) G x4 σ h167) m_M_factorial wd_1034 rfl rfl (Nat.le_of_ble_eq_true rfl) ⟨by decide, by decide⟩ d_M_share_167 ?_
      refine j_iload_n C d_M_share_170 rfl 2 rfl ?_
      obtain ⟨r171, h171, hF⟩ := g_bind hF
      refine j_si C (As := [.int x5, .int r167, .int x2]) (st := []) (c_M_fraction (XL X) G x5 r167 x2 σ h171) m_M_fraction wd_1037 rfl rfl (Nat.le_of_ble_eq_true rfl) ⟨by decide, by decide⟩ d_M_share_171 ?_
      cases hF
      exact j_iret (st := []) C hr d_M_share_174 rfl rfl
    · refine j_iload C d_M_share_91 6 rfl ?_
      refine j_iload_n C d_M_share_93 rfl 3 rfl ?_
      refine j_iconst C (v := -1) d_M_share_94 (by decide) ?_
      refine j_ixor C d_M_share_95 ?_
      refine j_iand C d_M_share_96 ?_
      refine j_if_ne C 157 d_M_share_97 (by decide) hF (fun q97 hF => ?_) (fun q97 hF => ?_)
      · exact b_M_share_157 C hr ih x1 x2 x3 x4 x5 x6 σ hF
      · refine j_iload C d_M_share_100 6 rfl ?_
        refine j_iload_n C d_M_share_102 rfl 1 rfl ?_
        obtain ⟨r103, h103, hF⟩ := g_bind hF
        refine j_si C (As := [.int x6, .int x1]) (st := []) (c_M_has (XL X) G x6 x1 σ h103) m_M_has wd_1006 rfl rfl (Nat.le_of_ble_eq_true rfl) ⟨by decide, by decide⟩ d_M_share_103 ?_
        refine j_if_ne C 157 d_M_share_106 (by decide) hF (fun q106 hF => ?_) (fun q106 hF => ?_)
        · exact b_M_share_157 C hr ih x1 x2 x3 x4 x5 x6 σ hF
        · refine j_iload C d_M_share_109 6 rfl ?_
          obtain ⟨r111, h111, hF⟩ := g_bind hF
          refine j_si C (As := [.int x6]) (st := []) (c_M_ones (XL X) G x6 σ h111) m_M_ones wd_955 rfl rfl (Nat.le_of_ble_eq_true rfl) ⟨by decide, by decide⟩ d_M_share_111 ?_
          refine j_istore C (lv' := [(7, .int r111), (0, rf G 38), (1, .int x1), (2, .int x2), (3, .int x3), (4, .int x4), (5, .int x5), (6, .int x6)]) d_M_share_114 (by decide) rfl ?_
          refine j_iload C d_M_share_116 6 rfl ?_
          refine j_iload C d_M_share_118 0 rfl ?_
          obtain ⟨r120, h120, hF⟩ := g_bind hF
          refine j_si C (As := [.int r111]) (st := [.int x5]) (c_M_factorial (XL X) G r111 σ h120) m_M_factorial wd_1034 rfl rfl (Nat.le_of_ble_eq_true rfl) ⟨by decide, by decide⟩ d_M_share_120 ?_
          refine j_iload C d_M_share_123 5 rfl ?_
          refine j_iconst C (v := 1) d_M_share_125 (by decide) ?_
          refine j_isub C d_M_share_126 ?_
          refine j_iload C d_M_share_127 0 rfl ?_
          refine j_isub C d_M_share_129 ?_
          obtain ⟨r130, h130, hF⟩ := g_bind hF
          refine j_si C (As := [.int ((x4 - (1 : Int32)) - r111)]) (st := [.int r120, .int x5]) (c_M_factorial (XL X) G ((x4 - (1 : Int32)) - r111) σ h130) m_M_factorial wd_1034 rfl rfl (Nat.le_of_ble_eq_true rfl) ⟨by decide, by decide⟩ d_M_share_130 ?_
          refine j_imul C d_M_share_133 ?_
          refine j_aload_n C d_M_share_134 rfl 1 rfl ?_
          refine g_M_worth C (rfl : kdf 38 = 8) wd_690 d_M_share_135 ?_
          refine j_iload C d_M_share_138 7 rfl ?_
          refine j_iconst C (v := 1) d_M_share_140 (by decide) ?_
          refine j_iload_n C d_M_share_141 rfl 2 rfl ?_
          refine j_ishl C d_M_share_142 ?_
          refine j_ior C d_M_share_143 ?_
          obtain ⟨q144, hF⟩ := g_if hF
          refine j_iald C (rfl : kdf 56 = 18) (by decide) rfl (inb_v q144) d_M_share_144 ?_
          refine j_aload_n C d_M_share_145 rfl 1 rfl ?_
          refine g_M_worth C (rfl : kdf 38 = 8) wd_690 d_M_share_146 ?_
          refine j_iload C d_M_share_149 7 rfl ?_
          obtain ⟨q151, hF⟩ := g_if hF
          refine j_iald C (rfl : kdf 56 = 18) (by decide) rfl (inb_v q151) d_M_share_151 ?_
          refine j_isub C d_M_share_152 ?_
          refine j_imul C d_M_share_153 ?_
          refine j_iadd C d_M_share_154 ?_
          refine j_istore C (lv' := [(5, .int (x5 + ((r120 * r130) * ((σ.1 56 (x6 ||| ((1 : Int32) <<< (x1 &&& 31))).toNatClampNeg) - (σ.1 56 x6.toNatClampNeg))))), (7, .int r111), (0, rf G 38), (1, .int x1), (2, .int x2), (3, .int x3), (4, .int x4), (6, .int x6)]) d_M_share_155 (by decide) rfl ?_
          refine j_sub C [(0, rf G 38), (1, .int x1), (2, .int x2), (3, .int x3), (4, .int x4), (5, .int (x5 + ((r120 * r130) * ((σ.1 56 (x6 ||| ((1 : Int32) <<< (x1 &&& 31))).toNatClampNeg) - (σ.1 56 x6.toNatClampNeg))))), (6, .int x6)] [2, 3, 4, 5, 6, 0, 7] rfl ?_
          exact b_M_share_157 C hr ih x1 x2 x3 x4 (x5 + ((r120 * r130) * ((σ.1 56 (x6 ||| ((1 : Int32) <<< (x1 &&& 31))).toNatClampNeg) - (σ.1 56 x6.toNatClampNeg)))) x6 σ hF
set_option maxHeartbeats 4000000 in
set_option maxRecDepth 100000 in
theorem c_M_share (l : Launch) (G : GT) (x1 : Int32) (x2 : Int32) (σ : MT)  {z : (Int32 × MT)} (hF : f_M_share x1 x2 σ = some z) : CTI l G y_M_share b_M_share 8 (some .int) 8 202 [rf G 38, .int x1, .int x2] σ z.1 z.2 := by
  refine entX [(0, rf G 38), (1, .int x1), (2, .int x2)] "TimeFloodModel" (by decide +kernel) rfl rfl (Nat.le_of_ble_eq_true rfl) (fun X hXl hr C => ?_)
  unfold f_M_share at hF
  refine j_aload_n C d_M_share_0 rfl 0 rfl ?_
  refine j_iload_n C d_M_share_1 rfl 1 rfl ?_
  obtain ⟨r2, h2, hF⟩ := g_bind hF
  refine j_vi C (As := [.int x1]) (st := []) (c_M_isNode (XL X) G x1 σ h2) (rfl : kdf 38 = 8) (by decide) rfl rfl m_M_isNode wd_894 rfl rfl (Nat.le_of_ble_eq_true rfl) ⟨by decide, by decide⟩ d_M_share_2 ?_
  refine j_if_ne C 10 d_M_share_5 (by decide) hF (fun q5 hF => ?_) (fun q5 hF => ?_)
  · refine j_aload_n C d_M_share_10 rfl 0 rfl ?_
    refine g_M_now C (rfl : kdf 38 = 8) wd_673 d_M_share_11 ?_
    refine j_iload_n C d_M_share_14 rfl 1 rfl ?_
    obtain ⟨r15, h15, hF⟩ := g_bind hF
    refine j_si C (As := [rf G 43, .int x1]) (st := []) (c_M_isOn (XL X) G 43 x1 σ (rfl : kdf 43 = 15) h15) m_M_isOn wd_849 rfl rfl (Nat.le_of_ble_eq_true rfl) ⟨by decide, by decide⟩ d_M_share_15 ?_
    refine j_if_ne C 24 d_M_share_18 (by decide) hF (fun q18 hF => ?_) (fun q18 hF => ?_)
    · refine j_aload_n C d_M_share_24 rfl 0 rfl ?_
      refine j_iconst C (v := 0) d_M_share_25 (by decide) ?_
      obtain ⟨r26, h26, hF⟩ := g_bind hF
      refine j_vi C (As := [.int (0 : Int32)]) (st := []) (c_M_those (XL X) G (0 : Int32) σ h26) (rfl : kdf 38 = 8) (by decide) rfl rfl m_M_those wd_845 rfl rfl (Nat.le_of_ble_eq_true rfl) ⟨by decide, by decide⟩ d_M_share_26 ?_
      refine j_istore_n C (lv' := [(3, .int r26), (0, rf G 38), (1, .int x1), (2, .int x2)]) d_M_share_29 rfl (by decide) rfl ?_
      refine j_iload_n C d_M_share_30 rfl 0 rfl ?_
      obtain ⟨r31, h31, hF⟩ := g_bind hF
      refine j_si C (As := [.int r26]) (st := []) (c_M_ones (XL X) G r26 σ h31) m_M_ones wd_955 rfl rfl (Nat.le_of_ble_eq_true rfl) ⟨by decide, by decide⟩ d_M_share_31 ?_
      refine j_istore C (lv' := [(4, .int r31), (3, .int r26), (0, rf G 38), (1, .int x1), (2, .int x2)]) d_M_share_34 (by decide) rfl ?_
      refine j_iconst C (v := 0) d_M_share_36 (by decide) ?_
      refine j_istore C (lv' := [(5, .int (0 : Int32)), (4, .int r31), (3, .int r26), (0, rf G 38), (1, .int x1), (2, .int x2)]) d_M_share_37 (by decide) rfl ?_
      refine j_sub C [(0, rf G 38), (1, .int x1), (2, .int x2), (3, .int r26), (4, .int r31), (5, .int (0 : Int32))] [3, 4, 5, 2, 1, 0] rfl ?_
      exact b_M_share_39 C hr (b_M_share_84 C hr 1100) 1100 x1 x2 r26 r31 (0 : Int32) σ hF
    · refine j_bipush C (v := -3) d_M_share_21 (by decide) ?_
      cases hF
      exact j_iret (st := []) C hr d_M_share_23 rfl rfl
  · refine j_iconst C (v := -1) d_M_share_8 (by decide) ?_
    cases hF
    exact j_iret (st := []) C hr d_M_share_9 rfl rfl
set_option maxHeartbeats 4000000 in
set_option maxRecDepth 100000 in
theorem b_M_chance_191 {X : XT} {G : GT} {z : (Int32 × MT)} {K57 : Int32 → Int32 → Int32 → Int32 → Int32 → Int32 → Int32 → MT → Option (Int32 × MT)} (C : CX X G b_M_chance 9 "TimeFloodModel" 7 180) (hr : XR X (some .int)) (hK57 : ∀ (x1 : Int32) (x2 : Int32) (x3 : Int32) (x4 : Int32) (x5 : Int32) (x6 : Int32) (x7 : Int32) (σ : MT), K57 x1 x2 x3 x4 x5 x6 x7 σ = some z → JW X G (QX X (PI G z.1 z.2) G) 9 57 [(0, rf G 38), (1, .int x1), (2, .int x2), (3, .int x3), (4, .int x4), (5, .int x5), (6, .int x6), (7, .int x7)] [] σ) (x1 : Int32) (x2 : Int32) (x3 : Int32) (x4 : Int32) (x5 : Int32) (x6 : Int32) (x7 : Int32) (σ : MT) (hF : f_M_chance_191 K57 x1 x2 x3 x4 x5 x6 x7 σ = some z) : JW X G (QX X (PI G z.1 z.2) G) 9 191 [(0, rf G 38), (1, .int x1), (2, .int x2), (3, .int x3), (4, .int x4), (5, .int x5), (6, .int x6), (7, .int x7)] [] σ := by
  unfold f_M_chance_191 at hF
  refine j_iinc C (v := x7 + (1 : Int32)) (lv' := [(7, .int (x7 + (1 : Int32))), (0, rf G 38), (1, .int x1), (2, .int x2), (3, .int x3), (4, .int x4), (5, .int x5), (6, .int x6)]) d_M_chance_191 7 rfl rfl (by decide) rfl ?_
  refine j_goto C 57 d_M_chance_194 (by decide) ?_
  refine j_sub C [(0, rf G 38), (1, .int x1), (2, .int x2), (3, .int x3), (4, .int x4), (5, .int x5), (6, .int x6), (7, .int (x7 + (1 : Int32)))] [1, 2, 3, 4, 5, 6, 7, 0] rfl ?_
  exact hK57 x1 x2 x3 x4 x5 x6 (x7 + (1 : Int32)) σ hF
set_option maxHeartbeats 4000000 in
set_option maxRecDepth 100000 in
theorem b_M_chance_134 {X : XT} {G : GT} {z : (Int32 × MT)} {K92 : Int32 → Int32 → Int32 → Int32 → Int32 → Int32 → Int32 → Int32 → MT → Option (Int32 × MT)} (C : CX X G b_M_chance 9 "TimeFloodModel" 7 180) (hr : XR X (some .int)) (hK92 : ∀ (x1 : Int32) (x2 : Int32) (x3 : Int32) (x4 : Int32) (x5 : Int32) (x6 : Int32) (x7 : Int32) (x8 : Int32) (σ : MT), K92 x1 x2 x3 x4 x5 x6 x7 x8 σ = some z → JW X G (QX X (PI G z.1 z.2) G) 9 92 [(0, rf G 38), (1, .int x1), (2, .int x2), (3, .int x3), (4, .int x4), (5, .int x5), (6, .int x6), (7, .int x7), (8, .int x8)] [] σ) (x1 : Int32) (x2 : Int32) (x3 : Int32) (x4 : Int32) (x5 : Int32) (x6 : Int32) (x7 : Int32) (x8 : Int32) (xs0 : Int32) (xs1 : Int32) (σ : MT) (hF : f_M_chance_134 K92 x1 x2 x3 x4 x5 x6 x7 x8 xs0 xs1 σ = some z) : JW X G (QX X (PI G z.1 z.2) G) 9 134 [(0, rf G 38), (1, .int x1), (2, .int x2), (3, .int x3), (4, .int x4), (5, .int x5), (6, .int x6), (7, .int x7), (8, .int x8)] [.int xs0, .int xs1, rf G 44] σ := by
  unfold f_M_chance_134 at hF
  obtain ⟨q134, hF⟩ := g_if hF
  refine j_iast C (rfl : kdf 44 = 15) (by decide) (fun _ => rfl) (inb_v q134) d_M_chance_134 ?_
  refine j_iinc C (v := x8 + (1 : Int32)) (lv' := [(8, .int (x8 + (1 : Int32))), (0, rf G 38), (1, .int x1), (2, .int x2), (3, .int x3), (4, .int x4), (5, .int x5), (6, .int x6), (7, .int x7)]) d_M_chance_135 8 rfl rfl (by decide) rfl ?_
  refine j_goto C 92 d_M_chance_138 (by decide) ?_
  refine j_sub C [(0, rf G 38), (1, .int x1), (2, .int x2), (3, .int x3), (4, .int x4), (5, .int x5), (6, .int x6), (7, .int x7), (8, .int (x8 + (1 : Int32)))] [1, 2, 3, 4, 5, 6, 7, 8, 0] rfl ?_
  exact hK92 x1 x2 x3 x4 x5 x6 x7 (x8 + (1 : Int32)) (sI σ 44 xs1.toNatClampNeg xs0) hF
set_option maxHeartbeats 4000000 in
set_option maxRecDepth 100000 in
theorem b_M_chance_92 {X : XT} {G : GT} {z : (Int32 × MT)} {K188 : Int32 → Int32 → Int32 → Int32 → Int32 → Int32 → Int32 → Int32 → MT → Option (Int32 × MT)} (C : CX X G b_M_chance 9 "TimeFloodModel" 7 180) (hr : XR X (some .int)) (hK188 : ∀ (x1 : Int32) (x2 : Int32) (x3 : Int32) (x4 : Int32) (x5 : Int32) (x7 : Int32) (xs0 : Int32) (xs1 : Int32) (σ : MT), K188 x1 x2 x3 x4 x5 x7 xs0 xs1 σ = some z → JW X G (QX X (PI G z.1 z.2) G) 9 188 [(0, rf G 38), (1, .int x1), (2, .int x2), (3, .int x3), (4, .int x4), (5, .int x5), (7, .int x7)] [.int xs0, .int xs1] σ) : ∀ (n : Nat) (x1 : Int32) (x2 : Int32) (x3 : Int32) (x4 : Int32) (x5 : Int32) (x6 : Int32) (x7 : Int32) (x8 : Int32) (σ : MT), f_M_chance_92 K188 n x1 x2 x3 x4 x5 x6 x7 x8 σ = some z → JW X G (QX X (PI G z.1 z.2) G) 9 92 [(0, rf G 38), (1, .int x1), (2, .int x2), (3, .int x3), (4, .int x4), (5, .int x5), (6, .int x6), (7, .int x7), (8, .int x8)] [] σ := by
  intro n
  induction n with
  | zero =>
    intro x1 x2 x3 x4 x5 x6 x7 x8 σ hF
    rw [f_M_chance_92] at hF
    cases hF
  | succ n ih =>
    intro x1 x2 x3 x4 x5 x6 x7 x8 σ hF
    rw [f_M_chance_92] at hF
    refine j_iload C d_M_chance_92 8 rfl ?_
    refine j_aload_n C d_M_chance_94 rfl 0 rfl ?_
    refine g_M_links C (rfl : kdf 38 = 8) wd_670 d_M_chance_95 ?_
    refine j_icmp_ge C 141 d_M_chance_98 (by decide) hF (fun q98 hF => ?_) (fun q98 hF => ?_)
    · refine j_aload_n C d_M_chance_141 rfl 0 rfl ?_
      refine j_iload_n C d_M_chance_142 rfl 1 rfl ?_
      obtain ⟨r143, h143, hF⟩ := g_bind hF
      refine j_vv C (As := [.int x1]) (st := []) (c_M_tryPeriods (XL X) G x1 σ h143) (rfl : kdf 38 = 8) (by decide) rfl rfl m_M_tryPeriods wd_986 rfl rfl (Nat.le_of_ble_eq_true rfl) ⟨by decide, by decide⟩ d_M_chance_143 ?_
      refine j_iload C d_M_chance_146 6 rfl ?_
      refine j_aload_n C d_M_chance_148 rfl 0 rfl ?_
      refine j_aload_n C d_M_chance_149 rfl 0 rfl ?_
      refine g_M_trial C (rfl : kdf 38 = 8) wd_674 d_M_chance_150 ?_
      obtain ⟨r153, h153, hF⟩ := g_bind hF
      refine j_vi C (As := [rf G 44]) (st := [.int x6]) (c_M_isOne (XL X) G 44 r143 (rfl : kdf 44 = 15) h153) (rfl : kdf 38 = 8) (by decide) rfl rfl m_M_isOne wd_886 rfl rfl (Nat.le_of_ble_eq_true rfl) ⟨by decide, by decide⟩ d_M_chance_153 ?_
      refine j_if_eq C 187 d_M_chance_156 (by decide) hF (fun q156 hF => ?_) (fun q156 hF => ?_)
      · refine j_iconst C (v := 0) d_M_chance_187 (by decide) ?_
        refine j_sub C [(0, rf G 38), (1, .int x1), (2, .int x2), (3, .int x3), (4, .int x4), (5, .int x5), (7, .int x7)] [0, 1, 2, 3, 4, 5, 7] rfl ?_
        exact hK188 x1 x2 x3 x4 x5 x7 (0 : Int32) x6 r143 hF
      · refine j_iload_n C d_M_chance_159 rfl 2 rfl ?_
        refine j_iload C d_M_chance_160 7 rfl ?_
        obtain ⟨r162, h162, hF⟩ := g_bind hF
        refine j_si C (As := [.int x7]) (st := [.int x2, .int x6]) (c_M_ones (XL X) G x7 r143 h162) m_M_ones wd_955 rfl rfl (Nat.le_of_ble_eq_true rfl) ⟨by decide, by decide⟩ d_M_chance_162 ?_
        obtain ⟨r165, h165, hF⟩ := g_bind hF
        refine j_si C (As := [.int x2, .int r162]) (st := [.int x6]) (c_M_raised (XL X) G x2 r162 r143 h165) m_M_raised wd_1044 rfl rfl (Nat.le_of_ble_eq_true rfl) ⟨by decide, by decide⟩ d_M_chance_165 ?_
        refine j_bipush C (v := 10) d_M_chance_168 (by decide) ?_
        refine j_iload_n C d_M_chance_170 rfl 2 rfl ?_
        refine j_isub C d_M_chance_171 ?_
        refine j_iload C d_M_chance_172 5 rfl ?_
        refine j_iload C d_M_chance_174 7 rfl ?_
        obtain ⟨r176, h176, hF⟩ := g_bind hF
        refine j_si C (As := [.int x7]) (st := [.int x5, .int ((10 : Int32) - x2), .int r165, .int x6]) (c_M_ones (XL X) G x7 r143 h176) m_M_ones wd_955 rfl rfl (Nat.le_of_ble_eq_true rfl) ⟨by decide, by decide⟩ d_M_chance_176 ?_
        refine j_isub C d_M_chance_179 ?_
        obtain ⟨r180, h180, hF⟩ := g_bind hF
        refine j_si C (As := [.int ((10 : Int32) - x2), .int (x5 - r176)]) (st := [.int r165, .int x6]) (c_M_raised (XL X) G ((10 : Int32) - x2) (x5 - r176) r143 h180) m_M_raised wd_1044 rfl rfl (Nat.le_of_ble_eq_true rfl) ⟨by decide, by decide⟩ d_M_chance_180 ?_
        refine j_imul C d_M_chance_183 ?_
        refine j_goto C 188 d_M_chance_184 (by decide) ?_
        refine j_sub C [(0, rf G 38), (1, .int x1), (2, .int x2), (3, .int x3), (4, .int x4), (5, .int x5), (7, .int x7)] [0, 1, 2, 3, 4, 5, 7] rfl ?_
        exact hK188 x1 x2 x3 x4 x5 x7 (r165 * r180) x6 r143 hF
    · refine j_aload_n C d_M_chance_101 rfl 0 rfl ?_
      refine g_M_trial C (rfl : kdf 38 = 8) wd_674 d_M_chance_102 ?_
      refine j_bipush C (v := 95) d_M_chance_105 (by decide) ?_
      refine j_iload C d_M_chance_107 8 rfl ?_
      refine j_iadd C d_M_chance_109 ?_
      refine j_iload C d_M_chance_110 7 rfl ?_
      refine j_iload C d_M_chance_112 8 rfl ?_
      obtain ⟨r114, h114, hF⟩ := g_bind hF
      refine j_si C (As := [.int x7, .int x8]) (st := [.int ((95 : Int32) + x8), rf G 44]) (c_M_has (XL X) G x7 x8 σ h114) m_M_has wd_1006 rfl rfl (Nat.le_of_ble_eq_true rfl) ⟨by decide, by decide⟩ d_M_chance_114 ?_
      refine j_if_eq C 124 d_M_chance_117 (by decide) hF (fun q117 hF => ?_) (fun q117 hF => ?_)
      · refine j_aload_n C d_M_chance_124 rfl 0 rfl ?_
        refine g_M_trial C (rfl : kdf 38 = 8) wd_674 d_M_chance_125 ?_
        refine j_bipush C (v := 95) d_M_chance_128 (by decide) ?_
        refine j_iload C d_M_chance_130 8 rfl ?_
        refine j_iadd C d_M_chance_132 ?_
        obtain ⟨q133, hF⟩ := g_if hF
        refine j_iald C (rfl : kdf 44 = 15) (by decide) rfl (inb_v q133) d_M_chance_133 ?_
        exact b_M_chance_134 C hr ih x1 x2 x3 x4 x5 x6 x7 x8 (σ.1 44 ((95 : Int32) + x8).toNatClampNeg) ((95 : Int32) + x8) σ hF
      · refine j_iconst C (v := 1) d_M_chance_120 (by decide) ?_
        refine j_goto C 134 d_M_chance_121 (by decide) ?_
        exact b_M_chance_134 C hr ih x1 x2 x3 x4 x5 x6 x7 x8 (1 : Int32) ((95 : Int32) + x8) σ hF
set_option maxHeartbeats 4000000 in
set_option maxRecDepth 100000 in
theorem b_M_chance_188 {X : XT} {G : GT} {z : (Int32 × MT)} {K57 : Int32 → Int32 → Int32 → Int32 → Int32 → Int32 → Int32 → MT → Option (Int32 × MT)} (C : CX X G b_M_chance 9 "TimeFloodModel" 7 180) (hr : XR X (some .int)) (hK57 : ∀ (x1 : Int32) (x2 : Int32) (x3 : Int32) (x4 : Int32) (x5 : Int32) (x6 : Int32) (x7 : Int32) (σ : MT), K57 x1 x2 x3 x4 x5 x6 x7 σ = some z → JW X G (QX X (PI G z.1 z.2) G) 9 57 [(0, rf G 38), (1, .int x1), (2, .int x2), (3, .int x3), (4, .int x4), (5, .int x5), (6, .int x6), (7, .int x7)] [] σ) (x1 : Int32) (x2 : Int32) (x3 : Int32) (x4 : Int32) (x5 : Int32) (x7 : Int32) (xs0 : Int32) (xs1 : Int32) (σ : MT) (hF : f_M_chance_188 K57 x1 x2 x3 x4 x5 x7 xs0 xs1 σ = some z) : JW X G (QX X (PI G z.1 z.2) G) 9 188 [(0, rf G 38), (1, .int x1), (2, .int x2), (3, .int x3), (4, .int x4), (5, .int x5), (7, .int x7)] [.int xs0, .int xs1] σ := by
  unfold f_M_chance_188 at hF
  refine j_iadd C d_M_chance_188 ?_
  refine j_istore C (lv' := [(6, .int (xs1 + xs0)), (0, rf G 38), (1, .int x1), (2, .int x2), (3, .int x3), (4, .int x4), (5, .int x5), (7, .int x7)]) d_M_chance_189 (by decide) rfl ?_
  refine j_sub C [(0, rf G 38), (1, .int x1), (2, .int x2), (3, .int x3), (4, .int x4), (5, .int x5), (6, .int (xs1 + xs0)), (7, .int x7)] [1, 2, 3, 4, 5, 6, 0, 7] rfl ?_
  exact b_M_chance_191 C hr hK57 x1 x2 x3 x4 x5 (xs1 + xs0) x7 σ hF
set_option maxHeartbeats 4000000 in
set_option maxRecDepth 100000 in
theorem b_M_chance_57 {X : XT} {G : GT} {z : (Int32 × MT)} (C : CX X G b_M_chance 9 "TimeFloodModel" 7 180) (hr : XR X (some .int)) : ∀ (n : Nat) (x1 : Int32) (x2 : Int32) (x3 : Int32) (x4 : Int32) (x5 : Int32) (x6 : Int32) (x7 : Int32) (σ : MT), f_M_chance_57 n x1 x2 x3 x4 x5 x6 x7 σ = some z → JW X G (QX X (PI G z.1 z.2) G) 9 57 [(0, rf G 38), (1, .int x1), (2, .int x2), (3, .int x3), (4, .int x4), (5, .int x5), (6, .int x6), (7, .int x7)] [] σ := by
  intro n
  induction n with
  | zero =>
    intro x1 x2 x3 x4 x5 x6 x7 σ hF
    rw [f_M_chance_57] at hF
    cases hF
  | succ n ih =>
    intro x1 x2 x3 x4 x5 x6 x7 σ hF
    rw [f_M_chance_57] at hF
    refine j_iload C d_M_chance_57 7 rfl ?_
    refine j_iconst C (v := 1) d_M_chance_59 (by decide) ?_
    refine j_aload_n C d_M_chance_60 rfl 0 rfl ?_
    refine g_M_links C (rfl : kdf 38 = 8) wd_670 d_M_chance_61 ?_
    refine j_ishl C d_M_chance_64 ?_
    refine j_icmp_ge C 197 d_M_chance_65 (by decide) hF (fun q65 hF => ?_) (fun q65 hF => ?_)
    · refine j_iload C d_M_chance_197 6 rfl ?_
      refine j_bipush C (v := 10) d_M_chance_199 (by decide) ?_
      refine j_iload C d_M_chance_201 5 rfl ?_
      obtain ⟨r203, h203, hF⟩ := g_bind hF
      refine j_si C (As := [.int (10 : Int32), .int x5]) (st := [.int x6]) (c_M_raised (XL X) G (10 : Int32) x5 σ h203) m_M_raised wd_1044 rfl rfl (Nat.le_of_ble_eq_true rfl) ⟨by decide, by decide⟩ d_M_chance_203 ?_
      refine j_iload_n C d_M_chance_206 rfl 3 rfl ?_
      obtain ⟨r207, h207, hF⟩ := g_bind hF
      refine j_si C (As := [.int x6, .int r203, .int x3]) (st := []) (c_M_fraction (XL X) G x6 r203 x3 σ h207) m_M_fraction wd_1037 rfl rfl (Nat.le_of_ble_eq_true rfl) ⟨by decide, by decide⟩ d_M_chance_207 ?_
      cases hF
      exact j_iret (st := []) C hr d_M_chance_210 rfl rfl
    · refine j_iload C d_M_chance_68 7 rfl ?_
      refine j_iload C d_M_chance_70 4 rfl ?_
      refine j_iconst C (v := -1) d_M_chance_72 (by decide) ?_
      refine j_ixor C d_M_chance_73 ?_
      refine j_iand C d_M_chance_74 ?_
      refine j_if_ne C 191 d_M_chance_75 (by decide) hF (fun q75 hF => ?_) (fun q75 hF => ?_)
      · exact b_M_chance_191 C hr ih x1 x2 x3 x4 x5 x6 x7 σ hF
      · refine j_aload_n C d_M_chance_78 rfl 0 rfl ?_
        refine g_M_now C (rfl : kdf 38 = 8) wd_673 d_M_chance_79 ?_
        refine j_aload_n C d_M_chance_82 rfl 0 rfl ?_
        refine g_M_trial C (rfl : kdf 38 = 8) wd_674 d_M_chance_83 ?_
        obtain ⟨r86, h86, hF⟩ := g_bind hF
        refine j_sv C (As := [rf G 43, rf G 44]) (st := []) (c_M_copy (XL X) G 43 44 σ (rfl : kdf 43 = 15) (rfl : kdf 44 = 15) h86) m_M_copy wd_983 rfl rfl (Nat.le_of_ble_eq_true rfl) ⟨by decide, by decide⟩ d_M_chance_86 ?_
        refine j_iconst C (v := 0) d_M_chance_89 (by decide) ?_
        refine j_istore C (lv' := [(8, .int (0 : Int32)), (0, rf G 38), (1, .int x1), (2, .int x2), (3, .int x3), (4, .int x4), (5, .int x5), (6, .int x6), (7, .int x7)]) d_M_chance_90 (by decide) rfl ?_
        refine j_sub C [(0, rf G 38), (1, .int x1), (2, .int x2), (3, .int x3), (4, .int x4), (5, .int x5), (6, .int x6), (7, .int x7), (8, .int (0 : Int32))] [1, 2, 3, 4, 5, 6, 7, 8, 0] rfl ?_
        exact b_M_chance_92 C hr (b_M_chance_188 C hr ih) 1100 x1 x2 x3 x4 x5 x6 x7 (0 : Int32) r86 hF
set_option maxHeartbeats 4000000 in
set_option maxRecDepth 100000 in
theorem c_M_chance (l : Launch) (G : GT) (x1 : Int32) (x2 : Int32) (x3 : Int32) (σ : MT)  {z : (Int32 × MT)} (hF : f_M_chance x1 x2 x3 σ = some z) : CTI l G y_M_chance b_M_chance 9 (some .int) 7 180 [rf G 38, .int x1, .int x2, .int x3] σ z.1 z.2 := by
  refine entX [(0, rf G 38), (1, .int x1), (2, .int x2), (3, .int x3)] "TimeFloodModel" (by decide +kernel) rfl rfl (Nat.le_of_ble_eq_true rfl) (fun X hXl hr C => ?_)
  unfold f_M_chance at hF
  refine j_iload_n C d_M_chance_0 rfl 1 rfl ?_
  refine j_i2l C d_M_chance_1 ?_
  refine j_lconst C (v := 0) d_M_chance_2 (by decide) ?_
  refine j_ldc2 C wd_1013 d_M_chance_3 ?_
  obtain ⟨r6, h6, hF⟩ := g_bind hF
  refine j_si C (As := [.long x1.toInt64, .long (0 : Int64), .long (20 : Int64)]) (st := []) (c_M_in (XL X) G x1.toInt64 (0 : Int64) (20 : Int64) σ h6) m_M_in wd_786 rfl rfl (Nat.le_of_ble_eq_true rfl) ⟨by decide, by decide⟩ d_M_chance_6 ?_
  refine j_if_eq C 24 d_M_chance_9 (by decide) hF (fun q9 hF => ?_) (fun q9 hF => ?_)
  · refine j_bipush C (v := -2) d_M_chance_24 (by decide) ?_
    cases hF
    exact j_iret (st := []) C hr d_M_chance_26 rfl rfl
  · refine j_iload_n C d_M_chance_12 rfl 2 rfl ?_
    refine j_i2l C d_M_chance_13 ?_
    refine j_lconst C (v := 0) d_M_chance_14 (by decide) ?_
    refine j_ldc2 C wd_903 d_M_chance_15 ?_
    obtain ⟨r18, h18, hF⟩ := g_bind hF
    refine j_si C (As := [.long x2.toInt64, .long (0 : Int64), .long (10 : Int64)]) (st := []) (c_M_in (XL X) G x2.toInt64 (0 : Int64) (10 : Int64) σ h18) m_M_in wd_786 rfl rfl (Nat.le_of_ble_eq_true rfl) ⟨by decide, by decide⟩ d_M_chance_18 ?_
    refine j_if_ne C 27 d_M_chance_21 (by decide) hF (fun q21 hF => ?_) (fun q21 hF => ?_)
    · refine j_iconst C (v := 1) d_M_chance_27 (by decide) ?_
      refine j_aload_n C d_M_chance_28 rfl 0 rfl ?_
      refine g_M_links C (rfl : kdf 38 = 8) wd_670 d_M_chance_29 ?_
      refine j_ishl C d_M_chance_32 ?_
      refine j_iconst C (v := 1) d_M_chance_33 (by decide) ?_
      refine j_isub C d_M_chance_34 ?_
      refine j_aload_n C d_M_chance_35 rfl 0 rfl ?_
      obtain ⟨r36, h36, hF⟩ := g_bind hF
      refine j_vi C (As := []) (st := [.int (((1 : Int32) <<< ((σ.1 38 7) &&& 31)) - (1 : Int32))]) (c_M_downs (XL X) G σ h36) (rfl : kdf 38 = 8) (by decide) rfl rfl m_M_downs wd_882 rfl rfl (Nat.le_of_ble_eq_true rfl) ⟨by decide, by decide⟩ d_M_chance_36 ?_
      refine j_iconst C (v := -1) d_M_chance_39 (by decide) ?_
      refine j_ixor C d_M_chance_40 ?_
      refine j_iand C d_M_chance_41 ?_
      refine j_istore C (lv' := [(4, .int ((((1 : Int32) <<< ((σ.1 38 7) &&& 31)) - (1 : Int32)) &&& (r36 ^^^ (-1 : Int32)))), (0, rf G 38), (1, .int x1), (2, .int x2), (3, .int x3)]) d_M_chance_42 (by decide) rfl ?_
      refine j_iload C d_M_chance_44 0 rfl ?_
      obtain ⟨r46, h46, hF⟩ := g_bind hF
      refine j_si C (As := [.int ((((1 : Int32) <<< ((σ.1 38 7) &&& 31)) - (1 : Int32)) &&& (r36 ^^^ (-1 : Int32)))]) (st := []) (c_M_ones (XL X) G ((((1 : Int32) <<< ((σ.1 38 7) &&& 31)) - (1 : Int32)) &&& (r36 ^^^ (-1 : Int32))) σ h46) m_M_ones wd_955 rfl rfl (Nat.le_of_ble_eq_true rfl) ⟨by decide, by decide⟩ d_M_chance_46 ?_
      refine j_istore C (lv' := [(5, .int r46), (4, .int ((((1 : Int32) <<< ((σ.1 38 7) &&& 31)) - (1 : Int32)) &&& (r36 ^^^ (-1 : Int32)))), (0, rf G 38), (1, .int x1), (2, .int x2), (3, .int x3)]) d_M_chance_49 (by decide) rfl ?_
      refine j_iconst C (v := 0) d_M_chance_51 (by decide) ?_
      refine j_istore C (lv' := [(6, .int (0 : Int32)), (5, .int r46), (4, .int ((((1 : Int32) <<< ((σ.1 38 7) &&& 31)) - (1 : Int32)) &&& (r36 ^^^ (-1 : Int32)))), (0, rf G 38), (1, .int x1), (2, .int x2), (3, .int x3)]) d_M_chance_52 (by decide) rfl ?_
      refine j_iconst C (v := 0) d_M_chance_54 (by decide) ?_
      refine j_istore C (lv' := [(7, .int (0 : Int32)), (6, .int (0 : Int32)), (5, .int r46), (4, .int ((((1 : Int32) <<< ((σ.1 38 7) &&& 31)) - (1 : Int32)) &&& (r36 ^^^ (-1 : Int32)))), (0, rf G 38), (1, .int x1), (2, .int x2), (3, .int x3)]) d_M_chance_55 (by decide) rfl ?_
      refine j_sub C [(0, rf G 38), (1, .int x1), (2, .int x2), (3, .int x3), (4, .int ((((1 : Int32) <<< ((σ.1 38 7) &&& 31)) - (1 : Int32)) &&& (r36 ^^^ (-1 : Int32)))), (5, .int r46), (6, .int (0 : Int32)), (7, .int (0 : Int32))] [4, 5, 6, 7, 3, 2, 1, 0] rfl ?_
      exact b_M_chance_57 C hr 1100 x1 x2 x3 ((((1 : Int32) <<< ((σ.1 38 7) &&& 31)) - (1 : Int32)) &&& (r36 ^^^ (-1 : Int32))) r46 (0 : Int32) (0 : Int32) σ hF
    · refine j_bipush C (v := -2) d_M_chance_24 (by decide) ?_
      cases hF
      exact j_iret (st := []) C hr d_M_chance_26 rfl rfl
