set_option maxHeartbeats 4000000 in
set_option maxRecDepth 100000 in
theorem c_Fl_shiftedMiss (l : Launch) (G : GT) (k1 : Nat) (x2 : Int32) (σ : MT) (hk1 : kdf k1 = 4) {z : Int32} (hF : f_Fl_shiftedMiss k1 x2 σ = some z) : CTI l G y_Fl_shiftedMiss b_Fl_shiftedMiss 5 (some .int) 3 82 [rf G 14, rf G k1, .int x2] σ z σ := by
  refine entX [(0, rf G 14), (1, rf G k1), (2, .int x2)] "TimeFlood$Flood" (by decide +kernel) rfl rfl (Nat.le_of_ble_eq_true rfl) (fun X hXl hr C => ?_)
  unfold f_Fl_shiftedMiss at hF
  refine j_aload_n C d_Fl_shiftedMiss_0 rfl 1 rfl ?_
  refine j_iload_n C d_Fl_shiftedMiss_1 rfl 2 rfl ?_
  obtain ⟨r2, h2, hF⟩ := g_bind hF
  refine j_vi C (As := [.int x2]) (st := []) (c_St_shownRoot (XL X) G k1 x2 σ hk1 h2) hk1 (by decide) rfl rfl m_St_shownRoot wd_389 rfl rfl (Nat.le_of_ble_eq_true rfl) ⟨by decide, by decide⟩ d_Fl_shiftedMiss_2 ?_
  refine j_istore_n C (lv' := [(3, .int r2), (0, rf G 14), (1, rf G k1), (2, .int x2)]) d_Fl_shiftedMiss_5 rfl (by decide) rfl ?_
  refine j_iload_n C d_Fl_shiftedMiss_6 rfl 0 rfl ?_
  refine j_if_lt C 21 d_Fl_shiftedMiss_7 (by decide) hF (fun q7 hF => ?_) (fun q7 hF => ?_)
  · refine j_bipush C (v := -9) d_Fl_shiftedMiss_21 (by decide) ?_
    cases hF
    exact j_iret (st := []) C hr d_Fl_shiftedMiss_23 rfl rfl
  · refine j_iload_n C d_Fl_shiftedMiss_10 rfl 0 rfl ?_
    refine j_aload_n C d_Fl_shiftedMiss_11 rfl 1 rfl ?_
    refine g_Fl_plan C (rfl : kdf 14 = 3) wd_109 d_Fl_shiftedMiss_12 ?_
    refine g_Pl_nodeCount C (rfl : kdf 15 = 2) wd_48 d_Fl_shiftedMiss_15 ?_
    refine j_icmp_lt C 24 d_Fl_shiftedMiss_18 (by decide) hF (fun q18 hF => ?_) (fun q18 hF => ?_)
    · refine j_aload_n C d_Fl_shiftedMiss_24 rfl 2 rfl ?_
      refine g_St_nodes C hk1 wd_190 d_Fl_shiftedMiss_25 ?_
      refine j_iload_n C d_Fl_shiftedMiss_28 rfl 3 rfl ?_
      obtain ⟨q29, hF⟩ := g_if hF
      refine e_nodes C (kd_St_nodes hk1) (inb_v q29) d_Fl_shiftedMiss_29 ?_
      refine j_iload_n C d_Fl_shiftedMiss_30 rfl 3 rfl ?_
      refine j_aload_n C d_Fl_shiftedMiss_31 rfl 1 rfl ?_
      refine j_aload_n C d_Fl_shiftedMiss_32 rfl 2 rfl ?_
      refine j_iload_n C d_Fl_shiftedMiss_33 rfl 3 rfl ?_
      obtain ⟨r34, h34, hF⟩ := g_bind hF
      refine j_vi C (As := [rf G k1, .int x2]) (st := [.int x2, rf G ((k1 + 1) + 1 + 4 * x2.toNatClampNeg)]) (c_Fl_clock (XL X) G k1 x2 σ hk1 h34) (rfl : kdf 14 = 3) (by decide) rfl rfl m_Fl_clock wd_390 rfl rfl (Nat.le_of_ble_eq_true rfl) ⟨by decide, by decide⟩ d_Fl_shiftedMiss_34 ?_
      obtain ⟨r37, h37, hF⟩ := g_bind hF
      refine j_vi C (As := [.int x2, .int r34]) (st := []) (c_Nd_estimate (XL X) G ((k1 + 1) + 1 + 4 * x2.toNatClampNeg) x2 r34 σ (kd_node (kd_St_nodes hk1) (inb_v q29)) h37) (kd_node (kd_St_nodes hk1) (inb_v q29)) (by decide) rfl rfl m_Nd_estimate wd_400 rfl rfl (Nat.le_of_ble_eq_true rfl) ⟨by decide, by decide⟩ d_Fl_shiftedMiss_37 ?_
      refine j_istore C (lv' := [(4, .int r37), (3, .int r2), (0, rf G 14), (1, rf G k1), (2, .int x2)]) d_Fl_shiftedMiss_40 (by decide) rfl ?_
      refine j_iload C d_Fl_shiftedMiss_42 0 rfl ?_
      refine j_bipush C (v := -9) d_Fl_shiftedMiss_44 (by decide) ?_
      refine j_icmp_ne C 52 d_Fl_shiftedMiss_46 (by decide) hF (fun q46 hF => ?_) (fun q46 hF => ?_)
      · refine j_iload C d_Fl_shiftedMiss_52 0 rfl ?_
        refine j_aload_n C d_Fl_shiftedMiss_54 rfl 2 rfl ?_
        refine j_aload_n C d_Fl_shiftedMiss_55 rfl 3 rfl ?_
        refine j_iload_n C d_Fl_shiftedMiss_56 rfl 1 rfl ?_
        obtain ⟨r57, h57, hF⟩ := g_bind hF
        refine j_vi C (As := [rf G k1, .int r2]) (st := [.int r37]) (c_Fl_clock (XL X) G k1 r2 σ hk1 h57) (rfl : kdf 14 = 3) (by decide) rfl rfl m_Fl_clock wd_390 rfl rfl (Nat.le_of_ble_eq_true rfl) ⟨by decide, by decide⟩ d_Fl_shiftedMiss_57 ?_
        refine j_isub C d_Fl_shiftedMiss_60 ?_
        obtain ⟨r61, h61, hF⟩ := g_bind hF
        refine j_ni C (As := [.int (r37 - r57)]) (st := []) (c_TF_near (XL X) G (r37 - r57) σ h61) m_TF_near (fun U h => h.2) rfl rfl (Nat.le_of_ble_eq_true rfl) ⟨by decide, by decide⟩ d_Fl_shiftedMiss_61 ?_
        refine j_sipush C (v := 1000) d_Fl_shiftedMiss_64 (by decide) ?_
        refine j_iadd C d_Fl_shiftedMiss_67 ?_
        cases hF
        exact j_iret (st := []) C hr d_Fl_shiftedMiss_68 rfl rfl
      · refine j_bipush C (v := -9) d_Fl_shiftedMiss_49 (by decide) ?_
        cases hF
        exact j_iret (st := []) C hr d_Fl_shiftedMiss_51 rfl rfl
    · refine j_bipush C (v := -9) d_Fl_shiftedMiss_21 (by decide) ?_
      cases hF
      exact j_iret (st := []) C hr d_Fl_shiftedMiss_23 rfl rfl
set_option maxHeartbeats 4000000 in
set_option maxRecDepth 100000 in
theorem c_Fl_isInTime (l : Launch) (G : GT) (k1 : Nat) (x2 : Int32) (σ : MT) (hk1 : kdf k1 = 4) {z : Int32} (hF : f_Fl_isInTime k1 x2 σ = some z) : CTI l G y_Fl_isInTime b_Fl_isInTime 4 (some .boolean) 4 106 [rf G 14, rf G k1, .int x2] σ z σ := by
  refine entX [(0, rf G 14), (1, rf G k1), (2, .int x2)] "TimeFlood$Flood" (by decide +kernel) rfl rfl (Nat.le_of_ble_eq_true rfl) (fun X hXl hr C => ?_)
  unfold f_Fl_isInTime at hF
  refine j_aload_n C d_Fl_isInTime_0 rfl 0 rfl ?_
  refine j_aload_n C d_Fl_isInTime_1 rfl 1 rfl ?_
  refine j_iload_n C d_Fl_isInTime_2 rfl 2 rfl ?_
  obtain ⟨r3, h3, hF⟩ := g_bind hF
  refine j_vi C (As := [rf G k1, .int x2]) (st := []) (c_Fl_shiftedMiss (XL X) G k1 x2 σ hk1 h3) (rfl : kdf 14 = 3) (by decide) rfl rfl m_Fl_shiftedMiss wd_385 rfl rfl (Nat.le_of_ble_eq_true rfl) ⟨by decide, by decide⟩ d_Fl_isInTime_3 ?_
  refine j_istore_n C (lv' := [(3, .int r3), (0, rf G 14), (1, rf G k1), (2, .int x2)]) d_Fl_isInTime_6 rfl (by decide) rfl ?_
  refine j_iload_n C d_Fl_isInTime_7 rfl 0 rfl ?_
  refine j_sipush C (v := 997) d_Fl_isInTime_8 (by decide) ?_
  refine j_icmp_lt C 25 d_Fl_isInTime_11 (by decide) hF (fun q11 hF => ?_) (fun q11 hF => ?_)
  · refine j_iconst C (v := 0) d_Fl_isInTime_25 (by decide) ?_
    cases hF
    exact j_zret (st := []) C hr rfl d_Fl_isInTime_26 rfl rfl
  · refine j_iload_n C d_Fl_isInTime_14 rfl 0 rfl ?_
    refine j_sipush C (v := 1003) d_Fl_isInTime_15 (by decide) ?_
    refine j_icmp_gt C 25 d_Fl_isInTime_18 (by decide) hF (fun q18 hF => ?_) (fun q18 hF => ?_)
    · refine j_iconst C (v := 0) d_Fl_isInTime_25 (by decide) ?_
      cases hF
      exact j_zret (st := []) C hr rfl d_Fl_isInTime_26 rfl rfl
    · refine j_iconst C (v := 1) d_Fl_isInTime_21 (by decide) ?_
      refine j_goto C 26 d_Fl_isInTime_22 (by decide) ?_
      cases hF
      exact j_zret (st := []) C hr rfl d_Fl_isInTime_26 rfl rfl
set_option maxHeartbeats 4000000 in
set_option maxRecDepth 100000 in
theorem b_Fl_inTimeSet_30 {X : XT} {G : GT} {z : Int32} {K4 : Nat → Int32 → Int32 → MT → Option Int32} {σ : MT} (C : CX X G b_Fl_inTimeSet 4 "TimeFlood$Flood" 5 129) (hr : XR X (some .int)) (hK4 : ∀ (k1 : Nat) (x2 : Int32) (x3 : Int32) (hk1 : kdf k1 = 4), K4 k1 x2 x3 σ = some z → JW X G (QX X (PI G z σ) G) 4 4 [(0, rf G 14), (1, rf G k1), (2, .int x2), (3, .int x3)] [] σ) (k1 : Nat) (x2 : Int32) (x3 : Int32) (hk1 : kdf k1 = 4) (hF : f_Fl_inTimeSet_30 K4 k1 x2 x3 σ = some z) : JW X G (QX X (PI G z σ) G) 4 30 [(0, rf G 14), (1, rf G k1), (2, .int x2), (3, .int x3)] [] σ := by
  unfold f_Fl_inTimeSet_30 at hF
  refine j_iinc C (v := x3 + (1 : Int32)) (lv' := [(3, .int (x3 + (1 : Int32))), (0, rf G 14), (1, rf G k1), (2, .int x2)]) d_Fl_inTimeSet_30 3 rfl rfl (by decide) rfl ?_
  refine j_goto C 4 d_Fl_inTimeSet_33 (by decide) ?_
  refine j_sub C [(0, rf G 14), (1, rf G k1), (2, .int x2), (3, .int (x3 + (1 : Int32)))] [1, 2, 3, 0] rfl ?_
  exact hK4 k1 x2 (x3 + (1 : Int32)) hk1 hF
set_option maxHeartbeats 4000000 in
set_option maxRecDepth 100000 in
theorem b_Fl_inTimeSet_4 {X : XT} {G : GT} {z : Int32} {σ : MT} (C : CX X G b_Fl_inTimeSet 4 "TimeFlood$Flood" 5 129) (hr : XR X (some .int)) : ∀ (n : Nat) (k1 : Nat) (x2 : Int32) (x3 : Int32) (hk1 : kdf k1 = 4), f_Fl_inTimeSet_4 n k1 x2 x3 σ = some z → JW X G (QX X (PI G z σ) G) 4 4 [(0, rf G 14), (1, rf G k1), (2, .int x2), (3, .int x3)] [] σ := by
  intro n
  induction n with
  | zero =>
    intro k1 x2 x3 hk1 hF
    rw [f_Fl_inTimeSet_4] at hF
    cases hF
  | succ n ih =>
    intro k1 x2 x3 hk1 hF
    rw [f_Fl_inTimeSet_4] at hF
    refine j_iload_n C d_Fl_inTimeSet_4 rfl 3 rfl ?_
    refine j_aload_n C d_Fl_inTimeSet_5 rfl 0 rfl ?_
    refine g_Fl_plan C (rfl : kdf 14 = 3) wd_109 d_Fl_inTimeSet_6 ?_
    refine g_Pl_nodeCount C (rfl : kdf 15 = 2) wd_48 d_Fl_inTimeSet_9 ?_
    refine j_icmp_ge C 36 d_Fl_inTimeSet_12 (by decide) hF (fun q12 hF => ?_) (fun q12 hF => ?_)
    · refine j_iload_n C d_Fl_inTimeSet_36 rfl 2 rfl ?_
      cases hF
      exact j_iret (st := []) C hr d_Fl_inTimeSet_37 rfl rfl
    · refine j_aload_n C d_Fl_inTimeSet_15 rfl 0 rfl ?_
      refine j_aload_n C d_Fl_inTimeSet_16 rfl 1 rfl ?_
      refine j_iload_n C d_Fl_inTimeSet_17 rfl 3 rfl ?_
      obtain ⟨r18, h18, hF⟩ := g_bind hF
      refine j_vi C (As := [rf G k1, .int x3]) (st := []) (c_Fl_isInTime (XL X) G k1 x3 σ hk1 h18) (rfl : kdf 14 = 3) (by decide) rfl rfl m_Fl_isInTime wd_381 rfl rfl (Nat.le_of_ble_eq_true rfl) ⟨by decide, by decide⟩ d_Fl_inTimeSet_18 ?_
      refine j_if_eq C 30 d_Fl_inTimeSet_21 (by decide) hF (fun q21 hF => ?_) (fun q21 hF => ?_)
      · exact b_Fl_inTimeSet_30 C hr ih k1 x2 x3 hk1 hF
      · refine j_iload_n C d_Fl_inTimeSet_24 rfl 2 rfl ?_
        refine j_iconst C (v := 1) d_Fl_inTimeSet_25 (by decide) ?_
        refine j_iload_n C d_Fl_inTimeSet_26 rfl 3 rfl ?_
        refine j_ishl C d_Fl_inTimeSet_27 ?_
        refine j_ior C d_Fl_inTimeSet_28 ?_
        refine j_istore_n C (lv' := [(2, .int (x2 ||| ((1 : Int32) <<< (x3 &&& 31)))), (0, rf G 14), (1, rf G k1), (3, .int x3)]) d_Fl_inTimeSet_29 rfl (by decide) rfl ?_
        refine j_sub C [(0, rf G 14), (1, rf G k1), (2, .int (x2 ||| ((1 : Int32) <<< (x3 &&& 31)))), (3, .int x3)] [1, 2, 0, 3] rfl ?_
        exact b_Fl_inTimeSet_30 C hr ih k1 (x2 ||| ((1 : Int32) <<< (x3 &&& 31))) x3 hk1 hF
set_option maxHeartbeats 4000000 in
set_option maxRecDepth 100000 in
theorem c_Fl_inTimeSet (l : Launch) (G : GT) (k1 : Nat) (σ : MT) (hk1 : kdf k1 = 4) {z : Int32} (hF : f_Fl_inTimeSet k1 σ = some z) : CTI l G y_Fl_inTimeSet b_Fl_inTimeSet 4 (some .int) 5 129 [rf G 14, rf G k1] σ z σ := by
  refine entX [(0, rf G 14), (1, rf G k1)] "TimeFlood$Flood" (by decide +kernel) rfl rfl (Nat.le_of_ble_eq_true rfl) (fun X hXl hr C => ?_)
  unfold f_Fl_inTimeSet at hF
  refine j_iconst C (v := 0) d_Fl_inTimeSet_0 (by decide) ?_
  refine j_istore_n C (lv' := [(2, .int (0 : Int32)), (0, rf G 14), (1, rf G k1)]) d_Fl_inTimeSet_1 rfl (by decide) rfl ?_
  refine j_iconst C (v := 0) d_Fl_inTimeSet_2 (by decide) ?_
  refine j_istore_n C (lv' := [(3, .int (0 : Int32)), (2, .int (0 : Int32)), (0, rf G 14), (1, rf G k1)]) d_Fl_inTimeSet_3 rfl (by decide) rfl ?_
  refine j_sub C [(0, rf G 14), (1, rf G k1), (2, .int (0 : Int32)), (3, .int (0 : Int32))] [2, 3, 1, 0] rfl ?_
  exact b_Fl_inTimeSet_4 C hr 1100 k1 (0 : Int32) (0 : Int32) hk1 hF
set_option maxHeartbeats 4000000 in
set_option maxRecDepth 100000 in
theorem b_St_isUnited_53 {X : XT} {G : GT} {z : Int32} {K5 : Nat → Int32 → Int32 → MT → Option Int32} {σ : MT} (C : CX X G b_St_isUnited 4 "TimeFlood$State" 0 0) (hr : XR X (some .boolean)) (hK5 : ∀ (k0 : Nat) (x1 : Int32) (x2 : Int32) (hk0 : kdf k0 = 4), K5 k0 x1 x2 σ = some z → JW X G (QX X (PI G z σ) G) 4 5 [(0, rf G k0), (1, .int x1), (2, .int x2)] [] σ) (k0 : Nat) (x1 : Int32) (x2 : Int32) (hk0 : kdf k0 = 4) (hF : f_St_isUnited_53 K5 k0 x1 x2 σ = some z) : JW X G (QX X (PI G z σ) G) 4 53 [(0, rf G k0), (1, .int x1), (2, .int x2)] [] σ := by
  unfold f_St_isUnited_53 at hF
  refine j_iinc C (v := x2 + (1 : Int32)) (lv' := [(2, .int (x2 + (1 : Int32))), (0, rf G k0), (1, .int x1)]) d_St_isUnited_53 2 rfl rfl (by decide) rfl ?_
  refine j_goto C 5 d_St_isUnited_56 (by decide) ?_
  refine j_sub C [(0, rf G k0), (1, .int x1), (2, .int (x2 + (1 : Int32)))] [1, 2, 0] rfl ?_
  exact hK5 k0 x1 (x2 + (1 : Int32)) hk0 hF
set_option maxHeartbeats 4000000 in
set_option maxRecDepth 100000 in
theorem b_St_isUnited_51 {X : XT} {G : GT} {z : Int32} {K5 : Nat → Int32 → Int32 → MT → Option Int32} {σ : MT} (C : CX X G b_St_isUnited 4 "TimeFlood$State" 0 0) (hr : XR X (some .boolean)) (hK5 : ∀ (k0 : Nat) (x1 : Int32) (x2 : Int32) (hk0 : kdf k0 = 4), K5 k0 x1 x2 σ = some z → JW X G (QX X (PI G z σ) G) 4 5 [(0, rf G k0), (1, .int x1), (2, .int x2)] [] σ) (k0 : Nat) (x2 : Int32) (x3 : Int32) (hk0 : kdf k0 = 4) (hF : f_St_isUnited_51 K5 k0 x2 x3 σ = some z) : JW X G (QX X (PI G z σ) G) 4 51 [(0, rf G k0), (2, .int x2), (3, .int x3)] [] σ := by
  unfold f_St_isUnited_51 at hF
  refine j_iload_n C d_St_isUnited_51 rfl 2 rfl ?_
  refine j_istore_n C (lv' := [(1, .int x3), (0, rf G k0), (2, .int x2), (3, .int x3)]) d_St_isUnited_52 rfl (by decide) rfl ?_
  refine j_sub C [(0, rf G k0), (1, .int x3), (2, .int x2)] [1, 0, 2] rfl ?_
  exact b_St_isUnited_53 C hr hK5 k0 x3 x2 hk0 hF
set_option maxHeartbeats 4000000 in
set_option maxRecDepth 100000 in
theorem b_St_isUnited_5 {X : XT} {G : GT} {z : Int32} {σ : MT} (C : CX X G b_St_isUnited 4 "TimeFlood$State" 0 0) (hr : XR X (some .boolean)) : ∀ (n : Nat) (k0 : Nat) (x1 : Int32) (x2 : Int32) (hk0 : kdf k0 = 4), f_St_isUnited_5 n k0 x1 x2 σ = some z → JW X G (QX X (PI G z σ) G) 4 5 [(0, rf G k0), (1, .int x1), (2, .int x2)] [] σ := by
  intro n
  induction n with
  | zero =>
    intro k0 x1 x2 hk0 hF
    rw [f_St_isUnited_5] at hF
    cases hF
  | succ n ih =>
    intro k0 x1 x2 hk0 hF
    rw [f_St_isUnited_5] at hF
    refine j_iload_n C d_St_isUnited_5 rfl 2 rfl ?_
    refine j_iconst C (v := 5) d_St_isUnited_6 (by decide) ?_
    refine j_icmp_ge C 59 d_St_isUnited_7 (by decide) hF (fun q7 hF => ?_) (fun q7 hF => ?_)
    · refine j_iconst C (v := 1) d_St_isUnited_59 (by decide) ?_
      cases hF
      exact j_zret (st := []) C hr rfl d_St_isUnited_60 rfl rfl
    · refine j_aload_n C d_St_isUnited_10 rfl 0 rfl ?_
      refine g_St_nodes C hk0 wd_189 d_St_isUnited_11 ?_
      refine j_iload_n C d_St_isUnited_14 rfl 2 rfl ?_
      obtain ⟨q15, hF⟩ := g_if hF
      refine e_nodes C (kd_St_nodes hk0) (inb_v q15) d_St_isUnited_15 ?_
      refine g_Nd_on C (kd_node (kd_St_nodes hk0) (inb_v q15)) wd_142 d_St_isUnited_16 ?_
      refine j_if_eq C 53 d_St_isUnited_19 (by decide) hF (fun q19 hF => ?_) (fun q19 hF => ?_)
      · exact b_St_isUnited_53 C hr ih k0 x1 x2 hk0 hF
      · refine j_aload_n C d_St_isUnited_22 rfl 0 rfl ?_
        refine g_St_nodes C hk0 wd_189 d_St_isUnited_23 ?_
        refine j_iload_n C d_St_isUnited_26 rfl 2 rfl ?_
        obtain ⟨q27, hF⟩ := g_if hF
        refine e_nodes C (kd_St_nodes hk0) (inb_v q27) d_St_isUnited_27 ?_
        refine g_Nd_root C (kd_node (kd_St_nodes hk0) (inb_v q27)) wd_150 d_St_isUnited_28 ?_
        refine j_istore_n C (lv' := [(3, .int (σ.1 ((k0 + 1) + 1 + 4 * x2.toNatClampNeg) 2)), (0, rf G k0), (1, .int x1), (2, .int x2)]) d_St_isUnited_31 rfl (by decide) rfl ?_
        refine j_iload_n C d_St_isUnited_32 rfl 0 rfl ?_
        refine j_bipush C (v := -9) d_St_isUnited_33 (by decide) ?_
        refine j_icmp_eq C 49 d_St_isUnited_35 (by decide) hF (fun q35 hF => ?_) (fun q35 hF => ?_)
        · refine j_iconst C (v := 0) d_St_isUnited_49 (by decide) ?_
          cases hF
          exact j_zret (st := []) C hr rfl d_St_isUnited_50 rfl rfl
        · refine j_iload_n C d_St_isUnited_38 rfl 2 rfl ?_
          refine j_bipush C (v := -9) d_St_isUnited_39 (by decide) ?_
          refine j_icmp_eq C 51 d_St_isUnited_41 (by decide) hF (fun q41 hF => ?_) (fun q41 hF => ?_)
          · refine j_sub C [(0, rf G k0), (2, .int x2), (3, .int (σ.1 ((k0 + 1) + 1 + 4 * x2.toNatClampNeg) 2))] [1, 3, 0] rfl ?_
            exact b_St_isUnited_51 C hr ih k0 x2 (σ.1 ((k0 + 1) + 1 + 4 * x2.toNatClampNeg) 2) hk0 hF
          · refine j_iload_n C d_St_isUnited_44 rfl 0 rfl ?_
            refine j_iload_n C d_St_isUnited_45 rfl 2 rfl ?_
            refine j_icmp_eq C 51 d_St_isUnited_46 (by decide) hF (fun q46 hF => ?_) (fun q46 hF => ?_)
            · refine j_sub C [(0, rf G k0), (2, .int x2), (3, .int (σ.1 ((k0 + 1) + 1 + 4 * x2.toNatClampNeg) 2))] [1, 3, 0] rfl ?_
              exact b_St_isUnited_51 C hr ih k0 x2 (σ.1 ((k0 + 1) + 1 + 4 * x2.toNatClampNeg) 2) hk0 hF
            · refine j_iconst C (v := 0) d_St_isUnited_49 (by decide) ?_
              cases hF
              exact j_zret (st := []) C hr rfl d_St_isUnited_50 rfl rfl
set_option maxHeartbeats 4000000 in
set_option maxRecDepth 100000 in
theorem c_St_isUnited (l : Launch) (G : GT) (k0 : Nat) (σ : MT) (hk0 : kdf k0 = 4) {z : Int32} (hF : f_St_isUnited k0 σ = some z) : CTI l G y_St_isUnited b_St_isUnited 4 (some .boolean) 0 0 [rf G k0] σ z σ := by
  refine entX [(0, rf G k0)] "TimeFlood$State" (by decide +kernel) rfl rfl (Nat.le_of_ble_eq_true rfl) (fun X hXl hr C => ?_)
  unfold f_St_isUnited at hF
  refine j_bipush C (v := -9) d_St_isUnited_0 (by decide) ?_
  refine j_istore_n C (lv' := [(1, .int (-9 : Int32)), (0, rf G k0)]) d_St_isUnited_2 rfl (by decide) rfl ?_
  refine j_iconst C (v := 0) d_St_isUnited_3 (by decide) ?_
  refine j_istore_n C (lv' := [(2, .int (0 : Int32)), (1, .int (-9 : Int32)), (0, rf G k0)]) d_St_isUnited_4 rfl (by decide) rfl ?_
  refine j_sub C [(0, rf G k0), (1, .int (-9 : Int32)), (2, .int (0 : Int32))] [2, 1, 0] rfl ?_
  exact b_St_isUnited_5 C hr 1100 k0 (-9 : Int32) (0 : Int32) hk0 hF
set_option maxHeartbeats 4000000 in
set_option maxRecDepth 100000 in
theorem c_TF_about (l : Launch) (G : GT) (x1 : Int32) (σ : MT)  {z : Int32} (hF : f_TF_about x1 σ = some z) : CTI l G y_TF_about b_TF_about 2 (some .int) 6 152 [rf G 0, .int x1] σ z σ := by
  refine entX [(0, rf G 0), (1, .int x1)] "TimeFlood" (by decide +kernel) rfl rfl (Nat.le_of_ble_eq_true rfl) (fun X hXl hr C => ?_)
  unfold f_TF_about at hF
  refine j_iload_n C d_TF_about_0 rfl 1 rfl ?_
  refine g_ite hF (fun q hF => ?_) (fun q1_0 hF => ?_)
  · refine j_tabIn C 72 q d_TF_about_1 (by decide) (by decide) (off := 71) rfl (by decide) ?_
    refine j_aload_n C d_TF_about_72 rfl 0 rfl ?_
    refine g_TF_plan C (rfl : kdf 0 = 0) wd_243 d_TF_about_73 ?_
    refine g_Pl_nodeCount C (rfl : kdf 15 = 2) wd_51 d_TF_about_76 ?_
    cases hF
    exact j_iret (st := []) C hr d_TF_about_79 rfl rfl
  refine g_ite hF (fun q hF => ?_) (fun q1_1 hF => ?_)
  · refine j_tabIn C 80 q d_TF_about_1 (by decide) (by decide) (off := 79) rfl (by decide) ?_
    refine j_aload_n C d_TF_about_80 rfl 0 rfl ?_
    refine g_TF_plan C (rfl : kdf 0 = 0) wd_243 d_TF_about_81 ?_
    refine g_Pl_linkCount C (rfl : kdf 15 = 2) wd_53 d_TF_about_84 ?_
    cases hF
    exact j_iret (st := []) C hr d_TF_about_87 rfl rfl
  refine g_ite hF (fun q hF => ?_) (fun q1_2 hF => ?_)
  · refine j_tabIn C 88 q d_TF_about_1 (by decide) (by decide) (off := 87) rfl (by decide) ?_
    refine j_aload_n C d_TF_about_88 rfl 0 rfl ?_
    refine g_TF_plan C (rfl : kdf 0 = 0) wd_243 d_TF_about_89 ?_
    refine g_Pl_unit C (rfl : kdf 15 = 2) wd_38 d_TF_about_92 ?_
    cases hF
    exact j_iret (st := []) C hr d_TF_about_95 rfl rfl
  refine g_ite hF (fun q hF => ?_) (fun q1_3 hF => ?_)
  · refine j_tabIn C 96 q d_TF_about_1 (by decide) (by decide) (off := 95) rfl (by decide) ?_
    refine j_aload_n C d_TF_about_96 rfl 0 rfl ?_
    refine g_TF_plan C (rfl : kdf 0 = 0) wd_243 d_TF_about_97 ?_
    refine g_Pl_patience C (rfl : kdf 15 = 2) wd_41 d_TF_about_100 ?_
    cases hF
    exact j_iret (st := []) C hr d_TF_about_103 rfl rfl
  refine g_ite hF (fun q hF => ?_) (fun q1_4 hF => ?_)
  · refine j_tabIn C 104 q d_TF_about_1 (by decide) (by decide) (off := 103) rfl (by decide) ?_
    refine j_aload_n C d_TF_about_104 rfl 0 rfl ?_
    refine g_TF_plan C (rfl : kdf 0 = 0) wd_243 d_TF_about_105 ?_
    refine g_Pl_shyness C (rfl : kdf 15 = 2) wd_45 d_TF_about_108 ?_
    cases hF
    exact j_iret (st := []) C hr d_TF_about_111 rfl rfl
  refine g_ite hF (fun q hF => ?_) (fun q1_5 hF => ?_)
  · refine j_tabIn C 112 q d_TF_about_1 (by decide) (by decide) (off := 111) rfl (by decide) ?_
    refine j_aload_n C d_TF_about_112 rfl 0 rfl ?_
    refine g_TF_now C (rfl : kdf 0 = 0) wd_244 d_TF_about_113 ?_
    refine g_St_time C (rfl : kdf 61 = 4) wd_186 d_TF_about_116 ?_
    cases hF
    exact j_iret (st := []) C hr d_TF_about_119 rfl rfl
  refine g_ite hF (fun q hF => ?_) (fun q1_6 hF => ?_)
  · refine j_tabIn C 120 q d_TF_about_1 (by decide) (by decide) (off := 119) rfl (by decide) ?_
    refine j_aload_n C d_TF_about_120 rfl 0 rfl ?_
    refine g_TF_now C (rfl : kdf 0 = 0) wd_244 d_TF_about_121 ?_
    obtain ⟨r124, h124, hF⟩ := g_bind hF
    refine j_vi C (As := []) (st := []) (c_St_onSet (XL X) G 61 σ (rfl : kdf 61 = 4) h124) (rfl : kdf 61 = 4) (by decide) rfl rfl m_St_onSet wd_365 rfl rfl (Nat.le_of_ble_eq_true rfl) ⟨by decide, by decide⟩ d_TF_about_124 ?_
    cases hF
    exact j_iret (st := []) C hr d_TF_about_127 rfl rfl
  refine g_ite hF (fun q hF => ?_) (fun q1_7 hF => ?_)
  · refine j_tabIn C 128 q d_TF_about_1 (by decide) (by decide) (off := 127) rfl (by decide) ?_
    refine j_aload_n C d_TF_about_128 rfl 0 rfl ?_
    refine g_TF_now C (rfl : kdf 0 = 0) wd_244 d_TF_about_129 ?_
    obtain ⟨r132, h132, hF⟩ := g_bind hF
    refine j_vi C (As := []) (st := []) (c_St_ownRootSet (XL X) G 61 σ (rfl : kdf 61 = 4) h132) (rfl : kdf 61 = 4) (by decide) rfl rfl m_St_ownRootSet wd_369 rfl rfl (Nat.le_of_ble_eq_true rfl) ⟨by decide, by decide⟩ d_TF_about_132 ?_
    cases hF
    exact j_iret (st := []) C hr d_TF_about_135 rfl rfl
  refine g_ite hF (fun q hF => ?_) (fun q1_8 hF => ?_)
  · refine j_tabIn C 136 q d_TF_about_1 (by decide) (by decide) (off := 135) rfl (by decide) ?_
    refine j_aload_n C d_TF_about_136 rfl 0 rfl ?_
    refine g_TF_flood C (rfl : kdf 0 = 0) wd_242 d_TF_about_137 ?_
    refine j_aload_n C d_TF_about_140 rfl 0 rfl ?_
    refine g_TF_now C (rfl : kdf 0 = 0) wd_244 d_TF_about_141 ?_
    obtain ⟨r144, h144, hF⟩ := g_bind hF
    refine j_vi C (As := [rf G 61]) (st := []) (c_Fl_inTimeSet (XL X) G 61 σ (rfl : kdf 61 = 4) h144) (rfl : kdf 14 = 3) (by decide) rfl rfl m_Fl_inTimeSet wd_377 rfl rfl (Nat.le_of_ble_eq_true rfl) ⟨by decide, by decide⟩ d_TF_about_144 ?_
    cases hF
    exact j_iret (st := []) C hr d_TF_about_147 rfl rfl
  refine g_ite hF (fun q hF => ?_) (fun q1_9 hF => ?_)
  · refine j_tabIn C 148 q d_TF_about_1 (by decide) (by decide) (off := 147) rfl (by decide) ?_
    refine j_aload_n C d_TF_about_148 rfl 0 rfl ?_
    refine g_TF_now C (rfl : kdf 0 = 0) wd_244 d_TF_about_149 ?_
    refine g_St_downSet C (rfl : kdf 61 = 4) wd_188 d_TF_about_152 ?_
    cases hF
    exact j_iret (st := []) C hr d_TF_about_155 rfl rfl
  refine g_ite hF (fun q hF => ?_) (fun q1_10 hF => ?_)
  · refine j_tabIn C 156 q d_TF_about_1 (by decide) (by decide) (off := 155) rfl (by decide) ?_
    refine j_aload_n C d_TF_about_156 rfl 0 rfl ?_
    refine g_TF_now C (rfl : kdf 0 = 0) wd_244 d_TF_about_157 ?_
    obtain ⟨r160, h160, hF⟩ := g_bind hF
    refine j_vi C (As := []) (st := []) (c_St_isUnited (XL X) G 61 σ (rfl : kdf 61 = 4) h160) (rfl : kdf 61 = 4) (by decide) rfl rfl m_St_isUnited wd_417 rfl rfl (Nat.le_of_ble_eq_true rfl) ⟨by decide, by decide⟩ d_TF_about_160 ?_
    refine j_if_eq C 170 d_TF_about_163 (by decide) hF (fun q163 hF => ?_) (fun q163 hF => ?_)
    · refine j_iconst C (v := 0) d_TF_about_170 (by decide) ?_
      cases hF
      exact j_iret (st := []) C hr d_TF_about_171 rfl rfl
    · refine j_iconst C (v := 1) d_TF_about_166 (by decide) ?_
      refine j_goto C 171 d_TF_about_167 (by decide) ?_
      cases hF
      exact j_iret (st := []) C hr d_TF_about_171 rfl rfl
  refine g_ite hF (fun q hF => ?_) (fun q1_11 hF => ?_)
  · refine j_tabIn C 172 q d_TF_about_1 (by decide) (by decide) (off := 171) rfl (by decide) ?_
    refine j_aload_n C d_TF_about_172 rfl 0 rfl ?_
    refine g_TF_journal C (rfl : kdf 0 = 0) wd_246 d_TF_about_173 ?_
    refine g_Jr_count C (rfl : kdf 30 = 6) wd_211 d_TF_about_176 ?_
    cases hF
    exact j_iret (st := []) C hr d_TF_about_179 rfl rfl
  refine g_ite hF (fun q hF => ?_) (fun q1_12 hF => ?_)
  · refine j_tabIn C 180 q d_TF_about_1 (by decide) (by decide) (off := 179) rfl (by decide) ?_
    refine j_aload_n C d_TF_about_180 rfl 0 rfl ?_
    refine g_TF_sightings C (rfl : kdf 0 = 0) wd_249 d_TF_about_181 ?_
    refine g_Sg_count C (rfl : kdf 34 = 7) wd_229 d_TF_about_184 ?_
    cases hF
    exact j_iret (st := []) C hr d_TF_about_187 rfl rfl
  refine g_ite hF (fun q hF => ?_) (fun q1_13 hF => ?_)
  · refine j_tabIn C 188 q d_TF_about_1 (by decide) (by decide) (off := 187) rfl (by decide) ?_
    refine j_aload_n C d_TF_about_188 rfl 0 rfl ?_
    refine g_TF_textLength C (rfl : kdf 0 = 0) wd_240 d_TF_about_189 ?_
    cases hF
    exact j_iret (st := []) C hr d_TF_about_192 rfl rfl
  refine j_tabOut C 193 d_TF_about_1 (by have t0 := lv_neT q1_0 (a := 0) rfl; have t1 := lv_neT q1_1 (a := 1) rfl; have t2 := lv_neT q1_2 (a := 2) rfl; have t3 := lv_neT q1_3 (a := 3) rfl; have t4 := lv_neT q1_4 (a := 4) rfl; have t5 := lv_neT q1_5 (a := 5) rfl; have t6 := lv_neT q1_6 (a := 6) rfl; have t7 := lv_neT q1_7 (a := 7) rfl; have t8 := lv_neT q1_8 (a := 8) rfl; have t9 := lv_neT q1_9 (a := 9) rfl; have t10 := lv_neT q1_10 (a := 10) rfl; have t11 := lv_neT q1_11 (a := 11) rfl; have t12 := lv_neT q1_12 (a := 12) rfl; have t13 := lv_neT q1_13 (a := 13) rfl; omega) (by decide) ?_
  refine j_bipush C (v := -2) d_TF_about_193 (by decide) ?_
  cases hF
  exact j_iret (st := []) C hr d_TF_about_195 rfl rfl
set_option maxHeartbeats 4000000 in
set_option maxRecDepth 100000 in
theorem c_TF_hasNode (l : Launch) (G : GT) (x1 : Int32) (σ : MT)  {z : Int32} (hF : f_TF_hasNode x1 σ = some z) : CTI l G y_TF_hasNode b_TF_hasNode 2 (some .boolean) 0 0 [rf G 0, .int x1] σ z σ := by
  refine entX [(0, rf G 0), (1, .int x1)] "TimeFlood" (by decide +kernel) rfl rfl (Nat.le_of_ble_eq_true rfl) (fun X hXl hr C => ?_)
  unfold f_TF_hasNode at hF
  refine j_iload_n C d_TF_hasNode_0 rfl 1 rfl ?_
  refine j_if_lt C 19 d_TF_hasNode_1 (by decide) hF (fun q1 hF => ?_) (fun q1 hF => ?_)
  · refine j_iconst C (v := 0) d_TF_hasNode_19 (by decide) ?_
    cases hF
    exact j_zret (st := []) C hr rfl d_TF_hasNode_20 rfl rfl
  · refine j_iload_n C d_TF_hasNode_4 rfl 1 rfl ?_
    refine j_aload_n C d_TF_hasNode_5 rfl 0 rfl ?_
    refine g_TF_plan C (rfl : kdf 0 = 0) wd_243 d_TF_hasNode_6 ?_
    refine g_Pl_nodeCount C (rfl : kdf 15 = 2) wd_51 d_TF_hasNode_9 ?_
    refine j_icmp_ge C 19 d_TF_hasNode_12 (by decide) hF (fun q12 hF => ?_) (fun q12 hF => ?_)
    · refine j_iconst C (v := 0) d_TF_hasNode_19 (by decide) ?_
      cases hF
      exact j_zret (st := []) C hr rfl d_TF_hasNode_20 rfl rfl
    · refine j_iconst C (v := 1) d_TF_hasNode_15 (by decide) ?_
      refine j_goto C 20 d_TF_hasNode_16 (by decide) ?_
      cases hF
      exact j_zret (st := []) C hr rfl d_TF_hasNode_20 rfl rfl
set_option maxHeartbeats 4000000 in
set_option maxRecDepth 100000 in
theorem b_Fl_property_24 {X : XT} {G : GT} {z : Int32} {σ : MT} (C : CX X G b_Fl_property 5 "TimeFlood$Flood" 4 106) (hr : XR X (some .int)) (k1 : Nat) (x2 : Int32) (x3 : Int32) (k4 : Nat) (hk1 : kdf k1 = 4) (hk4 : kdf k4 = 5) (hF : f_Fl_property_24 k1 x2 x3 k4 σ = some z) : JW X G (QX X (PI G z σ) G) 5 24 [(0, rf G 14), (1, rf G k1), (2, .int x2), (3, .int x3), (4, rf G k4)] [] σ := by
  unfold f_Fl_property_24 at hF
  refine j_iload_n C d_Fl_property_24 rfl 3 rfl ?_
  refine g_ite hF (fun q hF => ?_) (fun q25_0 hF => ?_)
  · refine j_tabIn C 80 q d_Fl_property_25 (by decide) (by decide) (off := 55) rfl (by decide) ?_
    refine j_aload C d_Fl_property_80 4 rfl ?_
    refine g_Nd_drift C hk4 wd_146 d_Fl_property_82 ?_
    refine j_bipush C (v := -4) d_Fl_property_85 (by decide) ?_
    refine j_isub C d_Fl_property_87 ?_
    cases hF
    exact j_iret (st := []) C hr d_Fl_property_88 rfl rfl
  refine g_ite hF (fun q hF => ?_) (fun q25_1 hF => ?_)
  · refine j_tabIn C 89 q d_Fl_property_25 (by decide) (by decide) (off := 64) rfl (by decide) ?_
    refine j_aload_n C d_Fl_property_89 rfl 0 rfl ?_
    refine g_Fl_plan C (rfl : kdf 14 = 3) wd_109 d_Fl_property_90 ?_
    refine g_Pl_starts C (rfl : kdf 15 = 2) wd_57 d_Fl_property_93 ?_
    refine j_iload_n C d_Fl_property_96 rfl 2 rfl ?_
    obtain ⟨q97, hF⟩ := g_if hF
    refine j_iald C (rfl : kdf 17 = 11) (by decide) rfl (inb_v q97) d_Fl_property_97 ?_
    cases hF
    exact j_iret (st := []) C hr d_Fl_property_98 rfl rfl
  refine g_ite hF (fun q hF => ?_) (fun q25_2 hF => ?_)
  · refine j_tabIn C 99 q d_Fl_property_25 (by decide) (by decide) (off := 74) rfl (by decide) ?_
    refine j_aload_n C d_Fl_property_99 rfl 0 rfl ?_
    refine j_aload_n C d_Fl_property_100 rfl 1 rfl ?_
    refine j_iload_n C d_Fl_property_101 rfl 2 rfl ?_
    obtain ⟨r102, h102, hF⟩ := g_bind hF
    refine j_vi C (As := [rf G k1, .int x2]) (st := []) (c_Fl_clock (XL X) G k1 x2 σ hk1 h102) (rfl : kdf 14 = 3) (by decide) rfl rfl m_Fl_clock wd_390 rfl rfl (Nat.le_of_ble_eq_true rfl) ⟨by decide, by decide⟩ d_Fl_property_102 ?_
    cases hF
    exact j_iret (st := []) C hr d_Fl_property_105 rfl rfl
  refine g_ite hF (fun q hF => ?_) (fun q25_3 hF => ?_)
  · refine j_tabIn C 106 q d_Fl_property_25 (by decide) (by decide) (off := 81) rfl (by decide) ?_
    refine j_aload C d_Fl_property_106 4 rfl ?_
    refine g_Nd_on C hk4 wd_141 d_Fl_property_108 ?_
    refine j_if_eq C 118 d_Fl_property_111 (by decide) hF (fun q111 hF => ?_) (fun q111 hF => ?_)
    · refine j_iconst C (v := 0) d_Fl_property_118 (by decide) ?_
      cases hF
      exact j_iret (st := []) C hr d_Fl_property_119 rfl rfl
    · refine j_iconst C (v := 1) d_Fl_property_114 (by decide) ?_
      refine j_goto C 119 d_Fl_property_115 (by decide) ?_
      cases hF
      exact j_iret (st := []) C hr d_Fl_property_119 rfl rfl
  refine g_ite hF (fun q hF => ?_) (fun q25_4 hF => ?_)
  · refine j_tabIn C 120 q d_Fl_property_25 (by decide) (by decide) (off := 95) rfl (by decide) ?_
    refine j_aload C d_Fl_property_120 4 rfl ?_
    refine g_Nd_root C hk4 wd_149 d_Fl_property_122 ?_
    cases hF
    exact j_iret (st := []) C hr d_Fl_property_125 rfl rfl
  refine g_ite hF (fun q hF => ?_) (fun q25_5 hF => ?_)
  · refine j_tabIn C 126 q d_Fl_property_25 (by decide) (by decide) (off := 101) rfl (by decide) ?_
    refine j_aload C d_Fl_property_126 4 rfl ?_
    refine g_Nd_number C hk4 wd_152 d_Fl_property_128 ?_
    cases hF
    exact j_iret (st := []) C hr d_Fl_property_131 rfl rfl
  refine g_ite hF (fun q hF => ?_) (fun q25_6 hF => ?_)
  · refine j_tabIn C 132 q d_Fl_property_25 (by decide) (by decide) (off := 107) rfl (by decide) ?_
    refine j_aload C d_Fl_property_132 4 rfl ?_
    refine g_Nd_heart C hk4 wd_154 d_Fl_property_134 ?_
    cases hF
    exact j_iret (st := []) C hr d_Fl_property_137 rfl rfl
  refine g_ite hF (fun q hF => ?_) (fun q25_7 hF => ?_)
  · refine j_tabIn C 138 q d_Fl_property_25 (by decide) (by decide) (off := 113) rfl (by decide) ?_
    refine j_aload C d_Fl_property_138 4 rfl ?_
    refine g_Nd_guard C hk4 wd_156 d_Fl_property_140 ?_
    cases hF
    exact j_iret (st := []) C hr d_Fl_property_143 rfl rfl
  refine g_ite hF (fun q hF => ?_) (fun q25_8 hF => ?_)
  · refine j_tabIn C 144 q d_Fl_property_25 (by decide) (by decide) (off := 119) rfl (by decide) ?_
    refine j_aload C d_Fl_property_144 4 rfl ?_
    refine g_Nd_stampCount C hk4 wd_158 d_Fl_property_146 ?_
    cases hF
    exact j_iret (st := []) C hr d_Fl_property_149 rfl rfl
  refine g_ite hF (fun q hF => ?_) (fun q25_9 hF => ?_)
  · refine j_tabIn C 150 q d_Fl_property_25 (by decide) (by decide) (off := 125) rfl (by decide) ?_
    refine j_aload C d_Fl_property_150 4 rfl ?_
    refine j_iload_n C d_Fl_property_152 rfl 2 rfl ?_
    refine j_aload_n C d_Fl_property_153 rfl 0 rfl ?_
    refine j_aload_n C d_Fl_property_154 rfl 1 rfl ?_
    refine j_iload_n C d_Fl_property_155 rfl 2 rfl ?_
    obtain ⟨r156, h156, hF⟩ := g_bind hF
    refine j_vi C (As := [rf G k1, .int x2]) (st := [.int x2, rf G k4]) (c_Fl_clock (XL X) G k1 x2 σ hk1 h156) (rfl : kdf 14 = 3) (by decide) rfl rfl m_Fl_clock wd_390 rfl rfl (Nat.le_of_ble_eq_true rfl) ⟨by decide, by decide⟩ d_Fl_property_156 ?_
    obtain ⟨r159, h159, hF⟩ := g_bind hF
    refine j_vi C (As := [.int x2, .int r156]) (st := []) (c_Nd_estimate (XL X) G k4 x2 r156 σ hk4 h159) hk4 (by decide) rfl rfl m_Nd_estimate wd_400 rfl rfl (Nat.le_of_ble_eq_true rfl) ⟨by decide, by decide⟩ d_Fl_property_159 ?_
    cases hF
    exact j_iret (st := []) C hr d_Fl_property_162 rfl rfl
  refine j_tabOut C 163 d_Fl_property_25 (by have t0 := lv_neT q25_0 (a := 0) rfl; have t1 := lv_neT q25_1 (a := 1) rfl; have t2 := lv_neT q25_2 (a := 2) rfl; have t3 := lv_neT q25_3 (a := 3) rfl; have t4 := lv_neT q25_4 (a := 4) rfl; have t5 := lv_neT q25_5 (a := 5) rfl; have t6 := lv_neT q25_6 (a := 6) rfl; have t7 := lv_neT q25_7 (a := 7) rfl; have t8 := lv_neT q25_8 (a := 8) rfl; have t9 := lv_neT q25_9 (a := 9) rfl; omega) (by decide) ?_
  refine j_aload_n C d_Fl_property_163 rfl 0 rfl ?_
  refine j_aload_n C d_Fl_property_164 rfl 1 rfl ?_
  refine j_iload_n C d_Fl_property_165 rfl 2 rfl ?_
  obtain ⟨r166, h166, hF⟩ := g_bind hF
  refine j_vi C (As := [rf G k1, .int x2]) (st := []) (c_Fl_shiftedMiss (XL X) G k1 x2 σ hk1 h166) (rfl : kdf 14 = 3) (by decide) rfl rfl m_Fl_shiftedMiss wd_385 rfl rfl (Nat.le_of_ble_eq_true rfl) ⟨by decide, by decide⟩ d_Fl_property_166 ?_
  cases hF
  exact j_iret (st := []) C hr d_Fl_property_169 rfl rfl
set_option maxHeartbeats 4000000 in
set_option maxRecDepth 100000 in
theorem c_Fl_property (l : Launch) (G : GT) (k1 : Nat) (x2 : Int32) (x3 : Int32) (σ : MT) (hk1 : kdf k1 = 4) {z : Int32} (hF : f_Fl_property k1 x2 x3 σ = some z) : CTI l G y_Fl_property b_Fl_property 5 (some .int) 4 106 [rf G 14, rf G k1, .int x2, .int x3] σ z σ := by
  refine entX [(0, rf G 14), (1, rf G k1), (2, .int x2), (3, .int x3)] "TimeFlood$Flood" (by decide +kernel) rfl rfl (Nat.le_of_ble_eq_true rfl) (fun X hXl hr C => ?_)
  unfold f_Fl_property at hF
  refine j_aload_n C d_Fl_property_0 rfl 1 rfl ?_
  refine g_St_nodes C hk1 wd_190 d_Fl_property_1 ?_
  refine j_iload_n C d_Fl_property_4 rfl 2 rfl ?_
  obtain ⟨q5, hF⟩ := g_if hF
  refine e_nodes C (kd_St_nodes hk1) (inb_v q5) d_Fl_property_5 ?_
  refine j_astore C (lv' := [(4, rf G ((k1 + 1) + 1 + 4 * x2.toNatClampNeg)), (0, rf G 14), (1, rf G k1), (2, .int x2), (3, .int x3)]) d_Fl_property_6 (by decide) rfl ?_
  refine j_iload_n C d_Fl_property_8 rfl 4 rfl ?_
  refine j_iconst C (v := 4) d_Fl_property_9 (by decide) ?_
  refine j_icmp_lt C 24 d_Fl_property_10 (by decide) hF (fun q10 hF => ?_) (fun q10 hF => ?_)
  · refine j_sub C [(0, rf G 14), (1, rf G k1), (2, .int x2), (3, .int x3), (4, rf G ((k1 + 1) + 1 + 4 * x2.toNatClampNeg))] [1, 2, 3, 4, 0] rfl ?_
    exact b_Fl_property_24 C hr k1 x2 x3 ((k1 + 1) + 1 + 4 * x2.toNatClampNeg) hk1 (kd_node (kd_St_nodes hk1) (inb_v q5)) hF
  · refine j_aload C d_Fl_property_13 0 rfl ?_
    refine g_Nd_on C (kd_node (kd_St_nodes hk1) (inb_v q5)) wd_141 d_Fl_property_15 ?_
    refine j_if_ne C 24 d_Fl_property_18 (by decide) hF (fun q18 hF => ?_) (fun q18 hF => ?_)
    · refine j_sub C [(0, rf G 14), (1, rf G k1), (2, .int x2), (3, .int x3), (4, rf G ((k1 + 1) + 1 + 4 * x2.toNatClampNeg))] [1, 2, 3, 4, 0] rfl ?_
      exact b_Fl_property_24 C hr k1 x2 x3 ((k1 + 1) + 1 + 4 * x2.toNatClampNeg) hk1 (kd_node (kd_St_nodes hk1) (inb_v q5)) hF
    · refine j_bipush C (v := -9) d_Fl_property_21 (by decide) ?_
      cases hF
      exact j_iret (st := []) C hr d_Fl_property_23 rfl rfl
set_option maxHeartbeats 4000000 in
set_option maxRecDepth 100000 in
theorem c_TF_node (l : Launch) (G : GT) (x1 : Int32) (x2 : Int32) (σ : MT)  {z : Int32} (hF : f_TF_node x1 x2 σ = some z) : CTI l G y_TF_node b_TF_node 3 (some .int) 5 130 [rf G 0, .int x1, .int x2] σ z σ := by
  refine entX [(0, rf G 0), (1, .int x1), (2, .int x2)] "TimeFlood" (by decide +kernel) rfl rfl (Nat.le_of_ble_eq_true rfl) (fun X hXl hr C => ?_)
  unfold f_TF_node at hF
  refine j_aload_n C d_TF_node_0 rfl 0 rfl ?_
  refine j_iload_n C d_TF_node_1 rfl 1 rfl ?_
  obtain ⟨r2, h2, hF⟩ := g_bind hF
  refine j_vi C (As := [.int x1]) (st := []) (c_TF_hasNode (XL X) G x1 σ h2) (rfl : kdf 0 = 0) (by decide) rfl rfl m_TF_hasNode wd_425 rfl rfl (Nat.le_of_ble_eq_true rfl) ⟨by decide, by decide⟩ d_TF_node_2 ?_
  refine j_if_ne C 10 d_TF_node_5 (by decide) hF (fun q5 hF => ?_) (fun q5 hF => ?_)
  · refine j_iload_n C d_TF_node_10 rfl 2 rfl ?_
    refine j_if_lt C 20 d_TF_node_11 (by decide) hF (fun q11 hF => ?_) (fun q11 hF => ?_)
    · refine j_bipush C (v := -2) d_TF_node_20 (by decide) ?_
      cases hF
      exact j_iret (st := []) C hr d_TF_node_22 rfl rfl
    · refine j_iload_n C d_TF_node_14 rfl 2 rfl ?_
      refine j_bipush C (v := 10) d_TF_node_15 (by decide) ?_
      refine j_icmp_le C 23 d_TF_node_17 (by decide) hF (fun q17 hF => ?_) (fun q17 hF => ?_)
      · refine j_aload_n C d_TF_node_23 rfl 0 rfl ?_
        refine g_TF_flood C (rfl : kdf 0 = 0) wd_242 d_TF_node_24 ?_
        refine j_aload_n C d_TF_node_27 rfl 0 rfl ?_
        refine g_TF_now C (rfl : kdf 0 = 0) wd_244 d_TF_node_28 ?_
        refine j_iload_n C d_TF_node_31 rfl 1 rfl ?_
        refine j_iload_n C d_TF_node_32 rfl 2 rfl ?_
        obtain ⟨r33, h33, hF⟩ := g_bind hF
        refine j_vi C (As := [rf G 61, .int x1, .int x2]) (st := []) (c_Fl_property (XL X) G 61 x1 x2 σ (rfl : kdf 61 = 4) h33) (rfl : kdf 14 = 3) (by decide) rfl rfl m_Fl_property wd_429 rfl rfl (Nat.le_of_ble_eq_true rfl) ⟨by decide, by decide⟩ d_TF_node_33 ?_
        cases hF
        exact j_iret (st := []) C hr d_TF_node_36 rfl rfl
      · refine j_bipush C (v := -2) d_TF_node_20 (by decide) ?_
        cases hF
        exact j_iret (st := []) C hr d_TF_node_22 rfl rfl
  · refine j_iconst C (v := -1) d_TF_node_8 (by decide) ?_
    cases hF
    exact j_iret (st := []) C hr d_TF_node_9 rfl rfl
set_option maxHeartbeats 4000000 in
set_option maxRecDepth 100000 in
theorem c_Nd_stampPart (l : Launch) (G : GT) (k0 : Nat) (x1 : Int32) (x2 : Int32) (σ : MT) (hk0 : kdf k0 = 5) {z : Int32} (hF : f_Nd_stampPart k0 x1 x2 σ = some z) : CTI l G y_Nd_stampPart b_Nd_stampPart 3 (some .int) 0 0 [rf G k0, .int x1, .int x2] σ z σ := by
  refine entX [(0, rf G k0), (1, .int x1), (2, .int x2)] "TimeFlood$Node" (by decide +kernel) rfl rfl (Nat.le_of_ble_eq_true rfl) (fun X hXl hr C => ?_)
  unfold f_Nd_stampPart at hF
  refine j_iload_n C d_Nd_stampPart_0 rfl 1 rfl ?_
  refine j_if_lt C 17 d_Nd_stampPart_1 (by decide) hF (fun q1 hF => ?_) (fun q1 hF => ?_)
  · refine j_bipush C (v := -9) d_Nd_stampPart_17 (by decide) ?_
    cases hF
    exact j_iret (st := []) C hr d_Nd_stampPart_19 rfl rfl
  · refine j_iload_n C d_Nd_stampPart_4 rfl 1 rfl ?_
    refine j_aload_n C d_Nd_stampPart_5 rfl 0 rfl ?_
    refine g_Nd_stampCount C hk0 wd_157 d_Nd_stampPart_6 ?_
    refine j_icmp_ge C 17 d_Nd_stampPart_9 (by decide) hF (fun q9 hF => ?_) (fun q9 hF => ?_)
    · refine j_bipush C (v := -9) d_Nd_stampPart_17 (by decide) ?_
      cases hF
      exact j_iret (st := []) C hr d_Nd_stampPart_19 rfl rfl
    · refine j_iload_n C d_Nd_stampPart_12 rfl 1 rfl ?_
      refine j_iconst C (v := 4) d_Nd_stampPart_13 (by decide) ?_
      refine j_icmp_lt C 20 d_Nd_stampPart_14 (by decide) hF (fun q14 hF => ?_) (fun q14 hF => ?_)
      · refine j_iload_n C d_Nd_stampPart_20 rfl 2 rfl ?_
        refine g_ite hF (fun q hF => ?_) (fun q21_0 hF => ?_)
        · refine j_lookup C 48 (off := 27) d_Nd_stampPart_21 (by decide) (by rw [q]; rfl) (by decide) ?_
          refine j_aload_n C d_Nd_stampPart_48 rfl 0 rfl ?_
          refine g_Nd_clocks C hk0 wd_160 d_Nd_stampPart_49 ?_
          refine j_iload_n C d_Nd_stampPart_52 rfl 1 rfl ?_
          obtain ⟨q53, hF⟩ := g_if hF
          refine j_iald C (kd_Nd_clocks hk0) (by decide) rfl (inb_v q53) d_Nd_stampPart_53 ?_
          cases hF
          exact j_iret (st := []) C hr d_Nd_stampPart_54 rfl rfl
        refine g_ite hF (fun q hF => ?_) (fun q21_1 hF => ?_)
        · refine j_lookup C 55 (off := 34) d_Nd_stampPart_21 (by decide) (by rw [q]; rfl) (by decide) ?_
          refine j_aload_n C d_Nd_stampPart_55 rfl 0 rfl ?_
          refine g_Nd_marks C hk0 wd_161 d_Nd_stampPart_56 ?_
          refine j_iload_n C d_Nd_stampPart_59 rfl 1 rfl ?_
          obtain ⟨q60, hF⟩ := g_if hF
          refine j_iald C (kd_Nd_marks hk0) (by decide) rfl (inb_v q60) d_Nd_stampPart_60 ?_
          cases hF
          exact j_iret (st := []) C hr d_Nd_stampPart_61 rfl rfl
        refine j_lookup C 62 (off := 41) d_Nd_stampPart_21 (by decide) (by show Op.lookupswitch.offset [(0, 27), (1, 34)] 41 (x2).toInt = 41; rw [lv_osw (k := 0) (a := 0) q21_0 (by decide), lv_osw (k := 1) (a := 1) q21_1 (by decide)]; rfl) (by decide) ?_
        refine j_aload_n C d_Nd_stampPart_62 rfl 0 rfl ?_
        refine g_Nd_ages C hk0 wd_162 d_Nd_stampPart_63 ?_
        refine j_iload_n C d_Nd_stampPart_66 rfl 1 rfl ?_
        obtain ⟨q67, hF⟩ := g_if hF
        refine j_iald C (kd_Nd_ages hk0) (by decide) rfl (inb_v q67) d_Nd_stampPart_67 ?_
        cases hF
        exact j_iret (st := []) C hr d_Nd_stampPart_68 rfl rfl
      · refine j_bipush C (v := -9) d_Nd_stampPart_17 (by decide) ?_
        cases hF
        exact j_iret (st := []) C hr d_Nd_stampPart_19 rfl rfl
set_option maxHeartbeats 4000000 in
set_option maxRecDepth 100000 in
theorem c_TF_stamp (l : Launch) (G : GT) (x1 : Int32) (x2 : Int32) (x3 : Int32) (σ : MT)  {z : Int32} (hF : f_TF_stamp x1 x2 x3 σ = some z) : CTI l G y_TF_stamp b_TF_stamp 4 (some .int) 1 22 [rf G 0, .int x1, .int x2, .int x3] σ z σ := by
  refine entX [(0, rf G 0), (1, .int x1), (2, .int x2), (3, .int x3)] "TimeFlood" (by decide +kernel) rfl rfl (Nat.le_of_ble_eq_true rfl) (fun X hXl hr C => ?_)
  unfold f_TF_stamp at hF
  refine j_aload_n C d_TF_stamp_0 rfl 0 rfl ?_
  refine j_iload_n C d_TF_stamp_1 rfl 1 rfl ?_
  obtain ⟨r2, h2, hF⟩ := g_bind hF
  refine j_vi C (As := [.int x1]) (st := []) (c_TF_hasNode (XL X) G x1 σ h2) (rfl : kdf 0 = 0) (by decide) rfl rfl m_TF_hasNode wd_425 rfl rfl (Nat.le_of_ble_eq_true rfl) ⟨by decide, by decide⟩ d_TF_stamp_2 ?_
  refine j_if_ne C 10 d_TF_stamp_5 (by decide) hF (fun q5 hF => ?_) (fun q5 hF => ?_)
  · refine j_iload_n C d_TF_stamp_10 rfl 3 rfl ?_
    refine j_if_lt C 19 d_TF_stamp_11 (by decide) hF (fun q11 hF => ?_) (fun q11 hF => ?_)
    · refine j_bipush C (v := -2) d_TF_stamp_19 (by decide) ?_
      cases hF
      exact j_iret (st := []) C hr d_TF_stamp_21 rfl rfl
    · refine j_iload_n C d_TF_stamp_14 rfl 3 rfl ?_
      refine j_iconst C (v := 2) d_TF_stamp_15 (by decide) ?_
      refine j_icmp_le C 22 d_TF_stamp_16 (by decide) hF (fun q16 hF => ?_) (fun q16 hF => ?_)
      · refine j_aload_n C d_TF_stamp_22 rfl 0 rfl ?_
        refine g_TF_now C (rfl : kdf 0 = 0) wd_244 d_TF_stamp_23 ?_
        refine g_St_nodes C (rfl : kdf 61 = 4) wd_191 d_TF_stamp_26 ?_
        refine j_iload_n C d_TF_stamp_29 rfl 1 rfl ?_
        obtain ⟨q30, hF⟩ := g_if hF
        refine e_nodes C (rfl : kdf 62 = 32) (inb_v q30) d_TF_stamp_30 ?_
        refine g_Nd_on C (kd_node (rfl : kdf 62 = 32) (inb_v q30)) wd_143 d_TF_stamp_31 ?_
        refine j_if_ne C 40 d_TF_stamp_34 (by decide) hF (fun q34 hF => ?_) (fun q34 hF => ?_)
        · refine j_aload_n C d_TF_stamp_40 rfl 0 rfl ?_
          refine g_TF_now C (rfl : kdf 0 = 0) wd_244 d_TF_stamp_41 ?_
          refine g_St_nodes C (rfl : kdf 61 = 4) wd_191 d_TF_stamp_44 ?_
          refine j_iload_n C d_TF_stamp_47 rfl 1 rfl ?_
          obtain ⟨q48, hF⟩ := g_if hF
          refine e_nodes C (rfl : kdf 62 = 32) (inb_v q48) d_TF_stamp_48 ?_
          refine j_iload_n C d_TF_stamp_49 rfl 2 rfl ?_
          refine j_iload_n C d_TF_stamp_50 rfl 3 rfl ?_
          obtain ⟨r51, h51, hF⟩ := g_bind hF
          refine j_vi C (As := [.int x2, .int x3]) (st := []) (c_Nd_stampPart (XL X) G (62 + 1 + 4 * x1.toNatClampNeg) x2 x3 σ (kd_node (rfl : kdf 62 = 32) (inb_v q48)) h51) (kd_node (rfl : kdf 62 = 32) (inb_v q48)) (by decide) rfl rfl m_Nd_stampPart wd_437 rfl rfl (Nat.le_of_ble_eq_true rfl) ⟨by decide, by decide⟩ d_TF_stamp_51 ?_
          cases hF
          exact j_iret (st := []) C hr d_TF_stamp_54 rfl rfl
        · refine j_bipush C (v := -9) d_TF_stamp_37 (by decide) ?_
          cases hF
          exact j_iret (st := []) C hr d_TF_stamp_39 rfl rfl
      · refine j_bipush C (v := -2) d_TF_stamp_19 (by decide) ?_
        cases hF
        exact j_iret (st := []) C hr d_TF_stamp_21 rfl rfl
  · refine j_iconst C (v := -1) d_TF_stamp_8 (by decide) ?_
    cases hF
    exact j_iret (st := []) C hr d_TF_stamp_9 rfl rfl
set_option maxHeartbeats 4000000 in
set_option maxRecDepth 100000 in
theorem c_TF_hasLink (l : Launch) (G : GT) (x1 : Int32) (σ : MT)  {z : Int32} (hF : f_TF_hasLink x1 σ = some z) : CTI l G y_TF_hasLink b_TF_hasLink 2 (some .boolean) 0 0 [rf G 0, .int x1] σ z σ := by
  refine entX [(0, rf G 0), (1, .int x1)] "TimeFlood" (by decide +kernel) rfl rfl (Nat.le_of_ble_eq_true rfl) (fun X hXl hr C => ?_)
  unfold f_TF_hasLink at hF
  refine j_iload_n C d_TF_hasLink_0 rfl 1 rfl ?_
  refine j_if_lt C 19 d_TF_hasLink_1 (by decide) hF (fun q1 hF => ?_) (fun q1 hF => ?_)
  · refine j_iconst C (v := 0) d_TF_hasLink_19 (by decide) ?_
    cases hF
    exact j_zret (st := []) C hr rfl d_TF_hasLink_20 rfl rfl
  · refine j_iload_n C d_TF_hasLink_4 rfl 1 rfl ?_
    refine j_aload_n C d_TF_hasLink_5 rfl 0 rfl ?_
    refine g_TF_plan C (rfl : kdf 0 = 0) wd_243 d_TF_hasLink_6 ?_
    refine g_Pl_linkCount C (rfl : kdf 15 = 2) wd_53 d_TF_hasLink_9 ?_
    refine j_icmp_ge C 19 d_TF_hasLink_12 (by decide) hF (fun q12 hF => ?_) (fun q12 hF => ?_)
    · refine j_iconst C (v := 0) d_TF_hasLink_19 (by decide) ?_
      cases hF
      exact j_zret (st := []) C hr rfl d_TF_hasLink_20 rfl rfl
    · refine j_iconst C (v := 1) d_TF_hasLink_15 (by decide) ?_
      refine j_goto C 20 d_TF_hasLink_16 (by decide) ?_
      cases hF
      exact j_zret (st := []) C hr rfl d_TF_hasLink_20 rfl rfl
set_option maxHeartbeats 4000000 in
set_option maxRecDepth 100000 in
theorem c_St_isDown (l : Launch) (G : GT) (k0 : Nat) (x1 : Int32) (σ : MT) (hk0 : kdf k0 = 4) {z : Int32} (hF : f_St_isDown k0 x1 σ = some z) : CTI l G y_St_isDown b_St_isDown 2 (some .boolean) 0 0 [rf G k0, .int x1] σ z σ := by
  refine entX [(0, rf G k0), (1, .int x1)] "TimeFlood$State" (by decide +kernel) rfl rfl (Nat.le_of_ble_eq_true rfl) (fun X hXl hr C => ?_)
  unfold f_St_isDown at hF
  refine j_aload_n C d_St_isDown_0 rfl 0 rfl ?_
  refine g_St_downSet C hk0 wd_187 d_St_isDown_1 ?_
  refine j_iload_n C d_St_isDown_4 rfl 1 rfl ?_
  refine j_ishr C d_St_isDown_5 ?_
  refine j_iconst C (v := 1) d_St_isDown_6 (by decide) ?_
  refine j_iand C d_St_isDown_7 ?_
  refine j_iconst C (v := 1) d_St_isDown_8 (by decide) ?_
  refine j_icmp_ne C 16 d_St_isDown_9 (by decide) hF (fun q9 hF => ?_) (fun q9 hF => ?_)
  · refine j_iconst C (v := 0) d_St_isDown_16 (by decide) ?_
    cases hF
    exact j_zret (st := []) C hr rfl d_St_isDown_17 rfl rfl
  · refine j_iconst C (v := 1) d_St_isDown_12 (by decide) ?_
    refine j_goto C 17 d_St_isDown_13 (by decide) ?_
    cases hF
    exact j_zret (st := []) C hr rfl d_St_isDown_17 rfl rfl
set_option maxHeartbeats 4000000 in
set_option maxRecDepth 100000 in
theorem c_TF_link (l : Launch) (G : GT) (x1 : Int32) (x2 : Int32) (σ : MT)  {z : Int32} (hF : f_TF_link x1 x2 σ = some z) : CTI l G y_TF_link b_TF_link 3 (some .int) 1 21 [rf G 0, .int x1, .int x2] σ z σ := by
  refine entX [(0, rf G 0), (1, .int x1), (2, .int x2)] "TimeFlood" (by decide +kernel) rfl rfl (Nat.le_of_ble_eq_true rfl) (fun X hXl hr C => ?_)
  unfold f_TF_link at hF
  refine j_aload_n C d_TF_link_0 rfl 0 rfl ?_
  refine j_iload_n C d_TF_link_1 rfl 1 rfl ?_
  obtain ⟨r2, h2, hF⟩ := g_bind hF
  refine j_vi C (As := [.int x1]) (st := []) (c_TF_hasLink (XL X) G x1 σ h2) (rfl : kdf 0 = 0) (by decide) rfl rfl m_TF_hasLink wd_445 rfl rfl (Nat.le_of_ble_eq_true rfl) ⟨by decide, by decide⟩ d_TF_link_2 ?_
  refine j_if_ne C 10 d_TF_link_5 (by decide) hF (fun q5 hF => ?_) (fun q5 hF => ?_)
  · refine j_iload_n C d_TF_link_10 rfl 2 rfl ?_
    refine g_ite hF (fun q hF => ?_) (fun q11_0 hF => ?_)
    · refine j_tabIn C 36 q d_TF_link_11 (by decide) (by decide) (off := 25) rfl (by decide) ?_
      refine j_aload_n C d_TF_link_36 rfl 0 rfl ?_
      refine g_TF_plan C (rfl : kdf 0 = 0) wd_243 d_TF_link_37 ?_
      refine g_Pl_lows C (rfl : kdf 15 = 2) wd_59 d_TF_link_40 ?_
      refine j_iload_n C d_TF_link_43 rfl 1 rfl ?_
      obtain ⟨q44, hF⟩ := g_if hF
      refine j_iald C (rfl : kdf 18 = 13) (by decide) rfl (inb_v q44) d_TF_link_44 ?_
      cases hF
      exact j_iret (st := []) C hr d_TF_link_45 rfl rfl
    refine g_ite hF (fun q hF => ?_) (fun q11_1 hF => ?_)
    · refine j_tabIn C 46 q d_TF_link_11 (by decide) (by decide) (off := 35) rfl (by decide) ?_
      refine j_aload_n C d_TF_link_46 rfl 0 rfl ?_
      refine g_TF_plan C (rfl : kdf 0 = 0) wd_243 d_TF_link_47 ?_
      refine g_Pl_highs C (rfl : kdf 15 = 2) wd_61 d_TF_link_50 ?_
      refine j_iload_n C d_TF_link_53 rfl 1 rfl ?_
      obtain ⟨q54, hF⟩ := g_if hF
      refine j_iald C (rfl : kdf 19 = 13) (by decide) rfl (inb_v q54) d_TF_link_54 ?_
      cases hF
      exact j_iret (st := []) C hr d_TF_link_55 rfl rfl
    refine g_ite hF (fun q hF => ?_) (fun q11_2 hF => ?_)
    · refine j_tabIn C 56 q d_TF_link_11 (by decide) (by decide) (off := 45) rfl (by decide) ?_
      refine j_aload_n C d_TF_link_56 rfl 0 rfl ?_
      refine g_TF_now C (rfl : kdf 0 = 0) wd_244 d_TF_link_57 ?_
      refine j_iload_n C d_TF_link_60 rfl 1 rfl ?_
      obtain ⟨r61, h61, hF⟩ := g_bind hF
      refine j_vi C (As := [.int x1]) (st := []) (c_St_isDown (XL X) G 61 x1 σ (rfl : kdf 61 = 4) h61) (rfl : kdf 61 = 4) (by decide) rfl rfl m_St_isDown wd_449 rfl rfl (Nat.le_of_ble_eq_true rfl) ⟨by decide, by decide⟩ d_TF_link_61 ?_
      refine j_if_eq C 71 d_TF_link_64 (by decide) hF (fun q64 hF => ?_) (fun q64 hF => ?_)
      · refine j_iconst C (v := 0) d_TF_link_71 (by decide) ?_
        cases hF
        exact j_iret (st := []) C hr d_TF_link_72 rfl rfl
      · refine j_iconst C (v := 1) d_TF_link_67 (by decide) ?_
        refine j_goto C 72 d_TF_link_68 (by decide) ?_
        cases hF
        exact j_iret (st := []) C hr d_TF_link_72 rfl rfl
    refine j_tabOut C 73 d_TF_link_11 (by have t0 := lv_neT q11_0 (a := 0) rfl; have t1 := lv_neT q11_1 (a := 1) rfl; have t2 := lv_neT q11_2 (a := 2) rfl; omega) (by decide) ?_
    refine j_bipush C (v := -2) d_TF_link_73 (by decide) ?_
    cases hF
    exact j_iret (st := []) C hr d_TF_link_75 rfl rfl
  · refine j_iconst C (v := -1) d_TF_link_8 (by decide) ?_
    cases hF
    exact j_iret (st := []) C hr d_TF_link_9 rfl rfl
set_option maxHeartbeats 4000000 in
set_option maxRecDepth 100000 in
theorem b_Nd_copyFrom_98 {X : XT} {G : GT} {z : MT} (C : CX X G b_Nd_copyFrom 2 "TimeFlood$Node" 1 30) (hr : XR X none) (σ : MT) (hF : f_Nd_copyFrom_98 σ = some z) : JW X G (QX X (PV G z) G) 2 98 [] [] σ := by
  unfold f_Nd_copyFrom_98 at hF
  cases hF
  exact j_vret C hr d_Nd_copyFrom_98 rfl
set_option maxHeartbeats 4000000 in
set_option maxRecDepth 100000 in
theorem b_Nd_copyFrom_70 {X : XT} {G : GT} {z : MT} (C : CX X G b_Nd_copyFrom 2 "TimeFlood$Node" 1 30) (hr : XR X none) (k0 : Nat) (k1 : Nat) (hk0 : kdf k0 = 5) (hk1 : kdf k1 = 5) (σ : MT) (hF : f_Nd_copyFrom_70 k0 k1 σ = some z) : JW X G (QX X (PV G z) G) 2 70 [(0, rf G k0), (1, rf G k1)] [] σ := by
  unfold f_Nd_copyFrom_70 at hF
  refine j_aload_n C d_Nd_copyFrom_70 rfl 1 rfl ?_
  refine g_Nd_marks C hk1 wd_161 d_Nd_copyFrom_71 ?_
  refine j_iconst C (v := 0) d_Nd_copyFrom_74 (by decide) ?_
  refine j_aload_n C d_Nd_copyFrom_75 rfl 0 rfl ?_
  refine g_Nd_marks C hk0 wd_161 d_Nd_copyFrom_76 ?_
  refine j_iconst C (v := 0) d_Nd_copyFrom_79 (by decide) ?_
  refine j_iconst C (v := 4) d_Nd_copyFrom_80 (by decide) ?_
  refine j_copy C (st := []) (kd_Nd_marks hk1) (kd_Nd_marks hk0) (by decide) (by decide) rfl (fun _ => rfl) (by decide) (by decide) (by decide) (by decide) (by decide) (by decide) (by decide) wd_469 wd_471 wd_470 wd_11 d_Nd_copyFrom_81 ?_
  refine j_aload_n C d_Nd_copyFrom_84 rfl 1 rfl ?_
  refine g_Nd_ages C hk1 wd_162 d_Nd_copyFrom_85 ?_
  refine j_iconst C (v := 0) d_Nd_copyFrom_88 (by decide) ?_
  refine j_aload_n C d_Nd_copyFrom_89 rfl 0 rfl ?_
  refine g_Nd_ages C hk0 wd_162 d_Nd_copyFrom_90 ?_
  refine j_iconst C (v := 0) d_Nd_copyFrom_93 (by decide) ?_
  refine j_iconst C (v := 4) d_Nd_copyFrom_94 (by decide) ?_
  refine j_copy C (st := []) (kd_Nd_ages hk1) (kd_Nd_ages hk0) (by decide) (by decide) rfl (fun _ => rfl) (by decide) (by decide) (by decide) (by decide) (by decide) (by decide) (by decide) wd_469 wd_471 wd_470 wd_11 d_Nd_copyFrom_95 ?_
  refine j_sub C [] [] rfl ?_
  exact b_Nd_copyFrom_98 C hr (sA (sA σ (k0 + 2) (va_cpy (σ.1 (k1 + 2)) (σ.1 (k0 + 2)) 0 0 4)) (k0 + 3) (va_cpy ((sA σ (k0 + 2) (va_cpy (σ.1 (k1 + 2)) (σ.1 (k0 + 2)) 0 0 4)).1 (k1 + 3)) ((sA σ (k0 + 2) (va_cpy (σ.1 (k1 + 2)) (σ.1 (k0 + 2)) 0 0 4)).1 (k0 + 3)) 0 0 4)) hF
set_option maxHeartbeats 4000000 in
set_option maxRecDepth 100000 in
theorem b_Nd_copyFrom_48 {X : XT} {G : GT} {z : MT} (C : CX X G b_Nd_copyFrom 2 "TimeFlood$Node" 1 30) (hr : XR X none) (k0 : Nat) (k1 : Nat) (hk0 : kdf k0 = 5) (hk1 : kdf k1 = 5) (σ : MT) (hF : f_Nd_copyFrom_48 k0 k1 σ = some z) : JW X G (QX X (PV G z) G) 2 48 [(0, rf G k0), (1, rf G k1)] [] σ := by
  unfold f_Nd_copyFrom_48 at hF
  refine j_aload_n C d_Nd_copyFrom_48 rfl 0 rfl ?_
  refine j_aload_n C d_Nd_copyFrom_49 rfl 1 rfl ?_
  refine g_Nd_stampCount C hk1 wd_157 d_Nd_copyFrom_50 ?_
  refine p_Nd_stampCount C hk0 wd_157 d_Nd_copyFrom_53 ?_
  refine j_aload_n C d_Nd_copyFrom_56 rfl 1 rfl ?_
  refine g_Nd_clocks C hk1 wd_160 d_Nd_copyFrom_57 ?_
  refine j_iconst C (v := 0) d_Nd_copyFrom_60 (by decide) ?_
  refine j_aload_n C d_Nd_copyFrom_61 rfl 0 rfl ?_
  refine g_Nd_clocks C hk0 wd_160 d_Nd_copyFrom_62 ?_
  refine j_iconst C (v := 0) d_Nd_copyFrom_65 (by decide) ?_
  refine j_iconst C (v := 4) d_Nd_copyFrom_66 (by decide) ?_
  refine j_copy C (st := []) (kd_Nd_clocks hk1) (kd_Nd_clocks hk0) (by decide) (by decide) rfl (fun _ => rfl) (by decide) (by decide) (by decide) (by decide) (by decide) (by decide) (by decide) wd_469 wd_471 wd_470 wd_11 d_Nd_copyFrom_67 ?_
  exact b_Nd_copyFrom_70 C hr k0 k1 hk0 hk1 (sA (sI σ k0 6 (σ.1 k1 6)) (k0 + 1) (va_cpy ((sI σ k0 6 (σ.1 k1 6)).1 (k1 + 1)) ((sI σ k0 6 (σ.1 k1 6)).1 (k0 + 1)) 0 0 4)) hF
set_option maxHeartbeats 4000000 in
set_option maxRecDepth 100000 in
theorem b_Nd_copyFrom_24 {X : XT} {G : GT} {z : MT} (C : CX X G b_Nd_copyFrom 2 "TimeFlood$Node" 1 30) (hr : XR X none) (k0 : Nat) (k1 : Nat) (hk0 : kdf k0 = 5) (hk1 : kdf k1 = 5) (σ : MT) (hF : f_Nd_copyFrom_24 k0 k1 σ = some z) : JW X G (QX X (PV G z) G) 2 24 [(0, rf G k0), (1, rf G k1)] [] σ := by
  unfold f_Nd_copyFrom_24 at hF
  refine j_aload_n C d_Nd_copyFrom_24 rfl 0 rfl ?_
  refine j_aload_n C d_Nd_copyFrom_25 rfl 1 rfl ?_
  refine g_Nd_number C hk1 wd_151 d_Nd_copyFrom_26 ?_
  refine p_Nd_number C hk0 wd_151 d_Nd_copyFrom_29 ?_
  refine j_aload_n C d_Nd_copyFrom_32 rfl 0 rfl ?_
  refine j_aload_n C d_Nd_copyFrom_33 rfl 1 rfl ?_
  refine g_Nd_heart C hk1 wd_153 d_Nd_copyFrom_34 ?_
  refine p_Nd_heart C hk0 wd_153 d_Nd_copyFrom_37 ?_
  refine j_aload_n C d_Nd_copyFrom_40 rfl 0 rfl ?_
  refine j_aload_n C d_Nd_copyFrom_41 rfl 1 rfl ?_
  refine g_Nd_guard C hk1 wd_155 d_Nd_copyFrom_42 ?_
  refine p_Nd_guard C hk0 wd_155 d_Nd_copyFrom_45 ?_
  exact b_Nd_copyFrom_48 C hr k0 k1 hk0 hk1 (sI (sI (sI σ k0 3 (σ.1 k1 3)) k0 4 ((sI σ k0 3 (σ.1 k1 3)).1 k1 4)) k0 5 ((sI (sI σ k0 3 (σ.1 k1 3)) k0 4 ((sI σ k0 3 (σ.1 k1 3)).1 k1 4)).1 k1 5)) hF
set_option maxHeartbeats 4000000 in
set_option maxRecDepth 100000 in
theorem c_Nd_copyFrom (l : Launch) (G : GT) (k0 : Nat) (k1 : Nat) (σ : MT) (hk0 : kdf k0 = 5) (hk1 : kdf k1 = 5) {z : MT} (hF : f_Nd_copyFrom k0 k1 σ = some z) : CTV l G y_Nd_copyFrom b_Nd_copyFrom 2 none 1 30 [rf G k0, rf G k1] σ z := by
  refine entX [(0, rf G k0), (1, rf G k1)] "TimeFlood$Node" (by decide +kernel) rfl rfl (Nat.le_of_ble_eq_true rfl) (fun X hXl hr C => ?_)
  unfold f_Nd_copyFrom at hF
  refine j_aload_n C d_Nd_copyFrom_0 rfl 0 rfl ?_
  refine j_aload_n C d_Nd_copyFrom_1 rfl 1 rfl ?_
  refine g_Nd_on C hk1 wd_140 d_Nd_copyFrom_2 ?_
  obtain ⟨qz5, hF⟩ := g_if hF
  refine p_Nd_on C hk0 (zbb_z qz5) wd_140 d_Nd_copyFrom_5 ?_
  refine j_aload_n C d_Nd_copyFrom_8 rfl 0 rfl ?_
  refine j_aload_n C d_Nd_copyFrom_9 rfl 1 rfl ?_
  refine g_Nd_drift C hk1 wd_144 d_Nd_copyFrom_10 ?_
  refine p_Nd_drift C hk0 wd_144 d_Nd_copyFrom_13 ?_
  refine j_aload_n C d_Nd_copyFrom_16 rfl 0 rfl ?_
  refine j_aload_n C d_Nd_copyFrom_17 rfl 1 rfl ?_
  refine g_Nd_root C hk1 wd_148 d_Nd_copyFrom_18 ?_
  refine p_Nd_root C hk0 wd_148 d_Nd_copyFrom_21 ?_
  exact b_Nd_copyFrom_24 C hr k0 k1 hk0 hk1 (sI (sI (sI σ k0 0 (σ.1 k1 0)) k0 1 ((sI σ k0 0 (σ.1 k1 0)).1 k1 1)) k0 2 ((sI (sI σ k0 0 (σ.1 k1 0)) k0 1 ((sI σ k0 0 (σ.1 k1 0)).1 k1 1)).1 k1 2)) hF
set_option maxHeartbeats 4000000 in
set_option maxRecDepth 100000 in
theorem b_St_copyFrom_18 {X : XT} {G : GT} {z : MT} (C : CX X G b_St_copyFrom 3 "TimeFlood$State" 2 51) (hr : XR X none) : ∀ (n : Nat) (k0 : Nat) (k1 : Nat) (x2 : Int32) (hk0 : kdf k0 = 4) (hk1 : kdf k1 = 4) (σ : MT), f_St_copyFrom_18 n k0 k1 x2 σ = some z → JW X G (QX X (PV G z) G) 3 18 [(0, rf G k0), (1, rf G k1), (2, .int x2)] [] σ := by
  intro n
  induction n with
  | zero =>
    intro k0 k1 x2 hk0 hk1 σ hF
    rw [f_St_copyFrom_18] at hF
    cases hF
  | succ n ih =>
    intro k0 k1 x2 hk0 hk1 σ hF
    rw [f_St_copyFrom_18] at hF
    refine j_iload_n C d_St_copyFrom_18 rfl 2 rfl ?_
    refine j_iconst C (v := 5) d_St_copyFrom_19 (by decide) ?_
    refine j_icmp_ge C 44 d_St_copyFrom_20 (by decide) hF (fun q20 hF => ?_) (fun q20 hF => ?_)
    · cases hF
      exact j_vret C hr d_St_copyFrom_44 rfl
    · refine j_aload_n C d_St_copyFrom_23 rfl 0 rfl ?_
      refine g_St_nodes C hk0 wd_189 d_St_copyFrom_24 ?_
      refine j_iload_n C d_St_copyFrom_27 rfl 2 rfl ?_
      obtain ⟨q28, hF⟩ := g_if hF
      refine e_nodes C (kd_St_nodes hk0) (inb_v q28) d_St_copyFrom_28 ?_
      refine j_aload_n C d_St_copyFrom_29 rfl 1 rfl ?_
      refine g_St_nodes C hk1 wd_189 d_St_copyFrom_30 ?_
      refine j_iload_n C d_St_copyFrom_33 rfl 2 rfl ?_
      obtain ⟨q34, hF⟩ := g_if hF
      refine e_nodes C (kd_St_nodes hk1) (inb_v q34) d_St_copyFrom_34 ?_
      obtain ⟨r35, h35, hF⟩ := g_bind hF
      refine j_vv C (As := [rf G ((k1 + 1) + 1 + 4 * x2.toNatClampNeg)]) (st := []) (c_Nd_copyFrom (XL X) G ((k0 + 1) + 1 + 4 * x2.toNatClampNeg) ((k1 + 1) + 1 + 4 * x2.toNatClampNeg) σ (kd_node (kd_St_nodes hk0) (inb_v q28)) (kd_node (kd_St_nodes hk1) (inb_v q34)) h35) (kd_node (kd_St_nodes hk0) (inb_v q28)) (by decide) rfl rfl m_Nd_copyFrom wd_465 rfl rfl (Nat.le_of_ble_eq_true rfl) ⟨by decide, by decide⟩ d_St_copyFrom_35 ?_
      refine j_iinc C (v := x2 + (1 : Int32)) (lv' := [(2, .int (x2 + (1 : Int32))), (0, rf G k0), (1, rf G k1)]) d_St_copyFrom_38 2 rfl rfl (by decide) rfl ?_
      refine j_goto C 18 d_St_copyFrom_41 (by decide) ?_
      refine j_sub C [(0, rf G k0), (1, rf G k1), (2, .int (x2 + (1 : Int32)))] [1, 2, 0] rfl ?_
      exact ih k0 k1 (x2 + (1 : Int32)) hk0 hk1 r35 hF
set_option maxHeartbeats 4000000 in
set_option maxRecDepth 100000 in
theorem c_St_copyFrom (l : Launch) (G : GT) (k0 : Nat) (k1 : Nat) (σ : MT) (hk0 : kdf k0 = 4) (hk1 : kdf k1 = 4) {z : MT} (hF : f_St_copyFrom k0 k1 σ = some z) : CTV l G y_St_copyFrom b_St_copyFrom 3 none 2 51 [rf G k0, rf G k1] σ z := by
  refine entX [(0, rf G k0), (1, rf G k1)] "TimeFlood$State" (by decide +kernel) rfl rfl (Nat.le_of_ble_eq_true rfl) (fun X hXl hr C => ?_)
  unfold f_St_copyFrom at hF
  refine j_aload_n C d_St_copyFrom_0 rfl 0 rfl ?_
  refine j_aload_n C d_St_copyFrom_1 rfl 1 rfl ?_
  refine g_St_time C hk1 wd_184 d_St_copyFrom_2 ?_
  refine p_St_time C hk0 wd_184 d_St_copyFrom_5 ?_
  refine j_aload_n C d_St_copyFrom_8 rfl 0 rfl ?_
  refine j_aload_n C d_St_copyFrom_9 rfl 1 rfl ?_
  refine g_St_downSet C hk1 wd_187 d_St_copyFrom_10 ?_
  refine p_St_downSet C hk0 wd_187 d_St_copyFrom_13 ?_
  refine j_iconst C (v := 0) d_St_copyFrom_16 (by decide) ?_
  refine j_istore_n C (lv' := [(2, .int (0 : Int32)), (0, rf G k0), (1, rf G k1)]) d_St_copyFrom_17 rfl (by decide) rfl ?_
  refine j_sub C [(0, rf G k0), (1, rf G k1), (2, .int (0 : Int32))] [1, 2, 0] rfl ?_
  exact b_St_copyFrom_18 C hr 1100 k0 k1 (0 : Int32) hk0 hk1 (sI (sI σ k0 0 (σ.1 k1 0)) k0 1 ((sI σ k0 0 (σ.1 k1 0)).1 k1 1)) hF
set_option maxHeartbeats 4000000 in
set_option maxRecDepth 100000 in
theorem b_Jr_push_26 {X : XT} {G : GT} {z : MT} (C : CX X G b_Jr_push 2 "TimeFlood$Journal" 3 73) (hr : XR X none) (σ : MT) (hF : f_Jr_push_26 σ = some z) : JW X G (QX X (PV G z) G) 2 26 [(0, rf G 30)] [] σ := by
  unfold f_Jr_push_26 at hF
  refine j_aload_n C d_Jr_push_26 rfl 0 rfl ?_
  refine j_aload_n C d_Jr_push_27 rfl 0 rfl ?_
  refine g_Jr_count C (rfl : kdf 30 = 6) wd_210 d_Jr_push_28 ?_
  refine j_iconst C (v := 1) d_Jr_push_31 (by decide) ?_
  refine j_iadd C d_Jr_push_32 ?_
  refine j_bipush C (v := 14) d_Jr_push_33 (by decide) ?_
  obtain ⟨r35, h35, hF⟩ := g_bind hF
  refine j_si C (As := [.int ((σ.1 30 2) + (1 : Int32)), .int (14 : Int32)]) (st := [rf G 30]) (c_Mt_min (XL X) G ((σ.1 30 2) + (1 : Int32)) (14 : Int32) σ h35) m_Mt_min wd_472 rfl rfl (Nat.le_of_ble_eq_true rfl) ⟨by decide, by decide⟩ d_Jr_push_35 ?_
  refine p_Jr_count C (rfl : kdf 30 = 6) wd_210 d_Jr_push_38 ?_
  cases hF
  exact j_vret C hr d_Jr_push_41 rfl
set_option maxHeartbeats 4000000 in
set_option maxRecDepth 100000 in
theorem c_Jr_push (l : Launch) (G : GT) (k1 : Nat) (σ : MT) (hk1 : kdf k1 = 4) {z : MT} (hF : f_Jr_push k1 σ = some z) : CTV l G y_Jr_push b_Jr_push 2 none 3 73 [rf G 30, rf G k1] σ z := by
  refine entX [(0, rf G 30), (1, rf G k1)] "TimeFlood$Journal" (by decide +kernel) rfl rfl (Nat.le_of_ble_eq_true rfl) (fun X hXl hr C => ?_)
  unfold f_Jr_push at hF
  refine j_aload_n C d_Jr_push_0 rfl 0 rfl ?_
  refine g_Jr_states C (rfl : kdf 30 = 6) wd_208 d_Jr_push_1 ?_
  refine j_aload_n C d_Jr_push_4 rfl 0 rfl ?_
  refine g_Jr_next C (rfl : kdf 30 = 6) wd_209 d_Jr_push_5 ?_
  obtain ⟨q8, hF⟩ := g_if hF
  refine e_states C (rfl : kdf 31 = 31) (inb_v q8) d_Jr_push_8 ?_
  refine j_aload_n C d_Jr_push_9 rfl 1 rfl ?_
  obtain ⟨r10, h10, hF⟩ := g_bind hF
  refine j_vv C (As := [rf G k1]) (st := []) (c_St_copyFrom (XL X) G (149 + 22 * (σ.1 30 1).toNatClampNeg) k1 σ (kd_state (inb_v q8)) hk1 h10) (kd_state (inb_v q8)) (by decide) rfl rfl m_St_copyFrom wd_461 rfl rfl (Nat.le_of_ble_eq_true rfl) ⟨by decide, by decide⟩ d_Jr_push_10 ?_
  refine j_aload_n C d_Jr_push_13 rfl 0 rfl ?_
  refine j_aload_n C d_Jr_push_14 rfl 0 rfl ?_
  refine g_Jr_next C (rfl : kdf 30 = 6) wd_209 d_Jr_push_15 ?_
  refine j_iconst C (v := 1) d_Jr_push_18 (by decide) ?_
  refine j_iadd C d_Jr_push_19 ?_
  refine j_bipush C (v := 14) d_Jr_push_20 (by decide) ?_
  refine j_irem C d_Jr_push_22 (by decide) ?_
  refine p_Jr_next C (rfl : kdf 30 = 6) wd_209 d_Jr_push_23 ?_
  refine j_sub C [(0, rf G 30)] [0] rfl ?_
  exact b_Jr_push_26 C hr (sI r10 30 1 (((r10.1 30 1) + (1 : Int32)) - ((r10.1 30 1) + (1 : Int32)) / (14 : Int32) * (14 : Int32))) hF
set_option maxHeartbeats 4000000 in
set_option maxRecDepth 100000 in
theorem b_Nd_grow_69 {X : XT} {G : GT} {z : MT} {K4 : Nat → Int32 → Int32 → MT → Option MT} (C : CX X G b_Nd_grow 3 "TimeFlood$Node" 0 0) (hr : XR X none) (hK4 : ∀ (k0 : Nat) (x1 : Int32) (x2 : Int32) (hk0 : kdf k0 = 5) (σ : MT), K4 k0 x1 x2 σ = some z → JW X G (QX X (PV G z) G) 3 4 [(0, rf G k0), (1, .int x1), (2, .int x2)] [] σ) (k0 : Nat) (x1 : Int32) (x2 : Int32) (hk0 : kdf k0 = 5) (σ : MT) (hF : f_Nd_grow_69 K4 k0 x1 x2 σ = some z) : JW X G (QX X (PV G z) G) 3 69 [(0, rf G k0), (1, .int x1), (2, .int x2)] [] σ := by
  unfold f_Nd_grow_69 at hF
  refine j_iinc C (v := x2 + (1 : Int32)) (lv' := [(2, .int (x2 + (1 : Int32))), (0, rf G k0), (1, .int x1)]) d_Nd_grow_69 2 rfl rfl (by decide) rfl ?_
  refine j_goto C 4 d_Nd_grow_72 (by decide) ?_
  refine j_sub C [(0, rf G k0), (1, .int x1), (2, .int (x2 + (1 : Int32)))] [1, 2, 0] rfl ?_
  exact hK4 k0 x1 (x2 + (1 : Int32)) hk0 σ hF
set_option maxHeartbeats 4000000 in
set_option maxRecDepth 100000 in
theorem b_Nd_grow_66 {X : XT} {G : GT} {z : MT} {K4 : Nat → Int32 → Int32 → MT → Option MT} (C : CX X G b_Nd_grow 3 "TimeFlood$Node" 0 0) (hr : XR X none) (hK4 : ∀ (k0 : Nat) (x1 : Int32) (x2 : Int32) (hk0 : kdf k0 = 5) (σ : MT), K4 k0 x1 x2 σ = some z → JW X G (QX X (PV G z) G) 3 4 [(0, rf G k0), (1, .int x1), (2, .int x2)] [] σ) (k0 : Nat) (x1 : Int32) (x2 : Int32) (hk0 : kdf k0 = 5) (σ : MT) (hF : f_Nd_grow_66 K4 k0 x1 x2 σ = some z) : JW X G (QX X (PV G z) G) 3 66 [(0, rf G k0), (1, .int x1), (2, .int x2)] [] σ := by
  unfold f_Nd_grow_66 at hF
  refine j_iinc C (v := x1 + (1 : Int32)) (lv' := [(1, .int (x1 + (1 : Int32))), (0, rf G k0), (2, .int x2)]) d_Nd_grow_66 1 rfl rfl (by decide) rfl ?_
  refine j_sub C [(0, rf G k0), (1, .int (x1 + (1 : Int32))), (2, .int x2)] [1, 0, 2] rfl ?_
  exact b_Nd_grow_69 C hr hK4 k0 (x1 + (1 : Int32)) x2 hk0 σ hF
set_option maxHeartbeats 4000000 in
set_option maxRecDepth 100000 in
theorem b_Nd_grow_52 {X : XT} {G : GT} {z : MT} {K4 : Nat → Int32 → Int32 → MT → Option MT} (C : CX X G b_Nd_grow 3 "TimeFlood$Node" 0 0) (hr : XR X none) (hK4 : ∀ (k0 : Nat) (x1 : Int32) (x2 : Int32) (hk0 : kdf k0 = 5) (σ : MT), K4 k0 x1 x2 σ = some z → JW X G (QX X (PV G z) G) 3 4 [(0, rf G k0), (1, .int x1), (2, .int x2)] [] σ) (k0 : Nat) (x1 : Int32) (x2 : Int32) (hk0 : kdf k0 = 5) (σ : MT) (hF : f_Nd_grow_52 K4 k0 x1 x2 σ = some z) : JW X G (QX X (PV G z) G) 3 52 [(0, rf G k0), (1, .int x1), (2, .int x2)] [] σ := by
  unfold f_Nd_grow_52 at hF
  refine j_aload_n C d_Nd_grow_52 rfl 0 rfl ?_
  refine g_Nd_ages C hk0 wd_162 d_Nd_grow_53 ?_
  refine j_iload_n C d_Nd_grow_56 rfl 1 rfl ?_
  refine j_aload_n C d_Nd_grow_57 rfl 0 rfl ?_
  refine g_Nd_ages C hk0 wd_162 d_Nd_grow_58 ?_
  refine j_iload_n C d_Nd_grow_61 rfl 2 rfl ?_
  obtain ⟨q62, hF⟩ := g_if hF
  refine j_iald C (kd_Nd_ages hk0) (by decide) rfl (inb_v q62) d_Nd_grow_62 ?_
  refine j_iconst C (v := 1) d_Nd_grow_63 (by decide) ?_
  refine j_iadd C d_Nd_grow_64 ?_
  obtain ⟨q65, hF⟩ := g_if hF
  refine j_iast C (kd_Nd_ages hk0) (by decide) (fun _ => rfl) (inb_v q65) d_Nd_grow_65 ?_
  exact b_Nd_grow_66 C hr hK4 k0 x1 x2 hk0 (sI σ (k0 + 3) x1.toNatClampNeg ((σ.1 (k0 + 3) x2.toNatClampNeg) + (1 : Int32))) hF
set_option maxHeartbeats 4000000 in
set_option maxRecDepth 100000 in
theorem b_Nd_grow_4 {X : XT} {G : GT} {z : MT} {K75 : Nat → Int32 → MT → Option MT} (C : CX X G b_Nd_grow 3 "TimeFlood$Node" 0 0) (hr : XR X none) (hK75 : ∀ (k0 : Nat) (x1 : Int32) (hk0 : kdf k0 = 5) (σ : MT), K75 k0 x1 σ = some z → JW X G (QX X (PV G z) G) 3 75 [(0, rf G k0), (1, .int x1)] [] σ) : ∀ (n : Nat) (k0 : Nat) (x1 : Int32) (x2 : Int32) (hk0 : kdf k0 = 5) (σ : MT), f_Nd_grow_4 K75 n k0 x1 x2 σ = some z → JW X G (QX X (PV G z) G) 3 4 [(0, rf G k0), (1, .int x1), (2, .int x2)] [] σ := by
  intro n
  induction n with
  | zero =>
    intro k0 x1 x2 hk0 σ hF
    rw [f_Nd_grow_4] at hF
    cases hF
  | succ n ih =>
    intro k0 x1 x2 hk0 σ hF
    rw [f_Nd_grow_4] at hF
    refine j_iload_n C d_Nd_grow_4 rfl 2 rfl ?_
    refine j_aload_n C d_Nd_grow_5 rfl 0 rfl ?_
    refine g_Nd_stampCount C hk0 wd_157 d_Nd_grow_6 ?_
    refine j_icmp_ge C 75 d_Nd_grow_9 (by decide) hF (fun q9 hF => ?_) (fun q9 hF => ?_)
    · refine j_sub C [(0, rf G k0), (1, .int x1)] [0, 1] rfl ?_
      exact hK75 k0 x1 hk0 σ hF
    · refine j_iload_n C d_Nd_grow_12 rfl 2 rfl ?_
      refine j_iconst C (v := 4) d_Nd_grow_13 (by decide) ?_
      refine j_icmp_ge C 75 d_Nd_grow_14 (by decide) hF (fun q14 hF => ?_) (fun q14 hF => ?_)
      · refine j_sub C [(0, rf G k0), (1, .int x1)] [0, 1] rfl ?_
        exact hK75 k0 x1 hk0 σ hF
      · refine j_aload_n C d_Nd_grow_17 rfl 0 rfl ?_
        refine g_Nd_ages C hk0 wd_162 d_Nd_grow_18 ?_
        refine j_iload_n C d_Nd_grow_21 rfl 2 rfl ?_
        obtain ⟨q22, hF⟩ := g_if hF
        refine j_iald C (kd_Nd_ages hk0) (by decide) rfl (inb_v q22) d_Nd_grow_22 ?_
        refine j_bipush C (v := 9) d_Nd_grow_23 (by decide) ?_
        refine j_icmp_ge C 69 d_Nd_grow_25 (by decide) hF (fun q25 hF => ?_) (fun q25 hF => ?_)
        · exact b_Nd_grow_69 C hr ih k0 x1 x2 hk0 σ hF
        · refine j_aload_n C d_Nd_grow_28 rfl 0 rfl ?_
          refine g_Nd_clocks C hk0 wd_160 d_Nd_grow_29 ?_
          refine j_iload_n C d_Nd_grow_32 rfl 1 rfl ?_
          refine j_aload_n C d_Nd_grow_33 rfl 0 rfl ?_
          refine g_Nd_clocks C hk0 wd_160 d_Nd_grow_34 ?_
          refine j_iload_n C d_Nd_grow_37 rfl 2 rfl ?_
          obtain ⟨q38, hF⟩ := g_if hF
          refine j_iald C (kd_Nd_clocks hk0) (by decide) rfl (inb_v q38) d_Nd_grow_38 ?_
          obtain ⟨q39, hF⟩ := g_if hF
          refine j_iast C (kd_Nd_clocks hk0) (by decide) (fun _ => rfl) (inb_v q39) d_Nd_grow_39 ?_
          refine j_aload_n C d_Nd_grow_40 rfl 0 rfl ?_
          refine g_Nd_marks C hk0 wd_161 d_Nd_grow_41 ?_
          refine j_iload_n C d_Nd_grow_44 rfl 1 rfl ?_
          refine j_aload_n C d_Nd_grow_45 rfl 0 rfl ?_
          refine g_Nd_marks C hk0 wd_161 d_Nd_grow_46 ?_
          refine j_iload_n C d_Nd_grow_49 rfl 2 rfl ?_
          obtain ⟨q50, hF⟩ := g_if hF
          refine j_iald C (kd_Nd_marks hk0) (by decide) rfl (inb_v q50) d_Nd_grow_50 ?_
          obtain ⟨q51, hF⟩ := g_if hF
          refine j_iast C (kd_Nd_marks hk0) (by decide) (fun _ => rfl) (inb_v q51) d_Nd_grow_51 ?_
          exact b_Nd_grow_52 C hr ih k0 x1 x2 hk0 (sI (sI σ (k0 + 1) x1.toNatClampNeg (σ.1 (k0 + 1) x2.toNatClampNeg)) (k0 + 2) x1.toNatClampNeg ((sI σ (k0 + 1) x1.toNatClampNeg (σ.1 (k0 + 1) x2.toNatClampNeg)).1 (k0 + 2) x2.toNatClampNeg)) hF
set_option maxHeartbeats 4000000 in
set_option maxRecDepth 100000 in
theorem b_Nd_grow_107 {X : XT} {G : GT} {z : MT} (C : CX X G b_Nd_grow 3 "TimeFlood$Node" 0 0) (hr : XR X none) (σ : MT) (hF : f_Nd_grow_107 σ = some z) : JW X G (QX X (PV G z) G) 3 107 [] [] σ := by
  unfold f_Nd_grow_107 at hF
  cases hF
  exact j_vret C hr d_Nd_grow_107 rfl
set_option maxHeartbeats 4000000 in
set_option maxRecDepth 100000 in
theorem b_Nd_grow_75 {X : XT} {G : GT} {z : MT} (C : CX X G b_Nd_grow 3 "TimeFlood$Node" 0 0) (hr : XR X none) (k0 : Nat) (x1 : Int32) (hk0 : kdf k0 = 5) (σ : MT) (hF : f_Nd_grow_75 k0 x1 σ = some z) : JW X G (QX X (PV G z) G) 3 75 [(0, rf G k0), (1, .int x1)] [] σ := by
  unfold f_Nd_grow_75 at hF
  refine j_aload_n C d_Nd_grow_75 rfl 0 rfl ?_
  refine j_iload_n C d_Nd_grow_76 rfl 1 rfl ?_
  refine p_Nd_stampCount C hk0 wd_157 d_Nd_grow_77 ?_
  refine j_aload_n C d_Nd_grow_80 rfl 0 rfl ?_
  refine j_dup C d_Nd_grow_81 rfl ?_
  refine g_Nd_heart C hk0 wd_153 d_Nd_grow_82 ?_
  refine j_iconst C (v := 1) d_Nd_grow_85 (by decide) ?_
  refine j_iadd C d_Nd_grow_86 ?_
  refine p_Nd_heart C hk0 wd_153 d_Nd_grow_87 ?_
  refine j_aload_n C d_Nd_grow_90 rfl 0 rfl ?_
  refine g_Nd_guard C hk0 wd_155 d_Nd_grow_91 ?_
  refine j_if_le C 107 d_Nd_grow_94 (by decide) hF (fun q94 hF => ?_) (fun q94 hF => ?_)
  · cases hF
    exact j_vret C hr d_Nd_grow_107 rfl
  · refine j_aload_n C d_Nd_grow_97 rfl 0 rfl ?_
    refine j_dup C d_Nd_grow_98 rfl ?_
    refine g_Nd_guard C hk0 wd_155 d_Nd_grow_99 ?_
    refine j_iconst C (v := 1) d_Nd_grow_102 (by decide) ?_
    refine j_isub C d_Nd_grow_103 ?_
    refine p_Nd_guard C hk0 wd_155 d_Nd_grow_104 ?_
    refine j_sub C [] [] rfl ?_
    exact b_Nd_grow_107 C hr (sI (sI (sI σ k0 6 x1) k0 4 (((sI σ k0 6 x1).1 k0 4) + (1 : Int32))) k0 5 (((sI (sI σ k0 6 x1) k0 4 (((sI σ k0 6 x1).1 k0 4) + (1 : Int32))).1 k0 5) - (1 : Int32))) hF
set_option maxHeartbeats 4000000 in
set_option maxRecDepth 100000 in
theorem c_Nd_grow (l : Launch) (G : GT) (k0 : Nat) (σ : MT) (hk0 : kdf k0 = 5) {z : MT} (hF : f_Nd_grow k0 σ = some z) : CTV l G y_Nd_grow b_Nd_grow 3 none 0 0 [rf G k0] σ z := by
  refine entX [(0, rf G k0)] "TimeFlood$Node" (by decide +kernel) rfl rfl (Nat.le_of_ble_eq_true rfl) (fun X hXl hr C => ?_)
  unfold f_Nd_grow at hF
  refine j_iconst C (v := 0) d_Nd_grow_0 (by decide) ?_
  refine j_istore_n C (lv' := [(1, .int (0 : Int32)), (0, rf G k0)]) d_Nd_grow_1 rfl (by decide) rfl ?_
  refine j_iconst C (v := 0) d_Nd_grow_2 (by decide) ?_
  refine j_istore_n C (lv' := [(2, .int (0 : Int32)), (1, .int (0 : Int32)), (0, rf G k0)]) d_Nd_grow_3 rfl (by decide) rfl ?_
  refine j_sub C [(0, rf G k0), (1, .int (0 : Int32)), (2, .int (0 : Int32))] [2, 1, 0] rfl ?_
  exact b_Nd_grow_4 C hr (b_Nd_grow_75 C hr) 1100 k0 (0 : Int32) (0 : Int32) hk0 σ hF
set_option maxHeartbeats 4000000 in
set_option maxRecDepth 100000 in
theorem b_Nd_lead_68 {X : XT} {G : GT} {z : MT} (C : CX X G b_Nd_lead 4 "TimeFlood$Node" 0 0) (hr : XR X none) (k0 : Nat) (hk0 : kdf k0 = 5) (σ : MT) (hF : f_Nd_lead_68 k0 σ = some z) : JW X G (QX X (PV G z) G) 4 68 [(0, rf G k0)] [] σ := by
  unfold f_Nd_lead_68 at hF
  refine j_aload_n C d_Nd_lead_68 rfl 0 rfl ?_
  refine j_iconst C (v := 0) d_Nd_lead_69 (by decide) ?_
  refine p_Nd_heart C hk0 wd_153 d_Nd_lead_70 ?_
  cases hF
  exact j_vret C hr d_Nd_lead_73 rfl
set_option maxHeartbeats 4000000 in
set_option maxRecDepth 100000 in
theorem b_Nd_lead_47 {X : XT} {G : GT} {z : MT} (C : CX X G b_Nd_lead 4 "TimeFlood$Node" 0 0) (hr : XR X none) (k0 : Nat) (x1 : Int32) (hk0 : kdf k0 = 5) (σ : MT) (hF : f_Nd_lead_47 k0 x1 σ = some z) : JW X G (QX X (PV G z) G) 4 47 [(0, rf G k0), (1, .int x1)] [] σ := by
  unfold f_Nd_lead_47 at hF
  refine j_aload_n C d_Nd_lead_47 rfl 0 rfl ?_
  refine g_Nd_root C hk0 wd_148 d_Nd_lead_48 ?_
  refine j_iload_n C d_Nd_lead_51 rfl 1 rfl ?_
  refine j_icmp_ne C 73 d_Nd_lead_52 (by decide) hF (fun q52 hF => ?_) (fun q52 hF => ?_)
  · cases hF
    exact j_vret C hr d_Nd_lead_73 rfl
  · refine j_aload_n C d_Nd_lead_55 rfl 0 rfl ?_
    refine j_aload_n C d_Nd_lead_56 rfl 0 rfl ?_
    refine g_Nd_number C hk0 wd_151 d_Nd_lead_57 ?_
    refine j_iconst C (v := 1) d_Nd_lead_60 (by decide) ?_
    refine j_iadd C d_Nd_lead_61 ?_
    refine j_bipush C (v := 64) d_Nd_lead_62 (by decide) ?_
    refine j_irem C d_Nd_lead_64 (by decide) ?_
    refine p_Nd_number C hk0 wd_151 d_Nd_lead_65 ?_
    refine j_sub C [(0, rf G k0)] [0] rfl ?_
    exact b_Nd_lead_68 C hr k0 hk0 (sI σ k0 3 (((σ.1 k0 3) + (1 : Int32)) - ((σ.1 k0 3) + (1 : Int32)) / (64 : Int32) * (64 : Int32))) hF
set_option maxHeartbeats 4000000 in
set_option maxRecDepth 100000 in
theorem b_Nd_lead_24 {X : XT} {G : GT} {z : MT} (C : CX X G b_Nd_lead 4 "TimeFlood$Node" 0 0) (hr : XR X none) (k0 : Nat) (x1 : Int32) (k2 : Nat) (xs0 : Int32) (hk0 : kdf k0 = 5) (hk2 : kdf k2 = 2) (σ : MT) (hF : f_Nd_lead_24 k0 x1 k2 xs0 σ = some z) : JW X G (QX X (PV G z) G) 4 24 [(0, rf G k0), (1, .int x1), (2, rf G k2)] [.int xs0] σ := by
  unfold f_Nd_lead_24 at hF
  refine j_istore_n C (lv' := [(3, .int xs0), (0, rf G k0), (1, .int x1), (2, rf G k2)]) d_Nd_lead_24 rfl (by decide) rfl ?_
  refine j_iload_n C d_Nd_lead_25 rfl 0 rfl ?_
  refine j_if_eq C 47 d_Nd_lead_26 (by decide) hF (fun q26 hF => ?_) (fun q26 hF => ?_)
  · refine j_sub C [(0, rf G k0), (1, .int x1)] [1, 2] rfl ?_
    exact b_Nd_lead_47 C hr k0 x1 hk0 σ hF
  · refine j_aload_n C d_Nd_lead_29 rfl 1 rfl ?_
    refine j_iload_n C d_Nd_lead_30 rfl 2 rfl ?_
    refine p_Nd_root C hk0 wd_148 d_Nd_lead_31 ?_
    refine j_aload_n C d_Nd_lead_34 rfl 1 rfl ?_
    refine j_iconst C (v := 0) d_Nd_lead_35 (by decide) ?_
    refine p_Nd_stampCount C hk0 wd_157 d_Nd_lead_36 ?_
    refine j_aload_n C d_Nd_lead_39 rfl 1 rfl ?_
    refine j_aload_n C d_Nd_lead_40 rfl 3 rfl ?_
    refine g_Pl_shyness C hk2 wd_46 d_Nd_lead_41 ?_
    refine p_Nd_guard C hk0 wd_155 d_Nd_lead_44 ?_
    refine j_sub C [(0, rf G k0), (1, .int x1)] [1, 2] rfl ?_
    exact b_Nd_lead_47 C hr k0 x1 hk0 (sI (sI (sI σ k0 2 x1) k0 6 (0 : Int32)) k0 5 ((sI (sI σ k0 2 x1) k0 6 (0 : Int32)).1 k2 2)) hF
set_option maxHeartbeats 4000000 in
set_option maxRecDepth 100000 in
theorem b_Nd_lead_23 {X : XT} {G : GT} {z : MT} (C : CX X G b_Nd_lead 4 "TimeFlood$Node" 0 0) (hr : XR X none) (k0 : Nat) (x1 : Int32) (k2 : Nat) (hk0 : kdf k0 = 5) (hk2 : kdf k2 = 2) (σ : MT) (hF : f_Nd_lead_23 k0 x1 k2 σ = some z) : JW X G (QX X (PV G z) G) 4 23 [(0, rf G k0), (1, .int x1), (2, rf G k2)] [] σ := by
  unfold f_Nd_lead_23 at hF
  refine j_iconst C (v := 0) d_Nd_lead_23 (by decide) ?_
  exact b_Nd_lead_24 C hr k0 x1 k2 (0 : Int32) hk0 hk2 σ hF
set_option maxHeartbeats 4000000 in
set_option maxRecDepth 100000 in
theorem c_Nd_lead (l : Launch) (G : GT) (k0 : Nat) (x1 : Int32) (k2 : Nat) (σ : MT) (hk0 : kdf k0 = 5) (hk2 : kdf k2 = 2) {z : MT} (hF : f_Nd_lead k0 x1 k2 σ = some z) : CTV l G y_Nd_lead b_Nd_lead 4 none 0 0 [rf G k0, .int x1, rf G k2] σ z := by
  refine entX [(0, rf G k0), (1, .int x1), (2, rf G k2)] "TimeFlood$Node" (by decide +kernel) rfl rfl (Nat.le_of_ble_eq_true rfl) (fun X hXl hr C => ?_)
  unfold f_Nd_lead at hF
  refine j_aload_n C d_Nd_lead_0 rfl 0 rfl ?_
  refine g_Nd_root C hk0 wd_148 d_Nd_lead_1 ?_
  refine j_iload_n C d_Nd_lead_4 rfl 1 rfl ?_
  refine j_icmp_eq C 23 d_Nd_lead_5 (by decide) hF (fun q5 hF => ?_) (fun q5 hF => ?_)
  · exact b_Nd_lead_23 C hr k0 x1 k2 hk0 hk2 σ hF
  · refine j_aload_n C d_Nd_lead_8 rfl 0 rfl ?_
    refine g_Nd_heart C hk0 wd_153 d_Nd_lead_9 ?_
    refine j_aload_n C d_Nd_lead_12 rfl 2 rfl ?_
    refine g_Pl_patience C hk2 wd_42 d_Nd_lead_13 ?_
    refine j_icmp_le C 23 d_Nd_lead_16 (by decide) hF (fun q16 hF => ?_) (fun q16 hF => ?_)
    · exact b_Nd_lead_23 C hr k0 x1 k2 hk0 hk2 σ hF
    · refine j_iconst C (v := 1) d_Nd_lead_19 (by decide) ?_
      refine j_goto C 24 d_Nd_lead_20 (by decide) ?_
      exact b_Nd_lead_24 C hr k0 x1 k2 (1 : Int32) hk0 hk2 σ hF
set_option maxHeartbeats 4000000 in
set_option maxRecDepth 100000 in
theorem c_Nd_sends (l : Launch) (G : GT) (k0 : Nat) (x1 : Int32) (σ : MT) (hk0 : kdf k0 = 5) {z : Int32} (hF : f_Nd_sends k0 x1 σ = some z) : CTI l G y_Nd_sends b_Nd_sends 2 (some .boolean) 0 0 [rf G k0, .int x1] σ z σ := by
  refine entX [(0, rf G k0), (1, .int x1)] "TimeFlood$Node" (by decide +kernel) rfl rfl (Nat.le_of_ble_eq_true rfl) (fun X hXl hr C => ?_)
  unfold f_Nd_sends at hF
  refine j_aload_n C d_Nd_sends_0 rfl 0 rfl ?_
  refine g_Nd_on C hk0 wd_140 d_Nd_sends_1 ?_
  refine j_if_eq C 27 d_Nd_sends_4 (by decide) hF (fun q4 hF => ?_) (fun q4 hF => ?_)
  · refine j_iconst C (v := 0) d_Nd_sends_27 (by decide) ?_
    cases hF
    exact j_zret (st := []) C hr rfl d_Nd_sends_28 rfl rfl
  · refine j_aload_n C d_Nd_sends_7 rfl 0 rfl ?_
    refine g_Nd_root C hk0 wd_148 d_Nd_sends_8 ?_
    refine j_iload_n C d_Nd_sends_11 rfl 1 rfl ?_
    refine j_icmp_eq C 23 d_Nd_sends_12 (by decide) hF (fun q12 hF => ?_) (fun q12 hF => ?_)
    · refine j_iconst C (v := 1) d_Nd_sends_23 (by decide) ?_
      refine j_goto C 28 d_Nd_sends_24 (by decide) ?_
      cases hF
      exact j_zret (st := []) C hr rfl d_Nd_sends_28 rfl rfl
    · refine j_aload_n C d_Nd_sends_15 rfl 0 rfl ?_
      refine g_Nd_stampCount C hk0 wd_157 d_Nd_sends_16 ?_
      refine j_iconst C (v := 2) d_Nd_sends_19 (by decide) ?_
      refine j_icmp_lt C 27 d_Nd_sends_20 (by decide) hF (fun q20 hF => ?_) (fun q20 hF => ?_)
      · refine j_iconst C (v := 0) d_Nd_sends_27 (by decide) ?_
        cases hF
        exact j_zret (st := []) C hr rfl d_Nd_sends_28 rfl rfl
      · refine j_iconst C (v := 1) d_Nd_sends_23 (by decide) ?_
        refine j_goto C 28 d_Nd_sends_24 (by decide) ?_
        cases hF
        exact j_zret (st := []) C hr rfl d_Nd_sends_28 rfl rfl
set_option maxHeartbeats 4000000 in
set_option maxRecDepth 100000 in
theorem b_Nd_takesAsNewRoot_20 {X : XT} {G : GT} {z : Int32} {σ : MT} (C : CX X G b_Nd_takesAsNewRoot 4 "TimeFlood$Node" 0 0) (hr : XR X (some .boolean)) (k0 : Nat) (x2 : Int32) (xs0 : Int32) (hk0 : kdf k0 = 5) (hF : f_Nd_takesAsNewRoot_20 k0 x2 xs0 σ = some z) : JW X G (QX X (PI G z σ) G) 4 20 [(0, rf G k0), (2, .int x2)] [.int xs0] σ := by
  unfold f_Nd_takesAsNewRoot_20 at hF
  refine j_istore_n C (lv' := [(3, .int xs0), (0, rf G k0), (2, .int x2)]) d_Nd_takesAsNewRoot_20 rfl (by decide) rfl ?_
  refine j_iload_n C d_Nd_takesAsNewRoot_21 rfl 0 rfl ?_
  refine j_if_ne C 46 d_Nd_takesAsNewRoot_22 (by decide) hF (fun q22 hF => ?_) (fun q22 hF => ?_)
  · refine j_iconst C (v := 0) d_Nd_takesAsNewRoot_46 (by decide) ?_
    cases hF
    exact j_zret (st := []) C hr rfl d_Nd_takesAsNewRoot_47 rfl rfl
  · refine j_aload_n C d_Nd_takesAsNewRoot_25 rfl 1 rfl ?_
    refine g_Nd_root C hk0 wd_148 d_Nd_takesAsNewRoot_26 ?_
    refine j_bipush C (v := -9) d_Nd_takesAsNewRoot_29 (by decide) ?_
    refine j_icmp_eq C 42 d_Nd_takesAsNewRoot_31 (by decide) hF (fun q31 hF => ?_) (fun q31 hF => ?_)
    · refine j_iconst C (v := 1) d_Nd_takesAsNewRoot_42 (by decide) ?_
      refine j_goto C 47 d_Nd_takesAsNewRoot_43 (by decide) ?_
      cases hF
      exact j_zret (st := []) C hr rfl d_Nd_takesAsNewRoot_47 rfl rfl
    · refine j_iload_n C d_Nd_takesAsNewRoot_34 rfl 2 rfl ?_
      refine j_aload_n C d_Nd_takesAsNewRoot_35 rfl 1 rfl ?_
      refine g_Nd_root C hk0 wd_148 d_Nd_takesAsNewRoot_36 ?_
      refine j_icmp_ge C 46 d_Nd_takesAsNewRoot_39 (by decide) hF (fun q39 hF => ?_) (fun q39 hF => ?_)
      · refine j_iconst C (v := 0) d_Nd_takesAsNewRoot_46 (by decide) ?_
        cases hF
        exact j_zret (st := []) C hr rfl d_Nd_takesAsNewRoot_47 rfl rfl
      · refine j_iconst C (v := 1) d_Nd_takesAsNewRoot_42 (by decide) ?_
        refine j_goto C 47 d_Nd_takesAsNewRoot_43 (by decide) ?_
        cases hF
        exact j_zret (st := []) C hr rfl d_Nd_takesAsNewRoot_47 rfl rfl
set_option maxHeartbeats 4000000 in
set_option maxRecDepth 100000 in
theorem b_Nd_takesAsNewRoot_19 {X : XT} {G : GT} {z : Int32} {σ : MT} (C : CX X G b_Nd_takesAsNewRoot 4 "TimeFlood$Node" 0 0) (hr : XR X (some .boolean)) (k0 : Nat) (x2 : Int32) (hk0 : kdf k0 = 5) (hF : f_Nd_takesAsNewRoot_19 k0 x2 σ = some z) : JW X G (QX X (PI G z σ) G) 4 19 [(0, rf G k0), (2, .int x2)] [] σ := by
  unfold f_Nd_takesAsNewRoot_19 at hF
  refine j_iconst C (v := 0) d_Nd_takesAsNewRoot_19 (by decide) ?_
  exact b_Nd_takesAsNewRoot_20 C hr k0 x2 (0 : Int32) hk0 hF
set_option maxHeartbeats 4000000 in
set_option maxRecDepth 100000 in
theorem c_Nd_takesAsNewRoot (l : Launch) (G : GT) (k0 : Nat) (x1 : Int32) (x2 : Int32) (σ : MT) (hk0 : kdf k0 = 5) {z : Int32} (hF : f_Nd_takesAsNewRoot k0 x1 x2 σ = some z) : CTI l G y_Nd_takesAsNewRoot b_Nd_takesAsNewRoot 4 (some .boolean) 0 0 [rf G k0, .int x1, .int x2] σ z σ := by
  refine entX [(0, rf G k0), (1, .int x1), (2, .int x2)] "TimeFlood$Node" (by decide +kernel) rfl rfl (Nat.le_of_ble_eq_true rfl) (fun X hXl hr C => ?_)
  unfold f_Nd_takesAsNewRoot at hF
  refine j_aload_n C d_Nd_takesAsNewRoot_0 rfl 0 rfl ?_
  refine g_Nd_root C hk0 wd_148 d_Nd_takesAsNewRoot_1 ?_
  refine j_iload_n C d_Nd_takesAsNewRoot_4 rfl 1 rfl ?_
  refine j_icmp_ne C 19 d_Nd_takesAsNewRoot_5 (by decide) hF (fun q5 hF => ?_) (fun q5 hF => ?_)
  · refine j_sub C [(0, rf G k0), (2, .int x2)] [0, 2] rfl ?_
    exact b_Nd_takesAsNewRoot_19 C hr k0 x2 hk0 hF
  · refine j_aload_n C d_Nd_takesAsNewRoot_8 rfl 0 rfl ?_
    refine g_Nd_guard C hk0 wd_155 d_Nd_takesAsNewRoot_9 ?_
    refine j_if_le C 19 d_Nd_takesAsNewRoot_12 (by decide) hF (fun q12 hF => ?_) (fun q12 hF => ?_)
    · refine j_sub C [(0, rf G k0), (2, .int x2)] [0, 2] rfl ?_
      exact b_Nd_takesAsNewRoot_19 C hr k0 x2 hk0 hF
    · refine j_iconst C (v := 1) d_Nd_takesAsNewRoot_15 (by decide) ?_
      refine j_goto C 20 d_Nd_takesAsNewRoot_16 (by decide) ?_
      refine j_sub C [(0, rf G k0), (2, .int x2)] [0, 2] rfl ?_
      exact b_Nd_takesAsNewRoot_20 C hr k0 x2 (1 : Int32) hk0 hF
set_option maxHeartbeats 4000000 in
set_option maxRecDepth 100000 in
theorem b_Nd_store_126 {X : XT} {G : GT} {z : MT} (C : CX X G b_Nd_store 5 "TimeFlood$Node" 0 0) (hr : XR X none) (σ : MT) (hF : f_Nd_store_126 σ = some z) : JW X G (QX X (PV G z) G) 5 126 [] [] σ := by
  unfold f_Nd_store_126 at hF
  cases hF
  exact j_vret C hr d_Nd_store_126 rfl
set_option maxHeartbeats 4000000 in
set_option maxRecDepth 100000 in
theorem b_Nd_store_106 {X : XT} {G : GT} {z : MT} (C : CX X G b_Nd_store 5 "TimeFlood$Node" 0 0) (hr : XR X none) (k0 : Nat) (hk0 : kdf k0 = 5) (σ : MT) (hF : f_Nd_store_106 k0 σ = some z) : JW X G (QX X (PV G z) G) 5 106 [(0, rf G k0)] [] σ := by
  unfold f_Nd_store_106 at hF
  refine j_aload_n C d_Nd_store_106 rfl 0 rfl ?_
  refine g_Nd_ages C hk0 wd_162 d_Nd_store_107 ?_
  refine j_aload_n C d_Nd_store_110 rfl 0 rfl ?_
  refine g_Nd_stampCount C hk0 wd_157 d_Nd_store_111 ?_
  refine j_iconst C (v := 0) d_Nd_store_114 (by decide) ?_
  obtain ⟨q115, hF⟩ := g_if hF
  refine j_iast C (kd_Nd_ages hk0) (by decide) (fun _ => rfl) (inb_v q115) d_Nd_store_115 ?_
  refine j_aload_n C d_Nd_store_116 rfl 0 rfl ?_
  refine j_dup C d_Nd_store_117 rfl ?_
  refine g_Nd_stampCount C hk0 wd_157 d_Nd_store_118 ?_
  refine j_iconst C (v := 1) d_Nd_store_121 (by decide) ?_
  refine j_iadd C d_Nd_store_122 ?_
  refine p_Nd_stampCount C hk0 wd_157 d_Nd_store_123 ?_
  refine j_sub C [] [] rfl ?_
  exact b_Nd_store_126 C hr (sI (sI σ (k0 + 3) (σ.1 k0 6).toNatClampNeg (0 : Int32)) k0 6 (((sI σ (k0 + 3) (σ.1 k0 6).toNatClampNeg (0 : Int32)).1 k0 6) + (1 : Int32))) hF
set_option maxHeartbeats 4000000 in
set_option maxRecDepth 100000 in
theorem b_Nd_store_86 {X : XT} {G : GT} {z : MT} (C : CX X G b_Nd_store 5 "TimeFlood$Node" 0 0) (hr : XR X none) (k0 : Nat) (x2 : Int32) (x3 : Int32) (hk0 : kdf k0 = 5) (σ : MT) (hF : f_Nd_store_86 k0 x2 x3 σ = some z) : JW X G (QX X (PV G z) G) 5 86 [(0, rf G k0), (2, .int x2), (3, .int x3)] [] σ := by
  unfold f_Nd_store_86 at hF
  refine j_aload_n C d_Nd_store_86 rfl 0 rfl ?_
  refine g_Nd_clocks C hk0 wd_160 d_Nd_store_87 ?_
  refine j_aload_n C d_Nd_store_90 rfl 0 rfl ?_
  refine g_Nd_stampCount C hk0 wd_157 d_Nd_store_91 ?_
  refine j_iload_n C d_Nd_store_94 rfl 1 rfl ?_
  obtain ⟨q95, hF⟩ := g_if hF
  refine j_iast C (kd_Nd_clocks hk0) (by decide) (fun _ => rfl) (inb_v q95) d_Nd_store_95 ?_
  refine j_aload_n C d_Nd_store_96 rfl 0 rfl ?_
  refine g_Nd_marks C hk0 wd_161 d_Nd_store_97 ?_
  refine j_aload_n C d_Nd_store_100 rfl 0 rfl ?_
  refine g_Nd_stampCount C hk0 wd_157 d_Nd_store_101 ?_
  refine j_iload_n C d_Nd_store_104 rfl 2 rfl ?_
  obtain ⟨q105, hF⟩ := g_if hF
  refine j_iast C (kd_Nd_marks hk0) (by decide) (fun _ => rfl) (inb_v q105) d_Nd_store_105 ?_
  refine j_sub C [(0, rf G k0)] [0] rfl ?_
  exact b_Nd_store_106 C hr k0 hk0 (sI (sI σ (k0 + 1) (σ.1 k0 6).toNatClampNeg x2) (k0 + 2) ((sI σ (k0 + 1) (σ.1 k0 6).toNatClampNeg x2).1 k0 6).toNatClampNeg x3) hF
set_option maxHeartbeats 4000000 in
set_option maxRecDepth 100000 in
theorem b_Nd_store_75 {X : XT} {G : GT} {z : MT} {K21 : Nat → Int32 → Int32 → Int32 → MT → Option MT} (C : CX X G b_Nd_store 5 "TimeFlood$Node" 0 0) (hr : XR X none) (hK21 : ∀ (k0 : Nat) (x2 : Int32) (x3 : Int32) (x4 : Int32) (hk0 : kdf k0 = 5) (σ : MT), K21 k0 x2 x3 x4 σ = some z → JW X G (QX X (PV G z) G) 5 21 [(0, rf G k0), (2, .int x2), (3, .int x3), (4, .int x4)] [] σ) (k0 : Nat) (x2 : Int32) (x3 : Int32) (x4 : Int32) (hk0 : kdf k0 = 5) (σ : MT) (hF : f_Nd_store_75 K21 k0 x2 x3 x4 σ = some z) : JW X G (QX X (PV G z) G) 5 75 [(0, rf G k0), (2, .int x2), (3, .int x3), (4, .int x4)] [] σ := by
  unfold f_Nd_store_75 at hF
  refine j_iinc C (v := x4 + (1 : Int32)) (lv' := [(4, .int (x4 + (1 : Int32))), (0, rf G k0), (2, .int x2), (3, .int x3)]) d_Nd_store_75 3 rfl rfl (by decide) rfl ?_
  refine j_goto C 21 d_Nd_store_78 (by decide) ?_
  refine j_sub C [(0, rf G k0), (2, .int x2), (3, .int x3), (4, .int (x4 + (1 : Int32)))] [1, 2, 3, 0] rfl ?_
  exact hK21 k0 x2 x3 (x4 + (1 : Int32)) hk0 σ hF
set_option maxHeartbeats 4000000 in
set_option maxRecDepth 100000 in
theorem b_Nd_store_59 {X : XT} {G : GT} {z : MT} {K21 : Nat → Int32 → Int32 → Int32 → MT → Option MT} (C : CX X G b_Nd_store 5 "TimeFlood$Node" 0 0) (hr : XR X none) (hK21 : ∀ (k0 : Nat) (x2 : Int32) (x3 : Int32) (x4 : Int32) (hk0 : kdf k0 = 5) (σ : MT), K21 k0 x2 x3 x4 σ = some z → JW X G (QX X (PV G z) G) 5 21 [(0, rf G k0), (2, .int x2), (3, .int x3), (4, .int x4)] [] σ) (k0 : Nat) (x2 : Int32) (x3 : Int32) (x4 : Int32) (hk0 : kdf k0 = 5) (σ : MT) (hF : f_Nd_store_59 K21 k0 x2 x3 x4 σ = some z) : JW X G (QX X (PV G z) G) 5 59 [(0, rf G k0), (2, .int x2), (3, .int x3), (4, .int x4)] [] σ := by
  unfold f_Nd_store_59 at hF
  refine j_aload_n C d_Nd_store_59 rfl 0 rfl ?_
  refine g_Nd_ages C hk0 wd_162 d_Nd_store_60 ?_
  refine j_iload C d_Nd_store_63 3 rfl ?_
  refine j_iconst C (v := 1) d_Nd_store_65 (by decide) ?_
  refine j_isub C d_Nd_store_66 ?_
  refine j_aload_n C d_Nd_store_67 rfl 0 rfl ?_
  refine g_Nd_ages C hk0 wd_162 d_Nd_store_68 ?_
  refine j_iload C d_Nd_store_71 3 rfl ?_
  obtain ⟨q73, hF⟩ := g_if hF
  refine j_iald C (kd_Nd_ages hk0) (by decide) rfl (inb_v q73) d_Nd_store_73 ?_
  obtain ⟨q74, hF⟩ := g_if hF
  refine j_iast C (kd_Nd_ages hk0) (by decide) (fun _ => rfl) (inb_v q74) d_Nd_store_74 ?_
  exact b_Nd_store_75 C hr hK21 k0 x2 x3 x4 hk0 (sI σ (k0 + 3) (x4 - (1 : Int32)).toNatClampNeg (σ.1 (k0 + 3) x4.toNatClampNeg)) hF
set_option maxHeartbeats 4000000 in
set_option maxRecDepth 100000 in
theorem b_Nd_store_43 {X : XT} {G : GT} {z : MT} {K21 : Nat → Int32 → Int32 → Int32 → MT → Option MT} (C : CX X G b_Nd_store 5 "TimeFlood$Node" 0 0) (hr : XR X none) (hK21 : ∀ (k0 : Nat) (x2 : Int32) (x3 : Int32) (x4 : Int32) (hk0 : kdf k0 = 5) (σ : MT), K21 k0 x2 x3 x4 σ = some z → JW X G (QX X (PV G z) G) 5 21 [(0, rf G k0), (2, .int x2), (3, .int x3), (4, .int x4)] [] σ) (k0 : Nat) (x2 : Int32) (x3 : Int32) (x4 : Int32) (hk0 : kdf k0 = 5) (σ : MT) (hF : f_Nd_store_43 K21 k0 x2 x3 x4 σ = some z) : JW X G (QX X (PV G z) G) 5 43 [(0, rf G k0), (2, .int x2), (3, .int x3), (4, .int x4)] [] σ := by
  unfold f_Nd_store_43 at hF
  refine j_aload_n C d_Nd_store_43 rfl 0 rfl ?_
  refine g_Nd_marks C hk0 wd_161 d_Nd_store_44 ?_
  refine j_iload C d_Nd_store_47 3 rfl ?_
  refine j_iconst C (v := 1) d_Nd_store_49 (by decide) ?_
  refine j_isub C d_Nd_store_50 ?_
  refine j_aload_n C d_Nd_store_51 rfl 0 rfl ?_
  refine g_Nd_marks C hk0 wd_161 d_Nd_store_52 ?_
  refine j_iload C d_Nd_store_55 3 rfl ?_
  obtain ⟨q57, hF⟩ := g_if hF
  refine j_iald C (kd_Nd_marks hk0) (by decide) rfl (inb_v q57) d_Nd_store_57 ?_
  obtain ⟨q58, hF⟩ := g_if hF
  refine j_iast C (kd_Nd_marks hk0) (by decide) (fun _ => rfl) (inb_v q58) d_Nd_store_58 ?_
  exact b_Nd_store_59 C hr hK21 k0 x2 x3 x4 hk0 (sI σ (k0 + 2) (x4 - (1 : Int32)).toNatClampNeg (σ.1 (k0 + 2) x4.toNatClampNeg)) hF
set_option maxHeartbeats 4000000 in
set_option maxRecDepth 100000 in
theorem b_Nd_store_21 {X : XT} {G : GT} {z : MT} {K86 : Nat → Int32 → Int32 → MT → Option MT} (C : CX X G b_Nd_store 5 "TimeFlood$Node" 0 0) (hr : XR X none) (hK86 : ∀ (k0 : Nat) (x2 : Int32) (x3 : Int32) (hk0 : kdf k0 = 5) (σ : MT), K86 k0 x2 x3 σ = some z → JW X G (QX X (PV G z) G) 5 86 [(0, rf G k0), (2, .int x2), (3, .int x3)] [] σ) : ∀ (n : Nat) (k0 : Nat) (x2 : Int32) (x3 : Int32) (x4 : Int32) (hk0 : kdf k0 = 5) (σ : MT), f_Nd_store_21 K86 n k0 x2 x3 x4 σ = some z → JW X G (QX X (PV G z) G) 5 21 [(0, rf G k0), (2, .int x2), (3, .int x3), (4, .int x4)] [] σ := by
  intro n
  induction n with
  | zero =>
    intro k0 x2 x3 x4 hk0 σ hF
    rw [f_Nd_store_21] at hF
    cases hF
  | succ n ih =>
    intro k0 x2 x3 x4 hk0 σ hF
    rw [f_Nd_store_21] at hF
    refine j_iload C d_Nd_store_21 3 rfl ?_
    refine j_iconst C (v := 4) d_Nd_store_23 (by decide) ?_
    refine j_icmp_ge C 81 d_Nd_store_24 (by decide) hF (fun q24 hF => ?_) (fun q24 hF => ?_)
    · refine j_aload_n C d_Nd_store_81 rfl 0 rfl ?_
      refine j_iconst C (v := 3) d_Nd_store_82 (by decide) ?_
      refine p_Nd_stampCount C hk0 wd_157 d_Nd_store_83 ?_
      refine j_sub C [(0, rf G k0), (2, .int x2), (3, .int x3)] [0, 1, 2] rfl ?_
      exact hK86 k0 x2 x3 hk0 (sI σ k0 6 (3 : Int32)) hF
    · refine j_aload_n C d_Nd_store_27 rfl 0 rfl ?_
      refine g_Nd_clocks C hk0 wd_160 d_Nd_store_28 ?_
      refine j_iload C d_Nd_store_31 3 rfl ?_
      refine j_iconst C (v := 1) d_Nd_store_33 (by decide) ?_
      refine j_isub C d_Nd_store_34 ?_
      refine j_aload_n C d_Nd_store_35 rfl 0 rfl ?_
      refine g_Nd_clocks C hk0 wd_160 d_Nd_store_36 ?_
      refine j_iload C d_Nd_store_39 3 rfl ?_
      obtain ⟨q41, hF⟩ := g_if hF
      refine j_iald C (kd_Nd_clocks hk0) (by decide) rfl (inb_v q41) d_Nd_store_41 ?_
      obtain ⟨q42, hF⟩ := g_if hF
      refine j_iast C (kd_Nd_clocks hk0) (by decide) (fun _ => rfl) (inb_v q42) d_Nd_store_42 ?_
      exact b_Nd_store_43 C hr ih k0 x2 x3 x4 hk0 (sI σ (k0 + 1) (x4 - (1 : Int32)).toNatClampNeg (σ.1 (k0 + 1) x4.toNatClampNeg)) hF
set_option maxHeartbeats 4000000 in
set_option maxRecDepth 100000 in
theorem c_Nd_store (l : Launch) (G : GT) (k0 : Nat) (x1 : Int32) (x2 : Int32) (x3 : Int32) (σ : MT) (hk0 : kdf k0 = 5) {z : MT} (hF : f_Nd_store k0 x1 x2 x3 σ = some z) : CTV l G y_Nd_store b_Nd_store 5 none 0 0 [rf G k0, .int x1, .int x2, .int x3] σ z := by
  refine entX [(0, rf G k0), (1, .int x1), (2, .int x2), (3, .int x3)] "TimeFlood$Node" (by decide +kernel) rfl rfl (Nat.le_of_ble_eq_true rfl) (fun X hXl hr C => ?_)
  unfold f_Nd_store at hF
  refine j_aload_n C d_Nd_store_0 rfl 0 rfl ?_
  refine j_iload_n C d_Nd_store_1 rfl 1 rfl ?_
  refine p_Nd_number C hk0 wd_151 d_Nd_store_2 ?_
  refine j_aload_n C d_Nd_store_5 rfl 0 rfl ?_
  refine j_iconst C (v := 0) d_Nd_store_6 (by decide) ?_
  refine p_Nd_heart C hk0 wd_153 d_Nd_store_7 ?_
  refine j_aload_n C d_Nd_store_10 rfl 0 rfl ?_
  refine g_Nd_stampCount C hk0 wd_157 d_Nd_store_11 ?_
  refine j_iconst C (v := 4) d_Nd_store_14 (by decide) ?_
  refine j_icmp_lt C 86 d_Nd_store_15 (by decide) hF (fun q15 hF => ?_) (fun q15 hF => ?_)
  · refine j_sub C [(0, rf G k0), (2, .int x2), (3, .int x3)] [0, 2, 3] rfl ?_
    exact b_Nd_store_86 C hr k0 x2 x3 hk0 (sI (sI σ k0 3 x1) k0 4 (0 : Int32)) hF
  · refine j_iconst C (v := 1) d_Nd_store_18 (by decide) ?_
    refine j_istore C (lv' := [(4, .int (1 : Int32)), (0, rf G k0), (1, .int x1), (2, .int x2), (3, .int x3)]) d_Nd_store_19 (by decide) rfl ?_
    refine j_sub C [(0, rf G k0), (2, .int x2), (3, .int x3), (4, .int (1 : Int32))] [1, 3, 4, 0] rfl ?_
    exact b_Nd_store_21 C hr (b_Nd_store_86 C hr) 1100 k0 x2 x3 (1 : Int32) hk0 (sI (sI σ k0 3 x1) k0 4 (0 : Int32)) hF
set_option maxHeartbeats 4000000 in
set_option maxRecDepth 100000 in
theorem c_Nd_takesAsNews (l : Launch) (G : GT) (k0 : Nat) (x1 : Int32) (x2 : Int32) (x3 : Int32) (σ : MT) (hk0 : kdf k0 = 5) {z : Int32} (hF : f_Nd_takesAsNews k0 x1 x2 x3 σ = some z) : CTI l G y_Nd_takesAsNews b_Nd_takesAsNews 5 (some .boolean) 1 22 [rf G k0, .int x1, .int x2, .int x3] σ z σ := by
  refine entX [(0, rf G k0), (1, .int x1), (2, .int x2), (3, .int x3)] "TimeFlood$Node" (by decide +kernel) rfl rfl (Nat.le_of_ble_eq_true rfl) (fun X hXl hr C => ?_)
  unfold f_Nd_takesAsNews at hF
  refine j_iload_n C d_Nd_takesAsNews_0 rfl 3 rfl ?_
  refine j_aload_n C d_Nd_takesAsNews_1 rfl 0 rfl ?_
  refine g_Nd_number C hk0 wd_151 d_Nd_takesAsNews_2 ?_
  refine j_isub C d_Nd_takesAsNews_5 ?_
  refine j_bipush C (v := 64) d_Nd_takesAsNews_6 (by decide) ?_
  obtain ⟨r8, h8, hF⟩ := g_bind hF
  refine j_si C (As := [.int (x3 - (σ.1 k0 3)), .int (64 : Int32)]) (st := []) (c_Mt_floorModI (XL X) G (x3 - (σ.1 k0 3)) (64 : Int32) σ h8) m_Mt_floorModI wd_514 rfl rfl (Nat.le_of_ble_eq_true rfl) ⟨by decide, by decide⟩ d_Nd_takesAsNews_8 ?_
  refine j_istore C (lv' := [(4, .int r8), (0, rf G k0), (1, .int x1), (2, .int x2), (3, .int x3)]) d_Nd_takesAsNews_11 (by decide) rfl ?_
  refine j_iload_n C d_Nd_takesAsNews_13 rfl 3 rfl ?_
  refine j_aload_n C d_Nd_takesAsNews_14 rfl 1 rfl ?_
  refine g_Nd_root C hk0 wd_148 d_Nd_takesAsNews_15 ?_
  refine j_icmp_ne C 46 d_Nd_takesAsNews_18 (by decide) hF (fun q18 hF => ?_) (fun q18 hF => ?_)
  · refine j_iconst C (v := 0) d_Nd_takesAsNews_46 (by decide) ?_
    cases hF
    exact j_zret (st := []) C hr rfl d_Nd_takesAsNews_47 rfl rfl
  · refine j_aload_n C d_Nd_takesAsNews_21 rfl 1 rfl ?_
    refine g_Nd_root C hk0 wd_148 d_Nd_takesAsNews_22 ?_
    refine j_iload_n C d_Nd_takesAsNews_25 rfl 2 rfl ?_
    refine j_icmp_eq C 46 d_Nd_takesAsNews_26 (by decide) hF (fun q26 hF => ?_) (fun q26 hF => ?_)
    · refine j_iconst C (v := 0) d_Nd_takesAsNews_46 (by decide) ?_
      cases hF
      exact j_zret (st := []) C hr rfl d_Nd_takesAsNews_47 rfl rfl
    · refine j_iload C d_Nd_takesAsNews_29 0 rfl ?_
      refine j_iconst C (v := 1) d_Nd_takesAsNews_31 (by decide) ?_
      refine j_icmp_lt C 46 d_Nd_takesAsNews_32 (by decide) hF (fun q32 hF => ?_) (fun q32 hF => ?_)
      · refine j_iconst C (v := 0) d_Nd_takesAsNews_46 (by decide) ?_
        cases hF
        exact j_zret (st := []) C hr rfl d_Nd_takesAsNews_47 rfl rfl
      · refine j_iload C d_Nd_takesAsNews_35 0 rfl ?_
        refine j_bipush C (v := 31) d_Nd_takesAsNews_37 (by decide) ?_
        refine j_icmp_gt C 46 d_Nd_takesAsNews_39 (by decide) hF (fun q39 hF => ?_) (fun q39 hF => ?_)
        · refine j_iconst C (v := 0) d_Nd_takesAsNews_46 (by decide) ?_
          cases hF
          exact j_zret (st := []) C hr rfl d_Nd_takesAsNews_47 rfl rfl
        · refine j_iconst C (v := 1) d_Nd_takesAsNews_42 (by decide) ?_
          refine j_goto C 47 d_Nd_takesAsNews_43 (by decide) ?_
          cases hF
          exact j_zret (st := []) C hr rfl d_Nd_takesAsNews_47 rfl rfl
set_option maxHeartbeats 4000000 in
set_option maxRecDepth 100000 in
theorem b_Fl_hear_40 {X : XT} {G : GT} {z : MT} (C : CX X G b_Fl_hear 5 "TimeFlood$Flood" 2 46) (hr : XR X none) (k1 : Nat) (x2 : Int32) (x3 : Int32) (k4 : Nat) (hk1 : kdf k1 = 4) (hk4 : kdf k4 = 5) (σ : MT) (hF : f_Fl_hear_40 k1 x2 x3 k4 σ = some z) : JW X G (QX X (PV G z) G) 5 40 [(0, rf G 14), (1, rf G k1), (2, .int x2), (3, .int x3), (4, rf G k4)] [] σ := by
  unfold f_Fl_hear_40 at hF
  refine j_aload C d_Fl_hear_40 4 rfl ?_
  refine j_aload_n C d_Fl_hear_42 rfl 0 rfl ?_
  refine g_Fl_sentNumbers C (rfl : kdf 14 = 3) wd_113 d_Fl_hear_43 ?_
  refine j_iload_n C d_Fl_hear_46 rfl 3 rfl ?_
  obtain ⟨q47, hF⟩ := g_if hF
  refine j_iald C (rfl : kdf 28 = 11) (by decide) rfl (inb_v q47) d_Fl_hear_47 ?_
  refine j_aload_n C d_Fl_hear_48 rfl 0 rfl ?_
  refine j_aload_n C d_Fl_hear_49 rfl 1 rfl ?_
  refine j_iload_n C d_Fl_hear_50 rfl 2 rfl ?_
  obtain ⟨r51, h51, hF⟩ := g_bind hF
  refine j_vi C (As := [rf G k1, .int x2]) (st := [.int (σ.1 28 x3.toNatClampNeg), rf G k4]) (c_Fl_clock (XL X) G k1 x2 σ hk1 h51) (rfl : kdf 14 = 3) (by decide) rfl rfl m_Fl_clock wd_390 rfl rfl (Nat.le_of_ble_eq_true rfl) ⟨by decide, by decide⟩ d_Fl_hear_51 ?_
  refine j_aload_n C d_Fl_hear_54 rfl 0 rfl ?_
  refine g_Fl_sentEstimates C (rfl : kdf 14 = 3) wd_114 d_Fl_hear_55 ?_
  refine j_iload_n C d_Fl_hear_58 rfl 3 rfl ?_
  obtain ⟨q59, hF⟩ := g_if hF
  refine j_iald C (rfl : kdf 29 = 11) (by decide) rfl (inb_v q59) d_Fl_hear_59 ?_
  obtain ⟨r60, h60, hF⟩ := g_bind hF
  refine j_vv C (As := [.int (σ.1 28 x3.toNatClampNeg), .int r51, .int (σ.1 29 x3.toNatClampNeg)]) (st := []) (c_Nd_store (XL X) G k4 (σ.1 28 x3.toNatClampNeg) r51 (σ.1 29 x3.toNatClampNeg) σ hk4 h60) hk4 (by decide) rfl rfl m_Nd_store wd_506 rfl rfl (Nat.le_of_ble_eq_true rfl) ⟨by decide, by decide⟩ d_Fl_hear_60 ?_
  refine j_goto C 110 d_Fl_hear_63 (by decide) ?_
  cases hF
  exact j_vret C hr d_Fl_hear_110 rfl
set_option maxHeartbeats 4000000 in
set_option maxRecDepth 100000 in
theorem c_Fl_hear (l : Launch) (G : GT) (k1 : Nat) (x2 : Int32) (x3 : Int32) (σ : MT) (hk1 : kdf k1 = 4) {z : MT} (hF : f_Fl_hear k1 x2 x3 σ = some z) : CTV l G y_Fl_hear b_Fl_hear 5 none 2 46 [rf G 14, rf G k1, .int x2, .int x3] σ z := by
  refine entX [(0, rf G 14), (1, rf G k1), (2, .int x2), (3, .int x3)] "TimeFlood$Flood" (by decide +kernel) rfl rfl (Nat.le_of_ble_eq_true rfl) (fun X hXl hr C => ?_)
  unfold f_Fl_hear at hF
  refine j_aload_n C d_Fl_hear_0 rfl 1 rfl ?_
  refine g_St_nodes C hk1 wd_190 d_Fl_hear_1 ?_
  refine j_iload_n C d_Fl_hear_4 rfl 2 rfl ?_
  obtain ⟨q5, hF⟩ := g_if hF
  refine e_nodes C (kd_St_nodes hk1) (inb_v q5) d_Fl_hear_5 ?_
  refine j_astore C (lv' := [(4, rf G ((k1 + 1) + 1 + 4 * x2.toNatClampNeg)), (0, rf G 14), (1, rf G k1), (2, .int x2), (3, .int x3)]) d_Fl_hear_6 (by decide) rfl ?_
  refine j_aload C d_Fl_hear_8 0 rfl ?_
  refine j_iload_n C d_Fl_hear_10 rfl 3 rfl ?_
  refine j_aload_n C d_Fl_hear_11 rfl 1 rfl ?_
  refine g_Fl_sentRoots C (rfl : kdf 14 = 3) wd_112 d_Fl_hear_12 ?_
  refine j_iload_n C d_Fl_hear_15 rfl 4 rfl ?_
  obtain ⟨q16, hF⟩ := g_if hF
  refine j_iald C (rfl : kdf 27 = 11) (by decide) rfl (inb_v q16) d_Fl_hear_16 ?_
  obtain ⟨r17, h17, hF⟩ := g_bind hF
  refine j_vi C (As := [.int x2, .int (σ.1 27 x3.toNatClampNeg)]) (st := []) (c_Nd_takesAsNewRoot (XL X) G ((k1 + 1) + 1 + 4 * x2.toNatClampNeg) x2 (σ.1 27 x3.toNatClampNeg) σ (kd_node (kd_St_nodes hk1) (inb_v q5)) h17) (kd_node (kd_St_nodes hk1) (inb_v q5)) (by decide) rfl rfl m_Nd_takesAsNewRoot wd_502 rfl rfl (Nat.le_of_ble_eq_true rfl) ⟨by decide, by decide⟩ d_Fl_hear_17 ?_
  refine j_if_eq C 66 d_Fl_hear_20 (by decide) hF (fun q20 hF => ?_) (fun q20 hF => ?_)
  · refine j_aload C d_Fl_hear_66 0 rfl ?_
    refine j_iload_n C d_Fl_hear_68 rfl 3 rfl ?_
    refine j_aload_n C d_Fl_hear_69 rfl 1 rfl ?_
    refine g_Fl_sentRoots C (rfl : kdf 14 = 3) wd_112 d_Fl_hear_70 ?_
    refine j_iload_n C d_Fl_hear_73 rfl 4 rfl ?_
    obtain ⟨q74, hF⟩ := g_if hF
    refine j_iald C (rfl : kdf 27 = 11) (by decide) rfl (inb_v q74) d_Fl_hear_74 ?_
    refine j_aload_n C d_Fl_hear_75 rfl 1 rfl ?_
    refine g_Fl_sentNumbers C (rfl : kdf 14 = 3) wd_113 d_Fl_hear_76 ?_
    refine j_iload_n C d_Fl_hear_79 rfl 4 rfl ?_
    obtain ⟨q80, hF⟩ := g_if hF
    refine j_iald C (rfl : kdf 28 = 11) (by decide) rfl (inb_v q80) d_Fl_hear_80 ?_
    obtain ⟨r81, h81, hF⟩ := g_bind hF
    refine j_vi C (As := [.int x2, .int (σ.1 27 x3.toNatClampNeg), .int (σ.1 28 x3.toNatClampNeg)]) (st := []) (c_Nd_takesAsNews (XL X) G ((k1 + 1) + 1 + 4 * x2.toNatClampNeg) x2 (σ.1 27 x3.toNatClampNeg) (σ.1 28 x3.toNatClampNeg) σ (kd_node (kd_St_nodes hk1) (inb_v q5)) h81) (kd_node (kd_St_nodes hk1) (inb_v q5)) (by decide) rfl rfl m_Nd_takesAsNews wd_510 rfl rfl (Nat.le_of_ble_eq_true rfl) ⟨by decide, by decide⟩ d_Fl_hear_81 ?_
    refine j_if_eq C 110 d_Fl_hear_84 (by decide) hF (fun q84 hF => ?_) (fun q84 hF => ?_)
    · cases hF
      exact j_vret C hr d_Fl_hear_110 rfl
    · refine j_aload C d_Fl_hear_87 0 rfl ?_
      refine j_aload_n C d_Fl_hear_89 rfl 1 rfl ?_
      refine g_Fl_sentNumbers C (rfl : kdf 14 = 3) wd_113 d_Fl_hear_90 ?_
      refine j_iload_n C d_Fl_hear_93 rfl 4 rfl ?_
      obtain ⟨q94, hF⟩ := g_if hF
      refine j_iald C (rfl : kdf 28 = 11) (by decide) rfl (inb_v q94) d_Fl_hear_94 ?_
      refine j_aload_n C d_Fl_hear_95 rfl 1 rfl ?_
      refine j_aload_n C d_Fl_hear_96 rfl 2 rfl ?_
      refine j_iload_n C d_Fl_hear_97 rfl 3 rfl ?_
      obtain ⟨r98, h98, hF⟩ := g_bind hF
      refine j_vi C (As := [rf G k1, .int x2]) (st := [.int (σ.1 28 x3.toNatClampNeg), rf G ((k1 + 1) + 1 + 4 * x2.toNatClampNeg)]) (c_Fl_clock (XL X) G k1 x2 σ hk1 h98) (rfl : kdf 14 = 3) (by decide) rfl rfl m_Fl_clock wd_390 rfl rfl (Nat.le_of_ble_eq_true rfl) ⟨by decide, by decide⟩ d_Fl_hear_98 ?_
      refine j_aload_n C d_Fl_hear_101 rfl 1 rfl ?_
      refine g_Fl_sentEstimates C (rfl : kdf 14 = 3) wd_114 d_Fl_hear_102 ?_
      refine j_iload_n C d_Fl_hear_105 rfl 4 rfl ?_
      obtain ⟨q106, hF⟩ := g_if hF
      refine j_iald C (rfl : kdf 29 = 11) (by decide) rfl (inb_v q106) d_Fl_hear_106 ?_
      obtain ⟨r107, h107, hF⟩ := g_bind hF
      refine j_vv C (As := [.int (σ.1 28 x3.toNatClampNeg), .int r98, .int (σ.1 29 x3.toNatClampNeg)]) (st := []) (c_Nd_store (XL X) G ((k1 + 1) + 1 + 4 * x2.toNatClampNeg) (σ.1 28 x3.toNatClampNeg) r98 (σ.1 29 x3.toNatClampNeg) σ (kd_node (kd_St_nodes hk1) (inb_v q5)) h107) (kd_node (kd_St_nodes hk1) (inb_v q5)) (by decide) rfl rfl m_Nd_store wd_506 rfl rfl (Nat.le_of_ble_eq_true rfl) ⟨by decide, by decide⟩ d_Fl_hear_107 ?_
      cases hF
      exact j_vret C hr d_Fl_hear_110 rfl
  · refine j_aload C d_Fl_hear_23 0 rfl ?_
    refine j_aload_n C d_Fl_hear_25 rfl 1 rfl ?_
    refine g_Fl_sentRoots C (rfl : kdf 14 = 3) wd_112 d_Fl_hear_26 ?_
    refine j_iload_n C d_Fl_hear_29 rfl 4 rfl ?_
    obtain ⟨q30, hF⟩ := g_if hF
    refine j_iald C (rfl : kdf 27 = 11) (by decide) rfl (inb_v q30) d_Fl_hear_30 ?_
    refine p_Nd_root C (kd_node (kd_St_nodes hk1) (inb_v q5)) wd_149 d_Fl_hear_31 ?_
    refine j_aload C d_Fl_hear_34 0 rfl ?_
    refine j_iconst C (v := 0) d_Fl_hear_36 (by decide) ?_
    refine p_Nd_stampCount C (kd_node (kd_St_nodes hk1) (inb_v q5)) wd_158 d_Fl_hear_37 ?_
    refine j_sub C [(0, rf G 14), (1, rf G k1), (2, .int x2), (3, .int x3), (4, rf G ((k1 + 1) + 1 + 4 * x2.toNatClampNeg))] [1, 2, 3, 4, 0] rfl ?_
    exact b_Fl_hear_40 C hr k1 x2 x3 ((k1 + 1) + 1 + 4 * x2.toNatClampNeg) hk1 (kd_node (kd_St_nodes hk1) (inb_v q5)) (sI (sI σ ((k1 + 1) + 1 + 4 * x2.toNatClampNeg) 2 (σ.1 27 x3.toNatClampNeg)) ((k1 + 1) + 1 + 4 * x2.toNatClampNeg) 6 (0 : Int32)) hF
