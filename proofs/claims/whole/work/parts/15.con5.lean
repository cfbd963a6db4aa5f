set_option maxHeartbeats 4000000 in
set_option maxRecDepth 100000 in
theorem b_M_areBeside_91 {X : XT} {G : GT} {z : Int32} {K6 : Nat → Int32 → Int32 → Int32 → Int32 → MT → Option Int32} {σ : MT} (C : CX X G b_M_areBeside 7 "TimeFloodModel" 0 0) (hr : XR X (some .boolean)) (hK6 : ∀ (k1 : Nat) (x2 : Int32) (x3 : Int32) (x4 : Int32) (x5 : Int32) (hk1 : kdf k1 = 15), K6 k1 x2 x3 x4 x5 σ = some z → JW X G (QX X (PI G z σ) G) 7 6 [(0, rf G 38), (1, rf G k1), (2, .int x2), (3, .int x3), (4, .int x4), (5, .int x5)] [] σ) (k1 : Nat) (x2 : Int32) (x3 : Int32) (x5 : Int32) (xs0 : Int32) (hk1 : kdf k1 = 15) (hF : f_M_areBeside_91 K6 k1 x2 x3 x5 xs0 σ = some z) : JW X G (QX X (PI G z σ) G) 7 91 [(0, rf G 38), (1, rf G k1), (2, .int x2), (3, .int x3), (5, .int x5)] [.int xs0] σ := by
  unfold f_M_areBeside_91 at hF
  refine j_istore C (lv' := [(4, .int xs0), (0, rf G 38), (1, rf G k1), (2, .int x2), (3, .int x3), (5, .int x5)]) d_M_areBeside_91 (by decide) rfl ?_
  refine j_iinc C (v := x5 + (1 : Int32)) (lv' := [(5, .int (x5 + (1 : Int32))), (4, .int xs0), (0, rf G 38), (1, rf G k1), (2, .int x2), (3, .int x3)]) d_M_areBeside_93 5 rfl rfl (by decide) rfl ?_
  refine j_goto C 6 d_M_areBeside_96 (by decide) ?_
  refine j_sub C [(0, rf G 38), (1, rf G k1), (2, .int x2), (3, .int x3), (4, .int xs0), (5, .int (x5 + (1 : Int32)))] [2, 3, 4, 5, 1, 0] rfl ?_
  exact hK6 k1 x2 x3 xs0 (x5 + (1 : Int32)) hk1 hF
set_option maxHeartbeats 4000000 in
set_option maxRecDepth 100000 in
theorem b_M_areBeside_86 {X : XT} {G : GT} {z : Int32} {K6 : Nat → Int32 → Int32 → Int32 → Int32 → MT → Option Int32} {σ : MT} (C : CX X G b_M_areBeside 7 "TimeFloodModel" 0 0) (hr : XR X (some .boolean)) (hK6 : ∀ (k1 : Nat) (x2 : Int32) (x3 : Int32) (x4 : Int32) (x5 : Int32) (hk1 : kdf k1 = 15), K6 k1 x2 x3 x4 x5 σ = some z → JW X G (QX X (PI G z σ) G) 7 6 [(0, rf G 38), (1, rf G k1), (2, .int x2), (3, .int x3), (4, .int x4), (5, .int x5)] [] σ) (k1 : Nat) (x2 : Int32) (x3 : Int32) (x5 : Int32) (hk1 : kdf k1 = 15) (hF : f_M_areBeside_86 K6 k1 x2 x3 x5 σ = some z) : JW X G (QX X (PI G z σ) G) 7 86 [(0, rf G 38), (1, rf G k1), (2, .int x2), (3, .int x3), (5, .int x5)] [] σ := by
  unfold f_M_areBeside_86 at hF
  refine j_iconst C (v := 1) d_M_areBeside_86 (by decide) ?_
  refine j_goto C 91 d_M_areBeside_87 (by decide) ?_
  exact b_M_areBeside_91 C hr hK6 k1 x2 x3 x5 (1 : Int32) hk1 hF
set_option maxHeartbeats 4000000 in
set_option maxRecDepth 100000 in
theorem b_M_areBeside_90 {X : XT} {G : GT} {z : Int32} {K6 : Nat → Int32 → Int32 → Int32 → Int32 → MT → Option Int32} {σ : MT} (C : CX X G b_M_areBeside 7 "TimeFloodModel" 0 0) (hr : XR X (some .boolean)) (hK6 : ∀ (k1 : Nat) (x2 : Int32) (x3 : Int32) (x4 : Int32) (x5 : Int32) (hk1 : kdf k1 = 15), K6 k1 x2 x3 x4 x5 σ = some z → JW X G (QX X (PI G z σ) G) 7 6 [(0, rf G 38), (1, rf G k1), (2, .int x2), (3, .int x3), (4, .int x4), (5, .int x5)] [] σ) (k1 : Nat) (x2 : Int32) (x3 : Int32) (x5 : Int32) (hk1 : kdf k1 = 15) (hF : f_M_areBeside_90 K6 k1 x2 x3 x5 σ = some z) : JW X G (QX X (PI G z σ) G) 7 90 [(0, rf G 38), (1, rf G k1), (2, .int x2), (3, .int x3), (5, .int x5)] [] σ := by
  unfold f_M_areBeside_90 at hF
  refine j_iconst C (v := 0) d_M_areBeside_90 (by decide) ?_
  exact b_M_areBeside_91 C hr hK6 k1 x2 x3 x5 (0 : Int32) hk1 hF
set_option maxHeartbeats 4000000 in
set_option maxRecDepth 100000 in
theorem b_M_areBeside_64 {X : XT} {G : GT} {z : Int32} {K6 : Nat → Int32 → Int32 → Int32 → Int32 → MT → Option Int32} {σ : MT} (C : CX X G b_M_areBeside 7 "TimeFloodModel" 0 0) (hr : XR X (some .boolean)) (hK6 : ∀ (k1 : Nat) (x2 : Int32) (x3 : Int32) (x4 : Int32) (x5 : Int32) (hk1 : kdf k1 = 15), K6 k1 x2 x3 x4 x5 σ = some z → JW X G (QX X (PI G z σ) G) 7 6 [(0, rf G 38), (1, rf G k1), (2, .int x2), (3, .int x3), (4, .int x4), (5, .int x5)] [] σ) (k1 : Nat) (x2 : Int32) (x3 : Int32) (x4 : Int32) (x5 : Int32) (xs0 : Int32) (hk1 : kdf k1 = 15) (hF : f_M_areBeside_64 K6 k1 x2 x3 x4 x5 xs0 σ = some z) : JW X G (QX X (PI G z σ) G) 7 64 [(0, rf G 38), (1, rf G k1), (2, .int x2), (3, .int x3), (4, .int x4), (5, .int x5)] [.int xs0] σ := by
  unfold f_M_areBeside_64 at hF
  refine j_istore C (lv' := [(6, .int xs0), (0, rf G 38), (1, rf G k1), (2, .int x2), (3, .int x3), (4, .int x4), (5, .int x5)]) d_M_areBeside_64 (by decide) rfl ?_
  refine j_iload C d_M_areBeside_66 5 rfl ?_
  refine j_if_ne C 86 d_M_areBeside_68 (by decide) hF (fun q68 hF => ?_) (fun q68 hF => ?_)
  · refine j_sub C [(0, rf G 38), (1, rf G k1), (2, .int x2), (3, .int x3), (5, .int x5)] [1, 2, 3, 4, 6] rfl ?_
    exact b_M_areBeside_86 C hr hK6 k1 x2 x3 x5 hk1 hF
  · refine j_iload C d_M_areBeside_71 0 rfl ?_
    refine j_if_eq C 90 d_M_areBeside_73 (by decide) hF (fun q73 hF => ?_) (fun q73 hF => ?_)
    · refine j_sub C [(0, rf G 38), (1, rf G k1), (2, .int x2), (3, .int x3), (5, .int x5)] [1, 2, 3, 4, 6] rfl ?_
      exact b_M_areBeside_90 C hr hK6 k1 x2 x3 x5 hk1 hF
    · refine j_aload_n C d_M_areBeside_76 rfl 2 rfl ?_
      refine j_bipush C (v := 95) d_M_areBeside_77 (by decide) ?_
      refine j_iload C d_M_areBeside_79 6 rfl ?_
      refine j_iadd C d_M_areBeside_81 ?_
      obtain ⟨q82, hF⟩ := g_if hF
      refine j_iald C hk1 (by decide) rfl (inb_v q82) d_M_areBeside_82 ?_
      refine j_if_ne C 90 d_M_areBeside_83 (by decide) hF (fun q83 hF => ?_) (fun q83 hF => ?_)
      · refine j_sub C [(0, rf G 38), (1, rf G k1), (2, .int x2), (3, .int x3), (5, .int x5)] [1, 2, 3, 4, 6] rfl ?_
        exact b_M_areBeside_90 C hr hK6 k1 x2 x3 x5 hk1 hF
      · refine j_sub C [(0, rf G 38), (1, rf G k1), (2, .int x2), (3, .int x3), (5, .int x5)] [1, 2, 3, 4, 6] rfl ?_
        exact b_M_areBeside_86 C hr hK6 k1 x2 x3 x5 hk1 hF
set_option maxHeartbeats 4000000 in
set_option maxRecDepth 100000 in
theorem b_M_areBeside_63 {X : XT} {G : GT} {z : Int32} {K6 : Nat → Int32 → Int32 → Int32 → Int32 → MT → Option Int32} {σ : MT} (C : CX X G b_M_areBeside 7 "TimeFloodModel" 0 0) (hr : XR X (some .boolean)) (hK6 : ∀ (k1 : Nat) (x2 : Int32) (x3 : Int32) (x4 : Int32) (x5 : Int32) (hk1 : kdf k1 = 15), K6 k1 x2 x3 x4 x5 σ = some z → JW X G (QX X (PI G z σ) G) 7 6 [(0, rf G 38), (1, rf G k1), (2, .int x2), (3, .int x3), (4, .int x4), (5, .int x5)] [] σ) (k1 : Nat) (x2 : Int32) (x3 : Int32) (x4 : Int32) (x5 : Int32) (hk1 : kdf k1 = 15) (hF : f_M_areBeside_63 K6 k1 x2 x3 x4 x5 σ = some z) : JW X G (QX X (PI G z σ) G) 7 63 [(0, rf G 38), (1, rf G k1), (2, .int x2), (3, .int x3), (4, .int x4), (5, .int x5)] [] σ := by
  unfold f_M_areBeside_63 at hF
  refine j_iconst C (v := 0) d_M_areBeside_63 (by decide) ?_
  exact b_M_areBeside_64 C hr hK6 k1 x2 x3 x4 x5 (0 : Int32) hk1 hF
set_option maxHeartbeats 4000000 in
set_option maxRecDepth 100000 in
theorem b_M_areBeside_59 {X : XT} {G : GT} {z : Int32} {K6 : Nat → Int32 → Int32 → Int32 → Int32 → MT → Option Int32} {σ : MT} (C : CX X G b_M_areBeside 7 "TimeFloodModel" 0 0) (hr : XR X (some .boolean)) (hK6 : ∀ (k1 : Nat) (x2 : Int32) (x3 : Int32) (x4 : Int32) (x5 : Int32) (hk1 : kdf k1 = 15), K6 k1 x2 x3 x4 x5 σ = some z → JW X G (QX X (PI G z σ) G) 7 6 [(0, rf G 38), (1, rf G k1), (2, .int x2), (3, .int x3), (4, .int x4), (5, .int x5)] [] σ) (k1 : Nat) (x2 : Int32) (x3 : Int32) (x4 : Int32) (x5 : Int32) (hk1 : kdf k1 = 15) (hF : f_M_areBeside_59 K6 k1 x2 x3 x4 x5 σ = some z) : JW X G (QX X (PI G z σ) G) 7 59 [(0, rf G 38), (1, rf G k1), (2, .int x2), (3, .int x3), (4, .int x4), (5, .int x5)] [] σ := by
  unfold f_M_areBeside_59 at hF
  refine j_iconst C (v := 1) d_M_areBeside_59 (by decide) ?_
  refine j_goto C 64 d_M_areBeside_60 (by decide) ?_
  exact b_M_areBeside_64 C hr hK6 k1 x2 x3 x4 x5 (1 : Int32) hk1 hF
set_option maxHeartbeats 4000000 in
set_option maxRecDepth 100000 in
theorem b_M_areBeside_37 {X : XT} {G : GT} {z : Int32} {K6 : Nat → Int32 → Int32 → Int32 → Int32 → MT → Option Int32} {σ : MT} (C : CX X G b_M_areBeside 7 "TimeFloodModel" 0 0) (hr : XR X (some .boolean)) (hK6 : ∀ (k1 : Nat) (x2 : Int32) (x3 : Int32) (x4 : Int32) (x5 : Int32) (hk1 : kdf k1 = 15), K6 k1 x2 x3 x4 x5 σ = some z → JW X G (QX X (PI G z σ) G) 7 6 [(0, rf G 38), (1, rf G k1), (2, .int x2), (3, .int x3), (4, .int x4), (5, .int x5)] [] σ) (k1 : Nat) (x2 : Int32) (x3 : Int32) (x4 : Int32) (x5 : Int32) (hk1 : kdf k1 = 15) (hF : f_M_areBeside_37 K6 k1 x2 x3 x4 x5 σ = some z) : JW X G (QX X (PI G z σ) G) 7 37 [(0, rf G 38), (1, rf G k1), (2, .int x2), (3, .int x3), (4, .int x4), (5, .int x5)] [] σ := by
  unfold f_M_areBeside_37 at hF
  refine j_aload_n C d_M_areBeside_37 rfl 0 rfl ?_
  refine g_M_one C (rfl : kdf 38 = 8) wd_671 d_M_areBeside_38 ?_
  refine j_iload C d_M_areBeside_41 5 rfl ?_
  obtain ⟨q43, hF⟩ := g_if hF
  refine j_iald C (rfl : kdf 41 = 13) (by decide) rfl (inb_v q43) d_M_areBeside_43 ?_
  refine j_iload_n C d_M_areBeside_44 rfl 3 rfl ?_
  refine j_icmp_ne C 63 d_M_areBeside_45 (by decide) hF (fun q45 hF => ?_) (fun q45 hF => ?_)
  · exact b_M_areBeside_63 C hr hK6 k1 x2 x3 x4 x5 hk1 hF
  · refine j_aload_n C d_M_areBeside_48 rfl 0 rfl ?_
    refine g_M_other C (rfl : kdf 38 = 8) wd_672 d_M_areBeside_49 ?_
    refine j_iload C d_M_areBeside_52 5 rfl ?_
    obtain ⟨q54, hF⟩ := g_if hF
    refine j_iald C (rfl : kdf 42 = 13) (by decide) rfl (inb_v q54) d_M_areBeside_54 ?_
    refine j_iload_n C d_M_areBeside_55 rfl 2 rfl ?_
    refine j_icmp_ne C 63 d_M_areBeside_56 (by decide) hF (fun q56 hF => ?_) (fun q56 hF => ?_)
    · exact b_M_areBeside_63 C hr hK6 k1 x2 x3 x4 x5 hk1 hF
    · exact b_M_areBeside_59 C hr hK6 k1 x2 x3 x4 x5 hk1 hF
set_option maxHeartbeats 4000000 in
set_option maxRecDepth 100000 in
theorem b_M_areBeside_6 {X : XT} {G : GT} {z : Int32} {σ : MT} (C : CX X G b_M_areBeside 7 "TimeFloodModel" 0 0) (hr : XR X (some .boolean)) : ∀ (n : Nat) (k1 : Nat) (x2 : Int32) (x3 : Int32) (x4 : Int32) (x5 : Int32) (hk1 : kdf k1 = 15), f_M_areBeside_6 n k1 x2 x3 x4 x5 σ = some z → JW X G (QX X (PI G z σ) G) 7 6 [(0, rf G 38), (1, rf G k1), (2, .int x2), (3, .int x3), (4, .int x4), (5, .int x5)] [] σ := by
  intro n
  induction n with
  | zero =>
    intro k1 x2 x3 x4 x5 hk1 hF
    rw [f_M_areBeside_6] at hF
    cases hF
  | succ n ih =>
    intro k1 x2 x3 x4 x5 hk1 hF
    rw [f_M_areBeside_6] at hF
    refine j_iload C d_M_areBeside_6 5 rfl ?_
    refine j_aload_n C d_M_areBeside_8 rfl 0 rfl ?_
    refine g_M_links C (rfl : kdf 38 = 8) wd_670 d_M_areBeside_9 ?_
    refine j_icmp_ge C 99 d_M_areBeside_12 (by decide) hF (fun q12 hF => ?_) (fun q12 hF => ?_)
    · refine j_iload C d_M_areBeside_99 4 rfl ?_
      obtain ⟨qz, hF⟩ := g_if hF
      cases hF
      exact j_zret (st := []) C hr (zb_n (zbb_z qz)) d_M_areBeside_101 rfl rfl
    · refine j_aload_n C d_M_areBeside_15 rfl 0 rfl ?_
      refine g_M_one C (rfl : kdf 38 = 8) wd_671 d_M_areBeside_16 ?_
      refine j_iload C d_M_areBeside_19 5 rfl ?_
      obtain ⟨q21, hF⟩ := g_if hF
      refine j_iald C (rfl : kdf 41 = 13) (by decide) rfl (inb_v q21) d_M_areBeside_21 ?_
      refine j_iload_n C d_M_areBeside_22 rfl 2 rfl ?_
      refine j_icmp_ne C 37 d_M_areBeside_23 (by decide) hF (fun q23 hF => ?_) (fun q23 hF => ?_)
      · exact b_M_areBeside_37 C hr ih k1 x2 x3 x4 x5 hk1 hF
      · refine j_aload_n C d_M_areBeside_26 rfl 0 rfl ?_
        refine g_M_other C (rfl : kdf 38 = 8) wd_672 d_M_areBeside_27 ?_
        refine j_iload C d_M_areBeside_30 5 rfl ?_
        obtain ⟨q32, hF⟩ := g_if hF
        refine j_iald C (rfl : kdf 42 = 13) (by decide) rfl (inb_v q32) d_M_areBeside_32 ?_
        refine j_iload_n C d_M_areBeside_33 rfl 3 rfl ?_
        refine j_icmp_eq C 59 d_M_areBeside_34 (by decide) hF (fun q34 hF => ?_) (fun q34 hF => ?_)
        · exact b_M_areBeside_59 C hr ih k1 x2 x3 x4 x5 hk1 hF
        · exact b_M_areBeside_37 C hr ih k1 x2 x3 x4 x5 hk1 hF
set_option maxHeartbeats 4000000 in
set_option maxRecDepth 100000 in
theorem c_M_areBeside (l : Launch) (G : GT) (k1 : Nat) (x2 : Int32) (x3 : Int32) (σ : MT) (hk1 : kdf k1 = 15) {z : Int32} (hF : f_M_areBeside k1 x2 x3 σ = some z) : CTI l G y_M_areBeside b_M_areBeside 7 (some .boolean) 0 0 [rf G 38, rf G k1, .int x2, .int x3] σ z σ := by
  refine entX [(0, rf G 38), (1, rf G k1), (2, .int x2), (3, .int x3)] "TimeFloodModel" (by decide +kernel) rfl rfl (Nat.le_of_ble_eq_true rfl) (fun X hXl hr C => ?_)
  unfold f_M_areBeside at hF
  refine j_iconst C (v := 0) d_M_areBeside_0 (by decide) ?_
  refine j_istore C (lv' := [(4, .int (0 : Int32)), (0, rf G 38), (1, rf G k1), (2, .int x2), (3, .int x3)]) d_M_areBeside_1 (by decide) rfl ?_
  refine j_iconst C (v := 0) d_M_areBeside_3 (by decide) ?_
  refine j_istore C (lv' := [(5, .int (0 : Int32)), (4, .int (0 : Int32)), (0, rf G 38), (1, rf G k1), (2, .int x2), (3, .int x3)]) d_M_areBeside_4 (by decide) rfl ?_
  refine j_sub C [(0, rf G 38), (1, rf G k1), (2, .int x2), (3, .int x3), (4, .int (0 : Int32)), (5, .int (0 : Int32))] [2, 3, 4, 5, 1, 0] rfl ?_
  exact b_M_areBeside_6 C hr 1100 k1 x2 x3 (0 : Int32) (0 : Int32) hk1 hF
set_option maxHeartbeats 4000000 in
set_option maxRecDepth 100000 in
theorem b_M_stampOn_118 {X : XT} {G : GT} {z : MT} (C : CX X G b_M_stampOn 6 "TimeFloodModel" 3 70) (hr : XR X none) (σ : MT) (hF : f_M_stampOn_118 σ = some z) : JW X G (QX X (PV G z) G) 6 118 [] [] σ := by
  unfold f_M_stampOn_118 at hF
  cases hF
  exact j_vret C hr d_M_stampOn_118 rfl
set_option maxHeartbeats 4000000 in
set_option maxRecDepth 100000 in
theorem b_M_stampOn_107 {X : XT} {G : GT} {z : MT} (C : CX X G b_M_stampOn 6 "TimeFloodModel" 3 70) (hr : XR X none) (k1 : Nat) (x4 : Int32) (hk1 : kdf k1 = 15) (σ : MT) (hF : f_M_stampOn_107 k1 x4 σ = some z) : JW X G (QX X (PV G z) G) 6 107 [(1, rf G k1), (4, .int x4)] [] σ := by
  unfold f_M_stampOn_107 at hF
  refine j_aload_n C d_M_stampOn_107 rfl 0 rfl ?_
  refine j_iload C d_M_stampOn_108 1 rfl ?_
  refine j_bipush C (v := 6) d_M_stampOn_110 (by decide) ?_
  refine j_iadd C d_M_stampOn_112 ?_
  refine j_dup2_11 C d_M_stampOn_113 rfl rfl ?_
  obtain ⟨q114, hF⟩ := g_if hF
  refine j_iald C hk1 (by decide) rfl (inb_v q114) d_M_stampOn_114 ?_
  refine j_iconst C (v := 1) d_M_stampOn_115 (by decide) ?_
  refine j_iadd C d_M_stampOn_116 ?_
  obtain ⟨q117, hF⟩ := g_if hF
  refine j_iast C hk1 (by decide) (fun _ => rfl) (inb_v q117) d_M_stampOn_117 ?_
  refine j_sub C [] [] rfl ?_
  exact b_M_stampOn_118 C hr (sI σ k1 (x4 + (6 : Int32)).toNatClampNeg ((σ.1 k1 (x4 + (6 : Int32)).toNatClampNeg) + (1 : Int32))) hF
set_option maxHeartbeats 4000000 in
set_option maxRecDepth 100000 in
theorem b_M_stampOn_93 {X : XT} {G : GT} {z : MT} (C : CX X G b_M_stampOn 6 "TimeFloodModel" 3 70) (hr : XR X none) (k1 : Nat) (x3 : Int32) (x4 : Int32) (x5 : Int32) (hk1 : kdf k1 = 15) (σ : MT) (hF : f_M_stampOn_93 k1 x3 x4 x5 σ = some z) : JW X G (QX X (PV G z) G) 6 93 [(1, rf G k1), (3, .int x3), (4, .int x4), (5, .int x5)] [] σ := by
  unfold f_M_stampOn_93 at hF
  refine j_aload_n C d_M_stampOn_93 rfl 0 rfl ?_
  refine j_iload C d_M_stampOn_94 3 rfl ?_
  refine j_iconst C (v := 1) d_M_stampOn_96 (by decide) ?_
  refine j_iadd C d_M_stampOn_97 ?_
  refine j_iload_n C d_M_stampOn_98 rfl 1 rfl ?_
  obtain ⟨q99, hF⟩ := g_if hF
  refine j_iast C hk1 (by decide) (fun _ => rfl) (inb_v q99) d_M_stampOn_99 ?_
  refine j_aload_n C d_M_stampOn_100 rfl 0 rfl ?_
  refine j_iload C d_M_stampOn_101 3 rfl ?_
  refine j_iconst C (v := 2) d_M_stampOn_103 (by decide) ?_
  refine j_iadd C d_M_stampOn_104 ?_
  refine j_iconst C (v := 0) d_M_stampOn_105 (by decide) ?_
  obtain ⟨q106, hF⟩ := g_if hF
  refine j_iast C hk1 (by decide) (fun _ => rfl) (inb_v q106) d_M_stampOn_106 ?_
  refine j_sub C [(1, rf G k1), (4, .int x4)] [0, 2] rfl ?_
  exact b_M_stampOn_107 C hr k1 x4 hk1 (sI (sI σ k1 (x5 + (1 : Int32)).toNatClampNeg x3) k1 (x5 + (2 : Int32)).toNatClampNeg (0 : Int32)) hF
set_option maxHeartbeats 4000000 in
set_option maxRecDepth 100000 in
theorem b_M_stampOn_66 {X : XT} {G : GT} {z : MT} (C : CX X G b_M_stampOn 6 "TimeFloodModel" 3 70) (hr : XR X none) (k1 : Nat) (x2 : Int32) (x3 : Int32) (x4 : Int32) (hk1 : kdf k1 = 15) (σ : MT) (hF : f_M_stampOn_66 k1 x2 x3 x4 σ = some z) : JW X G (QX X (PV G z) G) 6 66 [(0, rf G 38), (1, rf G k1), (2, .int x2), (3, .int x3), (4, .int x4)] [] σ := by
  unfold f_M_stampOn_66 at hF
  refine j_iload C d_M_stampOn_66 4 rfl ?_
  refine j_bipush C (v := 7) d_M_stampOn_68 (by decide) ?_
  refine j_iadd C d_M_stampOn_70 ?_
  refine j_iconst C (v := 3) d_M_stampOn_71 (by decide) ?_
  refine j_aload_n C d_M_stampOn_72 rfl 1 rfl ?_
  refine j_iload C d_M_stampOn_73 4 rfl ?_
  refine j_bipush C (v := 6) d_M_stampOn_75 (by decide) ?_
  refine j_iadd C d_M_stampOn_77 ?_
  obtain ⟨q78, hF⟩ := g_if hF
  refine j_iald C hk1 (by decide) rfl (inb_v q78) d_M_stampOn_78 ?_
  refine j_imul C d_M_stampOn_79 ?_
  refine j_iadd C d_M_stampOn_80 ?_
  refine j_istore C (lv' := [(5, .int ((x4 + (7 : Int32)) + ((3 : Int32) * (σ.1 k1 (x4 + (6 : Int32)).toNatClampNeg)))), (0, rf G 38), (1, rf G k1), (2, .int x2), (3, .int x3), (4, .int x4)]) d_M_stampOn_81 (by decide) rfl ?_
  refine j_aload_n C d_M_stampOn_83 rfl 2 rfl ?_
  refine j_iload C d_M_stampOn_84 0 rfl ?_
  refine j_aload_n C d_M_stampOn_86 rfl 1 rfl ?_
  refine j_aload_n C d_M_stampOn_87 rfl 2 rfl ?_
  refine j_iload_n C d_M_stampOn_88 rfl 3 rfl ?_
  obtain ⟨r89, h89, hF⟩ := g_bind hF
  refine j_vi C (As := [rf G k1, .int x2]) (st := [.int ((x4 + (7 : Int32)) + ((3 : Int32) * (σ.1 k1 (x4 + (6 : Int32)).toNatClampNeg))), rf G k1]) (c_M_clockOf (XL X) G k1 x2 σ hk1 h89) (rfl : kdf 38 = 8) (by decide) rfl rfl m_M_clockOf wd_864 rfl rfl (Nat.le_of_ble_eq_true rfl) ⟨by decide, by decide⟩ d_M_stampOn_89 ?_
  obtain ⟨q92, hF⟩ := g_if hF
  refine j_iast C hk1 (by decide) (fun _ => rfl) (inb_v q92) d_M_stampOn_92 ?_
  refine j_sub C [(1, rf G k1), (3, .int x3), (4, .int x4), (5, .int ((x4 + (7 : Int32)) + ((3 : Int32) * (σ.1 k1 (x4 + (6 : Int32)).toNatClampNeg))))] [2, 4, 5, 0] rfl ?_
  exact b_M_stampOn_93 C hr k1 x3 x4 ((x4 + (7 : Int32)) + ((3 : Int32) * (σ.1 k1 (x4 + (6 : Int32)).toNatClampNeg))) hk1 (sI σ k1 ((x4 + (7 : Int32)) + ((3 : Int32) * (σ.1 k1 (x4 + (6 : Int32)).toNatClampNeg))).toNatClampNeg r89) hF
set_option maxHeartbeats 4000000 in
set_option maxRecDepth 100000 in
theorem b_M_stampOn_49 {X : XT} {G : GT} {z : MT} {K20 : Nat → Int32 → Int32 → Int32 → Int32 → MT → Option MT} (C : CX X G b_M_stampOn 6 "TimeFloodModel" 3 70) (hr : XR X none) (hK20 : ∀ (k1 : Nat) (x2 : Int32) (x3 : Int32) (x4 : Int32) (x5 : Int32) (hk1 : kdf k1 = 15) (σ : MT), K20 k1 x2 x3 x4 x5 σ = some z → JW X G (QX X (PV G z) G) 6 20 [(0, rf G 38), (1, rf G k1), (2, .int x2), (3, .int x3), (4, .int x4), (5, .int x5)] [] σ) (k1 : Nat) (x2 : Int32) (x3 : Int32) (x4 : Int32) (x5 : Int32) (hk1 : kdf k1 = 15) (σ : MT) (hF : f_M_stampOn_49 K20 k1 x2 x3 x4 x5 σ = some z) : JW X G (QX X (PV G z) G) 6 49 [(0, rf G 38), (1, rf G k1), (2, .int x2), (3, .int x3), (4, .int x4), (5, .int x5)] [] σ := by
  unfold f_M_stampOn_49 at hF
  refine j_iinc C (v := x5 + (1 : Int32)) (lv' := [(5, .int (x5 + (1 : Int32))), (0, rf G 38), (1, rf G k1), (2, .int x2), (3, .int x3), (4, .int x4)]) d_M_stampOn_49 5 rfl rfl (by decide) rfl ?_
  refine j_goto C 20 d_M_stampOn_52 (by decide) ?_
  refine j_sub C [(0, rf G 38), (1, rf G k1), (2, .int x2), (3, .int x3), (4, .int x4), (5, .int (x5 + (1 : Int32)))] [1, 2, 3, 4, 5, 0] rfl ?_
  exact hK20 k1 x2 x3 x4 (x5 + (1 : Int32)) hk1 σ hF
set_option maxHeartbeats 4000000 in
set_option maxRecDepth 100000 in
theorem b_M_stampOn_20 {X : XT} {G : GT} {z : MT} {K66 : Nat → Int32 → Int32 → Int32 → MT → Option MT} (C : CX X G b_M_stampOn 6 "TimeFloodModel" 3 70) (hr : XR X none) (hK66 : ∀ (k1 : Nat) (x2 : Int32) (x3 : Int32) (x4 : Int32) (hk1 : kdf k1 = 15) (σ : MT), K66 k1 x2 x3 x4 σ = some z → JW X G (QX X (PV G z) G) 6 66 [(0, rf G 38), (1, rf G k1), (2, .int x2), (3, .int x3), (4, .int x4)] [] σ) : ∀ (n : Nat) (k1 : Nat) (x2 : Int32) (x3 : Int32) (x4 : Int32) (x5 : Int32) (hk1 : kdf k1 = 15) (σ : MT), f_M_stampOn_20 K66 n k1 x2 x3 x4 x5 σ = some z → JW X G (QX X (PV G z) G) 6 20 [(0, rf G 38), (1, rf G k1), (2, .int x2), (3, .int x3), (4, .int x4), (5, .int x5)] [] σ := by
  intro n
  induction n with
  | zero =>
    intro k1 x2 x3 x4 x5 hk1 σ hF
    rw [f_M_stampOn_20] at hF
    cases hF
  | succ n ih =>
    intro k1 x2 x3 x4 x5 hk1 σ hF
    rw [f_M_stampOn_20] at hF
    refine j_iload C d_M_stampOn_20 5 rfl ?_
    refine j_bipush C (v := 9) d_M_stampOn_22 (by decide) ?_
    refine j_icmp_ge C 55 d_M_stampOn_24 (by decide) hF (fun q24 hF => ?_) (fun q24 hF => ?_)
    · refine j_aload_n C d_M_stampOn_55 rfl 1 rfl ?_
      refine j_iload C d_M_stampOn_56 4 rfl ?_
      refine j_bipush C (v := 6) d_M_stampOn_58 (by decide) ?_
      refine j_iadd C d_M_stampOn_60 ?_
      refine j_dup2_11 C d_M_stampOn_61 rfl rfl ?_
      obtain ⟨q62, hF⟩ := g_if hF
      refine j_iald C hk1 (by decide) rfl (inb_v q62) d_M_stampOn_62 ?_
      refine j_iconst C (v := 1) d_M_stampOn_63 (by decide) ?_
      refine j_isub C d_M_stampOn_64 ?_
      obtain ⟨q65, hF⟩ := g_if hF
      refine j_iast C hk1 (by decide) (fun _ => rfl) (inb_v q65) d_M_stampOn_65 ?_
      refine j_sub C [(0, rf G 38), (1, rf G k1), (2, .int x2), (3, .int x3), (4, .int x4)] [0, 1, 2, 3, 4] rfl ?_
      exact hK66 k1 x2 x3 x4 hk1 (sI σ k1 (x4 + (6 : Int32)).toNatClampNeg ((σ.1 k1 (x4 + (6 : Int32)).toNatClampNeg) - (1 : Int32))) hF
    · refine j_aload_n C d_M_stampOn_27 rfl 1 rfl ?_
      refine j_iload C d_M_stampOn_28 4 rfl ?_
      refine j_bipush C (v := 7) d_M_stampOn_30 (by decide) ?_
      refine j_iadd C d_M_stampOn_32 ?_
      refine j_iload C d_M_stampOn_33 5 rfl ?_
      refine j_iadd C d_M_stampOn_35 ?_
      refine j_aload_n C d_M_stampOn_36 rfl 1 rfl ?_
      refine j_iload C d_M_stampOn_37 4 rfl ?_
      refine j_bipush C (v := 7) d_M_stampOn_39 (by decide) ?_
      refine j_iadd C d_M_stampOn_41 ?_
      refine j_iload C d_M_stampOn_42 5 rfl ?_
      refine j_iadd C d_M_stampOn_44 ?_
      refine j_iconst C (v := 3) d_M_stampOn_45 (by decide) ?_
      refine j_iadd C d_M_stampOn_46 ?_
      obtain ⟨q47, hF⟩ := g_if hF
      refine j_iald C hk1 (by decide) rfl (inb_v q47) d_M_stampOn_47 ?_
      obtain ⟨q48, hF⟩ := g_if hF
      refine j_iast C hk1 (by decide) (fun _ => rfl) (inb_v q48) d_M_stampOn_48 ?_
      exact b_M_stampOn_49 C hr ih k1 x2 x3 x4 x5 hk1 (sI σ k1 ((x4 + (7 : Int32)) + x5).toNatClampNeg (σ.1 k1 (((x4 + (7 : Int32)) + x5) + (3 : Int32)).toNatClampNeg)) hF
set_option maxHeartbeats 4000000 in
set_option maxRecDepth 100000 in
theorem c_M_stampOn (l : Launch) (G : GT) (k1 : Nat) (x2 : Int32) (x3 : Int32) (σ : MT) (hk1 : kdf k1 = 15) {z : MT} (hF : f_M_stampOn k1 x2 x3 σ = some z) : CTV l G y_M_stampOn b_M_stampOn 6 none 3 70 [rf G 38, rf G k1, .int x2, .int x3] σ z := by
  refine entX [(0, rf G 38), (1, rf G k1), (2, .int x2), (3, .int x3)] "TimeFloodModel" (by decide +kernel) rfl rfl (Nat.le_of_ble_eq_true rfl) (fun X hXl hr C => ?_)
  unfold f_M_stampOn at hF
  refine j_bipush C (v := 19) d_M_stampOn_0 (by decide) ?_
  refine j_iload_n C d_M_stampOn_2 rfl 2 rfl ?_
  refine j_imul C d_M_stampOn_3 ?_
  refine j_istore C (lv' := [(4, .int ((19 : Int32) * x2)), (0, rf G 38), (1, rf G k1), (2, .int x2), (3, .int x3)]) d_M_stampOn_4 (by decide) rfl ?_
  refine j_aload_n C d_M_stampOn_6 rfl 2 rfl ?_
  refine j_iload C d_M_stampOn_7 0 rfl ?_
  refine j_bipush C (v := 6) d_M_stampOn_9 (by decide) ?_
  refine j_iadd C d_M_stampOn_11 ?_
  obtain ⟨q12, hF⟩ := g_if hF
  refine j_iald C hk1 (by decide) rfl (inb_v q12) d_M_stampOn_12 ?_
  refine j_iconst C (v := 4) d_M_stampOn_13 (by decide) ?_
  refine j_icmp_ne C 66 d_M_stampOn_14 (by decide) hF (fun q14 hF => ?_) (fun q14 hF => ?_)
  · refine j_sub C [(0, rf G 38), (1, rf G k1), (2, .int x2), (3, .int x3), (4, .int ((19 : Int32) * x2))] [1, 2, 3, 4, 0] rfl ?_
    exact b_M_stampOn_66 C hr k1 x2 x3 ((19 : Int32) * x2) hk1 σ hF
  · refine j_iconst C (v := 0) d_M_stampOn_17 (by decide) ?_
    refine j_istore C (lv' := [(5, .int (0 : Int32)), (4, .int ((19 : Int32) * x2)), (0, rf G 38), (1, rf G k1), (2, .int x2), (3, .int x3)]) d_M_stampOn_18 (by decide) rfl ?_
    refine j_sub C [(0, rf G 38), (1, rf G k1), (2, .int x2), (3, .int x3), (4, .int ((19 : Int32) * x2)), (5, .int (0 : Int32))] [2, 3, 4, 5, 1, 0] rfl ?_
    exact b_M_stampOn_20 C hr (b_M_stampOn_66 C hr) 1100 k1 x2 x3 ((19 : Int32) * x2) (0 : Int32) hk1 σ hF
set_option maxHeartbeats 4000000 in
set_option maxRecDepth 100000 in
theorem b_M_hear_163 {X : XT} {G : GT} {z : MT} (C : CX X G b_M_hear 10 "TimeFloodModel" 4 95) (hr : XR X none) (k1 : Nat) (x2 : Int32) (x3 : Int32) (hk1 : kdf k1 = 15) (σ : MT) (hF : f_M_hear_163 k1 x2 x3 σ = some z) : JW X G (QX X (PV G z) G) 10 163 [(0, rf G 38), (1, rf G k1), (2, .int x2), (3, .int x3)] [] σ := by
  unfold f_M_hear_163 at hF
  refine j_aload_n C d_M_hear_163 rfl 0 rfl ?_
  refine j_aload_n C d_M_hear_164 rfl 1 rfl ?_
  refine j_iload_n C d_M_hear_165 rfl 2 rfl ?_
  refine j_aload_n C d_M_hear_166 rfl 0 rfl ?_
  refine g_M_sentTime C (rfl : kdf 38 = 8) wd_688 d_M_hear_167 ?_
  refine j_iload_n C d_M_hear_170 rfl 3 rfl ?_
  obtain ⟨q171, hF⟩ := g_if hF
  refine j_iald C (rfl : kdf 54 = 11) (by decide) rfl (inb_v q171) d_M_hear_171 ?_
  obtain ⟨r172, h172, hF⟩ := g_bind hF
  refine j_vv C (As := [rf G k1, .int x2, .int (σ.1 54 x3.toNatClampNeg)]) (st := []) (c_M_stampOn (XL X) G k1 x2 (σ.1 54 x3.toNatClampNeg) σ hk1 h172) (rfl : kdf 38 = 8) (by decide) rfl rfl m_M_stampOn wd_951 rfl rfl (Nat.le_of_ble_eq_true rfl) ⟨by decide, by decide⟩ d_M_hear_172 ?_
  cases hF
  exact j_vret C hr d_M_hear_175 rfl
set_option maxHeartbeats 4000000 in
set_option maxRecDepth 100000 in
theorem b_M_hear_144 {X : XT} {G : GT} {z : MT} (C : CX X G b_M_hear 10 "TimeFloodModel" 4 95) (hr : XR X none) (k1 : Nat) (x2 : Int32) (x3 : Int32) (x4 : Int32) (hk1 : kdf k1 = 15) (σ : MT) (hF : f_M_hear_144 k1 x2 x3 x4 σ = some z) : JW X G (QX X (PV G z) G) 10 144 [(0, rf G 38), (1, rf G k1), (2, .int x2), (3, .int x3), (4, .int x4)] [] σ := by
  unfold f_M_hear_144 at hF
  refine j_aload_n C d_M_hear_144 rfl 1 rfl ?_
  refine j_iload C d_M_hear_145 4 rfl ?_
  refine j_iconst C (v := 3) d_M_hear_147 (by decide) ?_
  refine j_iadd C d_M_hear_148 ?_
  refine j_aload_n C d_M_hear_149 rfl 0 rfl ?_
  refine g_M_sentNumber C (rfl : kdf 38 = 8) wd_687 d_M_hear_150 ?_
  refine j_iload_n C d_M_hear_153 rfl 3 rfl ?_
  obtain ⟨q154, hF⟩ := g_if hF
  refine j_iald C (rfl : kdf 53 = 11) (by decide) rfl (inb_v q154) d_M_hear_154 ?_
  obtain ⟨q155, hF⟩ := g_if hF
  refine j_iast C hk1 (by decide) (fun _ => rfl) (inb_v q155) d_M_hear_155 ?_
  refine j_aload_n C d_M_hear_156 rfl 1 rfl ?_
  refine j_iload C d_M_hear_157 4 rfl ?_
  refine j_iconst C (v := 4) d_M_hear_159 (by decide) ?_
  refine j_iadd C d_M_hear_160 ?_
  refine j_iconst C (v := 0) d_M_hear_161 (by decide) ?_
  obtain ⟨q162, hF⟩ := g_if hF
  refine j_iast C hk1 (by decide) (fun _ => rfl) (inb_v q162) d_M_hear_162 ?_
  refine j_sub C [(0, rf G 38), (1, rf G k1), (2, .int x2), (3, .int x3)] [0, 1, 2, 3] rfl ?_
  exact b_M_hear_163 C hr k1 x2 x3 hk1 (sI (sI σ k1 (x4 + (3 : Int32)).toNatClampNeg (σ.1 53 x3.toNatClampNeg)) k1 (x4 + (4 : Int32)).toNatClampNeg (0 : Int32)) hF
set_option maxHeartbeats 4000000 in
set_option maxRecDepth 100000 in
theorem b_M_hear_123 {X : XT} {G : GT} {z : MT} (C : CX X G b_M_hear 10 "TimeFloodModel" 4 95) (hr : XR X none) (k1 : Nat) (x2 : Int32) (x3 : Int32) (x4 : Int32) (x6 : Int32) (x7 : Int32) (hk1 : kdf k1 = 15) (σ : MT) (hF : f_M_hear_123 k1 x2 x3 x4 x6 x7 σ = some z) : JW X G (QX X (PV G z) G) 10 123 [(0, rf G 38), (1, rf G k1), (2, .int x2), (3, .int x3), (4, .int x4), (6, .int x6), (7, .int x7)] [] σ := by
  unfold f_M_hear_123 at hF
  refine j_iload C d_M_hear_123 6 rfl ?_
  refine j_if_eq C 144 d_M_hear_125 (by decide) hF (fun q125 hF => ?_) (fun q125 hF => ?_)
  · refine j_sub C [(0, rf G 38), (1, rf G k1), (2, .int x2), (3, .int x3), (4, .int x4)] [0, 1, 2, 3, 4] rfl ?_
    exact b_M_hear_144 C hr k1 x2 x3 x4 hk1 σ hF
  · refine j_aload_n C d_M_hear_128 rfl 1 rfl ?_
    refine j_iload C d_M_hear_129 4 rfl ?_
    refine j_iconst C (v := 2) d_M_hear_131 (by decide) ?_
    refine j_iadd C d_M_hear_132 ?_
    refine j_iload C d_M_hear_133 5 rfl ?_
    obtain ⟨q135, hF⟩ := g_if hF
    refine j_iast C hk1 (by decide) (fun _ => rfl) (inb_v q135) d_M_hear_135 ?_
    refine j_aload_n C d_M_hear_136 rfl 1 rfl ?_
    refine j_iload C d_M_hear_137 4 rfl ?_
    refine j_bipush C (v := 6) d_M_hear_139 (by decide) ?_
    refine j_iadd C d_M_hear_141 ?_
    refine j_iconst C (v := 0) d_M_hear_142 (by decide) ?_
    obtain ⟨q143, hF⟩ := g_if hF
    refine j_iast C hk1 (by decide) (fun _ => rfl) (inb_v q143) d_M_hear_143 ?_
    refine j_sub C [(0, rf G 38), (1, rf G k1), (2, .int x2), (3, .int x3), (4, .int x4)] [0, 1, 2, 3, 4] rfl ?_
    exact b_M_hear_144 C hr k1 x2 x3 x4 hk1 (sI (sI σ k1 (x4 + (2 : Int32)).toNatClampNeg x6) k1 (x4 + (6 : Int32)).toNatClampNeg (0 : Int32)) hF
set_option maxHeartbeats 4000000 in
set_option maxRecDepth 100000 in
theorem b_M_hear_110 {X : XT} {G : GT} {z : MT} (C : CX X G b_M_hear 10 "TimeFloodModel" 4 95) (hr : XR X none) (k1 : Nat) (x2 : Int32) (x3 : Int32) (x4 : Int32) (x6 : Int32) (x7 : Int32) (xs0 : Int32) (hk1 : kdf k1 = 15) (σ : MT) (hF : f_M_hear_110 k1 x2 x3 x4 x6 x7 xs0 σ = some z) : JW X G (QX X (PV G z) G) 10 110 [(0, rf G 38), (1, rf G k1), (2, .int x2), (3, .int x3), (4, .int x4), (6, .int x6), (7, .int x7)] [.int xs0] σ := by
  unfold f_M_hear_110 at hF
  refine j_istore C (lv' := [(9, .int xs0), (0, rf G 38), (1, rf G k1), (2, .int x2), (3, .int x3), (4, .int x4), (6, .int x6), (7, .int x7)]) d_M_hear_110 (by decide) rfl ?_
  refine j_iload C d_M_hear_112 7 rfl ?_
  refine j_if_ne C 123 d_M_hear_114 (by decide) hF (fun q114 hF => ?_) (fun q114 hF => ?_)
  · refine j_sub C [(0, rf G 38), (1, rf G k1), (2, .int x2), (3, .int x3), (4, .int x4), (6, .int x6), (7, .int x7)] [1, 2, 3, 4, 5, 6, 7] rfl ?_
    exact b_M_hear_123 C hr k1 x2 x3 x4 x6 x7 hk1 σ hF
  · refine j_iload C d_M_hear_117 0 rfl ?_
    refine j_if_ne C 123 d_M_hear_119 (by decide) hF (fun q119 hF => ?_) (fun q119 hF => ?_)
    · refine j_sub C [(0, rf G 38), (1, rf G k1), (2, .int x2), (3, .int x3), (4, .int x4), (6, .int x6), (7, .int x7)] [1, 2, 3, 4, 5, 6, 7] rfl ?_
      exact b_M_hear_123 C hr k1 x2 x3 x4 x6 x7 hk1 σ hF
    · cases hF
      exact j_vret C hr d_M_hear_122 rfl
set_option maxHeartbeats 4000000 in
set_option maxRecDepth 100000 in
theorem b_M_hear_109 {X : XT} {G : GT} {z : MT} (C : CX X G b_M_hear 10 "TimeFloodModel" 4 95) (hr : XR X none) (k1 : Nat) (x2 : Int32) (x3 : Int32) (x4 : Int32) (x6 : Int32) (x7 : Int32) (hk1 : kdf k1 = 15) (σ : MT) (hF : f_M_hear_109 k1 x2 x3 x4 x6 x7 σ = some z) : JW X G (QX X (PV G z) G) 10 109 [(0, rf G 38), (1, rf G k1), (2, .int x2), (3, .int x3), (4, .int x4), (6, .int x6), (7, .int x7)] [] σ := by
  unfold f_M_hear_109 at hF
  refine j_iconst C (v := 0) d_M_hear_109 (by decide) ?_
  exact b_M_hear_110 C hr k1 x2 x3 x4 x6 x7 (0 : Int32) hk1 σ hF
set_option maxHeartbeats 4000000 in
set_option maxRecDepth 100000 in
theorem b_M_hear_79 {X : XT} {G : GT} {z : MT} (C : CX X G b_M_hear 10 "TimeFloodModel" 4 95) (hr : XR X none) (k1 : Nat) (x2 : Int32) (x3 : Int32) (x4 : Int32) (x5 : Int32) (x6 : Int32) (x7 : Int32) (x8 : Int32) (hk1 : kdf k1 = 15) (σ : MT) (hF : f_M_hear_79 k1 x2 x3 x4 x5 x6 x7 x8 σ = some z) : JW X G (QX X (PV G z) G) 10 79 [(0, rf G 38), (1, rf G k1), (2, .int x2), (3, .int x3), (4, .int x4), (5, .int x5), (6, .int x6), (7, .int x7), (8, .int x8)] [] σ := by
  unfold f_M_hear_79 at hF
  refine j_iload C d_M_hear_79 6 rfl ?_
  refine j_iload C d_M_hear_81 5 rfl ?_
  refine j_icmp_ne C 109 d_M_hear_83 (by decide) hF (fun q83 hF => ?_) (fun q83 hF => ?_)
  · refine j_sub C [(0, rf G 38), (1, rf G k1), (2, .int x2), (3, .int x3), (4, .int x4), (6, .int x6), (7, .int x7)] [0, 1, 2, 3, 4, 6, 7] rfl ?_
    exact b_M_hear_109 C hr k1 x2 x3 x4 x6 x7 hk1 σ hF
  · refine j_iload C d_M_hear_86 6 rfl ?_
    refine j_iload_n C d_M_hear_88 rfl 2 rfl ?_
    refine j_icmp_eq C 109 d_M_hear_89 (by decide) hF (fun q89 hF => ?_) (fun q89 hF => ?_)
    · refine j_sub C [(0, rf G 38), (1, rf G k1), (2, .int x2), (3, .int x3), (4, .int x4), (6, .int x6), (7, .int x7)] [0, 1, 2, 3, 4, 6, 7] rfl ?_
      exact b_M_hear_109 C hr k1 x2 x3 x4 x6 x7 hk1 σ hF
    · refine j_iload C d_M_hear_92 8 rfl ?_
      refine j_i2l C d_M_hear_94 ?_
      refine j_lconst C (v := 1) d_M_hear_95 (by decide) ?_
      refine j_ldc2 C wd_950 d_M_hear_96 ?_
      obtain ⟨r99, h99, hF⟩ := g_bind hF
      refine j_si C (As := [.long x8.toInt64, .long (1 : Int64), .long (31 : Int64)]) (st := []) (c_M_in (XL X) G x8.toInt64 (1 : Int64) (31 : Int64) σ h99) m_M_in wd_786 rfl rfl (Nat.le_of_ble_eq_true rfl) ⟨by decide, by decide⟩ d_M_hear_99 ?_
      refine j_if_eq C 109 d_M_hear_102 (by decide) hF (fun q102 hF => ?_) (fun q102 hF => ?_)
      · refine j_sub C [(0, rf G 38), (1, rf G k1), (2, .int x2), (3, .int x3), (4, .int x4), (6, .int x6), (7, .int x7)] [0, 1, 2, 3, 4, 6, 7] rfl ?_
        exact b_M_hear_109 C hr k1 x2 x3 x4 x6 x7 hk1 σ hF
      · refine j_iconst C (v := 1) d_M_hear_105 (by decide) ?_
        refine j_goto C 110 d_M_hear_106 (by decide) ?_
        refine j_sub C [(0, rf G 38), (1, rf G k1), (2, .int x2), (3, .int x3), (4, .int x4), (6, .int x6), (7, .int x7)] [0, 1, 2, 3, 4, 6, 7] rfl ?_
        exact b_M_hear_110 C hr k1 x2 x3 x4 x6 x7 (1 : Int32) hk1 σ hF
set_option maxHeartbeats 4000000 in
set_option maxRecDepth 100000 in
theorem b_M_hear_56 {X : XT} {G : GT} {z : MT} (C : CX X G b_M_hear 10 "TimeFloodModel" 4 95) (hr : XR X none) (k1 : Nat) (x2 : Int32) (x3 : Int32) (x4 : Int32) (x5 : Int32) (x6 : Int32) (xs0 : Int32) (hk1 : kdf k1 = 15) (σ : MT) (hF : f_M_hear_56 k1 x2 x3 x4 x5 x6 xs0 σ = some z) : JW X G (QX X (PV G z) G) 10 56 [(0, rf G 38), (1, rf G k1), (2, .int x2), (3, .int x3), (4, .int x4), (5, .int x5), (6, .int x6)] [.int xs0] σ := by
  unfold f_M_hear_56 at hF
  refine j_istore C (lv' := [(7, .int xs0), (0, rf G 38), (1, rf G k1), (2, .int x2), (3, .int x3), (4, .int x4), (5, .int x5), (6, .int x6)]) d_M_hear_56 (by decide) rfl ?_
  refine j_aload_n C d_M_hear_58 rfl 1 rfl ?_
  refine g_M_sentNumber C (rfl : kdf 38 = 8) wd_687 d_M_hear_59 ?_
  refine j_iload_n C d_M_hear_62 rfl 4 rfl ?_
  obtain ⟨q63, hF⟩ := g_if hF
  refine j_iald C (rfl : kdf 53 = 11) (by decide) rfl (inb_v q63) d_M_hear_63 ?_
  refine j_aload_n C d_M_hear_64 rfl 2 rfl ?_
  refine j_iload C d_M_hear_65 5 rfl ?_
  refine j_iconst C (v := 3) d_M_hear_67 (by decide) ?_
  refine j_iadd C d_M_hear_68 ?_
  obtain ⟨q69, hF⟩ := g_if hF
  refine j_iald C hk1 (by decide) rfl (inb_v q69) d_M_hear_69 ?_
  refine j_isub C d_M_hear_70 ?_
  refine j_bipush C (v := 64) d_M_hear_71 (by decide) ?_
  refine j_iadd C d_M_hear_73 ?_
  refine j_bipush C (v := 64) d_M_hear_74 (by decide) ?_
  refine j_irem C d_M_hear_76 (by decide) ?_
  refine j_istore C (lv' := [(8, .int ((((σ.1 53 x3.toNatClampNeg) - (σ.1 k1 (x4 + (3 : Int32)).toNatClampNeg)) + (64 : Int32)) - (((σ.1 53 x3.toNatClampNeg) - (σ.1 k1 (x4 + (3 : Int32)).toNatClampNeg)) + (64 : Int32)) / (64 : Int32) * (64 : Int32))), (7, .int xs0), (0, rf G 38), (1, rf G k1), (2, .int x2), (3, .int x3), (4, .int x4), (5, .int x5), (6, .int x6)]) d_M_hear_77 (by decide) rfl ?_
  refine j_sub C [(0, rf G 38), (1, rf G k1), (2, .int x2), (3, .int x3), (4, .int x4), (5, .int x5), (6, .int x6), (7, .int xs0), (8, .int ((((σ.1 53 x3.toNatClampNeg) - (σ.1 k1 (x4 + (3 : Int32)).toNatClampNeg)) + (64 : Int32)) - (((σ.1 53 x3.toNatClampNeg) - (σ.1 k1 (x4 + (3 : Int32)).toNatClampNeg)) + (64 : Int32)) / (64 : Int32) * (64 : Int32)))] [2, 3, 4, 5, 6, 7, 8, 1, 0] rfl ?_
  exact b_M_hear_79 C hr k1 x2 x3 x4 x5 x6 xs0 ((((σ.1 53 x3.toNatClampNeg) - (σ.1 k1 (x4 + (3 : Int32)).toNatClampNeg)) + (64 : Int32)) - (((σ.1 53 x3.toNatClampNeg) - (σ.1 k1 (x4 + (3 : Int32)).toNatClampNeg)) + (64 : Int32)) / (64 : Int32) * (64 : Int32)) hk1 σ hF
set_option maxHeartbeats 4000000 in
set_option maxRecDepth 100000 in
theorem b_M_hear_51 {X : XT} {G : GT} {z : MT} (C : CX X G b_M_hear 10 "TimeFloodModel" 4 95) (hr : XR X none) (k1 : Nat) (x2 : Int32) (x3 : Int32) (x4 : Int32) (x5 : Int32) (x6 : Int32) (hk1 : kdf k1 = 15) (σ : MT) (hF : f_M_hear_51 k1 x2 x3 x4 x5 x6 σ = some z) : JW X G (QX X (PV G z) G) 10 51 [(0, rf G 38), (1, rf G k1), (2, .int x2), (3, .int x3), (4, .int x4), (5, .int x5), (6, .int x6)] [] σ := by
  unfold f_M_hear_51 at hF
  refine j_iconst C (v := 1) d_M_hear_51 (by decide) ?_
  refine j_goto C 56 d_M_hear_52 (by decide) ?_
  exact b_M_hear_56 C hr k1 x2 x3 x4 x5 x6 (1 : Int32) hk1 σ hF
set_option maxHeartbeats 4000000 in
set_option maxRecDepth 100000 in
theorem b_M_hear_55 {X : XT} {G : GT} {z : MT} (C : CX X G b_M_hear 10 "TimeFloodModel" 4 95) (hr : XR X none) (k1 : Nat) (x2 : Int32) (x3 : Int32) (x4 : Int32) (x5 : Int32) (x6 : Int32) (hk1 : kdf k1 = 15) (σ : MT) (hF : f_M_hear_55 k1 x2 x3 x4 x5 x6 σ = some z) : JW X G (QX X (PV G z) G) 10 55 [(0, rf G 38), (1, rf G k1), (2, .int x2), (3, .int x3), (4, .int x4), (5, .int x5), (6, .int x6)] [] σ := by
  unfold f_M_hear_55 at hF
  refine j_iconst C (v := 0) d_M_hear_55 (by decide) ?_
  exact b_M_hear_56 C hr k1 x2 x3 x4 x5 x6 (0 : Int32) hk1 σ hF
set_option maxHeartbeats 4000000 in
set_option maxRecDepth 100000 in
theorem c_M_hear (l : Launch) (G : GT) (k1 : Nat) (x2 : Int32) (x3 : Int32) (σ : MT) (hk1 : kdf k1 = 15) {z : MT} (hF : f_M_hear k1 x2 x3 σ = some z) : CTV l G y_M_hear b_M_hear 10 none 4 95 [rf G 38, rf G k1, .int x2, .int x3] σ z := by
  refine entX [(0, rf G 38), (1, rf G k1), (2, .int x2), (3, .int x3)] "TimeFloodModel" (by decide +kernel) rfl rfl (Nat.le_of_ble_eq_true rfl) (fun X hXl hr C => ?_)
  unfold f_M_hear at hF
  refine j_bipush C (v := 19) d_M_hear_0 (by decide) ?_
  refine j_iload_n C d_M_hear_2 rfl 2 rfl ?_
  refine j_imul C d_M_hear_3 ?_
  refine j_istore C (lv' := [(4, .int ((19 : Int32) * x2)), (0, rf G 38), (1, rf G k1), (2, .int x2), (3, .int x3)]) d_M_hear_4 (by decide) rfl ?_
  refine j_aload_n C d_M_hear_6 rfl 2 rfl ?_
  refine j_iload C d_M_hear_7 0 rfl ?_
  refine j_iconst C (v := 2) d_M_hear_9 (by decide) ?_
  refine j_iadd C d_M_hear_10 ?_
  obtain ⟨q11, hF⟩ := g_if hF
  refine j_iald C hk1 (by decide) rfl (inb_v q11) d_M_hear_11 ?_
  refine j_istore C (lv' := [(5, .int (σ.1 k1 (((19 : Int32) * x2) + (2 : Int32)).toNatClampNeg)), (4, .int ((19 : Int32) * x2)), (0, rf G 38), (1, rf G k1), (2, .int x2), (3, .int x3)]) d_M_hear_12 (by decide) rfl ?_
  refine j_aload_n C d_M_hear_14 rfl 2 rfl ?_
  refine g_M_sentRoot C (rfl : kdf 38 = 8) wd_686 d_M_hear_15 ?_
  refine j_iload_n C d_M_hear_18 rfl 5 rfl ?_
  obtain ⟨q19, hF⟩ := g_if hF
  refine j_iald C (rfl : kdf 52 = 11) (by decide) rfl (inb_v q19) d_M_hear_19 ?_
  refine j_istore C (lv' := [(6, .int (σ.1 52 x3.toNatClampNeg)), (5, .int (σ.1 k1 (((19 : Int32) * x2) + (2 : Int32)).toNatClampNeg)), (4, .int ((19 : Int32) * x2)), (0, rf G 38), (1, rf G k1), (2, .int x2), (3, .int x3)]) d_M_hear_20 (by decide) rfl ?_
  refine j_iload C d_M_hear_22 1 rfl ?_
  refine j_bipush C (v := -9) d_M_hear_24 (by decide) ?_
  refine j_icmp_eq C 51 d_M_hear_26 (by decide) hF (fun q26 hF => ?_) (fun q26 hF => ?_)
  · refine j_sub C [(0, rf G 38), (1, rf G k1), (2, .int x2), (3, .int x3), (4, .int ((19 : Int32) * x2)), (5, .int (σ.1 k1 (((19 : Int32) * x2) + (2 : Int32)).toNatClampNeg)), (6, .int (σ.1 52 x3.toNatClampNeg))] [3, 4, 5, 6, 2, 1, 0] rfl ?_
    exact b_M_hear_51 C hr k1 x2 x3 ((19 : Int32) * x2) (σ.1 k1 (((19 : Int32) * x2) + (2 : Int32)).toNatClampNeg) (σ.1 52 x3.toNatClampNeg) hk1 σ hF
  · refine j_iload C d_M_hear_29 0 rfl ?_
    refine j_iload C d_M_hear_31 1 rfl ?_
    refine j_icmp_ge C 55 d_M_hear_33 (by decide) hF (fun q33 hF => ?_) (fun q33 hF => ?_)
    · refine j_sub C [(0, rf G 38), (1, rf G k1), (2, .int x2), (3, .int x3), (4, .int ((19 : Int32) * x2)), (5, .int (σ.1 k1 (((19 : Int32) * x2) + (2 : Int32)).toNatClampNeg)), (6, .int (σ.1 52 x3.toNatClampNeg))] [3, 4, 5, 6, 2, 1, 0] rfl ?_
      exact b_M_hear_55 C hr k1 x2 x3 ((19 : Int32) * x2) (σ.1 k1 (((19 : Int32) * x2) + (2 : Int32)).toNatClampNeg) (σ.1 52 x3.toNatClampNeg) hk1 σ hF
    · refine j_iload C d_M_hear_36 1 rfl ?_
      refine j_iload_n C d_M_hear_38 rfl 5 rfl ?_
      refine j_icmp_ne C 51 d_M_hear_39 (by decide) hF (fun q39 hF => ?_) (fun q39 hF => ?_)
      · refine j_sub C [(0, rf G 38), (1, rf G k1), (2, .int x2), (3, .int x3), (4, .int ((19 : Int32) * x2)), (5, .int (σ.1 k1 (((19 : Int32) * x2) + (2 : Int32)).toNatClampNeg)), (6, .int (σ.1 52 x3.toNatClampNeg))] [3, 4, 5, 6, 2, 1, 0] rfl ?_
        exact b_M_hear_51 C hr k1 x2 x3 ((19 : Int32) * x2) (σ.1 k1 (((19 : Int32) * x2) + (2 : Int32)).toNatClampNeg) (σ.1 52 x3.toNatClampNeg) hk1 σ hF
      · refine j_aload_n C d_M_hear_42 rfl 4 rfl ?_
        refine j_iload C d_M_hear_43 2 rfl ?_
        refine j_iconst C (v := 5) d_M_hear_45 (by decide) ?_
        refine j_iadd C d_M_hear_46 ?_
        obtain ⟨q47, hF⟩ := g_if hF
        refine j_iald C hk1 (by decide) rfl (inb_v q47) d_M_hear_47 ?_
        refine j_if_ne C 55 d_M_hear_48 (by decide) hF (fun q48 hF => ?_) (fun q48 hF => ?_)
        · refine j_sub C [(0, rf G 38), (1, rf G k1), (2, .int x2), (3, .int x3), (4, .int ((19 : Int32) * x2)), (5, .int (σ.1 k1 (((19 : Int32) * x2) + (2 : Int32)).toNatClampNeg)), (6, .int (σ.1 52 x3.toNatClampNeg))] [3, 4, 5, 6, 2, 1, 0] rfl ?_
          exact b_M_hear_55 C hr k1 x2 x3 ((19 : Int32) * x2) (σ.1 k1 (((19 : Int32) * x2) + (2 : Int32)).toNatClampNeg) (σ.1 52 x3.toNatClampNeg) hk1 σ hF
        · refine j_sub C [(0, rf G 38), (1, rf G k1), (2, .int x2), (3, .int x3), (4, .int ((19 : Int32) * x2)), (5, .int (σ.1 k1 (((19 : Int32) * x2) + (2 : Int32)).toNatClampNeg)), (6, .int (σ.1 52 x3.toNatClampNeg))] [3, 4, 5, 6, 2, 1, 0] rfl ?_
          exact b_M_hear_51 C hr k1 x2 x3 ((19 : Int32) * x2) (σ.1 k1 (((19 : Int32) * x2) + (2 : Int32)).toNatClampNeg) (σ.1 52 x3.toNatClampNeg) hk1 σ hF
set_option maxHeartbeats 4000000 in
set_option maxRecDepth 100000 in
theorem b_M_goOn_39 {X : XT} {G : GT} {z : MT} {K13 : Nat → Int32 → MT → Option MT} (C : CX X G b_M_goOn 4 "TimeFloodModel" 5 135) (hr : XR X none) (hK13 : ∀ (k1 : Nat) (x2 : Int32) (hk1 : kdf k1 = 15) (σ : MT), K13 k1 x2 σ = some z → JW X G (QX X (PV G z) G) 4 13 [(0, rf G 38), (1, rf G k1), (2, .int x2)] [] σ) (k1 : Nat) (x2 : Int32) (hk1 : kdf k1 = 15) (σ : MT) (hF : f_M_goOn_39 K13 k1 x2 σ = some z) : JW X G (QX X (PV G z) G) 4 39 [(0, rf G 38), (1, rf G k1), (2, .int x2)] [] σ := by
  unfold f_M_goOn_39 at hF
  refine j_iinc C (v := x2 + (1 : Int32)) (lv' := [(2, .int (x2 + (1 : Int32))), (0, rf G 38), (1, rf G k1)]) d_M_goOn_39 2 rfl rfl (by decide) rfl ?_
  refine j_goto C 13 d_M_goOn_42 (by decide) ?_
  refine j_sub C [(0, rf G 38), (1, rf G k1), (2, .int (x2 + (1 : Int32)))] [1, 2, 0] rfl ?_
  exact hK13 k1 (x2 + (1 : Int32)) hk1 σ hF
set_option maxHeartbeats 4000000 in
set_option maxRecDepth 100000 in
theorem b_M_goOn_13 {X : XT} {G : GT} {z : MT} {K52 : Nat → Int32 → MT → Option MT} (C : CX X G b_M_goOn 4 "TimeFloodModel" 5 135) (hr : XR X none) (hK52 : ∀ (k1 : Nat) (x2 : Int32) (hk1 : kdf k1 = 15) (σ : MT), K52 k1 x2 σ = some z → JW X G (QX X (PV G z) G) 4 52 [(0, rf G 38), (1, rf G k1), (2, .int x2)] [] σ) : ∀ (n : Nat) (k1 : Nat) (x2 : Int32) (hk1 : kdf k1 = 15) (σ : MT), f_M_goOn_13 K52 n k1 x2 σ = some z → JW X G (QX X (PV G z) G) 4 13 [(0, rf G 38), (1, rf G k1), (2, .int x2)] [] σ := by
  intro n
  induction n with
  | zero =>
    intro k1 x2 hk1 σ hF
    rw [f_M_goOn_13] at hF
    cases hF
  | succ n ih =>
    intro k1 x2 hk1 σ hF
    rw [f_M_goOn_13] at hF
    refine j_iload_n C d_M_goOn_13 rfl 2 rfl ?_
    refine j_aload_n C d_M_goOn_14 rfl 0 rfl ?_
    refine g_M_nodes C (rfl : kdf 38 = 8) wd_668 d_M_goOn_15 ?_
    refine j_icmp_ge C 45 d_M_goOn_18 (by decide) hF (fun q18 hF => ?_) (fun q18 hF => ?_)
    · refine j_aload_n C d_M_goOn_45 rfl 0 rfl ?_
      refine j_aload_n C d_M_goOn_46 rfl 1 rfl ?_
      obtain ⟨r47, h47, hF⟩ := g_bind hF
      refine j_vv C (As := [rf G k1]) (st := []) (c_M_laySent (XL X) G k1 σ hk1 h47) (rfl : kdf 38 = 8) (by decide) rfl rfl m_M_laySent wd_938 rfl rfl (Nat.le_of_ble_eq_true rfl) ⟨by decide, by decide⟩ d_M_goOn_47 ?_
      refine j_iconst C (v := 0) d_M_goOn_50 (by decide) ?_
      refine j_istore_n C (lv' := [(2, .int (0 : Int32)), (0, rf G 38), (1, rf G k1)]) d_M_goOn_51 rfl (by decide) rfl ?_
      refine j_sub C [(0, rf G 38), (1, rf G k1), (2, .int (0 : Int32))] [1, 2, 0] rfl ?_
      exact hK52 k1 (0 : Int32) hk1 r47 hF
    · refine j_aload_n C d_M_goOn_21 rfl 1 rfl ?_
      refine j_bipush C (v := 19) d_M_goOn_22 (by decide) ?_
      refine j_iload_n C d_M_goOn_24 rfl 2 rfl ?_
      refine j_imul C d_M_goOn_25 ?_
      refine j_iconst C (v := 0) d_M_goOn_26 (by decide) ?_
      refine j_iadd C d_M_goOn_27 ?_
      obtain ⟨q28, hF⟩ := g_if hF
      refine j_iald C hk1 (by decide) rfl (inb_v q28) d_M_goOn_28 ?_
      refine j_iconst C (v := 1) d_M_goOn_29 (by decide) ?_
      refine j_icmp_ne C 39 d_M_goOn_30 (by decide) hF (fun q30 hF => ?_) (fun q30 hF => ?_)
      · exact b_M_goOn_39 C hr ih k1 x2 hk1 σ hF
      · refine j_aload_n C d_M_goOn_33 rfl 0 rfl ?_
        refine j_aload_n C d_M_goOn_34 rfl 1 rfl ?_
        refine j_iload_n C d_M_goOn_35 rfl 2 rfl ?_
        obtain ⟨r36, h36, hF⟩ := g_bind hF
        refine j_vv C (As := [rf G k1, .int x2]) (st := []) (c_M_goOne (XL X) G k1 x2 σ hk1 h36) (rfl : kdf 38 = 8) (by decide) rfl rfl m_M_goOne wd_930 rfl rfl (Nat.le_of_ble_eq_true rfl) ⟨by decide, by decide⟩ d_M_goOn_36 ?_
        exact b_M_goOn_39 C hr ih k1 x2 hk1 r36 hF
set_option maxHeartbeats 4000000 in
set_option maxRecDepth 100000 in
theorem b_M_goOn_108 {X : XT} {G : GT} {z : MT} {K62 : Nat → Int32 → Int32 → MT → Option MT} (C : CX X G b_M_goOn 4 "TimeFloodModel" 5 135) (hr : XR X none) (hK62 : ∀ (k1 : Nat) (x2 : Int32) (x3 : Int32) (hk1 : kdf k1 = 15) (σ : MT), K62 k1 x2 x3 σ = some z → JW X G (QX X (PV G z) G) 4 62 [(0, rf G 38), (1, rf G k1), (2, .int x2), (3, .int x3)] [] σ) (k1 : Nat) (x2 : Int32) (x3 : Int32) (hk1 : kdf k1 = 15) (σ : MT) (hF : f_M_goOn_108 K62 k1 x2 x3 σ = some z) : JW X G (QX X (PV G z) G) 4 108 [(0, rf G 38), (1, rf G k1), (2, .int x2), (3, .int x3)] [] σ := by
  unfold f_M_goOn_108 at hF
  refine j_iinc C (v := x3 + (1 : Int32)) (lv' := [(3, .int (x3 + (1 : Int32))), (0, rf G 38), (1, rf G k1), (2, .int x2)]) d_M_goOn_108 3 rfl rfl (by decide) rfl ?_
  refine j_goto C 62 d_M_goOn_111 (by decide) ?_
  refine j_sub C [(0, rf G 38), (1, rf G k1), (2, .int x2), (3, .int (x3 + (1 : Int32)))] [1, 2, 3, 0] rfl ?_
  exact hK62 k1 x2 (x3 + (1 : Int32)) hk1 σ hF
set_option maxHeartbeats 4000000 in
set_option maxRecDepth 100000 in
theorem b_M_goOn_62 {X : XT} {G : GT} {z : MT} {K114 : Nat → Int32 → MT → Option MT} (C : CX X G b_M_goOn 4 "TimeFloodModel" 5 135) (hr : XR X none) (hK114 : ∀ (k1 : Nat) (x2 : Int32) (hk1 : kdf k1 = 15) (σ : MT), K114 k1 x2 σ = some z → JW X G (QX X (PV G z) G) 4 114 [(0, rf G 38), (1, rf G k1), (2, .int x2)] [] σ) : ∀ (n : Nat) (k1 : Nat) (x2 : Int32) (x3 : Int32) (hk1 : kdf k1 = 15) (σ : MT), f_M_goOn_62 K114 n k1 x2 x3 σ = some z → JW X G (QX X (PV G z) G) 4 62 [(0, rf G 38), (1, rf G k1), (2, .int x2), (3, .int x3)] [] σ := by
  intro n
  induction n with
  | zero =>
    intro k1 x2 x3 hk1 σ hF
    rw [f_M_goOn_62] at hF
    cases hF
  | succ n ih =>
    intro k1 x2 x3 hk1 σ hF
    rw [f_M_goOn_62] at hF
    refine j_iload_n C d_M_goOn_62 rfl 3 rfl ?_
    refine j_aload_n C d_M_goOn_63 rfl 0 rfl ?_
    refine g_M_nodes C (rfl : kdf 38 = 8) wd_668 d_M_goOn_64 ?_
    refine j_icmp_ge C 114 d_M_goOn_67 (by decide) hF (fun q67 hF => ?_) (fun q67 hF => ?_)
    · refine j_sub C [(0, rf G 38), (1, rf G k1), (2, .int x2)] [0, 1, 2] rfl ?_
      exact hK114 k1 x2 hk1 σ hF
    · refine j_aload_n C d_M_goOn_70 rfl 1 rfl ?_
      refine j_bipush C (v := 19) d_M_goOn_71 (by decide) ?_
      refine j_iload_n C d_M_goOn_73 rfl 2 rfl ?_
      refine j_imul C d_M_goOn_74 ?_
      refine j_iconst C (v := 0) d_M_goOn_75 (by decide) ?_
      refine j_iadd C d_M_goOn_76 ?_
      obtain ⟨q77, hF⟩ := g_if hF
      refine j_iald C hk1 (by decide) rfl (inb_v q77) d_M_goOn_77 ?_
      refine j_iconst C (v := 1) d_M_goOn_78 (by decide) ?_
      refine j_icmp_ne C 114 d_M_goOn_79 (by decide) hF (fun q79 hF => ?_) (fun q79 hF => ?_)
      · refine j_sub C [(0, rf G 38), (1, rf G k1), (2, .int x2)] [0, 1, 2] rfl ?_
        exact hK114 k1 x2 hk1 σ hF
      · refine j_aload_n C d_M_goOn_82 rfl 0 rfl ?_
        refine g_M_sends C (rfl : kdf 38 = 8) wd_685 d_M_goOn_83 ?_
        refine j_iload_n C d_M_goOn_86 rfl 3 rfl ?_
        obtain ⟨q87, hF⟩ := g_if hF
        refine j_zald C (rfl : kdf 51 = 21) (by decide) rfl (inb_v q87) d_M_goOn_87 ?_
        refine j_if_eq C 108 d_M_goOn_88 (by decide) hF (fun q88 hF => ?_) (fun q88 hF => ?_)
        · exact b_M_goOn_108 C hr ih k1 x2 x3 hk1 σ hF
        · refine j_aload_n C d_M_goOn_91 rfl 0 rfl ?_
          refine j_aload_n C d_M_goOn_92 rfl 1 rfl ?_
          refine j_iload_n C d_M_goOn_93 rfl 2 rfl ?_
          refine j_iload_n C d_M_goOn_94 rfl 3 rfl ?_
          obtain ⟨r95, h95, hF⟩ := g_bind hF
          refine j_vi C (As := [rf G k1, .int x2, .int x3]) (st := []) (c_M_areBeside (XL X) G k1 x2 x3 σ hk1 h95) (rfl : kdf 38 = 8) (by decide) rfl rfl m_M_areBeside wd_942 rfl rfl (Nat.le_of_ble_eq_true rfl) ⟨by decide, by decide⟩ d_M_goOn_95 ?_
          refine j_if_eq C 108 d_M_goOn_98 (by decide) hF (fun q98 hF => ?_) (fun q98 hF => ?_)
          · exact b_M_goOn_108 C hr ih k1 x2 x3 hk1 σ hF
          · refine j_aload_n C d_M_goOn_101 rfl 0 rfl ?_
            refine j_aload_n C d_M_goOn_102 rfl 1 rfl ?_
            refine j_iload_n C d_M_goOn_103 rfl 2 rfl ?_
            refine j_iload_n C d_M_goOn_104 rfl 3 rfl ?_
            obtain ⟨r105, h105, hF⟩ := g_bind hF
            refine j_vv C (As := [rf G k1, .int x2, .int x3]) (st := []) (c_M_hear (XL X) G k1 x2 x3 σ hk1 h105) (rfl : kdf 38 = 8) (by decide) rfl rfl m_M_hear wd_946 rfl rfl (Nat.le_of_ble_eq_true rfl) ⟨by decide, by decide⟩ d_M_goOn_105 ?_
            exact b_M_goOn_108 C hr ih k1 x2 x3 hk1 r105 hF
set_option maxHeartbeats 4000000 in
set_option maxRecDepth 100000 in
theorem b_M_goOn_114 {X : XT} {G : GT} {z : MT} {K52 : Nat → Int32 → MT → Option MT} (C : CX X G b_M_goOn 4 "TimeFloodModel" 5 135) (hr : XR X none) (hK52 : ∀ (k1 : Nat) (x2 : Int32) (hk1 : kdf k1 = 15) (σ : MT), K52 k1 x2 σ = some z → JW X G (QX X (PV G z) G) 4 52 [(0, rf G 38), (1, rf G k1), (2, .int x2)] [] σ) (k1 : Nat) (x2 : Int32) (hk1 : kdf k1 = 15) (σ : MT) (hF : f_M_goOn_114 K52 k1 x2 σ = some z) : JW X G (QX X (PV G z) G) 4 114 [(0, rf G 38), (1, rf G k1), (2, .int x2)] [] σ := by
  unfold f_M_goOn_114 at hF
  refine j_iinc C (v := x2 + (1 : Int32)) (lv' := [(2, .int (x2 + (1 : Int32))), (0, rf G 38), (1, rf G k1)]) d_M_goOn_114 2 rfl rfl (by decide) rfl ?_
  refine j_goto C 52 d_M_goOn_117 (by decide) ?_
  refine j_sub C [(0, rf G 38), (1, rf G k1), (2, .int (x2 + (1 : Int32)))] [1, 2, 0] rfl ?_
  exact hK52 k1 (x2 + (1 : Int32)) hk1 σ hF
set_option maxHeartbeats 4000000 in
set_option maxRecDepth 100000 in
theorem b_M_goOn_52 {X : XT} {G : GT} {z : MT} (C : CX X G b_M_goOn 4 "TimeFloodModel" 5 135) (hr : XR X none) : ∀ (n : Nat) (k1 : Nat) (x2 : Int32) (hk1 : kdf k1 = 15) (σ : MT), f_M_goOn_52 n k1 x2 σ = some z → JW X G (QX X (PV G z) G) 4 52 [(0, rf G 38), (1, rf G k1), (2, .int x2)] [] σ := by
  intro n
  induction n with
  | zero =>
    intro k1 x2 hk1 σ hF
    rw [f_M_goOn_52] at hF
    cases hF
  | succ n ih =>
    intro k1 x2 hk1 σ hF
    rw [f_M_goOn_52] at hF
    refine j_iload_n C d_M_goOn_52 rfl 2 rfl ?_
    refine j_aload_n C d_M_goOn_53 rfl 0 rfl ?_
    refine g_M_nodes C (rfl : kdf 38 = 8) wd_668 d_M_goOn_54 ?_
    refine j_icmp_ge C 120 d_M_goOn_57 (by decide) hF (fun q57 hF => ?_) (fun q57 hF => ?_)
    · cases hF
      exact j_vret C hr d_M_goOn_120 rfl
    · refine j_iconst C (v := 0) d_M_goOn_60 (by decide) ?_
      refine j_istore_n C (lv' := [(3, .int (0 : Int32)), (0, rf G 38), (1, rf G k1), (2, .int x2)]) d_M_goOn_61 rfl (by decide) rfl ?_
      refine j_sub C [(0, rf G 38), (1, rf G k1), (2, .int x2), (3, .int (0 : Int32))] [1, 2, 3, 0] rfl ?_
      exact b_M_goOn_62 C hr (b_M_goOn_114 C hr ih) 1100 k1 x2 (0 : Int32) hk1 σ hF
set_option maxHeartbeats 4000000 in
set_option maxRecDepth 100000 in
theorem b_M_goOn_11 {X : XT} {G : GT} {z : MT} (C : CX X G b_M_goOn 4 "TimeFloodModel" 5 135) (hr : XR X none) (k1 : Nat) (hk1 : kdf k1 = 15) (σ : MT) (hF : f_M_goOn_11 k1 σ = some z) : JW X G (QX X (PV G z) G) 4 11 [(0, rf G 38), (1, rf G k1)] [] σ := by
  unfold f_M_goOn_11 at hF
  refine j_iconst C (v := 0) d_M_goOn_11 (by decide) ?_
  refine j_istore_n C (lv' := [(2, .int (0 : Int32)), (0, rf G 38), (1, rf G k1)]) d_M_goOn_12 rfl (by decide) rfl ?_
  refine j_sub C [(0, rf G 38), (1, rf G k1), (2, .int (0 : Int32))] [1, 2, 0] rfl ?_
  exact b_M_goOn_13 C hr (b_M_goOn_52 C hr 1100) 1100 k1 (0 : Int32) hk1 σ hF
set_option maxHeartbeats 4000000 in
set_option maxRecDepth 100000 in
theorem c_M_goOn (l : Launch) (G : GT) (k1 : Nat) (σ : MT) (hk1 : kdf k1 = 15) {z : MT} (hF : f_M_goOn k1 σ = some z) : CTV l G y_M_goOn b_M_goOn 4 none 5 135 [rf G 38, rf G k1] σ z := by
  refine entX [(0, rf G 38), (1, rf G k1)] "TimeFloodModel" (by decide +kernel) rfl rfl (Nat.le_of_ble_eq_true rfl) (fun X hXl hr C => ?_)
  unfold f_M_goOn at hF
  refine j_aload_n C d_M_goOn_0 rfl 1 rfl ?_
  refine j_bipush C (v := 102) d_M_goOn_1 (by decide) ?_
  refine j_dup2_11 C d_M_goOn_3 rfl rfl ?_
  obtain ⟨q4, hF⟩ := g_if hF
  refine j_iald C hk1 (by decide) rfl (inb_v q4) d_M_goOn_4 ?_
  refine j_aload_n C d_M_goOn_5 rfl 0 rfl ?_
  refine g_M_wide C (rfl : kdf 38 = 8) wd_665 d_M_goOn_6 ?_
  refine j_iadd C d_M_goOn_9 ?_
  obtain ⟨q10, hF⟩ := g_if hF
  refine j_iast C hk1 (by decide) (fun _ => rfl) (inb_v q10) d_M_goOn_10 ?_
  exact b_M_goOn_11 C hr k1 hk1 (sI σ k1 (102 : Int32).toNatClampNeg ((σ.1 k1 (102 : Int32).toNatClampNeg) + (σ.1 38 2))) hF
set_option maxHeartbeats 4000000 in
set_option maxRecDepth 100000 in
theorem b_M_tryPeriods_2 {X : XT} {G : GT} {z : MT} (C : CX X G b_M_tryPeriods 3 "TimeFloodModel" 6 158) (hr : XR X none) : ∀ (n : Nat) (x1 : Int32) (x2 : Int32) (σ : MT), f_M_tryPeriods_2 n x1 x2 σ = some z → JW X G (QX X (PV G z) G) 3 2 [(0, rf G 38), (1, .int x1), (2, .int x2)] [] σ := by
  intro n
  induction n with
  | zero =>
    intro x1 x2 σ hF
    rw [f_M_tryPeriods_2] at hF
    cases hF
  | succ n ih =>
    intro x1 x2 σ hF
    rw [f_M_tryPeriods_2] at hF
    refine j_iload_n C d_M_tryPeriods_2 rfl 2 rfl ?_
    refine j_iload_n C d_M_tryPeriods_3 rfl 1 rfl ?_
    refine j_icmp_ge C 21 d_M_tryPeriods_4 (by decide) hF (fun q4 hF => ?_) (fun q4 hF => ?_)
    · cases hF
      exact j_vret C hr d_M_tryPeriods_21 rfl
    · refine j_aload_n C d_M_tryPeriods_7 rfl 0 rfl ?_
      refine j_aload_n C d_M_tryPeriods_8 rfl 0 rfl ?_
      refine g_M_trial C (rfl : kdf 38 = 8) wd_674 d_M_tryPeriods_9 ?_
      obtain ⟨r12, h12, hF⟩ := g_bind hF
      refine j_vv C (As := [rf G 44]) (st := []) (c_M_goOn (XL X) G 44 σ (rfl : kdf 44 = 15) h12) (rfl : kdf 38 = 8) (by decide) rfl rfl m_M_goOn wd_926 rfl rfl (Nat.le_of_ble_eq_true rfl) ⟨by decide, by decide⟩ d_M_tryPeriods_12 ?_
      refine j_iinc C (v := x2 + (1 : Int32)) (lv' := [(2, .int (x2 + (1 : Int32))), (0, rf G 38), (1, .int x1)]) d_M_tryPeriods_15 2 rfl rfl (by decide) rfl ?_
      refine j_goto C 2 d_M_tryPeriods_18 (by decide) ?_
      refine j_sub C [(0, rf G 38), (1, .int x1), (2, .int (x2 + (1 : Int32)))] [1, 2, 0] rfl ?_
      exact ih x1 (x2 + (1 : Int32)) r12 hF
set_option maxHeartbeats 4000000 in
set_option maxRecDepth 100000 in
theorem c_M_tryPeriods (l : Launch) (G : GT) (x1 : Int32) (σ : MT)  {z : MT} (hF : f_M_tryPeriods x1 σ = some z) : CTV l G y_M_tryPeriods b_M_tryPeriods 3 none 6 158 [rf G 38, .int x1] σ z := by
  refine entX [(0, rf G 38), (1, .int x1)] "TimeFloodModel" (by decide +kernel) rfl rfl (Nat.le_of_ble_eq_true rfl) (fun X hXl hr C => ?_)
  unfold f_M_tryPeriods at hF
  refine j_iconst C (v := 0) d_M_tryPeriods_0 (by decide) ?_
  refine j_istore_n C (lv' := [(2, .int (0 : Int32)), (0, rf G 38), (1, .int x1)]) d_M_tryPeriods_1 rfl (by decide) rfl ?_
  refine j_sub C [(0, rf G 38), (1, .int x1), (2, .int (0 : Int32))] [1, 2, 0] rfl ?_
  exact b_M_tryPeriods_2 C hr 1100 x1 (0 : Int32) σ hF
set_option maxHeartbeats 4000000 in
set_option maxRecDepth 100000 in
theorem c_M_isOn (l : Launch) (G : GT) (k0 : Nat) (x1 : Int32) (σ : MT) (hk0 : kdf k0 = 15) {z : Int32} (hF : f_M_isOn k0 x1 σ = some z) : CTI l G y_M_isOn b_M_isOn 2 (some .boolean) 0 0 [rf G k0, .int x1] σ z σ := by
  refine entX [(0, rf G k0), (1, .int x1)] "TimeFloodModel" (by decide +kernel) rfl rfl (Nat.le_of_ble_eq_true rfl) (fun X hXl hr C => ?_)
  unfold f_M_isOn at hF
  refine j_aload_n C d_M_isOn_0 rfl 0 rfl ?_
  refine j_bipush C (v := 19) d_M_isOn_1 (by decide) ?_
  refine j_iload_n C d_M_isOn_3 rfl 1 rfl ?_
  refine j_imul C d_M_isOn_4 ?_
  refine j_iconst C (v := 0) d_M_isOn_5 (by decide) ?_
  refine j_iadd C d_M_isOn_6 ?_
  obtain ⟨q7, hF⟩ := g_if hF
  refine j_iald C hk0 (by decide) rfl (inb_v q7) d_M_isOn_7 ?_
  refine j_iconst C (v := 1) d_M_isOn_8 (by decide) ?_
  refine j_icmp_ne C 16 d_M_isOn_9 (by decide) hF (fun q9 hF => ?_) (fun q9 hF => ?_)
  · refine j_iconst C (v := 0) d_M_isOn_16 (by decide) ?_
    cases hF
    exact j_zret (st := []) C hr rfl d_M_isOn_17 rfl rfl
  · refine j_iconst C (v := 1) d_M_isOn_12 (by decide) ?_
    refine j_goto C 17 d_M_isOn_13 (by decide) ?_
    cases hF
    exact j_zret (st := []) C hr rfl d_M_isOn_17 rfl rfl
set_option maxHeartbeats 4000000 in
set_option maxRecDepth 100000 in
theorem c_M_missOf (l : Launch) (G : GT) (k1 : Nat) (x2 : Int32) (σ : MT) (hk1 : kdf k1 = 15) {z : Int32} (hF : f_M_missOf k1 x2 σ = some z) : CTI l G y_M_missOf b_M_missOf 5 (some .int) 4 112 [rf G 38, rf G k1, .int x2] σ z σ := by
  refine entX [(0, rf G 38), (1, rf G k1), (2, .int x2)] "TimeFloodModel" (by decide +kernel) rfl rfl (Nat.le_of_ble_eq_true rfl) (fun X hXl hr C => ?_)
  unfold f_M_missOf at hF
  refine j_aload_n C d_M_missOf_0 rfl 1 rfl ?_
  refine j_bipush C (v := 19) d_M_missOf_1 (by decide) ?_
  refine j_iload_n C d_M_missOf_3 rfl 2 rfl ?_
  refine j_imul C d_M_missOf_4 ?_
  refine j_iconst C (v := 2) d_M_missOf_5 (by decide) ?_
  refine j_iadd C d_M_missOf_6 ?_
  obtain ⟨q7, hF⟩ := g_if hF
  refine j_iald C hk1 (by decide) rfl (inb_v q7) d_M_missOf_7 ?_
  refine j_istore_n C (lv' := [(3, .int (σ.1 k1 (((19 : Int32) * x2) + (2 : Int32)).toNatClampNeg)), (0, rf G 38), (1, rf G k1), (2, .int x2)]) d_M_missOf_8 rfl (by decide) rfl ?_
  refine j_aload_n C d_M_missOf_9 rfl 2 rfl ?_
  refine j_iload_n C d_M_missOf_10 rfl 3 rfl ?_
  obtain ⟨r11, h11, hF⟩ := g_bind hF
  refine j_si C (As := [rf G k1, .int x2]) (st := []) (c_M_isOn (XL X) G k1 x2 σ hk1 h11) m_M_isOn wd_849 rfl rfl (Nat.le_of_ble_eq_true rfl) ⟨by decide, by decide⟩ d_M_missOf_11 ?_
  refine j_if_eq C 23 d_M_missOf_14 (by decide) hF (fun q14 hF => ?_) (fun q14 hF => ?_)
  · refine j_bipush C (v := -9) d_M_missOf_23 (by decide) ?_
    cases hF
    exact j_iret (st := []) C hr d_M_missOf_25 rfl rfl
  · refine j_iload_n C d_M_missOf_17 rfl 0 rfl ?_
    refine j_bipush C (v := -9) d_M_missOf_18 (by decide) ?_
    refine j_icmp_ne C 26 d_M_missOf_20 (by decide) hF (fun q20 hF => ?_) (fun q20 hF => ?_)
    · refine j_aload_n C d_M_missOf_26 rfl 1 rfl ?_
      refine j_aload_n C d_M_missOf_27 rfl 2 rfl ?_
      refine j_iload_n C d_M_missOf_28 rfl 3 rfl ?_
      obtain ⟨r29, h29, hF⟩ := g_bind hF
      refine j_vi C (As := [rf G k1, .int x2]) (st := []) (c_M_estimate (XL X) G k1 x2 σ hk1 h29) (rfl : kdf 38 = 8) (by decide) rfl rfl m_M_estimate wd_860 rfl rfl (Nat.le_of_ble_eq_true rfl) ⟨by decide, by decide⟩ d_M_missOf_29 ?_
      refine j_istore C (lv' := [(4, .int r29), (3, .int (σ.1 k1 (((19 : Int32) * x2) + (2 : Int32)).toNatClampNeg)), (0, rf G 38), (1, rf G k1), (2, .int x2)]) d_M_missOf_32 (by decide) rfl ?_
      refine j_iload C d_M_missOf_34 0 rfl ?_
      refine j_bipush C (v := -9) d_M_missOf_36 (by decide) ?_
      refine j_icmp_ne C 46 d_M_missOf_38 (by decide) hF (fun q38 hF => ?_) (fun q38 hF => ?_)
      · refine j_sipush C (v := 1000) d_M_missOf_46 (by decide) ?_
        refine j_iload C d_M_missOf_49 0 rfl ?_
        refine j_aload_n C d_M_missOf_51 rfl 2 rfl ?_
        refine j_aload_n C d_M_missOf_52 rfl 3 rfl ?_
        refine j_iload_n C d_M_missOf_53 rfl 1 rfl ?_
        obtain ⟨r54, h54, hF⟩ := g_bind hF
        refine j_vi C (As := [rf G k1, .int (σ.1 k1 (((19 : Int32) * x2) + (2 : Int32)).toNatClampNeg)]) (st := [.int r29, .int (1000 : Int32)]) (c_M_clockOf (XL X) G k1 (σ.1 k1 (((19 : Int32) * x2) + (2 : Int32)).toNatClampNeg) σ hk1 h54) (rfl : kdf 38 = 8) (by decide) rfl rfl m_M_clockOf wd_864 rfl rfl (Nat.le_of_ble_eq_true rfl) ⟨by decide, by decide⟩ d_M_missOf_54 ?_
        refine j_isub C d_M_missOf_57 ?_
        refine j_i2l C d_M_missOf_58 ?_
        obtain ⟨r59, h59, hF⟩ := g_bind hF
        refine j_si C (As := [.long ((r29 - r54).toInt64)]) (st := [.int (1000 : Int32)]) (c_M_near (XL X) G ((r29 - r54).toInt64) σ h59) m_M_near wd_877 rfl rfl (Nat.le_of_ble_eq_true rfl) ⟨by decide, by decide⟩ d_M_missOf_59 ?_
        refine j_iadd C d_M_missOf_62 ?_
        cases hF
        exact j_iret (st := []) C hr d_M_missOf_63 rfl rfl
      · refine j_bipush C (v := -9) d_M_missOf_41 (by decide) ?_
        refine j_goto C 63 d_M_missOf_43 (by decide) ?_
        cases hF
        exact j_iret (st := []) C hr d_M_missOf_63 rfl rfl
    · refine j_bipush C (v := -9) d_M_missOf_23 (by decide) ?_
      cases hF
      exact j_iret (st := []) C hr d_M_missOf_25 rfl rfl
set_option maxHeartbeats 4000000 in
set_option maxRecDepth 100000 in
theorem b_M_inTime_39 {X : XT} {G : GT} {z : Int32} {K4 : Nat → Int32 → Int32 → MT → Option Int32} {σ : MT} (C : CX X G b_M_inTime 4 "TimeFloodModel" 5 136) (hr : XR X (some .int)) (hK4 : ∀ (k1 : Nat) (x2 : Int32) (x3 : Int32) (hk1 : kdf k1 = 15), K4 k1 x2 x3 σ = some z → JW X G (QX X (PI G z σ) G) 4 4 [(0, rf G 38), (1, rf G k1), (2, .int x2), (3, .int x3)] [] σ) (k1 : Nat) (x3 : Int32) (xs0 : Int32) (xs1 : Int32) (hk1 : kdf k1 = 15) (hF : f_M_inTime_39 K4 k1 x3 xs0 xs1 σ = some z) : JW X G (QX X (PI G z σ) G) 4 39 [(0, rf G 38), (1, rf G k1), (3, .int x3)] [.int xs0, .int xs1] σ := by
  unfold f_M_inTime_39 at hF
  refine j_ior C d_M_inTime_39 ?_
  refine j_istore_n C (lv' := [(2, .int (xs1 ||| xs0)), (0, rf G 38), (1, rf G k1), (3, .int x3)]) d_M_inTime_40 rfl (by decide) rfl ?_
  refine j_iinc C (v := x3 + (1 : Int32)) (lv' := [(3, .int (x3 + (1 : Int32))), (2, .int (xs1 ||| xs0)), (0, rf G 38), (1, rf G k1)]) d_M_inTime_41 3 rfl rfl (by decide) rfl ?_
  refine j_goto C 4 d_M_inTime_44 (by decide) ?_
  refine j_sub C [(0, rf G 38), (1, rf G k1), (2, .int (xs1 ||| xs0)), (3, .int (x3 + (1 : Int32)))] [2, 3, 1, 0] rfl ?_
  exact hK4 k1 (xs1 ||| xs0) (x3 + (1 : Int32)) hk1 hF
set_option maxHeartbeats 4000000 in
set_option maxRecDepth 100000 in
theorem b_M_inTime_4 {X : XT} {G : GT} {z : Int32} {σ : MT} (C : CX X G b_M_inTime 4 "TimeFloodModel" 5 136) (hr : XR X (some .int)) : ∀ (n : Nat) (k1 : Nat) (x2 : Int32) (x3 : Int32) (hk1 : kdf k1 = 15), f_M_inTime_4 n k1 x2 x3 σ = some z → JW X G (QX X (PI G z σ) G) 4 4 [(0, rf G 38), (1, rf G k1), (2, .int x2), (3, .int x3)] [] σ := by
  intro n
  induction n with
  | zero =>
    intro k1 x2 x3 hk1 hF
    rw [f_M_inTime_4] at hF
    cases hF
  | succ n ih =>
    intro k1 x2 x3 hk1 hF
    rw [f_M_inTime_4] at hF
    refine j_iload_n C d_M_inTime_4 rfl 3 rfl ?_
    refine j_aload_n C d_M_inTime_5 rfl 0 rfl ?_
    refine g_M_nodes C (rfl : kdf 38 = 8) wd_668 d_M_inTime_6 ?_
    refine j_icmp_ge C 47 d_M_inTime_9 (by decide) hF (fun q9 hF => ?_) (fun q9 hF => ?_)
    · refine j_iload_n C d_M_inTime_47 rfl 2 rfl ?_
      cases hF
      exact j_iret (st := []) C hr d_M_inTime_48 rfl rfl
    · refine j_iload_n C d_M_inTime_12 rfl 2 rfl ?_
      refine j_aload_n C d_M_inTime_13 rfl 0 rfl ?_
      refine j_aload_n C d_M_inTime_14 rfl 1 rfl ?_
      refine j_iload_n C d_M_inTime_15 rfl 3 rfl ?_
      obtain ⟨r16, h16, hF⟩ := g_bind hF
      refine j_vi C (As := [rf G k1, .int x3]) (st := [.int x2]) (c_M_missOf (XL X) G k1 x3 σ hk1 h16) (rfl : kdf 38 = 8) (by decide) rfl rfl m_M_missOf wd_856 rfl rfl (Nat.le_of_ble_eq_true rfl) ⟨by decide, by decide⟩ d_M_inTime_16 ?_
      refine j_i2l C d_M_inTime_19 ?_
      refine j_ldc2 C wd_880 d_M_inTime_20 ?_
      refine j_ldc2 C wd_881 d_M_inTime_23 ?_
      obtain ⟨r26, h26, hF⟩ := g_bind hF
      refine j_si C (As := [.long r16.toInt64, .long (997 : Int64), .long (1003 : Int64)]) (st := [.int x2]) (c_M_in (XL X) G r16.toInt64 (997 : Int64) (1003 : Int64) σ h26) m_M_in wd_786 rfl rfl (Nat.le_of_ble_eq_true rfl) ⟨by decide, by decide⟩ d_M_inTime_26 ?_
      refine j_if_eq C 38 d_M_inTime_29 (by decide) hF (fun q29 hF => ?_) (fun q29 hF => ?_)
      · refine j_iconst C (v := 0) d_M_inTime_38 (by decide) ?_
        refine j_sub C [(0, rf G 38), (1, rf G k1), (3, .int x3)] [0, 1, 3] rfl ?_
        exact b_M_inTime_39 C hr ih k1 x3 (0 : Int32) x2 hk1 hF
      · refine j_iconst C (v := 1) d_M_inTime_32 (by decide) ?_
        refine j_iload_n C d_M_inTime_33 rfl 3 rfl ?_
        refine j_ishl C d_M_inTime_34 ?_
        refine j_goto C 39 d_M_inTime_35 (by decide) ?_
        refine j_sub C [(0, rf G 38), (1, rf G k1), (3, .int x3)] [0, 1, 3] rfl ?_
        exact b_M_inTime_39 C hr ih k1 x3 ((1 : Int32) <<< (x3 &&& 31)) x2 hk1 hF
set_option maxHeartbeats 4000000 in
set_option maxRecDepth 100000 in
theorem c_M_inTime (l : Launch) (G : GT) (k1 : Nat) (σ : MT) (hk1 : kdf k1 = 15) {z : Int32} (hF : f_M_inTime k1 σ = some z) : CTI l G y_M_inTime b_M_inTime 4 (some .int) 5 136 [rf G 38, rf G k1] σ z σ := by
  refine entX [(0, rf G 38), (1, rf G k1)] "TimeFloodModel" (by decide +kernel) rfl rfl (Nat.le_of_ble_eq_true rfl) (fun X hXl hr C => ?_)
  unfold f_M_inTime at hF
  refine j_iconst C (v := 0) d_M_inTime_0 (by decide) ?_
  refine j_istore_n C (lv' := [(2, .int (0 : Int32)), (0, rf G 38), (1, rf G k1)]) d_M_inTime_1 rfl (by decide) rfl ?_
  refine j_iconst C (v := 0) d_M_inTime_2 (by decide) ?_
  refine j_istore_n C (lv' := [(3, .int (0 : Int32)), (2, .int (0 : Int32)), (0, rf G 38), (1, rf G k1)]) d_M_inTime_3 rfl (by decide) rfl ?_
  refine j_sub C [(0, rf G 38), (1, rf G k1), (2, .int (0 : Int32)), (3, .int (0 : Int32))] [2, 3, 1, 0] rfl ?_
  exact b_M_inTime_4 C hr 1100 k1 (0 : Int32) (0 : Int32) hk1 hF
set_option maxHeartbeats 4000000 in
set_option maxRecDepth 100000 in
theorem b_M_isOne_74 {X : XT} {G : GT} {z : Int32} {K11 : Nat → Int32 → Int32 → Int32 → Int32 → MT → Option Int32} {σ : MT} (C : CX X G b_M_isOne 7 "TimeFloodModel" 1 21) (hr : XR X (some .boolean)) (hK11 : ∀ (k1 : Nat) (x2 : Int32) (x3 : Int32) (x4 : Int32) (x5 : Int32) (hk1 : kdf k1 = 15), K11 k1 x2 x3 x4 x5 σ = some z → JW X G (QX X (PI G z σ) G) 7 11 [(0, rf G 38), (1, rf G k1), (2, .int x2), (3, .int x3), (4, .int x4), (5, .int x5)] [] σ) (k1 : Nat) (x2 : Int32) (x3 : Int32) (x4 : Int32) (x5 : Int32) (hk1 : kdf k1 = 15) (hF : f_M_isOne_74 K11 k1 x2 x3 x4 x5 σ = some z) : JW X G (QX X (PI G z σ) G) 7 74 [(0, rf G 38), (1, rf G k1), (2, .int x2), (3, .int x3), (4, .int x4), (5, .int x5)] [] σ := by
  unfold f_M_isOne_74 at hF
  refine j_iinc C (v := x5 + (1 : Int32)) (lv' := [(5, .int (x5 + (1 : Int32))), (0, rf G 38), (1, rf G k1), (2, .int x2), (3, .int x3), (4, .int x4)]) d_M_isOne_74 5 rfl rfl (by decide) rfl ?_
  refine j_goto C 11 d_M_isOne_77 (by decide) ?_
  refine j_sub C [(0, rf G 38), (1, rf G k1), (2, .int x2), (3, .int x3), (4, .int x4), (5, .int (x5 + (1 : Int32)))] [1, 2, 3, 4, 5, 0] rfl ?_
  exact hK11 k1 x2 x3 x4 (x5 + (1 : Int32)) hk1 hF
set_option maxHeartbeats 4000000 in
set_option maxRecDepth 100000 in
theorem b_M_isOne_67 {X : XT} {G : GT} {z : Int32} {K11 : Nat → Int32 → Int32 → Int32 → Int32 → MT → Option Int32} {σ : MT} (C : CX X G b_M_isOne 7 "TimeFloodModel" 1 21) (hr : XR X (some .boolean)) (hK11 : ∀ (k1 : Nat) (x2 : Int32) (x3 : Int32) (x4 : Int32) (x5 : Int32) (hk1 : kdf k1 = 15), K11 k1 x2 x3 x4 x5 σ = some z → JW X G (QX X (PI G z σ) G) 7 11 [(0, rf G 38), (1, rf G k1), (2, .int x2), (3, .int x3), (4, .int x4), (5, .int x5)] [] σ) (k1 : Nat) (x5 : Int32) (x6 : Int32) (xs0 : Int32) (hk1 : kdf k1 = 15) (hF : f_M_isOne_67 K11 k1 x5 x6 xs0 σ = some z) : JW X G (QX X (PI G z σ) G) 7 67 [(0, rf G 38), (1, rf G k1), (5, .int x5), (6, .int x6)] [.int xs0] σ := by
  unfold f_M_isOne_67 at hF
  refine j_istore_n C (lv' := [(3, .int xs0), (0, rf G 38), (1, rf G k1), (5, .int x5), (6, .int x6)]) d_M_isOne_67 rfl (by decide) rfl ?_
  refine j_iload C d_M_isOne_68 4 rfl ?_
  refine j_istore_n C (lv' := [(2, .int x6), (3, .int xs0), (0, rf G 38), (1, rf G k1), (5, .int x5), (6, .int x6)]) d_M_isOne_70 rfl (by decide) rfl ?_
  refine j_iconst C (v := 1) d_M_isOne_71 (by decide) ?_
  refine j_istore C (lv' := [(4, .int (1 : Int32)), (2, .int x6), (3, .int xs0), (0, rf G 38), (1, rf G k1), (5, .int x5), (6, .int x6)]) d_M_isOne_72 (by decide) rfl ?_
  refine j_sub C [(0, rf G 38), (1, rf G k1), (2, .int x6), (3, .int xs0), (4, .int (1 : Int32)), (5, .int x5)] [3, 4, 1, 2, 0, 5] rfl ?_
  exact b_M_isOne_74 C hr hK11 k1 x6 xs0 (1 : Int32) x5 hk1 hF
set_option maxHeartbeats 4000000 in
set_option maxRecDepth 100000 in
theorem b_M_isOne_66 {X : XT} {G : GT} {z : Int32} {K11 : Nat → Int32 → Int32 → Int32 → Int32 → MT → Option Int32} {σ : MT} (C : CX X G b_M_isOne 7 "TimeFloodModel" 1 21) (hr : XR X (some .boolean)) (hK11 : ∀ (k1 : Nat) (x2 : Int32) (x3 : Int32) (x4 : Int32) (x5 : Int32) (hk1 : kdf k1 = 15), K11 k1 x2 x3 x4 x5 σ = some z → JW X G (QX X (PI G z σ) G) 7 11 [(0, rf G 38), (1, rf G k1), (2, .int x2), (3, .int x3), (4, .int x4), (5, .int x5)] [] σ) (k1 : Nat) (x5 : Int32) (x6 : Int32) (hk1 : kdf k1 = 15) (hF : f_M_isOne_66 K11 k1 x5 x6 σ = some z) : JW X G (QX X (PI G z σ) G) 7 66 [(0, rf G 38), (1, rf G k1), (5, .int x5), (6, .int x6)] [] σ := by
  unfold f_M_isOne_66 at hF
  refine j_iconst C (v := 0) d_M_isOne_66 (by decide) ?_
  exact b_M_isOne_67 C hr hK11 k1 x5 x6 (0 : Int32) hk1 hF
set_option maxHeartbeats 4000000 in
set_option maxRecDepth 100000 in
theorem b_M_isOne_62 {X : XT} {G : GT} {z : Int32} {K11 : Nat → Int32 → Int32 → Int32 → Int32 → MT → Option Int32} {σ : MT} (C : CX X G b_M_isOne 7 "TimeFloodModel" 1 21) (hr : XR X (some .boolean)) (hK11 : ∀ (k1 : Nat) (x2 : Int32) (x3 : Int32) (x4 : Int32) (x5 : Int32) (hk1 : kdf k1 = 15), K11 k1 x2 x3 x4 x5 σ = some z → JW X G (QX X (PI G z σ) G) 7 11 [(0, rf G 38), (1, rf G k1), (2, .int x2), (3, .int x3), (4, .int x4), (5, .int x5)] [] σ) (k1 : Nat) (x5 : Int32) (x6 : Int32) (hk1 : kdf k1 = 15) (hF : f_M_isOne_62 K11 k1 x5 x6 σ = some z) : JW X G (QX X (PI G z σ) G) 7 62 [(0, rf G 38), (1, rf G k1), (5, .int x5), (6, .int x6)] [] σ := by
  unfold f_M_isOne_62 at hF
  refine j_iconst C (v := 1) d_M_isOne_62 (by decide) ?_
  refine j_goto C 67 d_M_isOne_63 (by decide) ?_
  exact b_M_isOne_67 C hr hK11 k1 x5 x6 (1 : Int32) hk1 hF
set_option maxHeartbeats 4000000 in
set_option maxRecDepth 100000 in
theorem b_M_isOne_11 {X : XT} {G : GT} {z : Int32} {σ : MT} (C : CX X G b_M_isOne 7 "TimeFloodModel" 1 21) (hr : XR X (some .boolean)) : ∀ (n : Nat) (k1 : Nat) (x2 : Int32) (x3 : Int32) (x4 : Int32) (x5 : Int32) (hk1 : kdf k1 = 15), f_M_isOne_11 n k1 x2 x3 x4 x5 σ = some z → JW X G (QX X (PI G z σ) G) 7 11 [(0, rf G 38), (1, rf G k1), (2, .int x2), (3, .int x3), (4, .int x4), (5, .int x5)] [] σ := by
  intro n
  induction n with
  | zero =>
    intro k1 x2 x3 x4 x5 hk1 hF
    rw [f_M_isOne_11] at hF
    cases hF
  | succ n ih =>
    intro k1 x2 x3 x4 x5 hk1 hF
    rw [f_M_isOne_11] at hF
    refine j_iload C d_M_isOne_11 5 rfl ?_
    refine j_aload_n C d_M_isOne_13 rfl 0 rfl ?_
    refine g_M_nodes C (rfl : kdf 38 = 8) wd_668 d_M_isOne_14 ?_
    refine j_icmp_ge C 80 d_M_isOne_17 (by decide) hF (fun q17 hF => ?_) (fun q17 hF => ?_)
    · refine j_iload_n C d_M_isOne_80 rfl 3 rfl ?_
      obtain ⟨qz, hF⟩ := g_if hF
      cases hF
      exact j_zret (st := []) C hr (zb_n (zbb_z qz)) d_M_isOne_81 rfl rfl
    · refine j_aload_n C d_M_isOne_20 rfl 1 rfl ?_
      refine j_iload C d_M_isOne_21 5 rfl ?_
      obtain ⟨r23, h23, hF⟩ := g_bind hF
      refine j_si C (As := [rf G k1, .int x5]) (st := []) (c_M_isOn (XL X) G k1 x5 σ hk1 h23) m_M_isOn wd_849 rfl rfl (Nat.le_of_ble_eq_true rfl) ⟨by decide, by decide⟩ d_M_isOne_23 ?_
      refine j_if_eq C 74 d_M_isOne_26 (by decide) hF (fun q26 hF => ?_) (fun q26 hF => ?_)
      · exact b_M_isOne_74 C hr ih k1 x2 x3 x4 x5 hk1 hF
      · refine j_aload_n C d_M_isOne_29 rfl 1 rfl ?_
        refine j_bipush C (v := 19) d_M_isOne_30 (by decide) ?_
        refine j_iload C d_M_isOne_32 5 rfl ?_
        refine j_imul C d_M_isOne_34 ?_
        refine j_iconst C (v := 2) d_M_isOne_35 (by decide) ?_
        refine j_iadd C d_M_isOne_36 ?_
        obtain ⟨q37, hF⟩ := g_if hF
        refine j_iald C hk1 (by decide) rfl (inb_v q37) d_M_isOne_37 ?_
        refine j_istore C (lv' := [(6, .int (σ.1 k1 (((19 : Int32) * x5) + (2 : Int32)).toNatClampNeg)), (0, rf G 38), (1, rf G k1), (2, .int x2), (3, .int x3), (4, .int x4), (5, .int x5)]) d_M_isOne_38 (by decide) rfl ?_
        refine j_iload_n C d_M_isOne_40 rfl 4 rfl ?_
        refine j_if_eq C 66 d_M_isOne_41 (by decide) hF (fun q41 hF => ?_) (fun q41 hF => ?_)
        · refine j_sub C [(0, rf G 38), (1, rf G k1), (5, .int x5), (6, .int (σ.1 k1 (((19 : Int32) * x5) + (2 : Int32)).toNatClampNeg))] [1, 2, 6, 0] rfl ?_
          exact b_M_isOne_66 C hr ih k1 x5 (σ.1 k1 (((19 : Int32) * x5) + (2 : Int32)).toNatClampNeg) hk1 hF
        · refine j_iload C d_M_isOne_44 0 rfl ?_
          refine j_bipush C (v := -9) d_M_isOne_46 (by decide) ?_
          refine j_icmp_eq C 66 d_M_isOne_48 (by decide) hF (fun q48 hF => ?_) (fun q48 hF => ?_)
          · refine j_sub C [(0, rf G 38), (1, rf G k1), (5, .int x5), (6, .int (σ.1 k1 (((19 : Int32) * x5) + (2 : Int32)).toNatClampNeg))] [1, 2, 6, 0] rfl ?_
            exact b_M_isOne_66 C hr ih k1 x5 (σ.1 k1 (((19 : Int32) * x5) + (2 : Int32)).toNatClampNeg) hk1 hF
          · refine j_iload C d_M_isOne_51 5 rfl ?_
            refine j_if_eq C 62 d_M_isOne_53 (by decide) hF (fun q53 hF => ?_) (fun q53 hF => ?_)
            · refine j_sub C [(0, rf G 38), (1, rf G k1), (5, .int x5), (6, .int (σ.1 k1 (((19 : Int32) * x5) + (2 : Int32)).toNatClampNeg))] [1, 2, 6, 0] rfl ?_
              exact b_M_isOne_62 C hr ih k1 x5 (σ.1 k1 (((19 : Int32) * x5) + (2 : Int32)).toNatClampNeg) hk1 hF
            · refine j_iload C d_M_isOne_56 0 rfl ?_
              refine j_iload_n C d_M_isOne_58 rfl 3 rfl ?_
              refine j_icmp_ne C 66 d_M_isOne_59 (by decide) hF (fun q59 hF => ?_) (fun q59 hF => ?_)
              · refine j_sub C [(0, rf G 38), (1, rf G k1), (5, .int x5), (6, .int (σ.1 k1 (((19 : Int32) * x5) + (2 : Int32)).toNatClampNeg))] [1, 2, 6, 0] rfl ?_
                exact b_M_isOne_66 C hr ih k1 x5 (σ.1 k1 (((19 : Int32) * x5) + (2 : Int32)).toNatClampNeg) hk1 hF
              · refine j_sub C [(0, rf G 38), (1, rf G k1), (5, .int x5), (6, .int (σ.1 k1 (((19 : Int32) * x5) + (2 : Int32)).toNatClampNeg))] [1, 2, 6, 0] rfl ?_
                exact b_M_isOne_62 C hr ih k1 x5 (σ.1 k1 (((19 : Int32) * x5) + (2 : Int32)).toNatClampNeg) hk1 hF
set_option maxHeartbeats 4000000 in
set_option maxRecDepth 100000 in
theorem c_M_isOne (l : Launch) (G : GT) (k1 : Nat) (σ : MT) (hk1 : kdf k1 = 15) {z : Int32} (hF : f_M_isOne k1 σ = some z) : CTI l G y_M_isOne b_M_isOne 7 (some .boolean) 1 21 [rf G 38, rf G k1] σ z σ := by
  refine entX [(0, rf G 38), (1, rf G k1)] "TimeFloodModel" (by decide +kernel) rfl rfl (Nat.le_of_ble_eq_true rfl) (fun X hXl hr C => ?_)
  unfold f_M_isOne at hF
  refine j_bipush C (v := -9) d_M_isOne_0 (by decide) ?_
  refine j_istore_n C (lv' := [(2, .int (-9 : Int32)), (0, rf G 38), (1, rf G k1)]) d_M_isOne_2 rfl (by decide) rfl ?_
  refine j_iconst C (v := 1) d_M_isOne_3 (by decide) ?_
  refine j_istore_n C (lv' := [(3, .int (1 : Int32)), (2, .int (-9 : Int32)), (0, rf G 38), (1, rf G k1)]) d_M_isOne_4 rfl (by decide) rfl ?_
  refine j_iconst C (v := 0) d_M_isOne_5 (by decide) ?_
  refine j_istore C (lv' := [(4, .int (0 : Int32)), (3, .int (1 : Int32)), (2, .int (-9 : Int32)), (0, rf G 38), (1, rf G k1)]) d_M_isOne_6 (by decide) rfl ?_
  refine j_iconst C (v := 0) d_M_isOne_8 (by decide) ?_
  refine j_istore C (lv' := [(5, .int (0 : Int32)), (4, .int (0 : Int32)), (3, .int (1 : Int32)), (2, .int (-9 : Int32)), (0, rf G 38), (1, rf G k1)]) d_M_isOne_9 (by decide) rfl ?_
  refine j_sub C [(0, rf G 38), (1, rf G k1), (2, .int (-9 : Int32)), (3, .int (1 : Int32)), (4, .int (0 : Int32)), (5, .int (0 : Int32))] [4, 5, 3, 2, 1, 0] rfl ?_
  exact b_M_isOne_11 C hr 1100 k1 (-9 : Int32) (1 : Int32) (0 : Int32) (0 : Int32) hk1 hF
set_option maxHeartbeats 4000000 in
set_option maxRecDepth 100000 in
theorem b_M_those_50 {X : XT} {G : GT} {z : Int32} {K4 : Int32 → Int32 → Int32 → MT → Option Int32} {σ : MT} (C : CX X G b_M_those 4 "TimeFloodModel" 1 21) (hr : XR X (some .int)) (hK4 : ∀ (x1 : Int32) (x2 : Int32) (x3 : Int32), K4 x1 x2 x3 σ = some z → JW X G (QX X (PI G z σ) G) 4 4 [(0, rf G 38), (1, .int x1), (2, .int x2), (3, .int x3)] [] σ) (x1 : Int32) (x3 : Int32) (xs0 : Int32) (xs1 : Int32) (hF : f_M_those_50 K4 x1 x3 xs0 xs1 σ = some z) : JW X G (QX X (PI G z σ) G) 4 50 [(0, rf G 38), (1, .int x1), (3, .int x3)] [.int xs0, .int xs1] σ := by
  unfold f_M_those_50 at hF
  refine j_ior C d_M_those_50 ?_
  refine j_istore_n C (lv' := [(2, .int (xs1 ||| xs0)), (0, rf G 38), (1, .int x1), (3, .int x3)]) d_M_those_51 rfl (by decide) rfl ?_
  refine j_iinc C (v := x3 + (1 : Int32)) (lv' := [(3, .int (x3 + (1 : Int32))), (2, .int (xs1 ||| xs0)), (0, rf G 38), (1, .int x1)]) d_M_those_52 3 rfl rfl (by decide) rfl ?_
  refine j_goto C 4 d_M_those_55 (by decide) ?_
  refine j_sub C [(0, rf G 38), (1, .int x1), (2, .int (xs1 ||| xs0)), (3, .int (x3 + (1 : Int32)))] [2, 3, 1, 0] rfl ?_
  exact hK4 x1 (xs1 ||| xs0) (x3 + (1 : Int32)) hF
set_option maxHeartbeats 4000000 in
set_option maxRecDepth 100000 in
theorem b_M_those_49 {X : XT} {G : GT} {z : Int32} {K4 : Int32 → Int32 → Int32 → MT → Option Int32} {σ : MT} (C : CX X G b_M_those 4 "TimeFloodModel" 1 21) (hr : XR X (some .int)) (hK4 : ∀ (x1 : Int32) (x2 : Int32) (x3 : Int32), K4 x1 x2 x3 σ = some z → JW X G (QX X (PI G z σ) G) 4 4 [(0, rf G 38), (1, .int x1), (2, .int x2), (3, .int x3)] [] σ) (x1 : Int32) (x3 : Int32) (xs0 : Int32) (hF : f_M_those_49 K4 x1 x3 xs0 σ = some z) : JW X G (QX X (PI G z σ) G) 4 49 [(0, rf G 38), (1, .int x1), (3, .int x3)] [.int xs0] σ := by
  unfold f_M_those_49 at hF
  refine j_iconst C (v := 0) d_M_those_49 (by decide) ?_
  exact b_M_those_50 C hr hK4 x1 x3 (0 : Int32) xs0 hF
set_option maxHeartbeats 4000000 in
set_option maxRecDepth 100000 in
theorem b_M_those_43 {X : XT} {G : GT} {z : Int32} {K4 : Int32 → Int32 → Int32 → MT → Option Int32} {σ : MT} (C : CX X G b_M_those 4 "TimeFloodModel" 1 21) (hr : XR X (some .int)) (hK4 : ∀ (x1 : Int32) (x2 : Int32) (x3 : Int32), K4 x1 x2 x3 σ = some z → JW X G (QX X (PI G z σ) G) 4 4 [(0, rf G 38), (1, .int x1), (2, .int x2), (3, .int x3)] [] σ) (x1 : Int32) (x3 : Int32) (xs0 : Int32) (hF : f_M_those_43 K4 x1 x3 xs0 σ = some z) : JW X G (QX X (PI G z σ) G) 4 43 [(0, rf G 38), (1, .int x1), (3, .int x3)] [.int xs0] σ := by
  unfold f_M_those_43 at hF
  refine j_iconst C (v := 1) d_M_those_43 (by decide) ?_
  refine j_iload_n C d_M_those_44 rfl 2 rfl ?_
  refine j_ishl C d_M_those_45 ?_
  refine j_goto C 50 d_M_those_46 (by decide) ?_
  exact b_M_those_50 C hr hK4 x1 x3 ((1 : Int32) <<< (x3 &&& 31)) xs0 hF
set_option maxHeartbeats 4000000 in
set_option maxRecDepth 100000 in
theorem b_M_those_4 {X : XT} {G : GT} {z : Int32} {σ : MT} (C : CX X G b_M_those 4 "TimeFloodModel" 1 21) (hr : XR X (some .int)) : ∀ (n : Nat) (x1 : Int32) (x2 : Int32) (x3 : Int32), f_M_those_4 n x1 x2 x3 σ = some z → JW X G (QX X (PI G z σ) G) 4 4 [(0, rf G 38), (1, .int x1), (2, .int x2), (3, .int x3)] [] σ := by
  intro n
  induction n with
  | zero =>
    intro x1 x2 x3 hF
    rw [f_M_those_4] at hF
    cases hF
  | succ n ih =>
    intro x1 x2 x3 hF
    rw [f_M_those_4] at hF
    refine j_iload_n C d_M_those_4 rfl 3 rfl ?_
    refine j_aload_n C d_M_those_5 rfl 0 rfl ?_
    refine g_M_nodes C (rfl : kdf 38 = 8) wd_668 d_M_those_6 ?_
    refine j_icmp_ge C 58 d_M_those_9 (by decide) hF (fun q9 hF => ?_) (fun q9 hF => ?_)
    · refine j_iload_n C d_M_those_58 rfl 2 rfl ?_
      cases hF
      exact j_iret (st := []) C hr d_M_those_59 rfl rfl
    · refine j_iload_n C d_M_those_12 rfl 2 rfl ?_
      refine j_aload_n C d_M_those_13 rfl 0 rfl ?_
      refine g_M_now C (rfl : kdf 38 = 8) wd_673 d_M_those_14 ?_
      refine j_iload_n C d_M_those_17 rfl 3 rfl ?_
      obtain ⟨r18, h18, hF⟩ := g_bind hF
      refine j_si C (As := [rf G 43, .int x3]) (st := [.int x2]) (c_M_isOn (XL X) G 43 x3 σ (rfl : kdf 43 = 15) h18) m_M_isOn wd_849 rfl rfl (Nat.le_of_ble_eq_true rfl) ⟨by decide, by decide⟩ d_M_those_18 ?_
      refine j_if_eq C 49 d_M_those_21 (by decide) hF (fun q21 hF => ?_) (fun q21 hF => ?_)
      · refine j_sub C [(0, rf G 38), (1, .int x1), (3, .int x3)] [0, 1, 3] rfl ?_
        exact b_M_those_49 C hr ih x1 x3 x2 hF
      · refine j_iload_n C d_M_those_24 rfl 1 rfl ?_
        refine j_if_eq C 43 d_M_those_25 (by decide) hF (fun q25 hF => ?_) (fun q25 hF => ?_)
        · refine j_sub C [(0, rf G 38), (1, .int x1), (3, .int x3)] [0, 1, 3] rfl ?_
          exact b_M_those_43 C hr ih x1 x3 x2 hF
        · refine j_aload_n C d_M_those_28 rfl 0 rfl ?_
          refine g_M_now C (rfl : kdf 38 = 8) wd_673 d_M_those_29 ?_
          refine j_bipush C (v := 19) d_M_those_32 (by decide) ?_
          refine j_iload_n C d_M_those_34 rfl 3 rfl ?_
          refine j_imul C d_M_those_35 ?_
          refine j_iconst C (v := 2) d_M_those_36 (by decide) ?_
          refine j_iadd C d_M_those_37 ?_
          obtain ⟨q38, hF⟩ := g_if hF
          refine j_iald C (rfl : kdf 43 = 15) (by decide) rfl (inb_v q38) d_M_those_38 ?_
          refine j_iload_n C d_M_those_39 rfl 3 rfl ?_
          refine j_icmp_ne C 49 d_M_those_40 (by decide) hF (fun q40 hF => ?_) (fun q40 hF => ?_)
          · refine j_sub C [(0, rf G 38), (1, .int x1), (3, .int x3)] [0, 1, 3] rfl ?_
            exact b_M_those_49 C hr ih x1 x3 x2 hF
          · refine j_sub C [(0, rf G 38), (1, .int x1), (3, .int x3)] [0, 1, 3] rfl ?_
            exact b_M_those_43 C hr ih x1 x3 x2 hF
set_option maxHeartbeats 4000000 in
set_option maxRecDepth 100000 in
theorem c_M_those (l : Launch) (G : GT) (x1 : Int32) (σ : MT)  {z : Int32} (hF : f_M_those x1 σ = some z) : CTI l G y_M_those b_M_those 4 (some .int) 1 21 [rf G 38, .int x1] σ z σ := by
  refine entX [(0, rf G 38), (1, .int x1)] "TimeFloodModel" (by decide +kernel) rfl rfl (Nat.le_of_ble_eq_true rfl) (fun X hXl hr C => ?_)
  unfold f_M_those at hF
  refine j_iconst C (v := 0) d_M_those_0 (by decide) ?_
  refine j_istore_n C (lv' := [(2, .int (0 : Int32)), (0, rf G 38), (1, .int x1)]) d_M_those_1 rfl (by decide) rfl ?_
  refine j_iconst C (v := 0) d_M_those_2 (by decide) ?_
  refine j_istore_n C (lv' := [(3, .int (0 : Int32)), (2, .int (0 : Int32)), (0, rf G 38), (1, .int x1)]) d_M_those_3 rfl (by decide) rfl ?_
  refine j_sub C [(0, rf G 38), (1, .int x1), (2, .int (0 : Int32)), (3, .int (0 : Int32))] [2, 3, 1, 0] rfl ?_
  exact b_M_those_4 C hr 1100 x1 (0 : Int32) (0 : Int32) hF
set_option maxHeartbeats 4000000 in
set_option maxRecDepth 100000 in
theorem b_M_downs_4 {X : XT} {G : GT} {z : Int32} {σ : MT} (C : CX X G b_M_downs 3 "TimeFloodModel" 0 0) (hr : XR X (some .int)) : ∀ (n : Nat) (x1 : Int32) (x2 : Int32), f_M_downs_4 n x1 x2 σ = some z → JW X G (QX X (PI G z σ) G) 3 4 [(0, rf G 38), (1, .int x1), (2, .int x2)] [] σ := by
  intro n
  induction n with
  | zero =>
    intro x1 x2 hF
    rw [f_M_downs_4] at hF
    cases hF
  | succ n ih =>
    intro x1 x2 hF
    rw [f_M_downs_4] at hF
    refine j_iload_n C d_M_downs_4 rfl 2 rfl ?_
    refine j_aload_n C d_M_downs_5 rfl 0 rfl ?_
    refine g_M_links C (rfl : kdf 38 = 8) wd_670 d_M_downs_6 ?_
    refine j_icmp_ge C 32 d_M_downs_9 (by decide) hF (fun q9 hF => ?_) (fun q9 hF => ?_)
    · refine j_iload_n C d_M_downs_32 rfl 1 rfl ?_
      cases hF
      exact j_iret (st := []) C hr d_M_downs_33 rfl rfl
    · refine j_iload_n C d_M_downs_12 rfl 1 rfl ?_
      refine j_aload_n C d_M_downs_13 rfl 0 rfl ?_
      refine g_M_now C (rfl : kdf 38 = 8) wd_673 d_M_downs_14 ?_
      refine j_bipush C (v := 95) d_M_downs_17 (by decide) ?_
      refine j_iload_n C d_M_downs_19 rfl 2 rfl ?_
      refine j_iadd C d_M_downs_20 ?_
      obtain ⟨q21, hF⟩ := g_if hF
      refine j_iald C (rfl : kdf 43 = 15) (by decide) rfl (inb_v q21) d_M_downs_21 ?_
      refine j_iload_n C d_M_downs_22 rfl 2 rfl ?_
      refine j_ishl C d_M_downs_23 ?_
      refine j_ior C d_M_downs_24 ?_
      refine j_istore_n C (lv' := [(1, .int (x1 ||| ((σ.1 43 ((95 : Int32) + x2).toNatClampNeg) <<< (x2 &&& 31)))), (0, rf G 38), (2, .int x2)]) d_M_downs_25 rfl (by decide) rfl ?_
      refine j_iinc C (v := x2 + (1 : Int32)) (lv' := [(2, .int (x2 + (1 : Int32))), (1, .int (x1 ||| ((σ.1 43 ((95 : Int32) + x2).toNatClampNeg) <<< (x2 &&& 31)))), (0, rf G 38)]) d_M_downs_26 2 rfl rfl (by decide) rfl ?_
      refine j_goto C 4 d_M_downs_29 (by decide) ?_
      refine j_sub C [(0, rf G 38), (1, .int (x1 ||| ((σ.1 43 ((95 : Int32) + x2).toNatClampNeg) <<< (x2 &&& 31)))), (2, .int (x2 + (1 : Int32)))] [2, 1, 0] rfl ?_
      exact ih (x1 ||| ((σ.1 43 ((95 : Int32) + x2).toNatClampNeg) <<< (x2 &&& 31))) (x2 + (1 : Int32)) hF
set_option maxHeartbeats 4000000 in
set_option maxRecDepth 100000 in
theorem c_M_downs (l : Launch) (G : GT) (σ : MT)  {z : Int32} (hF : f_M_downs σ = some z) : CTI l G y_M_downs b_M_downs 3 (some .int) 0 0 [rf G 38] σ z σ := by
  refine entX [(0, rf G 38)] "TimeFloodModel" (by decide +kernel) rfl rfl (Nat.le_of_ble_eq_true rfl) (fun X hXl hr C => ?_)
  unfold f_M_downs at hF
  refine j_iconst C (v := 0) d_M_downs_0 (by decide) ?_
  refine j_istore_n C (lv' := [(1, .int (0 : Int32)), (0, rf G 38)]) d_M_downs_1 rfl (by decide) rfl ?_
  refine j_iconst C (v := 0) d_M_downs_2 (by decide) ?_
  refine j_istore_n C (lv' := [(2, .int (0 : Int32)), (1, .int (0 : Int32)), (0, rf G 38)]) d_M_downs_3 rfl (by decide) rfl ?_
  refine j_sub C [(0, rf G 38), (1, .int (0 : Int32)), (2, .int (0 : Int32))] [2, 1, 0] rfl ?_
  exact b_M_downs_4 C hr 1100 (0 : Int32) (0 : Int32) hF
set_option maxHeartbeats 4000000 in
set_option maxRecDepth 100000 in
theorem c_M_about (l : Launch) (G : GT) (x1 : Int32) (σ : MT)  {z : Int32} (hF : f_M_about x1 σ = some z) : CTI l G y_M_about b_M_about 2 (some .int) 6 159 [rf G 38, .int x1] σ z σ := by
  refine entX [(0, rf G 38), (1, .int x1)] "TimeFloodModel" (by decide +kernel) rfl rfl (Nat.le_of_ble_eq_true rfl) (fun X hXl hr C => ?_)
  unfold f_M_about at hF
  refine j_iload_n C d_M_about_0 rfl 1 rfl ?_
  refine g_ite hF (fun q hF => ?_) (fun q1_0 hF => ?_)
  · refine j_tabIn C 72 q d_M_about_1 (by decide) (by decide) (off := 71) rfl (by decide) ?_
    refine j_aload_n C d_M_about_72 rfl 0 rfl ?_
    refine g_M_nodes C (rfl : kdf 38 = 8) wd_668 d_M_about_73 ?_
    cases hF
    exact j_iret (st := []) C hr d_M_about_76 rfl rfl
  refine g_ite hF (fun q hF => ?_) (fun q1_1 hF => ?_)
  · refine j_tabIn C 77 q d_M_about_1 (by decide) (by decide) (off := 76) rfl (by decide) ?_
    refine j_aload_n C d_M_about_77 rfl 0 rfl ?_
    refine g_M_links C (rfl : kdf 38 = 8) wd_670 d_M_about_78 ?_
    cases hF
    exact j_iret (st := []) C hr d_M_about_81 rfl rfl
  refine g_ite hF (fun q hF => ?_) (fun q1_2 hF => ?_)
  · refine j_tabIn C 82 q d_M_about_1 (by decide) (by decide) (off := 81) rfl (by decide) ?_
    refine j_aload_n C d_M_about_82 rfl 0 rfl ?_
    refine g_M_wide C (rfl : kdf 38 = 8) wd_665 d_M_about_83 ?_
    cases hF
    exact j_iret (st := []) C hr d_M_about_86 rfl rfl
  refine g_ite hF (fun q hF => ?_) (fun q1_3 hF => ?_)
  · refine j_tabIn C 87 q d_M_about_1 (by decide) (by decide) (off := 86) rfl (by decide) ?_
    refine j_aload_n C d_M_about_87 rfl 0 rfl ?_
    refine g_M_patience C (rfl : kdf 38 = 8) wd_666 d_M_about_88 ?_
    cases hF
    exact j_iret (st := []) C hr d_M_about_91 rfl rfl
  refine g_ite hF (fun q hF => ?_) (fun q1_4 hF => ?_)
  · refine j_tabIn C 92 q d_M_about_1 (by decide) (by decide) (off := 91) rfl (by decide) ?_
    refine j_aload_n C d_M_about_92 rfl 0 rfl ?_
    refine g_M_shy C (rfl : kdf 38 = 8) wd_667 d_M_about_93 ?_
    cases hF
    exact j_iret (st := []) C hr d_M_about_96 rfl rfl
  refine g_ite hF (fun q hF => ?_) (fun q1_5 hF => ?_)
  · refine j_tabIn C 97 q d_M_about_1 (by decide) (by decide) (off := 96) rfl (by decide) ?_
    refine j_aload_n C d_M_about_97 rfl 0 rfl ?_
    refine g_M_now C (rfl : kdf 38 = 8) wd_673 d_M_about_98 ?_
    refine j_bipush C (v := 102) d_M_about_101 (by decide) ?_
    obtain ⟨q103, hF⟩ := g_if hF
    refine j_iald C (rfl : kdf 43 = 15) (by decide) rfl (inb_v q103) d_M_about_103 ?_
    cases hF
    exact j_iret (st := []) C hr d_M_about_104 rfl rfl
  refine g_ite hF (fun q hF => ?_) (fun q1_6 hF => ?_)
  · refine j_tabIn C 105 q d_M_about_1 (by decide) (by decide) (off := 104) rfl (by decide) ?_
    refine j_aload_n C d_M_about_105 rfl 0 rfl ?_
    refine j_iconst C (v := 0) d_M_about_106 (by decide) ?_
    obtain ⟨r107, h107, hF⟩ := g_bind hF
    refine j_vi C (As := [.int (0 : Int32)]) (st := []) (c_M_those (XL X) G (0 : Int32) σ h107) (rfl : kdf 38 = 8) (by decide) rfl rfl m_M_those wd_845 rfl rfl (Nat.le_of_ble_eq_true rfl) ⟨by decide, by decide⟩ d_M_about_107 ?_
    cases hF
    exact j_iret (st := []) C hr d_M_about_110 rfl rfl
  refine g_ite hF (fun q hF => ?_) (fun q1_7 hF => ?_)
  · refine j_tabIn C 111 q d_M_about_1 (by decide) (by decide) (off := 110) rfl (by decide) ?_
    refine j_aload_n C d_M_about_111 rfl 0 rfl ?_
    refine j_iconst C (v := 1) d_M_about_112 (by decide) ?_
    obtain ⟨r113, h113, hF⟩ := g_bind hF
    refine j_vi C (As := [.int (1 : Int32)]) (st := []) (c_M_those (XL X) G (1 : Int32) σ h113) (rfl : kdf 38 = 8) (by decide) rfl rfl m_M_those wd_845 rfl rfl (Nat.le_of_ble_eq_true rfl) ⟨by decide, by decide⟩ d_M_about_113 ?_
    cases hF
    exact j_iret (st := []) C hr d_M_about_116 rfl rfl
  refine g_ite hF (fun q hF => ?_) (fun q1_8 hF => ?_)
  · refine j_tabIn C 117 q d_M_about_1 (by decide) (by decide) (off := 116) rfl (by decide) ?_
    refine j_aload_n C d_M_about_117 rfl 0 rfl ?_
    refine j_aload_n C d_M_about_118 rfl 0 rfl ?_
    refine g_M_now C (rfl : kdf 38 = 8) wd_673 d_M_about_119 ?_
    obtain ⟨r122, h122, hF⟩ := g_bind hF
    refine j_vi C (As := [rf G 43]) (st := []) (c_M_inTime (XL X) G 43 σ (rfl : kdf 43 = 15) h122) (rfl : kdf 38 = 8) (by decide) rfl rfl m_M_inTime wd_852 rfl rfl (Nat.le_of_ble_eq_true rfl) ⟨by decide, by decide⟩ d_M_about_122 ?_
    cases hF
    exact j_iret (st := []) C hr d_M_about_125 rfl rfl
  refine g_ite hF (fun q hF => ?_) (fun q1_9 hF => ?_)
  · refine j_tabIn C 126 q d_M_about_1 (by decide) (by decide) (off := 125) rfl (by decide) ?_
    refine j_aload_n C d_M_about_126 rfl 0 rfl ?_
    obtain ⟨r127, h127, hF⟩ := g_bind hF
    refine j_vi C (As := []) (st := []) (c_M_downs (XL X) G σ h127) (rfl : kdf 38 = 8) (by decide) rfl rfl m_M_downs wd_882 rfl rfl (Nat.le_of_ble_eq_true rfl) ⟨by decide, by decide⟩ d_M_about_127 ?_
    cases hF
    exact j_iret (st := []) C hr d_M_about_130 rfl rfl
  refine g_ite hF (fun q hF => ?_) (fun q1_10 hF => ?_)
  · refine j_tabIn C 131 q d_M_about_1 (by decide) (by decide) (off := 130) rfl (by decide) ?_
    refine j_aload_n C d_M_about_131 rfl 0 rfl ?_
    refine j_aload_n C d_M_about_132 rfl 0 rfl ?_
    refine g_M_now C (rfl : kdf 38 = 8) wd_673 d_M_about_133 ?_
    obtain ⟨r136, h136, hF⟩ := g_bind hF
    refine j_vi C (As := [rf G 43]) (st := []) (c_M_isOne (XL X) G 43 σ (rfl : kdf 43 = 15) h136) (rfl : kdf 38 = 8) (by decide) rfl rfl m_M_isOne wd_886 rfl rfl (Nat.le_of_ble_eq_true rfl) ⟨by decide, by decide⟩ d_M_about_136 ?_
    refine j_if_eq C 146 d_M_about_139 (by decide) hF (fun q139 hF => ?_) (fun q139 hF => ?_)
    · refine j_iconst C (v := 0) d_M_about_146 (by decide) ?_
      cases hF
      exact j_iret (st := []) C hr d_M_about_147 rfl rfl
    · refine j_iconst C (v := 1) d_M_about_142 (by decide) ?_
      refine j_goto C 147 d_M_about_143 (by decide) ?_
      cases hF
      exact j_iret (st := []) C hr d_M_about_147 rfl rfl
  refine g_ite hF (fun q hF => ?_) (fun q1_11 hF => ?_)
  · refine j_tabIn C 148 q d_M_about_1 (by decide) (by decide) (off := 147) rfl (by decide) ?_
    refine j_aload_n C d_M_about_148 rfl 0 rfl ?_
    refine g_M_acts C (rfl : kdf 38 = 8) wd_676 d_M_about_149 ?_
    cases hF
    exact j_iret (st := []) C hr d_M_about_152 rfl rfl
  refine g_ite hF (fun q hF => ?_) (fun q1_12 hF => ?_)
  · refine j_tabIn C 153 q d_M_about_1 (by decide) (by decide) (off := 152) rfl (by decide) ?_
    refine j_aload_n C d_M_about_153 rfl 0 rfl ?_
    refine g_M_seen C (rfl : kdf 38 = 8) wd_683 d_M_about_154 ?_
    cases hF
    exact j_iret (st := []) C hr d_M_about_157 rfl rfl
  refine g_ite hF (fun q hF => ?_) (fun q1_13 hF => ?_)
  · refine j_tabIn C 158 q d_M_about_1 (by decide) (by decide) (off := 157) rfl (by decide) ?_
    refine j_aload_n C d_M_about_158 rfl 0 rfl ?_
    refine g_M_length C (rfl : kdf 38 = 8) wd_664 d_M_about_159 ?_
    cases hF
    exact j_iret (st := []) C hr d_M_about_162 rfl rfl
  refine j_tabOut C 163 d_M_about_1 (by have t0 := lv_neT q1_0 (a := 0) rfl; have t1 := lv_neT q1_1 (a := 1) rfl; have t2 := lv_neT q1_2 (a := 2) rfl; have t3 := lv_neT q1_3 (a := 3) rfl; have t4 := lv_neT q1_4 (a := 4) rfl; have t5 := lv_neT q1_5 (a := 5) rfl; have t6 := lv_neT q1_6 (a := 6) rfl; have t7 := lv_neT q1_7 (a := 7) rfl; have t8 := lv_neT q1_8 (a := 8) rfl; have t9 := lv_neT q1_9 (a := 9) rfl; have t10 := lv_neT q1_10 (a := 10) rfl; have t11 := lv_neT q1_11 (a := 11) rfl; have t12 := lv_neT q1_12 (a := 12) rfl; have t13 := lv_neT q1_13 (a := 13) rfl; omega) (by decide) ?_
  refine j_bipush C (v := -2) d_M_about_163 (by decide) ?_
  cases hF
  exact j_iret (st := []) C hr d_M_about_165 rfl rfl
set_option maxHeartbeats 4000000 in
set_option maxRecDepth 100000 in
theorem b_M_tell_31 {X : XT} {G : GT} {z : Int32} {σ : MT} (C : CX X G b_M_tell 5 "TimeFloodModel" 5 136) (hr : XR X (some .int)) (k1 : Nat) (x2 : Int32) (x3 : Int32) (x4 : Int32) (hk1 : kdf k1 = 15) (hF : f_M_tell_31 k1 x2 x3 x4 σ = some z) : JW X G (QX X (PI G z σ) G) 5 31 [(0, rf G 38), (1, rf G k1), (2, .int x2), (3, .int x3), (4, .int x4)] [] σ := by
  unfold f_M_tell_31 at hF
  refine j_iload_n C d_M_tell_31 rfl 3 rfl ?_
  refine g_ite hF (fun q hF => ?_) (fun q32_0 hF => ?_)
  · refine j_tabIn C 92 q d_M_tell_32 (by decide) (by decide) (off := 60) rfl (by decide) ?_
    refine j_aload_n C d_M_tell_92 rfl 1 rfl ?_
    refine j_iload C d_M_tell_93 4 rfl ?_
    refine j_iconst C (v := 1) d_M_tell_95 (by decide) ?_
    refine j_iadd C d_M_tell_96 ?_
    obtain ⟨q97, hF⟩ := g_if hF
    refine j_iald C hk1 (by decide) rfl (inb_v q97) d_M_tell_97 ?_
    refine j_iconst C (v := 4) d_M_tell_98 (by decide) ?_
    refine j_iadd C d_M_tell_99 ?_
    cases hF
    exact j_iret (st := []) C hr d_M_tell_100 rfl rfl
  refine g_ite hF (fun q hF => ?_) (fun q32_1 hF => ?_)
  · refine j_tabIn C 101 q d_M_tell_32 (by decide) (by decide) (off := 69) rfl (by decide) ?_
    refine j_aload_n C d_M_tell_101 rfl 0 rfl ?_
    refine g_M_start C (rfl : kdf 38 = 8) wd_669 d_M_tell_102 ?_
    refine j_iload_n C d_M_tell_105 rfl 2 rfl ?_
    obtain ⟨q106, hF⟩ := g_if hF
    refine j_iald C (rfl : kdf 40 = 11) (by decide) rfl (inb_v q106) d_M_tell_106 ?_
    cases hF
    exact j_iret (st := []) C hr d_M_tell_107 rfl rfl
  refine g_ite hF (fun q hF => ?_) (fun q32_2 hF => ?_)
  · refine j_tabIn C 108 q d_M_tell_32 (by decide) (by decide) (off := 76) rfl (by decide) ?_
    refine j_aload_n C d_M_tell_108 rfl 0 rfl ?_
    refine j_aload_n C d_M_tell_109 rfl 1 rfl ?_
    refine j_iload_n C d_M_tell_110 rfl 2 rfl ?_
    obtain ⟨r111, h111, hF⟩ := g_bind hF
    refine j_vi C (As := [rf G k1, .int x2]) (st := []) (c_M_clockOf (XL X) G k1 x2 σ hk1 h111) (rfl : kdf 38 = 8) (by decide) rfl rfl m_M_clockOf wd_864 rfl rfl (Nat.le_of_ble_eq_true rfl) ⟨by decide, by decide⟩ d_M_tell_111 ?_
    cases hF
    exact j_iret (st := []) C hr d_M_tell_114 rfl rfl
  refine g_ite hF (fun q hF => ?_) (fun q32_3 hF => ?_)
  · refine j_tabIn C 115 q d_M_tell_32 (by decide) (by decide) (off := 83) rfl (by decide) ?_
    refine j_aload_n C d_M_tell_115 rfl 1 rfl ?_
    refine j_iload C d_M_tell_116 4 rfl ?_
    refine j_iconst C (v := 0) d_M_tell_118 (by decide) ?_
    refine j_iadd C d_M_tell_119 ?_
    obtain ⟨q120, hF⟩ := g_if hF
    refine j_iald C hk1 (by decide) rfl (inb_v q120) d_M_tell_120 ?_
    cases hF
    exact j_iret (st := []) C hr d_M_tell_121 rfl rfl
  refine g_ite hF (fun q hF => ?_) (fun q32_4 hF => ?_)
  · refine j_tabIn C 122 q d_M_tell_32 (by decide) (by decide) (off := 90) rfl (by decide) ?_
    refine j_aload_n C d_M_tell_122 rfl 1 rfl ?_
    refine j_iload C d_M_tell_123 4 rfl ?_
    refine j_iconst C (v := 2) d_M_tell_125 (by decide) ?_
    refine j_iadd C d_M_tell_126 ?_
    obtain ⟨q127, hF⟩ := g_if hF
    refine j_iald C hk1 (by decide) rfl (inb_v q127) d_M_tell_127 ?_
    cases hF
    exact j_iret (st := []) C hr d_M_tell_128 rfl rfl
  refine g_ite hF (fun q hF => ?_) (fun q32_5 hF => ?_)
  · refine j_tabIn C 129 q d_M_tell_32 (by decide) (by decide) (off := 97) rfl (by decide) ?_
    refine j_aload_n C d_M_tell_129 rfl 1 rfl ?_
    refine j_iload C d_M_tell_130 4 rfl ?_
    refine j_iconst C (v := 3) d_M_tell_132 (by decide) ?_
    refine j_iadd C d_M_tell_133 ?_
    obtain ⟨q134, hF⟩ := g_if hF
    refine j_iald C hk1 (by decide) rfl (inb_v q134) d_M_tell_134 ?_
    cases hF
    exact j_iret (st := []) C hr d_M_tell_135 rfl rfl
  refine g_ite hF (fun q hF => ?_) (fun q32_6 hF => ?_)
  · refine j_tabIn C 136 q d_M_tell_32 (by decide) (by decide) (off := 104) rfl (by decide) ?_
    refine j_aload_n C d_M_tell_136 rfl 1 rfl ?_
    refine j_iload C d_M_tell_137 4 rfl ?_
    refine j_iconst C (v := 4) d_M_tell_139 (by decide) ?_
    refine j_iadd C d_M_tell_140 ?_
    obtain ⟨q141, hF⟩ := g_if hF
    refine j_iald C hk1 (by decide) rfl (inb_v q141) d_M_tell_141 ?_
    cases hF
    exact j_iret (st := []) C hr d_M_tell_142 rfl rfl
  refine g_ite hF (fun q hF => ?_) (fun q32_7 hF => ?_)
  · refine j_tabIn C 143 q d_M_tell_32 (by decide) (by decide) (off := 111) rfl (by decide) ?_
    refine j_aload_n C d_M_tell_143 rfl 1 rfl ?_
    refine j_iload C d_M_tell_144 4 rfl ?_
    refine j_iconst C (v := 5) d_M_tell_146 (by decide) ?_
    refine j_iadd C d_M_tell_147 ?_
    obtain ⟨q148, hF⟩ := g_if hF
    refine j_iald C hk1 (by decide) rfl (inb_v q148) d_M_tell_148 ?_
    cases hF
    exact j_iret (st := []) C hr d_M_tell_149 rfl rfl
  refine g_ite hF (fun q hF => ?_) (fun q32_8 hF => ?_)
  · refine j_tabIn C 150 q d_M_tell_32 (by decide) (by decide) (off := 118) rfl (by decide) ?_
    refine j_aload_n C d_M_tell_150 rfl 1 rfl ?_
    refine j_iload C d_M_tell_151 4 rfl ?_
    refine j_bipush C (v := 6) d_M_tell_153 (by decide) ?_
    refine j_iadd C d_M_tell_155 ?_
    obtain ⟨q156, hF⟩ := g_if hF
    refine j_iald C hk1 (by decide) rfl (inb_v q156) d_M_tell_156 ?_
    cases hF
    exact j_iret (st := []) C hr d_M_tell_157 rfl rfl
  refine g_ite hF (fun q hF => ?_) (fun q32_9 hF => ?_)
  · refine j_tabIn C 158 q d_M_tell_32 (by decide) (by decide) (off := 126) rfl (by decide) ?_
    refine j_aload_n C d_M_tell_158 rfl 0 rfl ?_
    refine j_aload_n C d_M_tell_159 rfl 1 rfl ?_
    refine j_iload_n C d_M_tell_160 rfl 2 rfl ?_
    obtain ⟨r161, h161, hF⟩ := g_bind hF
    refine j_vi C (As := [rf G k1, .int x2]) (st := []) (c_M_estimate (XL X) G k1 x2 σ hk1 h161) (rfl : kdf 38 = 8) (by decide) rfl rfl m_M_estimate wd_860 rfl rfl (Nat.le_of_ble_eq_true rfl) ⟨by decide, by decide⟩ d_M_tell_161 ?_
    cases hF
    exact j_iret (st := []) C hr d_M_tell_164 rfl rfl
  refine g_ite hF (fun q hF => ?_) (fun q32_10 hF => ?_)
  · refine j_tabIn C 165 q d_M_tell_32 (by decide) (by decide) (off := 133) rfl (by decide) ?_
    refine j_aload_n C d_M_tell_165 rfl 0 rfl ?_
    refine j_aload_n C d_M_tell_166 rfl 1 rfl ?_
    refine j_iload_n C d_M_tell_167 rfl 2 rfl ?_
    obtain ⟨r168, h168, hF⟩ := g_bind hF
    refine j_vi C (As := [rf G k1, .int x2]) (st := []) (c_M_missOf (XL X) G k1 x2 σ hk1 h168) (rfl : kdf 38 = 8) (by decide) rfl rfl m_M_missOf wd_856 rfl rfl (Nat.le_of_ble_eq_true rfl) ⟨by decide, by decide⟩ d_M_tell_168 ?_
    cases hF
    exact j_iret (st := []) C hr d_M_tell_171 rfl rfl
  refine j_tabOut C 172 d_M_tell_32 (by have t0 := lv_neT q32_0 (a := 0) rfl; have t1 := lv_neT q32_1 (a := 1) rfl; have t2 := lv_neT q32_2 (a := 2) rfl; have t3 := lv_neT q32_3 (a := 3) rfl; have t4 := lv_neT q32_4 (a := 4) rfl; have t5 := lv_neT q32_5 (a := 5) rfl; have t6 := lv_neT q32_6 (a := 6) rfl; have t7 := lv_neT q32_7 (a := 7) rfl; have t8 := lv_neT q32_8 (a := 8) rfl; have t9 := lv_neT q32_9 (a := 9) rfl; have t10 := lv_neT q32_10 (a := 10) rfl; omega) (by decide) ?_
  refine j_bipush C (v := -2) d_M_tell_172 (by decide) ?_
  cases hF
  exact j_iret (st := []) C hr d_M_tell_174 rfl rfl
set_option maxHeartbeats 4000000 in
set_option maxRecDepth 100000 in
theorem c_M_tell (l : Launch) (G : GT) (k1 : Nat) (x2 : Int32) (x3 : Int32) (σ : MT) (hk1 : kdf k1 = 15) {z : Int32} (hF : f_M_tell k1 x2 x3 σ = some z) : CTI l G y_M_tell b_M_tell 5 (some .int) 5 136 [rf G 38, rf G k1, .int x2, .int x3] σ z σ := by
  refine entX [(0, rf G 38), (1, rf G k1), (2, .int x2), (3, .int x3)] "TimeFloodModel" (by decide +kernel) rfl rfl (Nat.le_of_ble_eq_true rfl) (fun X hXl hr C => ?_)
  unfold f_M_tell at hF
  refine j_bipush C (v := 19) d_M_tell_0 (by decide) ?_
  refine j_iload_n C d_M_tell_2 rfl 2 rfl ?_
  refine j_imul C d_M_tell_3 ?_
  refine j_istore C (lv' := [(4, .int ((19 : Int32) * x2)), (0, rf G 38), (1, rf G k1), (2, .int x2), (3, .int x3)]) d_M_tell_4 (by decide) rfl ?_
  refine j_iload_n C d_M_tell_6 rfl 4 rfl ?_
  refine j_i2l C d_M_tell_7 ?_
  refine j_ldc2 C wd_902 d_M_tell_8 ?_
  refine j_ldc2 C wd_903 d_M_tell_11 ?_
  obtain ⟨r14, h14, hF⟩ := g_bind hF
  refine j_si C (As := [.long x3.toInt64, .long (4 : Int64), .long (10 : Int64)]) (st := []) (c_M_in (XL X) G x3.toInt64 (4 : Int64) (10 : Int64) σ h14) m_M_in wd_786 rfl rfl (Nat.le_of_ble_eq_true rfl) ⟨by decide, by decide⟩ d_M_tell_14 ?_
  refine j_if_eq C 31 d_M_tell_17 (by decide) hF (fun q17 hF => ?_) (fun q17 hF => ?_)
  · refine j_sub C [(0, rf G 38), (1, rf G k1), (2, .int x2), (3, .int x3), (4, .int ((19 : Int32) * x2))] [1, 2, 3, 4, 0] rfl ?_
    exact b_M_tell_31 C hr k1 x2 x3 ((19 : Int32) * x2) hk1 hF
  · refine j_aload_n C d_M_tell_20 rfl 2 rfl ?_
    refine j_iload_n C d_M_tell_21 rfl 3 rfl ?_
    obtain ⟨r22, h22, hF⟩ := g_bind hF
    refine j_si C (As := [rf G k1, .int x2]) (st := []) (c_M_isOn (XL X) G k1 x2 σ hk1 h22) m_M_isOn wd_849 rfl rfl (Nat.le_of_ble_eq_true rfl) ⟨by decide, by decide⟩ d_M_tell_22 ?_
    refine j_if_ne C 31 d_M_tell_25 (by decide) hF (fun q25 hF => ?_) (fun q25 hF => ?_)
    · refine j_sub C [(0, rf G 38), (1, rf G k1), (2, .int x2), (3, .int x3), (4, .int ((19 : Int32) * x2))] [1, 2, 3, 4, 0] rfl ?_
      exact b_M_tell_31 C hr k1 x2 x3 ((19 : Int32) * x2) hk1 hF
    · refine j_bipush C (v := -9) d_M_tell_28 (by decide) ?_
      cases hF
      exact j_iret (st := []) C hr d_M_tell_30 rfl rfl
set_option maxHeartbeats 4000000 in
set_option maxRecDepth 100000 in
theorem c_M_node (l : Launch) (G : GT) (x1 : Int32) (x2 : Int32) (σ : MT)  {z : Int32} (hF : f_M_node x1 x2 σ = some z) : CTI l G y_M_node b_M_node 3 (some .int) 6 160 [rf G 38, .int x1, .int x2] σ z σ := by
  refine entX [(0, rf G 38), (1, .int x1), (2, .int x2)] "TimeFloodModel" (by decide +kernel) rfl rfl (Nat.le_of_ble_eq_true rfl) (fun X hXl hr C => ?_)
  unfold f_M_node at hF
  refine j_aload_n C d_M_node_0 rfl 0 rfl ?_
  refine j_iload_n C d_M_node_1 rfl 1 rfl ?_
  obtain ⟨r2, h2, hF⟩ := g_bind hF
  refine j_vi C (As := [.int x1]) (st := []) (c_M_isNode (XL X) G x1 σ h2) (rfl : kdf 38 = 8) (by decide) rfl rfl m_M_isNode wd_894 rfl rfl (Nat.le_of_ble_eq_true rfl) ⟨by decide, by decide⟩ d_M_node_2 ?_
  refine j_if_eq C 21 d_M_node_5 (by decide) hF (fun q5 hF => ?_) (fun q5 hF => ?_)
  · refine j_iconst C (v := -1) d_M_node_21 (by decide) ?_
    cases hF
    exact j_iret (st := []) C hr d_M_node_22 rfl rfl
  · refine j_aload_n C d_M_node_8 rfl 0 rfl ?_
    refine j_aload_n C d_M_node_9 rfl 0 rfl ?_
    refine g_M_now C (rfl : kdf 38 = 8) wd_673 d_M_node_10 ?_
    refine j_iload_n C d_M_node_13 rfl 1 rfl ?_
    refine j_iload_n C d_M_node_14 rfl 2 rfl ?_
    obtain ⟨r15, h15, hF⟩ := g_bind hF
    refine j_vi C (As := [rf G 43, .int x1, .int x2]) (st := []) (c_M_tell (XL X) G 43 x1 x2 σ (rfl : kdf 43 = 15) h15) (rfl : kdf 38 = 8) (by decide) rfl rfl m_M_tell wd_898 rfl rfl (Nat.le_of_ble_eq_true rfl) ⟨by decide, by decide⟩ d_M_node_15 ?_
    refine j_goto C 22 d_M_node_18 (by decide) ?_
    cases hF
    exact j_iret (st := []) C hr d_M_node_22 rfl rfl
set_option maxHeartbeats 4000000 in
set_option maxRecDepth 100000 in
theorem c_M_stamp (l : Launch) (G : GT) (x1 : Int32) (x2 : Int32) (x3 : Int32) (σ : MT)  {z : Int32} (hF : f_M_stamp x1 x2 x3 σ = some z) : CTI l G y_M_stamp b_M_stamp 4 (some .int) 2 46 [rf G 38, .int x1, .int x2, .int x3] σ z σ := by
  refine entX [(0, rf G 38), (1, .int x1), (2, .int x2), (3, .int x3)] "TimeFloodModel" (by decide +kernel) rfl rfl (Nat.le_of_ble_eq_true rfl) (fun X hXl hr C => ?_)
  unfold f_M_stamp at hF
  refine j_aload_n C d_M_stamp_0 rfl 0 rfl ?_
  refine j_iload_n C d_M_stamp_1 rfl 1 rfl ?_
  obtain ⟨r2, h2, hF⟩ := g_bind hF
  refine j_vi C (As := [.int x1]) (st := []) (c_M_isNode (XL X) G x1 σ h2) (rfl : kdf 38 = 8) (by decide) rfl rfl m_M_isNode wd_894 rfl rfl (Nat.le_of_ble_eq_true rfl) ⟨by decide, by decide⟩ d_M_stamp_2 ?_
  refine j_if_ne C 10 d_M_stamp_5 (by decide) hF (fun q5 hF => ?_) (fun q5 hF => ?_)
  · refine j_iload_n C d_M_stamp_10 rfl 3 rfl ?_
    refine j_i2l C d_M_stamp_11 ?_
    refine j_lconst C (v := 0) d_M_stamp_12 (by decide) ?_
    refine j_ldc2 C wd_908 d_M_stamp_13 ?_
    obtain ⟨r16, h16, hF⟩ := g_bind hF
    refine j_si C (As := [.long x3.toInt64, .long (0 : Int64), .long (2 : Int64)]) (st := []) (c_M_in (XL X) G x3.toInt64 (0 : Int64) (2 : Int64) σ h16) m_M_in wd_786 rfl rfl (Nat.le_of_ble_eq_true rfl) ⟨by decide, by decide⟩ d_M_stamp_16 ?_
    refine j_if_ne C 25 d_M_stamp_19 (by decide) hF (fun q19 hF => ?_) (fun q19 hF => ?_)
    · refine j_aload_n C d_M_stamp_25 rfl 0 rfl ?_
      refine g_M_now C (rfl : kdf 38 = 8) wd_673 d_M_stamp_26 ?_
      refine j_iload_n C d_M_stamp_29 rfl 1 rfl ?_
      obtain ⟨r30, h30, hF⟩ := g_bind hF
      refine j_si C (As := [rf G 43, .int x1]) (st := []) (c_M_isOn (XL X) G 43 x1 σ (rfl : kdf 43 = 15) h30) m_M_isOn wd_849 rfl rfl (Nat.le_of_ble_eq_true rfl) ⟨by decide, by decide⟩ d_M_stamp_30 ?_
      refine j_if_eq C 81 d_M_stamp_33 (by decide) hF (fun q33 hF => ?_) (fun q33 hF => ?_)
      · refine j_bipush C (v := -9) d_M_stamp_81 (by decide) ?_
        cases hF
        exact j_iret (st := []) C hr d_M_stamp_83 rfl rfl
      · refine j_iload_n C d_M_stamp_36 rfl 2 rfl ?_
        refine j_i2l C d_M_stamp_37 ?_
        refine j_lconst C (v := 0) d_M_stamp_38 (by decide) ?_
        refine j_aload_n C d_M_stamp_39 rfl 0 rfl ?_
        refine g_M_now C (rfl : kdf 38 = 8) wd_673 d_M_stamp_40 ?_
        refine j_bipush C (v := 19) d_M_stamp_43 (by decide) ?_
        refine j_iload_n C d_M_stamp_45 rfl 1 rfl ?_
        refine j_imul C d_M_stamp_46 ?_
        refine j_bipush C (v := 6) d_M_stamp_47 (by decide) ?_
        refine j_iadd C d_M_stamp_49 ?_
        obtain ⟨q50, hF⟩ := g_if hF
        refine j_iald C (rfl : kdf 43 = 15) (by decide) rfl (inb_v q50) d_M_stamp_50 ?_
        refine j_iconst C (v := 1) d_M_stamp_51 (by decide) ?_
        refine j_isub C d_M_stamp_52 ?_
        refine j_i2l C d_M_stamp_53 ?_
        obtain ⟨r54, h54, hF⟩ := g_bind hF
        refine j_si C (As := [.long x2.toInt64, .long (0 : Int64), .long (((σ.1 43 (((19 : Int32) * x1) + (6 : Int32)).toNatClampNeg) - (1 : Int32)).toInt64)]) (st := []) (c_M_in (XL X) G x2.toInt64 (0 : Int64) (((σ.1 43 (((19 : Int32) * x1) + (6 : Int32)).toNatClampNeg) - (1 : Int32)).toInt64) σ h54) m_M_in wd_786 rfl rfl (Nat.le_of_ble_eq_true rfl) ⟨by decide, by decide⟩ d_M_stamp_54 ?_
        refine j_if_eq C 81 d_M_stamp_57 (by decide) hF (fun q57 hF => ?_) (fun q57 hF => ?_)
        · refine j_bipush C (v := -9) d_M_stamp_81 (by decide) ?_
          cases hF
          exact j_iret (st := []) C hr d_M_stamp_83 rfl rfl
        · refine j_aload_n C d_M_stamp_60 rfl 0 rfl ?_
          refine g_M_now C (rfl : kdf 38 = 8) wd_673 d_M_stamp_61 ?_
          refine j_bipush C (v := 19) d_M_stamp_64 (by decide) ?_
          refine j_iload_n C d_M_stamp_66 rfl 1 rfl ?_
          refine j_imul C d_M_stamp_67 ?_
          refine j_bipush C (v := 7) d_M_stamp_68 (by decide) ?_
          refine j_iadd C d_M_stamp_70 ?_
          refine j_iconst C (v := 3) d_M_stamp_71 (by decide) ?_
          refine j_iload_n C d_M_stamp_72 rfl 2 rfl ?_
          refine j_imul C d_M_stamp_73 ?_
          refine j_iadd C d_M_stamp_74 ?_
          refine j_iload_n C d_M_stamp_75 rfl 3 rfl ?_
          refine j_iadd C d_M_stamp_76 ?_
          obtain ⟨q77, hF⟩ := g_if hF
          refine j_iald C (rfl : kdf 43 = 15) (by decide) rfl (inb_v q77) d_M_stamp_77 ?_
          refine j_goto C 83 d_M_stamp_78 (by decide) ?_
          cases hF
          exact j_iret (st := []) C hr d_M_stamp_83 rfl rfl
    · refine j_bipush C (v := -2) d_M_stamp_22 (by decide) ?_
      cases hF
      exact j_iret (st := []) C hr d_M_stamp_24 rfl rfl
  · refine j_iconst C (v := -1) d_M_stamp_8 (by decide) ?_
    cases hF
    exact j_iret (st := []) C hr d_M_stamp_9 rfl rfl
set_option maxHeartbeats 4000000 in
set_option maxRecDepth 100000 in
theorem b_M_link_30 {X : XT} {G : GT} {z : Int32} {σ : MT} (C : CX X G b_M_link 4 "TimeFloodModel" 2 46) (hr : XR X (some .int)) (x1 : Int32) (x2 : Int32) (xs0 : Int32) (hF : f_M_link_30 x1 x2 xs0 σ = some z) : JW X G (QX X (PI G z σ) G) 4 30 [(0, rf G 38), (1, .int x1), (2, .int x2)] [.int xs0] σ := by
  unfold f_M_link_30 at hF
  refine j_istore_n C (lv' := [(3, .int xs0), (0, rf G 38), (1, .int x1), (2, .int x2)]) d_M_link_30 rfl (by decide) rfl ?_
  refine j_iload_n C d_M_link_31 rfl 3 rfl ?_
  refine g_ite hF (fun q hF => ?_) (fun q32_0 hF => ?_)
  · refine j_tabIn C 60 q d_M_link_32 (by decide) (by decide) (off := 28) rfl (by decide) ?_
    refine j_iload_n C d_M_link_60 rfl 0 rfl ?_
    refine j_if_eq C 73 d_M_link_61 (by decide) hF (fun q61 hF => ?_) (fun q61 hF => ?_)
    · refine j_aload_n C d_M_link_73 rfl 1 rfl ?_
      refine g_M_other C (rfl : kdf 38 = 8) wd_672 d_M_link_74 ?_
      refine j_iload_n C d_M_link_77 rfl 2 rfl ?_
      obtain ⟨q78, hF⟩ := g_if hF
      refine j_iald C (rfl : kdf 42 = 13) (by decide) rfl (inb_v q78) d_M_link_78 ?_
      cases hF
      exact j_iret (st := []) C hr d_M_link_79 rfl rfl
    · refine j_aload_n C d_M_link_64 rfl 1 rfl ?_
      refine g_M_one C (rfl : kdf 38 = 8) wd_671 d_M_link_65 ?_
      refine j_iload_n C d_M_link_68 rfl 2 rfl ?_
      obtain ⟨q69, hF⟩ := g_if hF
      refine j_iald C (rfl : kdf 41 = 13) (by decide) rfl (inb_v q69) d_M_link_69 ?_
      refine j_goto C 79 d_M_link_70 (by decide) ?_
      cases hF
      exact j_iret (st := []) C hr d_M_link_79 rfl rfl
  refine g_ite hF (fun q hF => ?_) (fun q32_1 hF => ?_)
  · refine j_tabIn C 80 q d_M_link_32 (by decide) (by decide) (off := 48) rfl (by decide) ?_
    refine j_iload_n C d_M_link_80 rfl 0 rfl ?_
    refine j_if_eq C 93 d_M_link_81 (by decide) hF (fun q81 hF => ?_) (fun q81 hF => ?_)
    · refine j_aload_n C d_M_link_93 rfl 1 rfl ?_
      refine g_M_one C (rfl : kdf 38 = 8) wd_671 d_M_link_94 ?_
      refine j_iload_n C d_M_link_97 rfl 2 rfl ?_
      obtain ⟨q98, hF⟩ := g_if hF
      refine j_iald C (rfl : kdf 41 = 13) (by decide) rfl (inb_v q98) d_M_link_98 ?_
      cases hF
      exact j_iret (st := []) C hr d_M_link_99 rfl rfl
    · refine j_aload_n C d_M_link_84 rfl 1 rfl ?_
      refine g_M_other C (rfl : kdf 38 = 8) wd_672 d_M_link_85 ?_
      refine j_iload_n C d_M_link_88 rfl 2 rfl ?_
      obtain ⟨q89, hF⟩ := g_if hF
      refine j_iald C (rfl : kdf 42 = 13) (by decide) rfl (inb_v q89) d_M_link_89 ?_
      refine j_goto C 99 d_M_link_90 (by decide) ?_
      cases hF
      exact j_iret (st := []) C hr d_M_link_99 rfl rfl
  refine g_ite hF (fun q hF => ?_) (fun q32_2 hF => ?_)
  · refine j_tabIn C 100 q d_M_link_32 (by decide) (by decide) (off := 68) rfl (by decide) ?_
    refine j_aload_n C d_M_link_100 rfl 1 rfl ?_
    refine g_M_now C (rfl : kdf 38 = 8) wd_673 d_M_link_101 ?_
    refine j_bipush C (v := 95) d_M_link_104 (by decide) ?_
    refine j_iload_n C d_M_link_106 rfl 2 rfl ?_
    refine j_iadd C d_M_link_107 ?_
    obtain ⟨q108, hF⟩ := g_if hF
    refine j_iald C (rfl : kdf 43 = 15) (by decide) rfl (inb_v q108) d_M_link_108 ?_
    cases hF
    exact j_iret (st := []) C hr d_M_link_109 rfl rfl
  refine j_tabOut C 110 d_M_link_32 (by have t0 := lv_neT q32_0 (a := 0) rfl; have t1 := lv_neT q32_1 (a := 1) rfl; have t2 := lv_neT q32_2 (a := 2) rfl; omega) (by decide) ?_
  refine j_bipush C (v := -2) d_M_link_110 (by decide) ?_
  cases hF
  exact j_iret (st := []) C hr d_M_link_112 rfl rfl
set_option maxHeartbeats 4000000 in
set_option maxRecDepth 100000 in
theorem c_M_link (l : Launch) (G : GT) (x1 : Int32) (x2 : Int32) (σ : MT)  {z : Int32} (hF : f_M_link x1 x2 σ = some z) : CTI l G y_M_link b_M_link 4 (some .int) 2 46 [rf G 38, .int x1, .int x2] σ z σ := by
  refine entX [(0, rf G 38), (1, .int x1), (2, .int x2)] "TimeFloodModel" (by decide +kernel) rfl rfl (Nat.le_of_ble_eq_true rfl) (fun X hXl hr C => ?_)
  unfold f_M_link at hF
  refine j_aload_n C d_M_link_0 rfl 0 rfl ?_
  refine j_iload_n C d_M_link_1 rfl 1 rfl ?_
  obtain ⟨r2, h2, hF⟩ := g_bind hF
  refine j_vi C (As := [.int x1]) (st := []) (c_M_isLink (XL X) G x1 σ h2) (rfl : kdf 38 = 8) (by decide) rfl rfl m_M_isLink wd_913 rfl rfl (Nat.le_of_ble_eq_true rfl) ⟨by decide, by decide⟩ d_M_link_2 ?_
  refine j_if_ne C 10 d_M_link_5 (by decide) hF (fun q5 hF => ?_) (fun q5 hF => ?_)
  · refine j_aload_n C d_M_link_10 rfl 0 rfl ?_
    refine g_M_one C (rfl : kdf 38 = 8) wd_671 d_M_link_11 ?_
    refine j_iload_n C d_M_link_14 rfl 1 rfl ?_
    obtain ⟨q15, hF⟩ := g_if hF
    refine j_iald C (rfl : kdf 41 = 13) (by decide) rfl (inb_v q15) d_M_link_15 ?_
    refine j_aload_n C d_M_link_16 rfl 0 rfl ?_
    refine g_M_other C (rfl : kdf 38 = 8) wd_672 d_M_link_17 ?_
    refine j_iload_n C d_M_link_20 rfl 1 rfl ?_
    obtain ⟨q21, hF⟩ := g_if hF
    refine j_iald C (rfl : kdf 42 = 13) (by decide) rfl (inb_v q21) d_M_link_21 ?_
    refine j_icmp_ge C 29 d_M_link_22 (by decide) hF (fun q22 hF => ?_) (fun q22 hF => ?_)
    · refine j_iconst C (v := 0) d_M_link_29 (by decide) ?_
      exact b_M_link_30 C hr x1 x2 (0 : Int32) hF
    · refine j_iconst C (v := 1) d_M_link_25 (by decide) ?_
      refine j_goto C 30 d_M_link_26 (by decide) ?_
      exact b_M_link_30 C hr x1 x2 (1 : Int32) hF
  · refine j_iconst C (v := -1) d_M_link_8 (by decide) ?_
    cases hF
    exact j_iret (st := []) C hr d_M_link_9 rfl rfl
