/-! TIMEFLOOD is made -/
theorem k_swap {X : XT} {D : va_G} {A : Nat → Prop} {Q : State → Prop} {nL pc : Nat} {lv : List (Nat × Value)} {st : List Value} {a b c : va_W} {k n : Nat} (kk : KJ X D A Q nL pc lv st ((a ++ c) ++ b) k n) : KJ X D A Q nL pc lv st ((a ++ b) ++ c) k n := by
  obtain ⟨p, l, e, R, s, m, args, below, meth, cd⟩ := X
  intro H locs ls hP hD hS hl
  exact kk H locs ls (va_P.swap hP) (va_D.swap hD) hS hl
def ksTF : List Nat := [0, 32] ++ ((((((((([1] ++ ksRd) ++ ksFl) ++ (ksSt 0)) ++ (ksSt 1)) ++ ksJr) ++ [33]) ++ [34, 35, 36, 37]) ++ (ksSt 2)) ++ (ksSt 3))
set_option maxRecDepth 100000 in
theorem c_TF_init (l : Launch) (D : va_G) (E : Nat → ClassId) (h0 sz : Nat) : CTN l D E y_TF_init b_TF_init 2 4 74 433 2384 0 fs_TF 0 ksTF h0 sz := by
  refine entK "TimeFlood" (by decide) rfl rfl (by decide) (fun X hX C => ?_)
  refine k_aload C d_TF_init_0 (place := 0) rfl rfl ?_
  refine k_obj C wd_18 ⟨Nat.le_of_ble_eq_true rfl, Nat.le_of_ble_eq_true rfl⟩ d_TF_init_1 ?_
  refine k_aload C d_TF_init_4 (place := 0) rfl rfl ?_
  refine k_bipush (v := 60) C d_TF_init_5 (by decide) ?_
  refine k_newi C (t := 1) (N' := 60) (ty := .char) rfl wd_85 rfl (fun _ _ h => h) rfl (by decide) (by decide) (by decide) (Nat.le_of_ble_eq_true rfl) (Nat.le_of_ble_eq_true rfl) d_TF_init_7 (fun q1 => ?_)
  obtain ⟨ad101, had101⟩ : ∃ f : Nat → Nat, f = fun _ => q1 := ⟨_, rfl⟩
  refine k_eq (ws2 := ([(h0, .inr (0, [.null, .int 0, .null, .null, .null, .null, .null, .null, .null, .null, .null, .long 0]))] : va_W) ++ blk D E ad101 [1]) (by rw [had101]; rfl) ?_
  have f1 : ad101 1 = q1 := by rw [had101]
  refine k_putF C (q0 := 0) (ci := 0) (fs := [.null, .int 0, .null, .null, .null, .null, .null, .null, .null, .null, .null, .long 0]) (v := .ref q1) (ty := (.array .char)) (ws2 := (([(h0, .inr (0, [.ref q1, .int 0, .null, .null, .null, .null, .null, .null, .null, .null, .null, .long 0]))] : va_W) ++ blk D E ad101 [1])) rfl i_TF t_TF t_TF_ok n_TF rfl 0 (by decide) (Nat.le_of_ble_eq_true rfl) rfl rfl (t_TF_ok 0 (by decide)) rfl rfl wd_239 d_TF_init_9 rfl ?_
  refine k_aload C d_TF_init_12 (place := 0) rfl rfl ?_
  refine k_iconst (v := 0) C d_TF_init_13 rfl ?_
  refine k_put C (q0 := 0) (ci := 0) (fs := [.ref q1, .int 0, .null, .null, .null, .null, .null, .null, .null, .null, .null, .long 0]) (v := .int 0) (ty := .int) (ws2 := (([(h0, .inr (0, [.ref q1, .int 0, .null, .null, .null, .null, .null, .null, .null, .null, .null, .long 0]))] : va_W) ++ blk D E ad101 [1])) rfl i_TF t_TF t_TF_ok n_TF rfl 1 (by decide) (Nat.le_of_ble_eq_true rfl) rfl (t_TF_ok 1 (by decide)) rfl rfl wd_240 d_TF_init_14 rfl ?_
  refine k_aload C d_TF_init_17 (place := 0) rfl rfl ?_
  refine k_new C (ci := 1) (fs := fs_Rd) wd_21 wd_22 wd_2 i_Rd t_Rd t_Rd_ok rfl dv_Rd (Nat.le_of_ble_eq_true rfl) (Nat.le_of_ble_eq_true rfl) d_TF_init_18 (fun q2 => ?_)
  refine k_dup C d_TF_init_21 rfl ?_
  refine k_callN C (y := y_Rd_init) (host := "TimeFlood") (fs := fs_Rd) (ws0 := (([(h0, .inr (0, [.ref q1, .int 0, .null, .null, .null, .null, .null, .null, .null, .null, .null, .long 0]))] : va_W) ++ blk D E ad101 [1])) (fun sz => c_Rd_init _ D E q2 sz) wd_25 wd_2 wd_24 (fun _ z => z.1) rfl ⟨by decide, by decide, by decide +kernel⟩ ⟨(Nat.le_of_ble_eq_true rfl), (Nat.le_of_ble_eq_true rfl)⟩ (Nat.le_of_ble_eq_true rfl) (Nat.le_of_ble_eq_true rfl) (Nat.le_of_ble_eq_true rfl) d_TF_init_22 (fun ad102 h102 => ?_)
  refine k_glue (fun i => decide (2 ≤ i) && decide (i < 14)) (by decide +kernel) (by decide +kernel) (fun ad103 g3a g3b => ?_)
  have e1_3 : ad103 1 = q1 := (g3a 1 rfl).trans f1
  have e2_3 : ad103 2 = q2 := (g3b 2 rfl).trans h102
  refine k_putF C (q0 := 0) (ci := 0) (fs := [.ref q1, .int 0, .null, .null, .null, .null, .null, .null, .null, .null, .null, .long 0]) (v := .ref q2) (ty := (.object "TimeFlood$Reader")) (ws2 := (([(h0, .inr (0, [.ref q1, .int 0, .ref q2, .null, .null, .null, .null, .null, .null, .null, .null, .long 0]))] : va_W) ++ blk D E ad103 ([1] ++ ksRd))) rfl i_TF t_TF t_TF_ok n_TF rfl 2 (by decide) (Nat.le_of_ble_eq_true rfl) rfl rfl (t_TF_ok 2 (by decide)) rfl rfl wd_241 d_TF_init_25 rfl ?_
  refine k_aload C d_TF_init_28 (place := 0) rfl rfl ?_
  refine k_new C (ci := 3) (fs := fs_Fl) wd_101 wd_102 wd_4 i_Fl t_Fl t_Fl_ok rfl dv_Fl (Nat.le_of_ble_eq_true rfl) (Nat.le_of_ble_eq_true rfl) d_TF_init_29 (fun q3 => ?_)
  refine k_dup C d_TF_init_32 rfl ?_
  refine k_callN C (y := y_Fl_init) (host := "TimeFlood") (fs := fs_Fl) (ws0 := (([(h0, .inr (0, [.ref q1, .int 0, .ref q2, .null, .null, .null, .null, .null, .null, .null, .null, .long 0]))] : va_W) ++ blk D E ad103 ([1] ++ ksRd))) (fun sz => c_Fl_init _ D E q3 sz) wd_105 wd_4 wd_104 (fun _ z => z.2.2.1) rfl ⟨by decide, by decide, by decide +kernel⟩ ⟨(Nat.le_of_ble_eq_true rfl), (Nat.le_of_ble_eq_true rfl)⟩ (Nat.le_of_ble_eq_true rfl) (Nat.le_of_ble_eq_true rfl) (Nat.le_of_ble_eq_true rfl) d_TF_init_33 (fun ad104 h104 => ?_)
  refine k_glue (fun i => decide (14 ≤ i) && decide (i < 30)) (by decide +kernel) (by decide +kernel) (fun ad105 g5a g5b => ?_)
  have e1_5 : ad105 1 = q1 := (g5a 1 rfl).trans e1_3
  have e2_5 : ad105 2 = q2 := (g5a 2 rfl).trans e2_3
  have e14_5 : ad105 14 = q3 := (g5b 14 rfl).trans h104
  refine k_putF C (q0 := 0) (ci := 0) (fs := [.ref q1, .int 0, .ref q2, .null, .null, .null, .null, .null, .null, .null, .null, .long 0]) (v := .ref q3) (ty := (.object "TimeFlood$Flood")) (ws2 := (([(h0, .inr (0, [.ref q1, .int 0, .ref q2, .ref q3, .null, .null, .null, .null, .null, .null, .null, .long 0]))] : va_W) ++ blk D E ad105 (([1] ++ ksRd) ++ ksFl))) rfl i_TF t_TF t_TF_ok n_TF rfl 3 (by decide) (Nat.le_of_ble_eq_true rfl) rfl rfl (t_TF_ok 3 (by decide)) rfl rfl wd_242 d_TF_init_36 rfl ?_
  refine k_aload C d_TF_init_39 (place := 0) rfl rfl ?_
  refine k_aload C d_TF_init_40 (place := 0) rfl rfl ?_
  refine k_get C (q0 := 0) (ci := 0) (fs := [.ref q1, .int 0, .ref q2, .ref q3, .null, .null, .null, .null, .null, .null, .null, .long 0]) (v := .ref q3) rfl i_TF rfl 3 (by decide) rfl wd_242 d_TF_init_41 ?_
  obtain ⟨q99, e15⟩ : ∃ q, ad105 15 = q := ⟨_, rfl⟩
  refine k_get C (q0 := 14) (ci := 3) (fs := [.ref q99, .ref (ad105 26), .ref (ad105 27), .ref (ad105 28), .ref (ad105 29)]) (v := .ref q99) (a := q3) (by rw [← e14_5, ← e15]; rfl) i_Fl rfl 0 (by decide) rfl wd_110 d_TF_init_44 ?_
  refine k_putF C (q0 := 0) (ci := 0) (fs := [.ref q1, .int 0, .ref q2, .ref q3, .null, .null, .null, .null, .null, .null, .null, .long 0]) (v := .ref q99) (ty := (.object "TimeFlood$Plan")) (ws2 := (([(h0, .inr (0, [.ref q1, .int 0, .ref q2, .ref q3, .ref q99, .null, .null, .null, .null, .null, .null, .long 0]))] : va_W) ++ blk D E ad105 (([1] ++ ksRd) ++ ksFl))) rfl i_TF t_TF t_TF_ok n_TF rfl 4 (by decide) (Nat.le_of_ble_eq_true rfl) rfl rfl (t_TF_ok 4 (by decide)) rfl rfl wd_243 d_TF_init_47 rfl ?_
  refine k_aload C d_TF_init_50 (place := 0) rfl rfl ?_
  refine k_new C (ci := 4) (fs := fs_St) wd_127 wd_128 wd_5 i_St t_St t_St_ok rfl dv_St (Nat.le_of_ble_eq_true rfl) (Nat.le_of_ble_eq_true rfl) d_TF_init_51 (fun q4 => ?_)
  refine k_dup C d_TF_init_54 rfl ?_
  refine k_callI C (y := y_St_init) (fs := fs_St) (ws0 := (([(h0, .inr (0, [.ref q1, .int 0, .ref q2, .ref q3, .ref q99, .null, .null, .null, .null, .null, .null, .long 0]))] : va_W) ++ blk D E ad105 (([1] ++ ksRd) ++ ksFl))) (fun sz => c_St_init _ D E (s := 0) (by omega) q4 sz) wd_131 wd_5 wd_130 wd_129 rfl ⟨by decide, by decide, by decide +kernel⟩ ⟨(Nat.le_of_ble_eq_true rfl), (Nat.le_of_ble_eq_true rfl)⟩ (Nat.le_of_ble_eq_true rfl) (Nat.le_of_ble_eq_true rfl) (Nat.le_of_ble_eq_true rfl) d_TF_init_55 (fun ad106 h106 => ?_)
  refine k_glue (fun i => decide (61 ≤ i) && decide (i < 83)) (by decide +kernel) (by decide +kernel) (fun ad107 g7a g7b => ?_)
  have e1_7 : ad107 1 = q1 := (g7a 1 rfl).trans e1_5
  have e2_7 : ad107 2 = q2 := (g7a 2 rfl).trans e2_5
  have e14_7 : ad107 14 = q3 := (g7a 14 rfl).trans e14_5
  have e15_7 : ad107 15 = q99 := (g7a 15 rfl).trans e15
  have e61_7 : ad107 61 = q4 := (g7b 61 rfl).trans h106
  refine k_putF C (q0 := 0) (ci := 0) (fs := [.ref q1, .int 0, .ref q2, .ref q3, .ref q99, .null, .null, .null, .null, .null, .null, .long 0]) (v := .ref q4) (ty := (.object "TimeFlood$State")) (ws2 := (([(h0, .inr (0, [.ref q1, .int 0, .ref q2, .ref q3, .ref q99, .ref q4, .null, .null, .null, .null, .null, .long 0]))] : va_W) ++ blk D E ad107 ((([1] ++ ksRd) ++ ksFl) ++ (ksSt 0)))) rfl i_TF t_TF t_TF_ok n_TF rfl 5 (by decide) (Nat.le_of_ble_eq_true rfl) rfl rfl (t_TF_ok 5 (by decide)) rfl rfl wd_244 d_TF_init_58 rfl ?_
  refine k_aload C d_TF_init_61 (place := 0) rfl rfl ?_
  refine k_new C (ci := 4) (fs := fs_St) wd_127 wd_128 wd_5 i_St t_St t_St_ok rfl dv_St (Nat.le_of_ble_eq_true rfl) (Nat.le_of_ble_eq_true rfl) d_TF_init_62 (fun q5 => ?_)
  refine k_dup C d_TF_init_65 rfl ?_
  refine k_callI C (y := y_St_init) (fs := fs_St) (ws0 := (([(h0, .inr (0, [.ref q1, .int 0, .ref q2, .ref q3, .ref q99, .ref q4, .null, .null, .null, .null, .null, .long 0]))] : va_W) ++ blk D E ad107 ((([1] ++ ksRd) ++ ksFl) ++ (ksSt 0)))) (fun sz => c_St_init _ D E (s := 1) (by omega) q5 sz) wd_131 wd_5 wd_130 wd_129 rfl ⟨by decide, by decide, by decide +kernel⟩ ⟨(Nat.le_of_ble_eq_true rfl), (Nat.le_of_ble_eq_true rfl)⟩ (Nat.le_of_ble_eq_true rfl) (Nat.le_of_ble_eq_true rfl) (Nat.le_of_ble_eq_true rfl) d_TF_init_66 (fun ad108 h108 => ?_)
  refine k_glue (fun i => decide (83 ≤ i) && decide (i < 105)) (by decide +kernel) (by decide +kernel) (fun ad109 g9a g9b => ?_)
  have e1_9 : ad109 1 = q1 := (g9a 1 rfl).trans e1_7
  have e2_9 : ad109 2 = q2 := (g9a 2 rfl).trans e2_7
  have e14_9 : ad109 14 = q3 := (g9a 14 rfl).trans e14_7
  have e15_9 : ad109 15 = q99 := (g9a 15 rfl).trans e15_7
  have e61_9 : ad109 61 = q4 := (g9a 61 rfl).trans e61_7
  have e83_9 : ad109 83 = q5 := (g9b 83 rfl).trans h108
  refine k_putF C (q0 := 0) (ci := 0) (fs := [.ref q1, .int 0, .ref q2, .ref q3, .ref q99, .ref q4, .null, .null, .null, .null, .null, .long 0]) (v := .ref q5) (ty := (.object "TimeFlood$State")) (ws2 := (([(h0, .inr (0, [.ref q1, .int 0, .ref q2, .ref q3, .ref q99, .ref q4, .ref q5, .null, .null, .null, .null, .long 0]))] : va_W) ++ blk D E ad109 (((([1] ++ ksRd) ++ ksFl) ++ (ksSt 0)) ++ (ksSt 1)))) rfl i_TF t_TF t_TF_ok n_TF rfl 6 (by decide) (Nat.le_of_ble_eq_true rfl) rfl rfl (t_TF_ok 6 (by decide)) rfl rfl wd_245 d_TF_init_69 rfl ?_
  refine k_aload C d_TF_init_72 (place := 0) rfl rfl ?_
  refine k_new C (ci := 6) (fs := fs_Jr) wd_199 wd_200 wd_7 i_Jr t_Jr t_Jr_ok rfl dv_Jr (Nat.le_of_ble_eq_true rfl) (Nat.le_of_ble_eq_true rfl) d_TF_init_73 (fun q6 => ?_)
  refine k_dup C d_TF_init_76 rfl ?_
  refine k_callI C (y := y_Jr_init) (fs := fs_Jr) (ws0 := (([(h0, .inr (0, [.ref q1, .int 0, .ref q2, .ref q3, .ref q99, .ref q4, .ref q5, .null, .null, .null, .null, .long 0]))] : va_W) ++ blk D E ad109 (((([1] ++ ksRd) ++ ksFl) ++ (ksSt 0)) ++ (ksSt 1)))) (fun sz => c_Jr_init _ D E q6 sz) wd_203 wd_7 wd_202 wd_201 rfl ⟨by decide, by decide, by decide +kernel⟩ ⟨(Nat.le_of_ble_eq_true rfl), (Nat.le_of_ble_eq_true rfl)⟩ (Nat.le_of_ble_eq_true rfl) (Nat.le_of_ble_eq_true rfl) (Nat.le_of_ble_eq_true rfl) d_TF_init_77 (fun ad110 h110 => ?_)
  refine k_glue (fun i => decide (i = 30) || (decide (i = 31) || decide (149 ≤ i))) (by decide +kernel) (by decide +kernel) (fun ad111 g11a g11b => ?_)
  have e1_11 : ad111 1 = q1 := (g11a 1 rfl).trans e1_9
  have e2_11 : ad111 2 = q2 := (g11a 2 rfl).trans e2_9
  have e14_11 : ad111 14 = q3 := (g11a 14 rfl).trans e14_9
  have e15_11 : ad111 15 = q99 := (g11a 15 rfl).trans e15_9
  have e61_11 : ad111 61 = q4 := (g11a 61 rfl).trans e61_9
  have e83_11 : ad111 83 = q5 := (g11a 83 rfl).trans e83_9
  have e30_11 : ad111 30 = q6 := (g11b 30 rfl).trans h110
  refine k_putF C (q0 := 0) (ci := 0) (fs := [.ref q1, .int 0, .ref q2, .ref q3, .ref q99, .ref q4, .ref q5, .null, .null, .null, .null, .long 0]) (v := .ref q6) (ty := (.object "TimeFlood$Journal")) (ws2 := (([(h0, .inr (0, [.ref q1, .int 0, .ref q2, .ref q3, .ref q99, .ref q4, .ref q5, .ref q6, .null, .null, .null, .long 0]))] : va_W) ++ blk D E ad111 ((((([1] ++ ksRd) ++ ksFl) ++ (ksSt 0)) ++ (ksSt 1)) ++ ksJr))) rfl i_TF t_TF t_TF_ok n_TF rfl 7 (by decide) (Nat.le_of_ble_eq_true rfl) rfl rfl (t_TF_ok 7 (by decide)) rfl rfl wd_246 d_TF_init_80 rfl ?_
  refine k_aload C d_TF_init_83 (place := 0) rfl rfl ?_
  refine k_iconst (v := 2) C d_TF_init_84 rfl ?_
  refine k_newq C (t := 3) (N' := 2) wd_127 (fun _ z => z.2.1) rfl (by decide) (by decide) (by decide) (Nat.le_of_ble_eq_true rfl) (Nat.le_of_ble_eq_true rfl) d_TF_init_85 (fun q7 => ?_)
  refine k_swap ?_
  refine k_eq (ws2 := (([(h0, .inr (0, [.ref q1, .int 0, .ref q2, .ref q3, .ref q99, .ref q4, .ref q5, .ref q6, .null, .null, .null, .long 0])), (q7, .inl (E 3, 2, .inr (.inr (.inr (.inr fun _ => none)))))] : va_W) ++ blk D E ad111 ((((([1] ++ ksRd) ++ ksFl) ++ (ksSt 0)) ++ (ksSt 1)) ++ ksJr))) rfl ?_
  refine k_putF C (q0 := 0) (ci := 0) (fs := [.ref q1, .int 0, .ref q2, .ref q3, .ref q99, .ref q4, .ref q5, .ref q6, .null, .null, .null, .long 0]) (v := .ref q7) (ty := (.array (.object "TimeFlood$State"))) (ws2 := (([(h0, .inr (0, [.ref q1, .int 0, .ref q2, .ref q3, .ref q99, .ref q4, .ref q5, .ref q6, .ref q7, .null, .null, .long 0])), (q7, .inl (E 3, 2, .inr (.inr (.inr (.inr fun _ => none)))))] : va_W) ++ blk D E ad111 ((((([1] ++ ksRd) ++ ksFl) ++ (ksSt 0)) ++ (ksSt 1)) ++ ksJr))) rfl i_TF t_TF t_TF_ok n_TF rfl 8 (by decide) (Nat.le_of_ble_eq_true rfl) rfl rfl (t_TF_ok 8 (by decide)) rfl rfl wd_247 d_TF_init_88 rfl ?_
  refine k_aload C d_TF_init_91 (place := 0) rfl rfl ?_
  refine k_iconst (v := 2) C d_TF_init_92 rfl ?_
  refine k_newi C (t := 2) (N' := 2) (ty := .boolean) rfl wd_126 rfl (fun _ _ h => h) rfl (by decide) (by decide) (by decide) (Nat.le_of_ble_eq_true rfl) (Nat.le_of_ble_eq_true rfl) d_TF_init_93 (fun q8 => ?_)
  obtain ⟨ad112, had112⟩ : ∃ f : Nat → Nat, f = fun _ => q8 := ⟨_, rfl⟩
  refine k_eq (ws2 := (([(h0, .inr (0, [.ref q1, .int 0, .ref q2, .ref q3, .ref q99, .ref q4, .ref q5, .ref q6, .ref q7, .null, .null, .long 0])), (q7, .inl (E 3, 2, .inr (.inr (.inr (.inr fun _ => none)))))] : va_W) ++ blk D E ad111 ((((([1] ++ ksRd) ++ ksFl) ++ (ksSt 0)) ++ (ksSt 1)) ++ ksJr)) ++ blk D E ad112 [33]) (by rw [had112]; rfl) ?_
  have f33 : ad112 33 = q8 := by rw [had112]
  refine k_glue (fun i => decide (i = 33)) (by decide +kernel) (by decide +kernel) (fun ad113 g13a g13b => ?_)
  have e1_13 : ad113 1 = q1 := (g13a 1 rfl).trans e1_11
  have e2_13 : ad113 2 = q2 := (g13a 2 rfl).trans e2_11
  have e14_13 : ad113 14 = q3 := (g13a 14 rfl).trans e14_11
  have e15_13 : ad113 15 = q99 := (g13a 15 rfl).trans e15_11
  have e61_13 : ad113 61 = q4 := (g13a 61 rfl).trans e61_11
  have e83_13 : ad113 83 = q5 := (g13a 83 rfl).trans e83_11
  have e30_13 : ad113 30 = q6 := (g13a 30 rfl).trans e30_11
  have e33_13 : ad113 33 = q8 := (g13b 33 rfl).trans f33
  refine k_putF C (q0 := 0) (ci := 0) (fs := [.ref q1, .int 0, .ref q2, .ref q3, .ref q99, .ref q4, .ref q5, .ref q6, .ref q7, .null, .null, .long 0]) (v := .ref q8) (ty := (.array .boolean)) (ws2 := (([(h0, .inr (0, [.ref q1, .int 0, .ref q2, .ref q3, .ref q99, .ref q4, .ref q5, .ref q6, .ref q7, .ref q8, .null, .long 0])), (q7, .inl (E 3, 2, .inr (.inr (.inr (.inr fun _ => none)))))] : va_W) ++ blk D E ad113 (((((([1] ++ ksRd) ++ ksFl) ++ (ksSt 0)) ++ (ksSt 1)) ++ ksJr) ++ [33]))) rfl i_TF t_TF t_TF_ok n_TF rfl 9 (by decide) (Nat.le_of_ble_eq_true rfl) rfl rfl (t_TF_ok 9 (by decide)) rfl rfl wd_248 d_TF_init_95 rfl ?_
  refine k_aload C d_TF_init_98 (place := 0) rfl rfl ?_
  refine k_new C (ci := 7) (fs := fs_Sg) wd_219 wd_220 wd_8 i_Sg t_Sg t_Sg_ok rfl dv_Sg (Nat.le_of_ble_eq_true rfl) (Nat.le_of_ble_eq_true rfl) d_TF_init_99 (fun q9 => ?_)
  refine k_dup C d_TF_init_102 rfl ?_
  refine k_callN C (y := y_Sg_init) (host := "TimeFlood") (fs := fs_Sg) (ws0 := (([(h0, .inr (0, [.ref q1, .int 0, .ref q2, .ref q3, .ref q99, .ref q4, .ref q5, .ref q6, .ref q7, .ref q8, .null, .long 0])), (q7, .inl (E 3, 2, .inr (.inr (.inr (.inr fun _ => none)))))] : va_W) ++ blk D E ad113 (((((([1] ++ ksRd) ++ ksFl) ++ (ksSt 0)) ++ (ksSt 1)) ++ ksJr) ++ [33]))) (fun sz => c_Sg_init _ D E q9 sz) wd_223 wd_8 wd_222 (fun _ z => z.2.2.2.2.2) rfl ⟨by decide, by decide, by decide +kernel⟩ ⟨(Nat.le_of_ble_eq_true rfl), (Nat.le_of_ble_eq_true rfl)⟩ (Nat.le_of_ble_eq_true rfl) (Nat.le_of_ble_eq_true rfl) (Nat.le_of_ble_eq_true rfl) d_TF_init_103 (fun ad114 h114 => ?_)
  refine k_glue (fun i => decide (34 ≤ i) && decide (i < 38)) (by decide +kernel) (by decide +kernel) (fun ad115 g15a g15b => ?_)
  have e1_15 : ad115 1 = q1 := (g15a 1 rfl).trans e1_13
  have e2_15 : ad115 2 = q2 := (g15a 2 rfl).trans e2_13
  have e14_15 : ad115 14 = q3 := (g15a 14 rfl).trans e14_13
  have e15_15 : ad115 15 = q99 := (g15a 15 rfl).trans e15_13
  have e61_15 : ad115 61 = q4 := (g15a 61 rfl).trans e61_13
  have e83_15 : ad115 83 = q5 := (g15a 83 rfl).trans e83_13
  have e30_15 : ad115 30 = q6 := (g15a 30 rfl).trans e30_13
  have e33_15 : ad115 33 = q8 := (g15a 33 rfl).trans e33_13
  have e34_15 : ad115 34 = q9 := (g15b 34 rfl).trans h114
  refine k_putF C (q0 := 0) (ci := 0) (fs := [.ref q1, .int 0, .ref q2, .ref q3, .ref q99, .ref q4, .ref q5, .ref q6, .ref q7, .ref q8, .null, .long 0]) (v := .ref q9) (ty := (.object "TimeFlood$Sightings")) (ws2 := (([(h0, .inr (0, [.ref q1, .int 0, .ref q2, .ref q3, .ref q99, .ref q4, .ref q5, .ref q6, .ref q7, .ref q8, .ref q9, .long 0])), (q7, .inl (E 3, 2, .inr (.inr (.inr (.inr fun _ => none)))))] : va_W) ++ blk D E ad115 ((((((([1] ++ ksRd) ++ ksFl) ++ (ksSt 0)) ++ (ksSt 1)) ++ ksJr) ++ [33]) ++ [34, 35, 36, 37]))) rfl i_TF t_TF t_TF_ok n_TF rfl 10 (by decide) (Nat.le_of_ble_eq_true rfl) rfl rfl (t_TF_ok 10 (by decide)) rfl rfl wd_249 d_TF_init_106 rfl ?_
  refine k_aload C d_TF_init_109 (place := 0) rfl rfl ?_
  refine k_lconst (v := 0) C d_TF_init_110 rfl ?_
  refine k_put C (q0 := 0) (ci := 0) (fs := [.ref q1, .int 0, .ref q2, .ref q3, .ref q99, .ref q4, .ref q5, .ref q6, .ref q7, .ref q8, .ref q9, .long 0]) (v := .long 0) (ty := .long) (ws2 := (([(h0, .inr (0, [.ref q1, .int 0, .ref q2, .ref q3, .ref q99, .ref q4, .ref q5, .ref q6, .ref q7, .ref q8, .ref q9, .long 0])), (q7, .inl (E 3, 2, .inr (.inr (.inr (.inr fun _ => none)))))] : va_W) ++ blk D E ad115 ((((((([1] ++ ksRd) ++ ksFl) ++ (ksSt 0)) ++ (ksSt 1)) ++ ksJr) ++ [33]) ++ [34, 35, 36, 37]))) rfl i_TF t_TF t_TF_ok n_TF rfl 11 (by decide) (Nat.le_of_ble_eq_true rfl) rfl (t_TF_ok 11 (by decide)) rfl rfl wd_250 d_TF_init_111 rfl ?_
  refine k_iconst (v := 0) C d_TF_init_114 rfl ?_
  refine k_istore (lv2 := [(1, .int 0), (0, .ref h0)]) C d_TF_init_115 rfl (by decide) rfl ?_
  refine k_iload C d_TF_init_116 rfl (place := 0) rfl ?_
  refine k_iconst (v := 2) C d_TF_init_117 rfl ?_
  refine k_icmpge (tgt := 140) C d_TF_init_118 (by decide) (fun h => absurd h (by decide)) (fun _ => ?_)
  refine k_aload C d_TF_init_121 (place := 1) rfl rfl ?_
  refine k_get C (q0 := 0) (ci := 0) (fs := [.ref q1, .int 0, .ref q2, .ref q3, .ref q99, .ref q4, .ref q5, .ref q6, .ref q7, .ref q8, .ref q9, .long 0]) (v := .ref q7) rfl i_TF rfl 8 (by decide) rfl wd_247 d_TF_init_122 ?_
  refine k_iload C d_TF_init_125 rfl (place := 0) rfl ?_
  refine k_new C (ci := 4) (fs := fs_St) wd_127 wd_128 wd_5 i_St t_St t_St_ok rfl dv_St (Nat.le_of_ble_eq_true rfl) (Nat.le_of_ble_eq_true rfl) d_TF_init_126 (fun q10 => ?_)
  refine k_dup C d_TF_init_129 rfl ?_
  refine k_callI C (y := y_St_init) (fs := fs_St) (ws0 := (([(h0, .inr (0, [.ref q1, .int 0, .ref q2, .ref q3, .ref q99, .ref q4, .ref q5, .ref q6, .ref q7, .ref q8, .ref q9, .long 0])), (q7, .inl (E 3, 2, .inr (.inr (.inr (.inr fun _ => none)))))] : va_W) ++ blk D E ad115 ((((((([1] ++ ksRd) ++ ksFl) ++ (ksSt 0)) ++ (ksSt 1)) ++ ksJr) ++ [33]) ++ [34, 35, 36, 37]))) (fun sz => c_St_init _ D E (s := 2) (by omega) q10 sz) wd_131 wd_5 wd_130 wd_129 rfl ⟨by decide, by decide, by decide +kernel⟩ ⟨(Nat.le_of_ble_eq_true rfl), (Nat.le_of_ble_eq_true rfl)⟩ (Nat.le_of_ble_eq_true rfl) (Nat.le_of_ble_eq_true rfl) (Nat.le_of_ble_eq_true rfl) d_TF_init_130 (fun ad116 h116 => ?_)
  have hkl0 : (((((((([1] ++ ksRd) ++ ksFl) ++ (ksSt 0)) ++ (ksSt 1)) ++ ksJr) ++ [33]) ++ [34, 35, 36, 37])).length = 388 := by decide +kernel
  have hlen0 : ((([(h0, .inr (0, [.ref q1, .int 0, .ref q2, .ref q3, .ref q99, .ref q4, .ref q5, .ref q6, .ref q7, .ref q8, .ref q9, .long 0])), (q7, .inl (E 3, 2, .inr (.inr (.inr (.inr fun _ => none)))))] : va_W) ++ blk D E ad115 ((((((([1] ++ ksRd) ++ ksFl) ++ (ksSt 0)) ++ (ksSt 1)) ++ ksJr) ++ [33]) ++ [34, 35, 36, 37]))).length = 390 := by
    rw [List.length_append, blk_len, hkl0]; rfl
  have hnd0 := St_cell (D := D) (E := E) (ad := ad116) (s := 2) (by omega)
  rw [h116] at hnd0
  refine k_ast C (q0 := 1) (t0 := 3) (qk := 390) (ci := 4) (r := ("TimeFlood$State", F_St, 3)) (f := fun _ => none) (ws2 := (([(h0, .inr (0, [.ref q1, .int 0, .ref q2, .ref q3, .ref q99, .ref q4, .ref q5, .ref q6, .ref q7, .ref q8, .ref q9, .long 0])), (q7, .inl (E 3, 2, .inr (.inr (.inr (.inr (va_up (fun _ => none) 0 (some q10)))))))] : va_W) ++ blk D E ad115 ((((((([1] ++ ksRd) ++ ksFl) ++ (ksSt 0)) ++ (ksSt 1)) ++ ksJr) ++ [33]) ++ [34, 35, 36, 37])) ++ blk D E ad116 (ksSt 2)) rfl rfl (by rw [List.getElem?_append_right (by rw [hlen0]; exact Nat.le_refl _), hlen0, Nat.sub_self, hnd0]) rfl (vp_in_nI (by omega) (by omega) : vp_in (nI 0) 2) d_TF_init_133 rfl ?_
  refine k_glue (fun i => decide (105 ≤ i) && decide (i < 127)) (by decide +kernel) (by decide +kernel) (fun ad117 g17a g17b => ?_)
  have e1_17 : ad117 1 = q1 := (g17a 1 rfl).trans e1_15
  have e2_17 : ad117 2 = q2 := (g17a 2 rfl).trans e2_15
  have e14_17 : ad117 14 = q3 := (g17a 14 rfl).trans e14_15
  have e15_17 : ad117 15 = q99 := (g17a 15 rfl).trans e15_15
  have e61_17 : ad117 61 = q4 := (g17a 61 rfl).trans e61_15
  have e83_17 : ad117 83 = q5 := (g17a 83 rfl).trans e83_15
  have e30_17 : ad117 30 = q6 := (g17a 30 rfl).trans e30_15
  have e33_17 : ad117 33 = q8 := (g17a 33 rfl).trans e33_15
  have e34_17 : ad117 34 = q9 := (g17a 34 rfl).trans e34_15
  have e105_17 : ad117 105 = q10 := (g17b 105 rfl).trans h116
  refine k_iinc (v := 1) (lv2 := [(1, .int 1), (0, .ref h0)]) C d_TF_init_134 (place := 0) rfl rfl (by decide) rfl ?_
  refine k_goto (tgt := 116) C d_TF_init_137 (by decide) ?_
  refine k_iload C d_TF_init_116 rfl (place := 0) rfl ?_
  refine k_iconst (v := 2) C d_TF_init_117 rfl ?_
  refine k_icmpge (tgt := 140) C d_TF_init_118 (by decide) (fun h => absurd h (by decide)) (fun _ => ?_)
  refine k_aload C d_TF_init_121 (place := 1) rfl rfl ?_
  refine k_get C (q0 := 0) (ci := 0) (fs := [.ref q1, .int 0, .ref q2, .ref q3, .ref q99, .ref q4, .ref q5, .ref q6, .ref q7, .ref q8, .ref q9, .long 0]) (v := .ref q7) rfl i_TF rfl 8 (by decide) rfl wd_247 d_TF_init_122 ?_
  refine k_iload C d_TF_init_125 rfl (place := 0) rfl ?_
  refine k_new C (ci := 4) (fs := fs_St) wd_127 wd_128 wd_5 i_St t_St t_St_ok rfl dv_St (Nat.le_of_ble_eq_true rfl) (Nat.le_of_ble_eq_true rfl) d_TF_init_126 (fun q11 => ?_)
  refine k_dup C d_TF_init_129 rfl ?_
  refine k_callI C (y := y_St_init) (fs := fs_St) (ws0 := (([(h0, .inr (0, [.ref q1, .int 0, .ref q2, .ref q3, .ref q99, .ref q4, .ref q5, .ref q6, .ref q7, .ref q8, .ref q9, .long 0])), (q7, .inl (E 3, 2, .inr (.inr (.inr (.inr (va_up (fun _ => none) 0 (some q10)))))))] : va_W) ++ blk D E ad117 (((((((([1] ++ ksRd) ++ ksFl) ++ (ksSt 0)) ++ (ksSt 1)) ++ ksJr) ++ [33]) ++ [34, 35, 36, 37]) ++ (ksSt 2)))) (fun sz => c_St_init _ D E (s := 3) (by omega) q11 sz) wd_131 wd_5 wd_130 wd_129 rfl ⟨by decide, by decide, by decide +kernel⟩ ⟨(Nat.le_of_ble_eq_true rfl), (Nat.le_of_ble_eq_true rfl)⟩ (Nat.le_of_ble_eq_true rfl) (Nat.le_of_ble_eq_true rfl) (Nat.le_of_ble_eq_true rfl) d_TF_init_130 (fun ad118 h118 => ?_)
  have hkl1 : ((((((((([1] ++ ksRd) ++ ksFl) ++ (ksSt 0)) ++ (ksSt 1)) ++ ksJr) ++ [33]) ++ [34, 35, 36, 37]) ++ (ksSt 2))).length = 410 := by decide +kernel
  have hlen1 : ((([(h0, .inr (0, [.ref q1, .int 0, .ref q2, .ref q3, .ref q99, .ref q4, .ref q5, .ref q6, .ref q7, .ref q8, .ref q9, .long 0])), (q7, .inl (E 3, 2, .inr (.inr (.inr (.inr (va_up (fun _ => none) 0 (some q10)))))))] : va_W) ++ blk D E ad117 (((((((([1] ++ ksRd) ++ ksFl) ++ (ksSt 0)) ++ (ksSt 1)) ++ ksJr) ++ [33]) ++ [34, 35, 36, 37]) ++ (ksSt 2)))).length = 412 := by
    rw [List.length_append, blk_len, hkl1]; rfl
  have hnd1 := St_cell (D := D) (E := E) (ad := ad118) (s := 3) (by omega)
  rw [h118] at hnd1
  refine k_ast C (q0 := 1) (t0 := 3) (qk := 412) (ci := 4) (r := ("TimeFlood$State", F_St, 3)) (f := va_up (fun _ => none) 0 (some q10)) (ws2 := (([(h0, .inr (0, [.ref q1, .int 0, .ref q2, .ref q3, .ref q99, .ref q4, .ref q5, .ref q6, .ref q7, .ref q8, .ref q9, .long 0])), (q7, .inl (E 3, 2, .inr (.inr (.inr (.inr (va_up (va_up (fun _ => none) 0 (some q10)) 1 (some q11)))))))] : va_W) ++ blk D E ad117 (((((((([1] ++ ksRd) ++ ksFl) ++ (ksSt 0)) ++ (ksSt 1)) ++ ksJr) ++ [33]) ++ [34, 35, 36, 37]) ++ (ksSt 2))) ++ blk D E ad118 (ksSt 3)) rfl rfl (by rw [List.getElem?_append_right (by rw [hlen1]; exact Nat.le_refl _), hlen1, Nat.sub_self, hnd1]) rfl (vp_in_nI (by omega) (by omega) : vp_in (nI 1) 2) d_TF_init_133 rfl ?_
  refine k_glue (fun i => decide (127 ≤ i) && decide (i < 149)) (by decide +kernel) (by decide +kernel) (fun ad119 g19a g19b => ?_)
  have e1_19 : ad119 1 = q1 := (g19a 1 rfl).trans e1_17
  have e2_19 : ad119 2 = q2 := (g19a 2 rfl).trans e2_17
  have e14_19 : ad119 14 = q3 := (g19a 14 rfl).trans e14_17
  have e15_19 : ad119 15 = q99 := (g19a 15 rfl).trans e15_17
  have e61_19 : ad119 61 = q4 := (g19a 61 rfl).trans e61_17
  have e83_19 : ad119 83 = q5 := (g19a 83 rfl).trans e83_17
  have e30_19 : ad119 30 = q6 := (g19a 30 rfl).trans e30_17
  have e33_19 : ad119 33 = q8 := (g19a 33 rfl).trans e33_17
  have e34_19 : ad119 34 = q9 := (g19a 34 rfl).trans e34_17
  have e105_19 : ad119 105 = q10 := (g19a 105 rfl).trans e105_17
  have e127_19 : ad119 127 = q11 := (g19b 127 rfl).trans h118
  refine k_iinc (v := 2) (lv2 := [(1, .int 2), (0, .ref h0)]) C d_TF_init_134 (place := 0) rfl rfl (by decide) rfl ?_
  refine k_goto (tgt := 116) C d_TF_init_137 (by decide) ?_
  refine k_iload C d_TF_init_116 rfl (place := 0) rfl ?_
  refine k_iconst (v := 2) C d_TF_init_117 rfl ?_
  refine k_icmpge (tgt := 140) C d_TF_init_118 (by decide) (fun _ => ?_) (fun h => absurd (by decide) h)
  obtain ⟨fad, a1, a2, a3⟩ : ∃ f : Nat → Nat, f 0 = h0 ∧ f 32 = q7 ∧ ∀ i, (decide (i = 0) || decide (i = 32)) = false → f i = ad119 i := ⟨fun i => if i = 0 then h0 else if i = 32 then q7 else ad119 i, rfl, rfl, fun i hi => (if_neg (of_decide_eq_false (Bool.or_eq_false_iff.mp hi).1)).trans (if_neg (of_decide_eq_false (Bool.or_eq_false_iff.mp hi).2))⟩
  refine k_sm (ws2 := blk D E fad ([0, 32] ++ ((((((((([1] ++ ksRd) ++ ksFl) ++ (ksSt 0)) ++ (ksSt 1)) ++ ksJr) ++ [33]) ++ [34, 35, 36, 37]) ++ (ksSt 2)) ++ (ksSt 3)))) ?_ (k_ret C fad d_TF_init_140 (Nat.le_of_ble_eq_true rfl) (Nat.le_of_ble_eq_true rfl) a1 rfl)
  rw [blk_app (a := [0, 32])]
  refine Sm.app ?_ (Sm.bl (fun k hk i hi => a3 i ((by decide +kernel : ∀ k, k ∈ ((((((((([1] ++ ksRd) ++ ksFl) ++ (ksSt 0)) ++ (ksSt 1)) ++ ksJr) ++ [33]) ++ [34, 35, 36, 37]) ++ (ksSt 2)) ++ (ksSt 3)) → ∀ i, i ∈ rfs k → (decide (i = 0) || decide (i = 32)) = false) k hk i hi)))
  show Sm D ([(h0, .inr (0, [.ref q1, .int 0, .ref q2, .ref q3, .ref q99, .ref q4, .ref q5, .ref q6, .ref q7, .ref q8, .ref q9, .long 0]))] ++ [(q7, .inl (E 3, 2, .inr (.inr (.inr (.inr (va_up (va_up (fun _ => none) 0 (some q10)) 1 (some q11)))))))]) ([(fad 0, .inr (0, [.ref (fad 1), .int 0, .ref (fad 2), .ref (fad 14), .ref (fad 15), .ref (fad 61), .ref (fad 83), .ref (fad 30), .ref (fad 32), .ref (fad 33), .ref (fad 34), .long 0]))] ++ [(fad 32, .inl (E 3, 2, .inr (.inr (.inr (.inr fun j => some (fad (105 + 22 * j)))))))])
  have z1 : fad 1 = q1 := (a3 1 rfl).trans e1_19
  have z2 : fad 2 = q2 := (a3 2 rfl).trans e2_19
  have z14 : fad 14 = q3 := (a3 14 rfl).trans e14_19
  have z15 : fad 15 = q99 := (a3 15 rfl).trans e15_19
  have z61 : fad 61 = q4 := (a3 61 rfl).trans e61_19
  have z83 : fad 83 = q5 := (a3 83 rfl).trans e83_19
  have z30 : fad 30 = q6 := (a3 30 rfl).trans e30_19
  have z33 : fad 33 = q8 := (a3 33 rfl).trans e33_19
  have z34 : fad 34 = q9 := (a3 34 rfl).trans e34_19
  have z105 : fad 105 = q10 := (a3 105 rfl).trans e105_19
  have z127 : fad 127 = q11 := (a3 127 rfl).trans e127_19
  rw [a1, a2, z1, z2, z14, z15, z61, z83, z30, z33, z34]
  refine Sm.app Sm.rf (Sm.one (fun H hv => at_q (fun j hj => ?_) hv))
  obtain rfl | rfl : j = 0 ∨ j = 1 := by omega
  · exact congrArg some z105.symm
  · exact congrArg some z127.symm
