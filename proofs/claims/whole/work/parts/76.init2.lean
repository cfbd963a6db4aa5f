/-! CONSTRUCTORS: Reader, Flood -/
theorem dv_TF : ∀ j, j < 12 → defaultValue (t_TF j) = vp_V fs_TF j := fun j hj => by
  obtain rfl | rfl | rfl | rfl | rfl | rfl | rfl | rfl | rfl | rfl | rfl | rfl : j = 0 ∨ j = 1 ∨ j = 2 ∨ j = 3 ∨ j = 4 ∨ j = 5 ∨ j = 6 ∨ j = 7 ∨ j = 8 ∨ j = 9 ∨ j = 10 ∨ j = 11 := by omega
  all_goals rfl
theorem dv_Rd : ∀ j, j < 4 → defaultValue (t_Rd j) = vp_V fs_Rd j := fun j hj => by
  obtain rfl | rfl | rfl | rfl : j = 0 ∨ j = 1 ∨ j = 2 ∨ j = 3 := by omega
  all_goals rfl
theorem dv_Pl : ∀ j, j < 10 → defaultValue (t_Pl j) = vp_V fs_Pl j := fun j hj => by
  obtain rfl | rfl | rfl | rfl | rfl | rfl | rfl | rfl | rfl | rfl : j = 0 ∨ j = 1 ∨ j = 2 ∨ j = 3 ∨ j = 4 ∨ j = 5 ∨ j = 6 ∨ j = 7 ∨ j = 8 ∨ j = 9 := by omega
  all_goals rfl
theorem dv_Fl : ∀ j, j < 5 → defaultValue (t_Fl j) = vp_V fs_Fl j := fun j hj => by
  obtain rfl | rfl | rfl | rfl | rfl : j = 0 ∨ j = 1 ∨ j = 2 ∨ j = 3 ∨ j = 4 := by omega
  all_goals rfl
theorem dv_St : ∀ j, j < 3 → defaultValue (t_St j) = vp_V fs_St j := fun j hj => by
  obtain rfl | rfl | rfl : j = 0 ∨ j = 1 ∨ j = 2 := by omega
  all_goals rfl
theorem dv_Nd : ∀ j, j < 10 → defaultValue (t_Nd j) = vp_V fs_Nd j := fun j hj => by
  obtain rfl | rfl | rfl | rfl | rfl | rfl | rfl | rfl | rfl | rfl : j = 0 ∨ j = 1 ∨ j = 2 ∨ j = 3 ∨ j = 4 ∨ j = 5 ∨ j = 6 ∨ j = 7 ∨ j = 8 ∨ j = 9 := by omega
  all_goals rfl
theorem dv_Jr : ∀ j, j < 3 → defaultValue (t_Jr j) = vp_V fs_Jr j := fun j hj => by
  obtain rfl | rfl | rfl : j = 0 ∨ j = 1 ∨ j = 2 := by omega
  all_goals rfl
theorem dv_Sg : ∀ j, j < 4 → defaultValue (t_Sg j) = vp_V fs_Sg j := fun j hj => by
  obtain rfl | rfl | rfl | rfl : j = 0 ∨ j = 1 ∨ j = 2 ∨ j = 3 := by omega
  all_goals rfl
theorem dv_M : ∀ j, j < 39 → defaultValue (t_M j) = vp_V fs_M j := fun j hj => by
  obtain rfl | rfl | rfl | rfl | rfl | rfl | rfl | rfl | rfl | rfl | rfl | rfl | rfl | rfl | rfl | rfl | rfl | rfl | rfl | rfl | rfl | rfl | rfl | rfl | rfl | rfl | rfl | rfl | rfl | rfl | rfl | rfl | rfl | rfl | rfl | rfl | rfl | rfl | rfl : j = 0 ∨ j = 1 ∨ j = 2 ∨ j = 3 ∨ j = 4 ∨ j = 5 ∨ j = 6 ∨ j = 7 ∨ j = 8 ∨ j = 9 ∨ j = 10 ∨ j = 11 ∨ j = 12 ∨ j = 13 ∨ j = 14 ∨ j = 15 ∨ j = 16 ∨ j = 17 ∨ j = 18 ∨ j = 19 ∨ j = 20 ∨ j = 21 ∨ j = 22 ∨ j = 23 ∨ j = 24 ∨ j = 25 ∨ j = 26 ∨ j = 27 ∨ j = 28 ∨ j = 29 ∨ j = 30 ∨ j = 31 ∨ j = 32 ∨ j = 33 ∨ j = 34 ∨ j = 35 ∨ j = 36 ∨ j = 37 ∨ j = 38 := by omega
  all_goals rfl
def ksRd : List Nat := [2, 3, 4, 5, 6, 7, 8, 9, 10, 11, 12, 13]
def ksFl : List Nat := [14] ++ (((([15, 16, 17, 18, 19, 20, 21, 22, 23, 24, 25] ++ [26]) ++ [27]) ++ [28]) ++ [29])
set_option maxRecDepth 100000 in
theorem c_Rd_init (l : Launch) (D : va_G) (E : Nat → ClassId) (h0 sz : Nat) : CTN l D E y_Rd_init b_Rd_init 1 2 32 11 64 1 fs_Rd 2 ksRd h0 sz := by
  refine entK "TimeFlood$Reader" (by decide) rfl rfl (by decide) (fun X hX C => ?_)
  refine k_aload C d_Rd_init_0 (place := 0) rfl rfl ?_
  refine k_obj C wd_26 ⟨Nat.le_of_ble_eq_true rfl, Nat.le_of_ble_eq_true rfl⟩ d_Rd_init_1 ?_
  refine k_aload C d_Rd_init_4 (place := 0) rfl rfl ?_
  refine k_new C (ci := 2) (fs := fs_Pl) wd_27 wd_28 wd_3 i_Pl t_Pl t_Pl_ok rfl dv_Pl (Nat.le_of_ble_eq_true rfl) (Nat.le_of_ble_eq_true rfl) d_Rd_init_5 (fun q1 => ?_)
  refine k_dup C d_Rd_init_8 rfl ?_
  refine k_callN C (y := y_Pl_init) (host := "TimeFlood") (fs := fs_Pl) (ws0 := [(h0, .inr (1, [.null, .int 0, .int 0, .int 0]))]) (fun sz => c_Pl_init _ D E (k0 := 3) (Or.inl rfl) q1 sz) wd_31 wd_3 wd_30 (fun _ z => z.2.1) rfl ⟨by decide, by decide, by decide +kernel⟩ ⟨(Nat.le_of_ble_eq_true rfl), (Nat.le_of_ble_eq_true rfl)⟩ (Nat.le_of_ble_eq_true rfl) (Nat.le_of_ble_eq_true rfl) (Nat.le_of_ble_eq_true rfl) d_Rd_init_9 (fun ad101 h101 => ?_)
  refine k_putF C (q0 := 0) (ci := 1) (fs := [.null, .int 0, .int 0, .int 0]) (v := .ref q1) (ty := (.object "TimeFlood$Plan")) (ws2 := ([(h0, .inr (1, [.ref q1, .int 0, .int 0, .int 0]))] ++ blk D E ad101 [3, 4, 5, 6, 7, 8, 9, 10, 11, 12, 13])) rfl i_Rd t_Rd t_Rd_ok n_Rd rfl 0 (by decide) (Nat.le_of_ble_eq_true rfl) rfl rfl (t_Rd_ok 0 (by decide)) rfl rfl wd_87 d_Rd_init_12 rfl ?_
  refine k_aload C d_Rd_init_15 (place := 0) rfl rfl ?_
  refine k_iconst (v := 0) C d_Rd_init_16 rfl ?_
  refine k_put C (q0 := 0) (ci := 1) (fs := [.ref q1, .int 0, .int 0, .int 0]) (v := .int 0) (ty := .int) (ws2 := ([(h0, .inr (1, [.ref q1, .int 0, .int 0, .int 0]))] ++ blk D E ad101 [3, 4, 5, 6, 7, 8, 9, 10, 11, 12, 13])) rfl i_Rd t_Rd t_Rd_ok n_Rd rfl 1 (by decide) (Nat.le_of_ble_eq_true rfl) rfl (t_Rd_ok 1 (by decide)) rfl rfl wd_89 d_Rd_init_17 rfl ?_
  refine k_aload C d_Rd_init_20 (place := 0) rfl rfl ?_
  refine k_iconst (v := 0) C d_Rd_init_21 rfl ?_
  refine k_put C (q0 := 0) (ci := 1) (fs := [.ref q1, .int 0, .int 0, .int 0]) (v := .int 0) (ty := .int) (ws2 := ([(h0, .inr (1, [.ref q1, .int 0, .int 0, .int 0]))] ++ blk D E ad101 [3, 4, 5, 6, 7, 8, 9, 10, 11, 12, 13])) rfl i_Rd t_Rd t_Rd_ok n_Rd rfl 2 (by decide) (Nat.le_of_ble_eq_true rfl) rfl (t_Rd_ok 2 (by decide)) rfl rfl wd_90 d_Rd_init_22 rfl ?_
  refine k_aload C d_Rd_init_25 (place := 0) rfl rfl ?_
  refine k_iconst (v := 0) C d_Rd_init_26 rfl ?_
  refine k_put C (q0 := 0) (ci := 1) (fs := [.ref q1, .int 0, .int 0, .int 0]) (v := .int 0) (ty := .int) (ws2 := ([(h0, .inr (1, [.ref q1, .int 0, .int 0, .int 0]))] ++ blk D E ad101 [3, 4, 5, 6, 7, 8, 9, 10, 11, 12, 13])) rfl i_Rd t_Rd t_Rd_ok n_Rd rfl 3 (by decide) (Nat.le_of_ble_eq_true rfl) rfl (t_Rd_ok 3 (by decide)) rfl rfl wd_91 d_Rd_init_27 rfl ?_
  refine k_sm (ws2 := blk D E (fun i => if i = 2 then h0 else ad101 i) ([2] ++ [3, 4, 5, 6, 7, 8, 9, 10, 11, 12, 13])) ?_ (k_ret C _ d_Rd_init_30 (Nat.le_of_ble_eq_true rfl) (Nat.le_of_ble_eq_true rfl) rfl rfl)
  rw [blk_app (a := [2])]
  refine Sm.app ?_ (Sm.bl (fun k hk i hi => if_neg (of_decide_eq_false ((by decide +kernel : ∀ k, k ∈ [3, 4, 5, 6, 7, 8, 9, 10, 11, 12, 13] → ∀ i, i ∈ rfs k → decide (i = 2) = false) k hk i hi))))
  show Sm D [(h0, .inr (1, [.ref q1, .int 0, .int 0, .int 0]))] [(h0, .inr (1, [.ref (ad101 3), .int 0, .int 0, .int 0]))]
  rw [h101]
  exact Sm.rf
set_option maxRecDepth 100000 in
theorem c_Fl_init (l : Launch) (D : va_G) (E : Nat → ClassId) (h0 sz : Nat) : CTN l D E y_Fl_init b_Fl_init 1 2 32 15 84 3 fs_Fl 14 ksFl h0 sz := by
  refine entK "TimeFlood$Flood" (by decide) rfl rfl (by decide) (fun X hX C => ?_)
  refine k_aload C d_Fl_init_0 (place := 0) rfl rfl ?_
  refine k_obj C wd_106 ⟨Nat.le_of_ble_eq_true rfl, Nat.le_of_ble_eq_true rfl⟩ d_Fl_init_1 ?_
  refine k_aload C d_Fl_init_4 (place := 0) rfl rfl ?_
  refine k_new C (ci := 2) (fs := fs_Pl) wd_107 wd_28 wd_3 i_Pl t_Pl t_Pl_ok rfl dv_Pl (Nat.le_of_ble_eq_true rfl) (Nat.le_of_ble_eq_true rfl) d_Fl_init_5 (fun q1 => ?_)
  refine k_dup C d_Fl_init_8 rfl ?_
  refine k_callN C (y := y_Pl_init) (host := "TimeFlood") (fs := fs_Pl) (ws0 := [(h0, .inr (3, [.null, .null, .null, .null, .null]))]) (fun sz => c_Pl_init _ D E (k0 := 15) (Or.inr rfl) q1 sz) wd_31 wd_3 wd_30 (fun _ z => z.2.2.2.1) rfl ⟨by decide, by decide, by decide +kernel⟩ ⟨(Nat.le_of_ble_eq_true rfl), (Nat.le_of_ble_eq_true rfl)⟩ (Nat.le_of_ble_eq_true rfl) (Nat.le_of_ble_eq_true rfl) (Nat.le_of_ble_eq_true rfl) d_Fl_init_9 (fun ad101 h101 => ?_)
  refine k_putF C (q0 := 0) (ci := 3) (fs := [.null, .null, .null, .null, .null]) (v := .ref q1) (ty := (.object "TimeFlood$Plan")) (ws2 := ([(h0, .inr (3, [.ref q1, .null, .null, .null, .null]))] ++ blk D E ad101 [15, 16, 17, 18, 19, 20, 21, 22, 23, 24, 25])) rfl i_Fl t_Fl t_Fl_ok n_Fl rfl 0 (by decide) (Nat.le_of_ble_eq_true rfl) rfl rfl (t_Fl_ok 0 (by decide)) rfl rfl wd_109 d_Fl_init_12 rfl ?_
  refine k_aload C d_Fl_init_15 (place := 0) rfl rfl ?_
  refine k_iconst (v := 5) C d_Fl_init_16 rfl ?_
  refine k_newi C (t := 2) (N' := 5) (ty := .boolean) rfl wd_126 rfl (fun _ _ h => h) rfl (by decide) (by decide) (by decide) (Nat.le_of_ble_eq_true rfl) (Nat.le_of_ble_eq_true rfl) d_Fl_init_17 (fun q2 => ?_)
  obtain ⟨ad102, had102⟩ : ∃ f : Nat → Nat, f = fun _ => q2 := ⟨_, rfl⟩
  refine k_eq (ws2 := ([(h0, .inr (3, [.ref q1, .null, .null, .null, .null]))] ++ blk D E ad101 [15, 16, 17, 18, 19, 20, 21, 22, 23, 24, 25]) ++ blk D E ad102 [26]) (by rw [had102]; rfl) ?_
  have f26 : ad102 26 = q2 := by rw [had102]
  refine k_glue (fun i => decide (i = 26)) (by decide +kernel) (by decide +kernel) (fun ad103 g3a g3b => ?_)
  have e15_3 : ad103 15 = q1 := (g3a 15 rfl).trans h101
  have e26_3 : ad103 26 = q2 := (g3b 26 rfl).trans f26
  refine k_putF C (q0 := 0) (ci := 3) (fs := [.ref q1, .null, .null, .null, .null]) (v := .ref q2) (ty := (.array .boolean)) (ws2 := ([(h0, .inr (3, [.ref q1, .ref q2, .null, .null, .null]))] ++ blk D E ad103 ([15, 16, 17, 18, 19, 20, 21, 22, 23, 24, 25] ++ [26]))) rfl i_Fl t_Fl t_Fl_ok n_Fl rfl 1 (by decide) (Nat.le_of_ble_eq_true rfl) rfl rfl (t_Fl_ok 1 (by decide)) rfl rfl wd_111 d_Fl_init_19 rfl ?_
  refine k_aload C d_Fl_init_22 (place := 0) rfl rfl ?_
  refine k_iconst (v := 5) C d_Fl_init_23 rfl ?_
  refine k_newi C (t := 0) (N' := 5) (ty := .int) rfl wd_86 rfl (fun _ _ h => h) rfl (by decide) (by decide) (by decide) (Nat.le_of_ble_eq_true rfl) (Nat.le_of_ble_eq_true rfl) d_Fl_init_24 (fun q3 => ?_)
  obtain ⟨ad104, had104⟩ : ∃ f : Nat → Nat, f = fun _ => q3 := ⟨_, rfl⟩
  refine k_eq (ws2 := ([(h0, .inr (3, [.ref q1, .ref q2, .null, .null, .null]))] ++ blk D E ad103 ([15, 16, 17, 18, 19, 20, 21, 22, 23, 24, 25] ++ [26])) ++ blk D E ad104 [27]) (by rw [had104]; rfl) ?_
  have f27 : ad104 27 = q3 := by rw [had104]
  refine k_glue (fun i => decide (i = 27)) (by decide +kernel) (by decide +kernel) (fun ad105 g5a g5b => ?_)
  have e15_5 : ad105 15 = q1 := (g5a 15 rfl).trans e15_3
  have e26_5 : ad105 26 = q2 := (g5a 26 rfl).trans e26_3
  have e27_5 : ad105 27 = q3 := (g5b 27 rfl).trans f27
  refine k_putF C (q0 := 0) (ci := 3) (fs := [.ref q1, .ref q2, .null, .null, .null]) (v := .ref q3) (ty := (.array .int)) (ws2 := ([(h0, .inr (3, [.ref q1, .ref q2, .ref q3, .null, .null]))] ++ blk D E ad105 (([15, 16, 17, 18, 19, 20, 21, 22, 23, 24, 25] ++ [26]) ++ [27]))) rfl i_Fl t_Fl t_Fl_ok n_Fl rfl 2 (by decide) (Nat.le_of_ble_eq_true rfl) rfl rfl (t_Fl_ok 2 (by decide)) rfl rfl wd_112 d_Fl_init_26 rfl ?_
  refine k_aload C d_Fl_init_29 (place := 0) rfl rfl ?_
  refine k_iconst (v := 5) C d_Fl_init_30 rfl ?_
  refine k_newi C (t := 0) (N' := 5) (ty := .int) rfl wd_86 rfl (fun _ _ h => h) rfl (by decide) (by decide) (by decide) (Nat.le_of_ble_eq_true rfl) (Nat.le_of_ble_eq_true rfl) d_Fl_init_31 (fun q4 => ?_)
  obtain ⟨ad106, had106⟩ : ∃ f : Nat → Nat, f = fun _ => q4 := ⟨_, rfl⟩
  refine k_eq (ws2 := ([(h0, .inr (3, [.ref q1, .ref q2, .ref q3, .null, .null]))] ++ blk D E ad105 (([15, 16, 17, 18, 19, 20, 21, 22, 23, 24, 25] ++ [26]) ++ [27])) ++ blk D E ad106 [28]) (by rw [had106]; rfl) ?_
  have f28 : ad106 28 = q4 := by rw [had106]
  refine k_glue (fun i => decide (i = 28)) (by decide +kernel) (by decide +kernel) (fun ad107 g7a g7b => ?_)
  have e15_7 : ad107 15 = q1 := (g7a 15 rfl).trans e15_5
  have e26_7 : ad107 26 = q2 := (g7a 26 rfl).trans e26_5
  have e27_7 : ad107 27 = q3 := (g7a 27 rfl).trans e27_5
  have e28_7 : ad107 28 = q4 := (g7b 28 rfl).trans f28
  refine k_putF C (q0 := 0) (ci := 3) (fs := [.ref q1, .ref q2, .ref q3, .null, .null]) (v := .ref q4) (ty := (.array .int)) (ws2 := ([(h0, .inr (3, [.ref q1, .ref q2, .ref q3, .ref q4, .null]))] ++ blk D E ad107 ((([15, 16, 17, 18, 19, 20, 21, 22, 23, 24, 25] ++ [26]) ++ [27]) ++ [28]))) rfl i_Fl t_Fl t_Fl_ok n_Fl rfl 3 (by decide) (Nat.le_of_ble_eq_true rfl) rfl rfl (t_Fl_ok 3 (by decide)) rfl rfl wd_113 d_Fl_init_33 rfl ?_
  refine k_aload C d_Fl_init_36 (place := 0) rfl rfl ?_
  refine k_iconst (v := 5) C d_Fl_init_37 rfl ?_
  refine k_newi C (t := 0) (N' := 5) (ty := .int) rfl wd_86 rfl (fun _ _ h => h) rfl (by decide) (by decide) (by decide) (Nat.le_of_ble_eq_true rfl) (Nat.le_of_ble_eq_true rfl) d_Fl_init_38 (fun q5 => ?_)
  obtain ⟨ad108, had108⟩ : ∃ f : Nat → Nat, f = fun _ => q5 := ⟨_, rfl⟩
  refine k_eq (ws2 := ([(h0, .inr (3, [.ref q1, .ref q2, .ref q3, .ref q4, .null]))] ++ blk D E ad107 ((([15, 16, 17, 18, 19, 20, 21, 22, 23, 24, 25] ++ [26]) ++ [27]) ++ [28])) ++ blk D E ad108 [29]) (by rw [had108]; rfl) ?_
  have f29 : ad108 29 = q5 := by rw [had108]
  refine k_glue (fun i => decide (i = 29)) (by decide +kernel) (by decide +kernel) (fun ad109 g9a g9b => ?_)
  have e15_9 : ad109 15 = q1 := (g9a 15 rfl).trans e15_7
  have e26_9 : ad109 26 = q2 := (g9a 26 rfl).trans e26_7
  have e27_9 : ad109 27 = q3 := (g9a 27 rfl).trans e27_7
  have e28_9 : ad109 28 = q4 := (g9a 28 rfl).trans e28_7
  have e29_9 : ad109 29 = q5 := (g9b 29 rfl).trans f29
  refine k_putF C (q0 := 0) (ci := 3) (fs := [.ref q1, .ref q2, .ref q3, .ref q4, .null]) (v := .ref q5) (ty := (.array .int)) (ws2 := ([(h0, .inr (3, [.ref q1, .ref q2, .ref q3, .ref q4, .ref q5]))] ++ blk D E ad109 (((([15, 16, 17, 18, 19, 20, 21, 22, 23, 24, 25] ++ [26]) ++ [27]) ++ [28]) ++ [29]))) rfl i_Fl t_Fl t_Fl_ok n_Fl rfl 4 (by decide) (Nat.le_of_ble_eq_true rfl) rfl rfl (t_Fl_ok 4 (by decide)) rfl rfl wd_114 d_Fl_init_40 rfl ?_
  refine k_sm (ws2 := blk D E (fun i => if i = 14 then h0 else ad109 i) ([14] ++ (((([15, 16, 17, 18, 19, 20, 21, 22, 23, 24, 25] ++ [26]) ++ [27]) ++ [28]) ++ [29]))) ?_ (k_ret C _ d_Fl_init_43 (Nat.le_of_ble_eq_true rfl) (Nat.le_of_ble_eq_true rfl) rfl rfl)
  rw [blk_app (a := [14])]
  refine Sm.app ?_ (Sm.bl (fun k hk i hi => if_neg (of_decide_eq_false ((by decide +kernel : ∀ k, k ∈ (((([15, 16, 17, 18, 19, 20, 21, 22, 23, 24, 25] ++ [26]) ++ [27]) ++ [28]) ++ [29]) → ∀ i, i ∈ rfs k → decide (i = 14) = false) k hk i hi))))
  show Sm D [(h0, .inr (3, [.ref q1, .ref q2, .ref q3, .ref q4, .ref q5]))] [(h0, .inr (3, [.ref (ad109 15), .ref (ad109 26), .ref (ad109 27), .ref (ad109 28), .ref (ad109 29)]))]
  rw [e15_9, e26_9, e27_9, e28_9, e29_9]
  exact Sm.rf
