/-! CONSTRUCTORS with a loop: State, Journal -/
def ksN (s i : Nat) : List Nat := List.range' (63 + 22 * s) (4 * i)
def ksSt (s : Nat) : List Nat := [61 + 22 * s, 62 + 22 * s] ++ ksN s 5
theorem ksN_s : ∀ s, s < 18 → ∀ i, i < 5 → ksN s i ++ [63 + 22 * s + 4 * i, 63 + 22 * s + 4 * i + 1, 63 + 22 * s + 4 * i + 2, 63 + 22 * s + 4 * i + 3] = ksN s (i + 1) := by decide +kernel
theorem ksN_kd : ∀ s, s < 18 → ∀ i, i < 5 → kdf (63 + 22 * s + 4 * i) = 5 := by decide +kernel
theorem ksN_1 : ∀ s, s < 18 → ∀ i, i < 5 → ∀ k, k ∈ ksN s i → ∀ a, a ∈ rfs k → decide (63 + 22 * s + 4 * i ≤ a) = false := by decide +kernel
theorem ksN_2 : ∀ s, s < 18 → ∀ i, i < 5 → ∀ k, k ∈ [63 + 22 * s + 4 * i, 63 + 22 * s + 4 * i + 1, 63 + 22 * s + 4 * i + 2, 63 + 22 * s + 4 * i + 3] → ∀ a, a ∈ rfs k → decide (63 + 22 * s + 4 * i ≤ a) = true := by decide +kernel
theorem ksN_len (s i : Nat) : (ksN s i).length = 4 * i := List.length_range'
theorem blk_len {D : va_G} {E : Nat → ClassId} {ad : Nat → Nat} {ks : List Nat} : (blk D E ad ks).length = ks.length := List.length_map ..
def fil (n : Nat) (ad : Nat → Nat) (b w i : Nat) : Nat → Option Nat := fun j => if j < i then some (ad (b + w * j)) else none
theorem fil_s {ad ad' : Nat → Nat} {n b w i q : Nat} (hw : 0 < w) (h : ∀ j, j < i → ad' (b + w * j) = ad (b + w * j)) (hq : ad' (b + w * i) = q) : va_up (fil n ad b w i) i (some q) = fil n ad' b w (i + 1) := by
  funext j
  unfold va_up fil
  by_cases z : j = i
  · rw [if_pos z, if_pos (by omega), z, hq]
  · rw [if_neg z]
    by_cases y : j < i
    · rw [if_pos y, if_pos (by omega), h j y]
    · rw [if_neg y, if_neg (by omega)]
theorem fil_0 {ad : Nat → Nat} {n b w : Nat} : fil n ad b w 0 = fun _ => none := by
  funext j
  unfold fil
  rw [if_neg (by omega)]
theorem k_cnt {X : XT} {D : va_G} {A : Nat → Prop} {Q : State → Prop} {nL pc : Nat} {lv : List (Nat × Value)} {st : List Value} {ws : va_W} {k n k2 n2 : Nat} (h1 : k = k2) (h2 : n = n2) (kk : KJ X D A Q nL pc lv st ws k2 n2) : KJ X D A Q nL pc lv st ws k n := by
  rw [h1, h2]; exact kk
theorem k_lv {X : XT} {D : va_G} {A : Nat → Prop} {Q : State → Prop} {nL pc : Nat} {lv lv2 : List (Nat × Value)} {st : List Value} {ws : va_W} {k n : Nat} (h1 : lv = lv2) (kk : KJ X D A Q nL pc lv2 st ws k n) : KJ X D A Q nL pc lv st ws k n := by
  rw [h1]; exact kk
def WSt (E : Nat → ClassId) (h0 qa : Nat) (f : Nat → Option Nat) : va_W := [(h0, .inr (4, [.int 0, .int 0, .ref qa])), (qa, .inl (E 4, 5, .inr (.inr (.inr (.inr f)))))]
theorem St_loop {X : XT} {D : va_G} {E : Nat → ClassId} {A : Nat → Prop} {Q : State → Prop} {s h0 qa : Nat} (hs : s < 18) (C : KX X D E A b_St_init 2 "TimeFlood$State" 2 32 21 115) (Kend : ∀ ad : Nat → Nat, KJ X D A Q 2 48 [(1, .int (nI 5)), (0, .ref h0)] [] (WSt E h0 qa (fil 5 ad (63 + 22 * s) 4 5) ++ blk D E ad (ksN s 5)) 21 115) : ∀ (d i : Nat) (ad : Nat → Nat), i + d = 5 → KJ X D A Q 2 24 [(1, .int (nI i)), (0, .ref h0)] [] (WSt E h0 qa (fil 5 ad (63 + 22 * s) 4 i) ++ blk D E ad (ksN s i)) (1 + 4 * i) (5 + 22 * i)
  | 0, i, ad, hi => by
    have : i = 5 := by omega
    subst this
    refine k_iload C d_St_init_24 rfl (place := 0) rfl ?_
    refine k_iconst (v := 5) C d_St_init_25 rfl ?_
    refine k_icmpge (tgt := 48) C d_St_init_26 (by decide) (fun _ => ?_) (fun h => absurd ((nge_5 (b := 5) (by omega)).mpr (by omega)) h)
    exact k_cnt (by omega) (by omega) (Kend ad)
  | d + 1, i, ad, hi => by
    have hi5 : i < 5 := by omega
    refine k_iload C d_St_init_24 rfl (place := 0) rfl ?_
    refine k_iconst (v := 5) C d_St_init_25 rfl ?_
    refine k_icmpge (tgt := 48) C d_St_init_26 (by decide) (fun h => absurd ((nge_5 (b := i) (by omega)).mp h) (by omega)) (fun _ => ?_)
    refine k_aload C d_St_init_29 rfl (place := 1) rfl ?_
    refine k_get C (q0 := 0) (ci := 4) (fs := [.int 0, .int 0, .ref qa]) rfl i_St rfl 2 (by decide) rfl wd_189 d_St_init_30 ?_
    refine k_iload C d_St_init_33 rfl (place := 0) rfl ?_
    refine k_new C (ci := 5) (fs := fs_Nd) wd_133 wd_135 wd_6 i_Nd t_Nd t_Nd_ok rfl dv_Nd (by omega) (by omega) d_St_init_34 (fun q => ?_)
    refine k_dup C d_St_init_37 rfl ?_
    refine k_callN C (y := y_Nd_init) (host := "TimeFlood") (fs := fs_Nd) (ws0 := WSt E h0 qa (fil 5 ad (63 + 22 * s) 4 i) ++ blk D E ad (ksN s i)) (fun sz => c_Nd_init _ D E (ksN_kd s hs i hi5) q sz) wd_138 wd_6 wd_137 (fun _ z => z.2.2.2.2.1) rfl ⟨by decide, by decide, by decide +kernel⟩ ⟨Nat.le_of_ble_eq_true rfl, Nat.le_of_ble_eq_true rfl⟩ (by omega) (by omega) (Nat.le_of_ble_eq_true rfl) d_St_init_38 (fun ad2 hq => ?_)
    have hlen : (WSt E h0 qa (fil 5 ad (63 + 22 * s) 4 i) ++ blk D E ad (ksN s i)).length = 2 + 4 * i := by
      rw [List.length_append, blk_len, ksN_len]; rfl
    have hnd := blk_Nd (D := D) (E := E) (ad := ad2) (ksN_kd s hs i hi5)
    rw [hq] at hnd
    refine k_ast C (q0 := 1) (t0 := 4) (qk := 2 + 4 * i) (ci := 5) (r := ("TimeFlood$Node", F_Nd, 10)) (f := fil 5 ad (63 + 22 * s) 4 i) (ws2 := (WSt E h0 qa (va_up (fil 5 ad (63 + 22 * s) 4 i) (nI i).toNatClampNeg (some q)) ++ blk D E ad (ksN s i)) ++ blk D E ad2 [63 + 22 * s + 4 * i, 63 + 22 * s + 4 * i + 1, 63 + 22 * s + 4 * i + 2, 63 + 22 * s + 4 * i + 3]) rfl rfl (by rw [List.getElem?_append_right (by rw [hlen]; omega), hlen, Nat.sub_self, hnd]; rfl) rfl (vp_in_nI hi5 (by omega)) d_St_init_41 rfl ?_
    refine k_glue (fun a => decide (63 + 22 * s + 4 * i ≤ a)) (ksN_1 s hs i hi5) (ksN_2 s hs i hi5) (fun ad' g1 g2 => ?_)
    rw [nIc (by omega), ksN_s s hs i hi5, fil_s (ad' := ad') (by omega) (fun j hj => g1 _ (decide_eq_false (by omega))) ((g2 _ (decide_eq_true (by omega))).trans hq)]
    refine k_iinc (v := nI (i + 1)) C d_St_init_42 (place := 0) rfl (nIs i) (by decide) rfl ?_
    refine k_goto (tgt := 24) C d_St_init_45 (by decide) ?_
    exact k_cnt (by omega) (by omega) (St_loop hs C Kend d (i + 1) ad' (by omega))
theorem St_kd : ∀ s, s < 18 → kdf (61 + 22 * s) = 4 ∧ kdf (62 + 22 * s) = 32 ∧ w0.1 (61 + 22 * s) = fun _ => 0 := by
  intro s hs
  refine ⟨(by decide +kernel : ∀ s, s < 18 → kdf (61 + 22 * s) = 4) s hs, (by decide +kernel : ∀ s, s < 18 → kdf (62 + 22 * s) = 32) s hs, ?_⟩
  have H := (by decide +kernel : ∀ s, s < 18 → (spc (61 + 22 * s) || isNd (61 + 22 * s)) = false) s hs
  rw [Bool.or_eq_false_iff] at H
  obtain ⟨g1, g2⟩ := spc_f H.1
  simp only [w0]
  rw [if_neg g1, if_neg g2, if_neg (by rw [H.2]; decide)]
theorem St_in : ∀ s, s < 18 → ∀ k, k ∈ ksN s 5 → ∀ i, i ∈ rfs k → decide (63 + 22 * s ≤ i) = true := by decide +kernel
set_option maxRecDepth 100000 in
theorem c_St_init (l : Launch) (D : va_G) (E : Nat → ClassId) {s : Nat} (hs : s < 18) (h0 sz : Nat) : CTN l D E y_St_init b_St_init 2 2 32 21 115 4 fs_St (61 + 22 * s) (ksSt s) h0 sz := by
  refine entK "TimeFlood$State" (by decide) rfl rfl (by decide) (fun X hX C => ?_)
  refine k_aload C d_St_init_0 (place := 0) rfl rfl ?_
  refine k_obj C wd_132 ⟨Nat.le_of_ble_eq_true rfl, Nat.le_of_ble_eq_true rfl⟩ d_St_init_1 ?_
  refine k_aload C d_St_init_4 (place := 0) rfl rfl ?_
  refine k_iconst (v := 0) C d_St_init_5 rfl ?_
  refine k_put C (q0 := 0) (ci := 4) (fs := [.int 0, .int 0, .null]) (v := .int 0) (ty := .int) (ws2 := [(h0, .inr (4, [.int 0, .int 0, .null]))]) rfl i_St t_St t_St_ok n_St rfl 0 (by decide) (Nat.le_of_ble_eq_true rfl) rfl (t_St_ok 0 (by decide)) rfl rfl wd_184 d_St_init_6 rfl ?_
  refine k_aload C d_St_init_9 (place := 0) rfl rfl ?_
  refine k_iconst (v := 0) C d_St_init_10 rfl ?_
  refine k_put C (q0 := 0) (ci := 4) (fs := [.int 0, .int 0, .null]) (v := .int 0) (ty := .int) (ws2 := [(h0, .inr (4, [.int 0, .int 0, .null]))]) rfl i_St t_St t_St_ok n_St rfl 1 (by decide) (Nat.le_of_ble_eq_true rfl) rfl (t_St_ok 1 (by decide)) rfl rfl wd_187 d_St_init_11 rfl ?_
  refine k_aload C d_St_init_14 (place := 0) rfl rfl ?_
  refine k_iconst (v := 5) C d_St_init_15 rfl ?_
  refine k_newq C (t := 4) (N' := 5) wd_133 (fun _ z => z.2.2.1) rfl (by decide) (by decide) (by decide) (Nat.le_of_ble_eq_true rfl) (Nat.le_of_ble_eq_true rfl) d_St_init_16 (fun q1 => ?_)
  refine k_putF C (q0 := 0) (ci := 4) (fs := [.int 0, .int 0, .null]) (v := .ref q1) (ty := (.array (.object "TimeFlood$Node"))) (ws2 := [(h0, .inr (4, [.int 0, .int 0, .ref q1])), (q1, .inl (E 4, 5, .inr (.inr (.inr (.inr fun _ => none)))))]) rfl i_St t_St t_St_ok n_St rfl 2 (by decide) (Nat.le_of_ble_eq_true rfl) rfl rfl (t_St_ok 2 (by decide)) rfl rfl wd_189 d_St_init_19 rfl ?_
  refine k_iconst (v := 0) C d_St_init_22 rfl ?_
  refine k_istore (lv2 := [(1, .int 0), (0, .ref h0)]) C d_St_init_23 rfl (by decide) rfl ?_
  obtain ⟨ad, -⟩ : ∃ f : Nat → Nat, f = fun _ => 0 := ⟨_, rfl⟩
  refine k_eq (ws2 := WSt E h0 q1 (fil 5 ad (63 + 22 * s) 4 0) ++ blk D E ad (ksN s 0)) (by rw [fil_0]; rfl) ?_
  refine k_lv (lv2 := [(1, .int (nI 0)), (0, .ref h0)]) rfl ?_
  refine k_cnt (k2 := 1 + 4 * 0) (n2 := 5 + 22 * 0) rfl rfl ?_
  refine St_loop hs C (fun ad => ?_) 5 0 ad rfl
  obtain ⟨hk1, hk2, hk3⟩ := St_kd s hs
  obtain ⟨fad, a1, a2, a3⟩ : ∃ f : Nat → Nat, f (61 + 22 * s) = h0 ∧ f (62 + 22 * s) = q1 ∧ ∀ i, 63 + 22 * s ≤ i → f i = ad i := ⟨fun i => if i = 61 + 22 * s then h0 else if i = 62 + 22 * s then q1 else ad i, if_pos rfl, (if_neg (by omega)).trans (if_pos rfl), fun i hi => (if_neg (by omega)).trans (if_neg (by omega))⟩
  refine k_sm (ws2 := blk D E fad (ksSt s)) ?_ (k_ret C fad d_St_init_48 (Nat.le_of_ble_eq_true rfl) (Nat.le_of_ble_eq_true rfl) a1 rfl)
  refine Sm.app (b := blk D E fad [61 + 22 * s, 62 + 22 * s]) ?_ (Sm.bl (fun k hk i hi => a3 i (of_decide_eq_true (St_in s hs k hk i hi))))
  show Sm D ([(h0, .inr (4, [.int 0, .int 0, .ref q1]))] ++ [(q1, .inl (E 4, 5, .inr (.inr (.inr (.inr (fil 5 ad (63 + 22 * s) 4 5))))))]) ([cellOf (D, E, fad) w0 (61 + 22 * s)] ++ [cellOf (D, E, fad) w0 (62 + 22 * s)])
  have c1 : cellOf (D, E, fad) w0 (61 + 22 * s) = (h0, .inr (4, [.int 0, .int 0, .ref q1])) := by
    unfold cellOf
    rw [hk1, hk3]
    show (fad (61 + 22 * s), (Sum.inr (4, [.int 0, .int 0, .ref (fad (61 + 22 * s + 1))]) : va_E)) = _
    rw [a1, show 61 + 22 * s + 1 = 62 + 22 * s by omega, a2]
  have c2 : cellOf (D, E, fad) w0 (62 + 22 * s) = (q1, .inl (E 4, 5, .inr (.inr (.inr (.inr fun j => some (fad (62 + 22 * s + 1 + 4 * j))))))) := by
    unfold cellOf
    rw [hk2]
    show (fad (62 + 22 * s), _) = _
    rw [a2]; rfl
  rw [c1, c2]
  refine Sm.app Sm.rf (Sm.one (fun H hv => at_q (fun j hj => ?_) hv))
  show (if j < 5 then some (ad (63 + 22 * s + 4 * j)) else none) = some (fad (62 + 22 * s + 1 + 4 * j))
  rw [if_pos hj, show 62 + 22 * s + 1 + 4 * j = 63 + 22 * s + 4 * j by omega, a3 _ (by omega)]
def ksJ (i : Nat) : List Nat := (List.range i).flatMap (fun j => ksSt (4 + j))
theorem ksJ_s : ∀ i, i < 14 → ksJ i ++ ksSt (4 + i) = ksJ (i + 1) := by decide +kernel
theorem ksJ_1 : ∀ i, i < 14 → ∀ k, k ∈ ksJ i → ∀ a, a ∈ rfs k → decide (149 + 22 * i ≤ a) = false := by decide +kernel
theorem ksJ_2 : ∀ i, i < 14 → ∀ k, k ∈ ksSt (4 + i) → ∀ a, a ∈ rfs k → decide (149 + 22 * i ≤ a) = true := by decide +kernel
theorem ksJ_len : ∀ i, i < 15 → (ksJ i).length = 22 * i := by decide +kernel
def WJr (E : Nat → ClassId) (h0 qa : Nat) (f : Nat → Option Nat) : va_W := [(h0, .inr (6, [.ref qa, .int 0, .int 0])), (qa, .inl (E 3, 14, .inr (.inr (.inr (.inr f)))))]
theorem St_cell {D : va_G} {E : Nat → ClassId} {ad : Nat → Nat} {s : Nat} (hs : s < 18) : (blk D E ad (ksSt s))[0]? = some (ad (61 + 22 * s), .inr (4, [.int 0, .int 0, .ref (ad (61 + 22 * s + 1))])) := by
  obtain ⟨hk1, hk2, hk3⟩ := St_kd s hs
  show some (cellOf (D, E, ad) w0 (61 + 22 * s)) = _
  unfold cellOf
  rw [hk1, hk3]
  rfl
theorem Jr_loop {X : XT} {D : va_G} {E : Nat → ClassId} {A : Nat → Prop} {Q : State → Prop} {h0 qa : Nat} (C : KX X D E A b_Jr_init 2 "TimeFlood$Journal" 3 53 309 1666) (Kend : ∀ ad : Nat → Nat, KJ X D A Q 2 50 [(1, .int (nI 14)), (0, .ref h0)] [] (WJr E h0 qa (fil 14 ad 149 22 14) ++ blk D E ad (ksJ 14)) 309 1666) : ∀ (d i : Nat) (ad : Nat → Nat), i + d = 14 → KJ X D A Q 2 25 [(1, .int (nI i)), (0, .ref h0)] [] (WJr E h0 qa (fil 14 ad 149 22 i) ++ blk D E ad (ksJ i)) (1 + 22 * i) (14 + 118 * i)
  | 0, i, ad, hi => by
    have : i = 14 := by omega
    subst this
    refine k_iload C d_Jr_init_25 rfl (place := 0) rfl ?_
    refine k_bipush (v := 14) C d_Jr_init_26 (by decide) ?_
    refine k_icmpge (tgt := 50) C d_Jr_init_28 (by decide) (fun _ => ?_) (fun h => absurd ((nge_14 (b := 14) (by omega)).mpr (by omega)) h)
    exact k_cnt (by omega) (by omega) (Kend ad)
  | d + 1, i, ad, hi => by
    have hi5 : i < 14 := by omega
    refine k_iload C d_Jr_init_25 rfl (place := 0) rfl ?_
    refine k_bipush (v := 14) C d_Jr_init_26 (by decide) ?_
    refine k_icmpge (tgt := 50) C d_Jr_init_28 (by decide) (fun h => absurd ((nge_14 (b := i) (by omega)).mp h) (by omega)) (fun _ => ?_)
    refine k_aload C d_Jr_init_31 rfl (place := 1) rfl ?_
    refine k_get C (q0 := 0) (ci := 6) (fs := [.ref qa, .int 0, .int 0]) rfl i_Jr rfl 0 (by decide) rfl wd_208 d_Jr_init_32 ?_
    refine k_iload C d_Jr_init_35 rfl (place := 0) rfl ?_
    refine k_new C (ci := 4) (fs := fs_St) wd_205 wd_128 wd_5 i_St t_St t_St_ok rfl dv_St (by omega) (by omega) d_Jr_init_36 (fun q => ?_)
    refine k_dup C d_Jr_init_39 rfl ?_
    refine k_callI C (y := y_St_init) (fs := fs_St) (ws0 := WJr E h0 qa (fil 14 ad 149 22 i) ++ blk D E ad (ksJ i)) (fun sz => c_St_init _ D E (s := 4 + i) (by omega) q sz) wd_131 wd_5 wd_130 wd_207 rfl ⟨by decide, by decide, by decide +kernel⟩ ⟨Nat.le_of_ble_eq_true rfl, Nat.le_of_ble_eq_true rfl⟩ (by omega) (by omega) (Nat.le_of_ble_eq_true rfl) d_Jr_init_40 (fun ad2 hq => ?_)
    have hlen : (WJr E h0 qa (fil 14 ad 149 22 i) ++ blk D E ad (ksJ i)).length = 2 + 22 * i := by
      rw [List.length_append, blk_len, ksJ_len i (by omega)]; rfl
    have hnd := St_cell (D := D) (E := E) (ad := ad2) (s := 4 + i) (by omega)
    rw [hq] at hnd
    have hq2 : ad2 (149 + 22 * i) = q := by rw [show 149 + 22 * i = 61 + 22 * (4 + i) by omega]; exact hq
    refine k_ast C (q0 := 1) (t0 := 3) (qk := 2 + 22 * i) (ci := 4) (r := ("TimeFlood$State", F_St, 3)) (f := fil 14 ad 149 22 i) (ws2 := (WJr E h0 qa (va_up (fil 14 ad 149 22 i) (nI i).toNatClampNeg (some q)) ++ blk D E ad (ksJ i)) ++ blk D E ad2 (ksSt (4 + i))) rfl rfl (by rw [List.getElem?_append_right (by rw [hlen]; omega), hlen, Nat.sub_self, hnd]) rfl (vp_in_nI hi5 (by omega)) d_Jr_init_43 rfl ?_
    refine k_glue (fun a => decide (149 + 22 * i ≤ a)) (ksJ_1 i hi5) (ksJ_2 i hi5) (fun ad' g1 g2 => ?_)
    rw [nIc (by omega), ksJ_s i hi5, fil_s (ad' := ad') (by omega) (fun j hj => g1 _ (decide_eq_false (by omega))) ((g2 _ (decide_eq_true (by omega))).trans hq2)]
    refine k_iinc (v := nI (i + 1)) C d_Jr_init_44 (place := 0) rfl (nIs i) (by decide) rfl ?_
    refine k_goto (tgt := 25) C d_Jr_init_47 (by decide) ?_
    exact k_cnt (by omega) (by omega) (Jr_loop C Kend d (i + 1) ad' (by omega))
def ksJr : List Nat := [30, 31] ++ ksJ 14
theorem Jr_in : ∀ k, k ∈ ksJ 14 → ∀ i, i ∈ rfs k → decide (149 ≤ i) = true := by decide +kernel
set_option maxRecDepth 100000 in
theorem c_Jr_init (l : Launch) (D : va_G) (E : Nat → ClassId) (h0 sz : Nat) : CTN l D E y_Jr_init b_Jr_init 2 3 53 309 1666 6 fs_Jr 30 ksJr h0 sz := by
  refine entK "TimeFlood$Journal" (by decide) rfl rfl (by decide) (fun X hX C => ?_)
  refine k_aload C d_Jr_init_0 (place := 0) rfl rfl ?_
  refine k_obj C wd_204 ⟨Nat.le_of_ble_eq_true rfl, Nat.le_of_ble_eq_true rfl⟩ d_Jr_init_1 ?_
  refine k_aload C d_Jr_init_4 (place := 0) rfl rfl ?_
  refine k_bipush (v := 14) C d_Jr_init_5 (by decide) ?_
  refine k_newq C (t := 3) (N' := 14) wd_205 (fun _ z => z.2.1) rfl (by decide) (by decide) (by decide) (Nat.le_of_ble_eq_true rfl) (Nat.le_of_ble_eq_true rfl) d_Jr_init_7 (fun q1 => ?_)
  refine k_putF C (q0 := 0) (ci := 6) (fs := [.null, .int 0, .int 0]) (v := .ref q1) (ty := (.array (.object "TimeFlood$State"))) (ws2 := [(h0, .inr (6, [.ref q1, .int 0, .int 0])), (q1, .inl (E 3, 14, .inr (.inr (.inr (.inr fun _ => none)))))]) rfl i_Jr t_Jr t_Jr_ok n_Jr rfl 0 (by decide) (Nat.le_of_ble_eq_true rfl) rfl rfl (t_Jr_ok 0 (by decide)) rfl rfl wd_208 d_Jr_init_10 rfl ?_
  refine k_aload C d_Jr_init_13 (place := 0) rfl rfl ?_
  refine k_iconst (v := 0) C d_Jr_init_14 rfl ?_
  refine k_put C (q0 := 0) (ci := 6) (fs := [.ref q1, .int 0, .int 0]) (v := .int 0) (ty := .int) (ws2 := [(h0, .inr (6, [.ref q1, .int 0, .int 0])), (q1, .inl (E 3, 14, .inr (.inr (.inr (.inr fun _ => none)))))]) rfl i_Jr t_Jr t_Jr_ok n_Jr rfl 1 (by decide) (Nat.le_of_ble_eq_true rfl) rfl (t_Jr_ok 1 (by decide)) rfl rfl wd_209 d_Jr_init_15 rfl ?_
  refine k_aload C d_Jr_init_18 (place := 0) rfl rfl ?_
  refine k_iconst (v := 0) C d_Jr_init_19 rfl ?_
  refine k_put C (q0 := 0) (ci := 6) (fs := [.ref q1, .int 0, .int 0]) (v := .int 0) (ty := .int) (ws2 := [(h0, .inr (6, [.ref q1, .int 0, .int 0])), (q1, .inl (E 3, 14, .inr (.inr (.inr (.inr fun _ => none)))))]) rfl i_Jr t_Jr t_Jr_ok n_Jr rfl 2 (by decide) (Nat.le_of_ble_eq_true rfl) rfl (t_Jr_ok 2 (by decide)) rfl rfl wd_210 d_Jr_init_20 rfl ?_
  refine k_iconst (v := 0) C d_Jr_init_23 rfl ?_
  refine k_istore (lv2 := [(1, .int 0), (0, .ref h0)]) C d_Jr_init_24 rfl (by decide) rfl ?_
  obtain ⟨ad, -⟩ : ∃ f : Nat → Nat, f = fun _ => 0 := ⟨_, rfl⟩
  refine k_eq (ws2 := WJr E h0 q1 (fil 14 ad 149 22 0) ++ blk D E ad (ksJ 0)) (by rw [fil_0]; rfl) ?_
  refine k_lv (lv2 := [(1, .int (nI 0)), (0, .ref h0)]) rfl ?_
  refine k_cnt (k2 := 1 + 22 * 0) (n2 := 14 + 118 * 0) rfl rfl ?_
  refine Jr_loop C (fun ad => ?_) 14 0 ad rfl
  obtain ⟨fad, a1, a2, a3⟩ : ∃ f : Nat → Nat, f 30 = h0 ∧ f 31 = q1 ∧ ∀ i, 149 ≤ i → f i = ad i := ⟨fun i => if i = 30 then h0 else if i = 31 then q1 else ad i, if_pos rfl, rfl, fun i hi => (if_neg (by omega)).trans (if_neg (by omega))⟩
  refine k_sm (ws2 := blk D E fad ksJr) ?_ (k_ret C fad d_Jr_init_50 (Nat.le_of_ble_eq_true rfl) (Nat.le_of_ble_eq_true rfl) a1 rfl)
  refine Sm.app (b := blk D E fad [30, 31]) ?_ (Sm.bl (fun k hk i hi => a3 i (of_decide_eq_true (Jr_in k hk i hi))))
  show Sm D ([(h0, .inr (6, [.ref q1, .int 0, .int 0]))] ++ [(q1, .inl (E 3, 14, .inr (.inr (.inr (.inr (fil 14 ad 149 22 14))))))]) ([(fad 30, .inr (6, [.ref (fad 31), .int 0, .int 0]))] ++ [(fad 31, .inl (E 3, 14, .inr (.inr (.inr (.inr fun j => some (fad (149 + 22 * j)))))))])
  rw [a1, a2]
  refine Sm.app Sm.rf (Sm.one (fun H hv => at_q (fun j hj => ?_) hv))
  show (if j < 14 then some (ad (149 + 22 * j)) else none) = some (fad (149 + 22 * j))
  rw [if_pos hj, a3 _ (by omega)]
