/-! THE LAW's start: what the tables and the premises say of it -/
theorem lw_GW {args : Array Value} {s : State} (hts : ∀ w ∈ lw_tbl, w.before args s = true) : ∀ w ∈ GW, w.before args s = true := fun w hw => hts w (List.mem_filter.mp hw).1
theorem tb_in {w : Cond} {i : Nat} (h : tables_1[i]? = some w) : w ∈ lw_tbl := List.mem_append_right _ (List.mem_of_getElem? h)
theorem pr_arr {args : Array Value} {s : State} {t : FieldType} (h : (Cond.arrayClass t).before args s = true) (ho : ∀ C, t ≠ .object C) : ∃ c : ClassId, ArrOfT s c t ∧ va_RA s c t := by
  obtain ⟨c, k, comp, h1, h2, h3⟩ := Cond.arrayClass_spec h
  refine ⟨c, fun N z => ⟨(fun q hq => by cases hq), k, h2, comp, h3⟩, ?_⟩
  cases t <;> first | exact h1 | exact absurd rfl (ho _)
theorem ob_arr {args : Array Value} {s : State} {R : String} (h : (Cond.arrayOver (.object R)).before args s = true) : ∃ c : ClassId, ArrOfT s c (.object R) ∧ va_RA s c (.object R) := by
  obtain ⟨comp, c, k, h1, h2, h3, h4, h5⟩ := Cond.arrayOver_spec h
  exact ⟨c, fun N z => ⟨(fun q hq => by cases hq), k, h3, comp, h4⟩, k, comp, h3, h4, h1, h5⟩
theorem ar_arr {args : Array Value} {s : State} (h : (Cond.arrayOver (.array .int)).before args s = true) : ∃ c : ClassId, ArrOfT s c (.array .int) ∧ va_RA s c (.array .int) := by
  obtain ⟨comp, c, k, h1, h2, h3, h4, h5⟩ := arrayOverA_spec h
  exact ⟨c, fun N z => ⟨(fun q hq => by cases hq), k, h3, comp, h4⟩, h5⟩
theorem start_K {args : Array Value} {s : State} (hts : ∀ w ∈ lw_tbl, w.before args s = true) : ∃ (D : va_G) (E : Nat → ClassId), KW D E s ∧ NW s := by
  have hG := lw_GW hts
  obtain ⟨c0, i0, k0⟩ := u_known (C := "TimeFlood") (T := F_TF) (N := 12) (n := 12) hG i_TF (hG _ wd_14)
  obtain ⟨c1, i1, k1⟩ := u_known (C := "TimeFlood$Reader") (T := F_Rd) (N := 4) (n := 4) hG i_Rd (hG _ wd_22)
  obtain ⟨c2, i2, k2⟩ := u_known (C := "TimeFlood$Plan") (T := F_Pl) (N := 10) (n := 10) hG i_Pl (hG _ wd_28)
  obtain ⟨c3, i3, k3⟩ := u_known (C := "TimeFlood$Flood") (T := F_Fl) (N := 5) (n := 5) hG i_Fl (hG _ wd_102)
  obtain ⟨c4, i4, k4⟩ := u_known (C := "TimeFlood$State") (T := F_St) (N := 3) (n := 3) hG i_St (hG _ wd_128)
  obtain ⟨c5, i5, k5⟩ := u_known (C := "TimeFlood$Node") (T := F_Nd) (N := 10) (n := 10) hG i_Nd (hG _ wd_135)
  obtain ⟨c6, i6, k6⟩ := u_known (C := "TimeFlood$Journal") (T := F_Jr) (N := 3) (n := 3) hG i_Jr (hG _ wd_200)
  obtain ⟨c7, i7, k7⟩ := u_known (C := "TimeFlood$Sightings") (T := F_Sg) (N := 4) (n := 4) hG i_Sg (hG _ wd_220)
  obtain ⟨c8, i8, k8⟩ := u_known (C := "TimeFloodModel") (T := F_M) (N := 39) (n := 39) hG i_M (hG _ wd_658)
  obtain ⟨dC, dI, hKc⟩ : ∃ (dC : Nat → ClassId) (dI : Nat → Nat → Nat), ∀ (k : Nat) (q : vw_C), classes[k]? = some q → u_Kn s q.1 q.2.1 q.2.2 (dC k) (dI k) := by
    refine ⟨fun k => if k = 0 then c0 else if k = 1 then c1 else if k = 2 then c2 else if k = 3 then c3 else if k = 4 then c4 else if k = 5 then c5 else if k = 6 then c6 else if k = 7 then c7 else c8, fun k => if k = 0 then i0 else if k = 1 then i1 else if k = 2 then i2 else if k = 3 then i3 else if k = 4 then i4 else if k = 5 then i5 else if k = 6 then i6 else if k = 7 then i7 else i8, ?_⟩
    intro k q hq
    match k, hq with
    | 0, hq => cases hq; exact k0
    | 1, hq => cases hq; exact k1
    | 2, hq => cases hq; exact k2
    | 3, hq => cases hq; exact k3
    | 4, hq => cases hq; exact k4
    | 5, hq => cases hq; exact k5
    | 6, hq => cases hq; exact k6
    | 7, hq => cases hq; exact k7
    | 8, hq => cases hq; exact k8
    | k + 9, hq => simp [classes] at hq
  obtain ⟨e0, a0⟩ := pr_arr (hG _ wd_86) (fun _ h => by cases h)
  obtain ⟨e1, a1⟩ := pr_arr (hG _ wd_85) (fun _ h => by cases h)
  obtain ⟨e2, a2⟩ := pr_arr (hG _ wd_126) (fun _ h => by cases h)
  have oS : (Cond.arrayOver (.object "TimeFlood$State")).before args s = true := (hts _ (tb_in (i := 206) (by decide +kernel)))
  have oN : (Cond.arrayOver (.object "TimeFlood$Node")).before args s = true := (hts _ (tb_in (i := 134) (by decide +kernel)))
  have oA : (Cond.arrayOver (.array .int)).before args s = true := (hts _ (tb_in (i := 34) (by decide +kernel)))
  obtain ⟨e3, a3⟩ := ob_arr oS
  obtain ⟨e4, a4⟩ := ob_arr oN
  obtain ⟨e5, a5⟩ := ar_arr oA
  refine ⟨(dC, dI), fun t => if t = 0 then e0 else if t = 1 then e1 else if t = 2 then e2 else if t = 3 then e3 else if t = 4 then e4 else e5, ⟨⟨hKc, fun k q hk => ?_⟩, va_AO.of oS, va_AO.of oN, oA, va_Nw.of rfl (hts _ (tb_in (i := 23) (by decide +kernel))), va_Nw.of rfl (hts _ (tb_in (i := 29) (by decide +kernel))), va_Nw.of rfl (hts _ (tb_in (i := 103) (by decide +kernel))), va_Nw.of rfl (hts _ (tb_in (i := 108) (by decide +kernel))), va_Nw.of rfl (hts _ (tb_in (i := 136) (by decide +kernel))), va_Nw.of rfl (hts _ (tb_in (i := 221) (by decide +kernel)))⟩, va_Nw.of rfl (hts _ (tb_in (i := 405) (by decide +kernel))), va_Nw.of rfl (hts _ (tb_in (i := 416) (by decide +kernel)))⟩
  match k, hk with
  | 0, hk => cases hk; exact a0
  | 1, hk => cases hk; exact a1
  | 2, hk => cases hk; exact a2
  | 3, hk => cases hk; exact a3
  | 4, hk => cases hk; exact a4
  | 5, hk => cases hk; exact a5
  | k + 6, hk => simp [tysW] at hk
theorem start_S {args : Array Value} {s : State} (hts : ∀ w ∈ lw_tbl, w.before args s = true) (hgv : (Jvm.Cond.and given_1 narrow_1).before args s = true) {G : GT} (hA : ∀ q, AW G q → s.heap.size ≤ q) : ST G s s.heap := by
  have hs := flat_of_before _ hgv
  have hO : ∀ a : Nat, a < s.heap.size → ¬ AW G a := fun a h1 h2 => absurd (hA a h2) (by omega)
  obtain ⟨t1, g1, T1⟩ := va_Tof (A := AW G) (tm := .static "TimeFlood" "THOUSANDS" "[J") (ty := .long) (N := 5) (f := fun j => .long (thV j)) (by decide) (hs _ (by decide +kernel)) (va_eqt (z := 5) (hs _ (by decide +kernel))) (fun j hj => by
    obtain rfl | rfl | rfl | rfl | rfl : j = 0 ∨ j = 1 ∨ j = 2 ∨ j = 3 ∨ j = 4 := by omega
    · exact va_eqtl (t := .elem (.static "TimeFlood" "THOUSANDS" "[J") (.int 0)) (z := 1) (hs _ (by decide +kernel))
    · exact va_eqtl (t := .elem (.static "TimeFlood" "THOUSANDS" "[J") (.int 1)) (z := 1000) (hs _ (by decide +kernel))
    · exact va_eqtl (t := .elem (.static "TimeFlood" "THOUSANDS" "[J") (.int 2)) (z := 1000000) (hs _ (by decide +kernel))
    · exact va_eqtl (t := .elem (.static "TimeFlood" "THOUSANDS" "[J") (.int 3)) (z := 1000000000) (hs _ (by decide +kernel))
    · exact va_eqtl (t := .elem (.static "TimeFlood" "THOUSANDS" "[J") (.int 4)) (z := 1000000000000) (hs _ (by decide +kernel))) hO
  obtain ⟨t2, g2, T2⟩ := va_Tof (A := AW G) (tm := .static "TimeFlood" "FACTORIALS" "[I") (ty := .int) (N := 6) (f := fun j => .int (faV j)) (by decide) (hs _ (by decide +kernel)) (va_eqt (z := 6) (hs _ (by decide +kernel))) (fun j hj => by
    obtain rfl | rfl | rfl | rfl | rfl | rfl : j = 0 ∨ j = 1 ∨ j = 2 ∨ j = 3 ∨ j = 4 ∨ j = 5 := by omega
    · exact va_eqt (t := .elem (.static "TimeFlood" "FACTORIALS" "[I") (.int 0)) (z := 1) (hs _ (by decide +kernel))
    · exact va_eqt (t := .elem (.static "TimeFlood" "FACTORIALS" "[I") (.int 1)) (z := 1) (hs _ (by decide +kernel))
    · exact va_eqt (t := .elem (.static "TimeFlood" "FACTORIALS" "[I") (.int 2)) (z := 2) (hs _ (by decide +kernel))
    · exact va_eqt (t := .elem (.static "TimeFlood" "FACTORIALS" "[I") (.int 3)) (z := 6) (hs _ (by decide +kernel))
    · exact va_eqt (t := .elem (.static "TimeFlood" "FACTORIALS" "[I") (.int 4)) (z := 24) (hs _ (by decide +kernel))
    · exact va_eqt (t := .elem (.static "TimeFlood" "FACTORIALS" "[I") (.int 5)) (z := 120) (hs _ (by decide +kernel))) hO
  exact ⟨t1, t2, va_Zref (hts _ (tb_in (i := 566) (by decide +kernel))) (lw_GW hts _ wd_1) g1 hO, T1, va_Zref (hts _ (tb_in (i := 604) (by decide +kernel))) (lw_GW hts _ wd_1) g2 hO, T2⟩
/-- the first state -/
def S0f : AS := ((fun _ => 0, 0), ((fun j => if j = 0 then 8 else if j = 1 then 1 else 0), 0, 0, fun _ => 0, fun _ => (0, 0)), (0, 0, fun _ => fsN 0), (fun _ => ((0, 0, fun _ => fsN 0), false)), ((fun _ => (0, 0, fun _ => fsN 0)), 0, 0), ((fun _ => (0, 0, 0)), 0), 0)
theorem S0_ok : okA S0f 0 := by
  refine ⟨⟨by show 0 ≤ 5; omega, by show 0 ≤ 7; omega, ⟨by decide, by decide⟩, ⟨by decide, by decide⟩, ⟨by decide, by decide⟩, fun i hi => absurd hi (by show ¬ i < 0; omega), fun l hl => absurd hl (by show ¬ l < 0; omega), fun l hl => absurd hl (by show ¬ l < 0; omega)⟩, ⟨fun i hi => absurd hi (by show ¬ i < 0; omega), ⟨by decide, by decide⟩, 0, rfl, by decide⟩, fun s hs q => (by cases q), fun e he => absurd he.2 (by show ¬ _ < 0; omega), ⟨by show 0 ≤ 60; omega, fun j hj => absurd hj (by show ¬ j < 0; omega)⟩, ⟨by show 0 < 14; omega, by show 0 ≤ 14; omega⟩, by show 0 ≤ 6; omega, fun j hj => absurd hj (by show ¬ j < 0; omega)⟩
theorem S0_A : RA w0 S0f := by
  refine ⟨⟨rfl, fun j hj => absurd hj (by show ¬ j < 0; omega)⟩, ⟨⟨rfl, rfl, rfl⟩, rfl, rfl, fun i hi => absurd hi (by show ¬ i < 0; omega), fun l hl => absurd hl (by show ¬ l < 0; omega), fun a _ ha => absurd ha (by show ¬ a < 0; omega)⟩, ⟨rfl, rfl, fun i hi => absurd hi (by show ¬ i < 0; omega), fun i _ hi => ?_⟩, fun s hs => ⟨?_, fun q => (by cases q)⟩, ⟨rfl, rfl, fun e he => absurd he.2 (by show ¬ _ < 0; omega)⟩, ⟨rfl, fun j hj => absurd hj (by show ¬ j < 0; omega)⟩, rfl⟩
  · obtain rfl | rfl | rfl | rfl | rfl : i = 0 ∨ i = 1 ∨ i = 2 ∨ i = 3 ∨ i = 4 := by omega
    all_goals rfl
  · rfl
theorem S0_B : RB w0 S0f := by
  refine ⟨⟨rfl, fun j hj => absurd hj (by show ¬ j < 0; omega)⟩, ⟨⟨rfl, rfl, rfl⟩, rfl, rfl, fun i hi => absurd hi (by show ¬ i < 0; omega), fun l hl => absurd hl (by show ¬ l < 0; omega)⟩, ⟨rfl, fun l hl => ?_, fun i hi => absurd hi (by show ¬ i < 0; omega)⟩, fun s hs => ⟨rfl, fun q => (by cases q)⟩, ⟨rfl, rfl, fun e he => absurd he.2 (by show ¬ _ < 0; omega)⟩, ⟨rfl, fun j hj => absurd hj (by show ¬ j < 0; omega)⟩, rfl⟩
  show (0 : Int32) = bit 0 l
  exact (bit0 hl).symm
def ksM : List Nat := [38, 39, 40, 41, 42, 43, 44, 45, 46, 47, 48, 49, 50, 51, 52, 53, 54, 55, 56, 57, 58, 59, 60]
theorem Sm.P {D : va_G} {A : Nat → Prop} {w1 w2 : va_W} {H : Heap} (h : Sm D w1 w2) (hP : va_P D classes w1 H) (hD : va_D A w1) : va_P D classes w2 H ∧ va_D A w2 := by
  refine ⟨fun i q hq => ?_, fun i j x y hi hj hxy => ?_, fun i q hq => ?_⟩
  · obtain ⟨q2, h1, -, h3⟩ := h.2 i q hq
    exact h3 H (hP i q2 h1)
  · obtain ⟨x2, h1, h2, -⟩ := h.2 i x hi
    obtain ⟨y2, h3, h4, -⟩ := h.2 j y hj
    exact hD.1 i j x2 y2 h1 h3 (by rw [← h2, ← h4, hxy])
  · obtain ⟨q2, h1, h2, -⟩ := h.2 i q hq
    rw [h2]
    exact hD.2 i q2 h1
/-- all cells are there -/
theorem blk_wld {D : va_G} {E : Nat → ClassId} {ad : Nat → Nat} {A : Nat → Prop} {ks : List Nat} {H : Heap} (hP : va_P D classes (blk D E ad ks) H) (hD : va_D A (blk D E ad ks)) (hks : ∀ k, k < 457 → k ∈ ks) : va_P D classes (wld (D, E, ad) w0) H ∧ INJ (D, E, ad) ∧ ∀ q, AW (D, E, ad) q → A q := by
  have at' : ∀ k, k < 457 → ∃ p : Nat, ks[p]? = some k ∧ (blk D E ad ks)[p]? = some (cellOf (D, E, ad) w0 k) := fun k hk => by
    obtain ⟨p, hp⟩ := List.getElem?_of_mem (hks k hk)
    refine ⟨p, hp, ?_⟩
    show (ks.map (cellOf (D, E, ad) w0))[p]? = _
    rw [List.getElem?_map, hp]
    rfl
  refine ⟨fun k q hq => ?_, fun i j hi hj hij => ?_, fun q ⟨k, hk, e⟩ => ?_⟩
  · obtain ⟨hk, rfl⟩ := wld_at hq
    obtain ⟨p, -, h2⟩ := at' k hk
    exact hP p _ h2
  · obtain ⟨p1, g1, h1⟩ := at' i hi
    obtain ⟨p2, g2, h2⟩ := at' j hj
    have hpp := hD.1 p1 p2 _ _ h1 h2 hij
    subst hpp
    rw [g1] at g2
    exact Option.some.inj g2
  · obtain ⟨p, -, h2⟩ := at' k hk
    subst e
    exact hD.2 p _ h2
theorem ks_all : ∀ k, k < 457 → k ∈ ksTF ++ ksM := by decide +kernel
theorem ks_TF : ∀ k, k ∈ ksTF → ∀ i, i ∈ rfs k → (decide (38 ≤ i) && decide (i < 61)) = false := by decide +kernel
theorem ks_M : ∀ k, k ∈ ksM → ∀ i, i ∈ rfs k → (decide (38 ≤ i) && decide (i < 61)) = true := by decide +kernel
theorem glue2 {D : va_G} {E : Nat → ClassId} {ad1 ad2 : Nat → Nat} : ∃ ad : Nat → Nat, ad 0 = ad1 0 ∧ ad 38 = ad2 38 ∧ Sm D (blk D E ad1 ksTF ++ blk D E ad2 ksM) (blk D E ad (ksTF ++ ksM)) := by
  refine ⟨fun i => if (decide (38 ≤ i) && decide (i < 61)) = true then ad2 i else ad1 i, rfl, rfl, ?_⟩
  rw [blk_app]
  exact Sm.app (Sm.bl (fun k hk i hi => if_neg (by rw [ks_TF k hk i hi]; decide))) (Sm.bl (fun k hk i hi => if_pos (ks_M k hk i hi)))
