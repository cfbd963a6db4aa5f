/-! THE LAW's judgement -/
/-- wherever the heap holds σ, with k cells and n slots made, the law at pc comes to Q -/
def LJ (X : XT) (G : GT) (Q : State → Prop) (k n nL pc : Nat) (lv : List (Nat × Value)) (st : List Value) (σ : MT) : Prop :=
  match X with
  | (p, l, e, R, s, m, args, below, meth, c) => ∀ (H : Heap) (locs : List Loc) (ls : Array Slot), va_P G.1 classes (wld G σ) H → va_S (AW G) s.heap H locs → lv_has ls nL lv → W p l e R s m args below meth c H locs k n Q (F0 m pc ls st)
/-- the script, and the room that is left -/
def SX (X : XT) (G : GT) (b L : Nat) (xs : Nat → Int32) (k n : Nat) : Prop :=
  match X with
  | (p, l, e, R, s, m, args, below, meth, c) => va_X b L xs s s.heap ∧ b < s.heap.size ∧ ¬ AW G b ∧ k ≤ R.cells ∧ n ≤ R.slots
section LAWR
variable {X : XT} {G : GT} {Q : State → Prop} {cc : ByteArray} {nL : Nat} {own : String} {fr lo k n pc : Nat} {lv : List (Nat × Value)} {st : List Value} {σ : MT} {b L : Nat} {xs : Nat → Int32}
theorem l_iload (C : CX X G cc nL own fr lo) {i : Fin 4} {j place : Nat} {x : Int32} (d : decode cc pc = .ok (.iload_n i, 1)) (hi : (i : Nat) = j) (hv : lv[place]? = some (j, .int x)) (kk : LJ X G Q k n nL (pc + 1) lv (.int x :: st) σ) : LJ X G Q k n nL pc lv st σ := by
  obtain ⟨p, l, e, R, s, m, args, below, meth, c⟩ := X
  obtain ⟨hx, hb, -⟩ := C
  intro H locs ls hP hS hl
  exact lv_iload_n hx hb d hi (lv_at hl place hv) (kk H locs ls hP hS hl)
theorem l_aload (C : CX X G cc nL own fr lo) {i : Fin 4} {j place x : Nat} (d : decode cc pc = .ok (.aload_n i, 1)) (hi : (i : Nat) = j) (hv : lv[place]? = some (j, .ref x)) (kk : LJ X G Q k n nL (pc + 1) lv (.ref x :: st) σ) : LJ X G Q k n nL pc lv st σ := by
  obtain ⟨p, l, e, R, s, m, args, below, meth, c⟩ := X
  obtain ⟨hx, hb, -⟩ := C
  intro H locs ls hP hS hl
  exact lv_aload_n hx hb d hi (lv_at hl place hv) (kk H locs ls hP hS hl)
theorem l_iconst (C : CX X G cc nL own fr lo) {i : Int} {v : Int32} (d : decode cc pc = .ok (.iconst i, 1)) (hv : Int32.ofInt i = v) (kk : LJ X G Q k n nL (pc + 1) lv (.int v :: st) σ) : LJ X G Q k n nL pc lv st σ := by
  obtain ⟨p, l, e, R, s, m, args, below, meth, c⟩ := X
  obtain ⟨hx, hb, -⟩ := C
  intro H locs ls hP hS hl
  exact lv_iconst hx hb d hv (kk H locs ls hP hS hl)
theorem l_bipush (C : CX X G cc nL own fr lo) {i : Int} {v : Int32} (d : decode cc pc = .ok (.bipush i, 2)) (hv : (Int8.ofInt i).toInt32 = v) (kk : LJ X G Q k n nL (pc + 2) lv (.int v :: st) σ) : LJ X G Q k n nL pc lv st σ := by
  obtain ⟨p, l, e, R, s, m, args, below, meth, c⟩ := X
  obtain ⟨hx, hb, -⟩ := C
  intro H locs ls hP hS hl
  exact lv_bipush hx hb d hv (kk H locs ls hP hS hl)
theorem l_iadd (C : CX X G cc nL own fr lo) {x y : Int32} (d : decode cc pc = .ok (.iadd, 1)) (kk : LJ X G Q k n nL (pc + 1) lv (.int (x + y) :: st) σ) : LJ X G Q k n nL pc lv (.int y :: .int x :: st) σ := by
  obtain ⟨p, l, e, R, s, m, args, below, meth, c⟩ := X
  obtain ⟨hx, hb, -⟩ := C
  intro H locs ls hP hS hl
  exact lv_iadd hx hb d (kk H locs ls hP hS hl)
theorem l_isub (C : CX X G cc nL own fr lo) {x y : Int32} (d : decode cc pc = .ok (.isub, 1)) (kk : LJ X G Q k n nL (pc + 1) lv (.int (x - y) :: st) σ) : LJ X G Q k n nL pc lv (.int y :: .int x :: st) σ := by
  obtain ⟨p, l, e, R, s, m, args, below, meth, c⟩ := X
  obtain ⟨hx, hb, -⟩ := C
  intro H locs ls hP hS hl
  exact lv_isub hx hb d (kk H locs ls hP hS hl)
theorem l_iand (C : CX X G cc nL own fr lo) {x y : Int32} (d : decode cc pc = .ok (.iand, 1)) (kk : LJ X G Q k n nL (pc + 1) lv (.int (x &&& y) :: st) σ) : LJ X G Q k n nL pc lv (.int y :: .int x :: st) σ := by
  obtain ⟨p, l, e, R, s, m, args, below, meth, c⟩ := X
  obtain ⟨hx, hb, -⟩ := C
  intro H locs ls hP hS hl
  exact lv_iand hx hb d (kk H locs ls hP hS hl)
theorem l_i2l (C : CX X G cc nL own fr lo) {x : Int32} (d : decode cc pc = .ok (.i2l, 1)) (kk : LJ X G Q k n nL (pc + 1) lv (.long x.toInt64 :: st) σ) : LJ X G Q k n nL pc lv (.int x :: st) σ := by
  obtain ⟨p, l, e, R, s, m, args, below, meth, c⟩ := X
  obtain ⟨hx, hb, -⟩ := C
  intro H locs ls hP hS hl
  exact lv_i2l hx hb d rfl (kk H locs ls hP hS hl)
theorem l_lshl (C : CX X G cc nL own fr lo) {x : Int64} {y : Int32} (d : decode cc pc = .ok (.lshl, 1)) (kk : LJ X G Q k n nL (pc + 1) lv (.long (x <<< (y.toInt64 &&& 63)) :: st) σ) : LJ X G Q k n nL pc lv (.int y :: .long x :: st) σ := by
  obtain ⟨p, l, e, R, s, m, args, below, meth, c⟩ := X
  obtain ⟨hx, hb, -⟩ := C
  intro H locs ls hP hS hl
  exact lv_lshl hx hb d rfl (kk H locs ls hP hS hl)
theorem l_land (C : CX X G cc nL own fr lo) {x y : Int64} (d : decode cc pc = .ok (.land, 1)) (kk : LJ X G Q k n nL (pc + 1) lv (.long (x &&& y) :: st) σ) : LJ X G Q k n nL pc lv (.long y :: .long x :: st) σ := by
  obtain ⟨p, l, e, R, s, m, args, below, meth, c⟩ := X
  obtain ⟨hx, hb, -⟩ := C
  intro H locs ls hP hS hl
  exact lv_land hx hb d (kk H locs ls hP hS hl)
theorem l_lor (C : CX X G cc nL own fr lo) {x y : Int64} (d : decode cc pc = .ok (.lor, 1)) (kk : LJ X G Q k n nL (pc + 1) lv (.long (x ||| y) :: st) σ) : LJ X G Q k n nL pc lv (.long y :: .long x :: st) σ := by
  obtain ⟨p, l, e, R, s, m, args, below, meth, c⟩ := X
  obtain ⟨hx, hb, -⟩ := C
  intro H locs ls hP hS hl
  exact lv_lor hx hb d (kk H locs ls hP hS hl)
theorem l_lcmp (C : CX X G cc nL own fr lo) {x y : Int64} (d : decode cc pc = .ok (.lcmp, 1)) (kk : LJ X G Q k n nL (pc + 1) lv (.int (lg_cmp x y) :: st) σ) : LJ X G Q k n nL pc lv (.long y :: .long x :: st) σ := by
  obtain ⟨p, l, e, R, s, m, args, below, meth, c⟩ := X
  obtain ⟨hx, hb, -⟩ := C
  intro H locs ls hP hS hl
  exact W.lcmp hx hb d (kk H locs ls hP hS hl)
theorem l_ldc2 (C : CX X G cc nL own fr lo) {index : Nat} {v : Int64} (w : Cond.constantLong own index v ∈ GW) (d : decode cc pc = .ok (.ldc2_w index, 3)) (kk : LJ X G Q k n nL (pc + 3) lv (.long v :: st) σ) : LJ X G Q k n nL pc lv st σ := by
  obtain ⟨p, l, e, R, s, m, args, below, meth, c⟩ := X
  obtain ⟨hx, hb, hml, hown, hts, -⟩ := C
  intro H locs ls hP hS hl
  exact lv_ldc2 hx hb hown (hts _ w) d (kk H locs ls hP hS hl)
theorem l_ifeq (C : CX X G cc nL own fr lo) {x : Int32} {off : Int} {tgt : Nat} (d : decode cc pc = .ok (.ifCond .eq off, 3)) (ht : (pc : Int) + off = (tgt : Int)) (k1 : x = 0 → LJ X G Q k n nL tgt lv st σ) (k2 : ¬ x = 0 → LJ X G Q k n nL (pc + 3) lv st σ) : LJ X G Q k n nL pc lv (.int x :: st) σ := by
  obtain ⟨p, l, e, R, s, m, args, below, meth, c⟩ := X
  obtain ⟨hx, hb, -⟩ := C
  intro H locs ls hP hS hl
  exact lv_if_eq hx hb d ht (fun h => k1 h H locs ls hP hS hl) (fun h => k2 h H locs ls hP hS hl)
theorem l_icmpeq (C : CX X G cc nL own fr lo) {x y : Int32} {off : Int} {tgt : Nat} (d : decode cc pc = .ok (.if_icmp .eq off, 3)) (ht : (pc : Int) + off = (tgt : Int)) (k1 : x = y → LJ X G Q k n nL tgt lv st σ) (k2 : ¬ x = y → LJ X G Q k n nL (pc + 3) lv st σ) : LJ X G Q k n nL pc lv (.int y :: .int x :: st) σ := by
  obtain ⟨p, l, e, R, s, m, args, below, meth, c⟩ := X
  obtain ⟨hx, hb, -⟩ := C
  intro H locs ls hP hS hl
  exact lv_icmp_eq hx hb d ht (fun h => k1 h H locs ls hP hS hl) (fun h => k2 h H locs ls hP hS hl)
theorem l_icmpgt (C : CX X G cc nL own fr lo) {x y : Int32} {off : Int} {tgt : Nat} (d : decode cc pc = .ok (.if_icmp .gt off, 3)) (ht : (pc : Int) + off = (tgt : Int)) (k1 : y < x → LJ X G Q k n nL tgt lv st σ) (k2 : ¬ y < x → LJ X G Q k n nL (pc + 3) lv st σ) : LJ X G Q k n nL pc lv (.int y :: .int x :: st) σ := by
  obtain ⟨p, l, e, R, s, m, args, below, meth, c⟩ := X
  obtain ⟨hx, hb, -⟩ := C
  intro H locs ls hP hS hl
  exact lv_icmp_gt hx hb d ht (fun h => k1 h H locs ls hP hS hl) (fun h => k2 h H locs ls hP hS hl)
theorem l_goto (C : CX X G cc nL own fr lo) {off : Int} {tgt : Nat} (d : decode cc pc = .ok (.goto off, 3)) (ht : (pc : Int) + off = (tgt : Int)) (kk : LJ X G Q k n nL tgt lv st σ) : LJ X G Q k n nL pc lv st σ := by
  obtain ⟨p, l, e, R, s, m, args, below, meth, c⟩ := X
  obtain ⟨hx, hb, -⟩ := C
  intro H locs ls hP hS hl
  exact lv_goto hx hb d ht (kk H locs ls hP hS hl)
theorem l_iinc (C : CX X G cc nL own fr lo) {j place : Nat} {i : Int} {x v : Int32} {lv2 : List (Nat × Value)} (d : decode cc pc = .ok (.iinc j i, 3)) (hv : lv[place]? = some (j, .int x)) (hw : x + Int32.ofInt i = v) (hn : j < nL) (h2 : (j, Value.int v) :: lv.filter (fun q => !(q.1 == j) && !(q.1 + 1 == j && q.2.category == 2)) = lv2) (kk : LJ X G Q k n nL (pc + 3) lv2 st σ) : LJ X G Q k n nL pc lv st σ := by
  obtain ⟨p, l, e, R, s, m, args, below, meth, c⟩ := X
  obtain ⟨hx, hb, -⟩ := C
  intro H locs ls hP hS hl
  exact lv_iinc hx hb d hl hv hw hn h2 (fun ls2 hl2 => kk H locs ls2 hP hS hl2)
theorem l_tabIn (C : CX X G cc nL own fr lo) {dflt low hi : Int} {offs : Array Int} {len : Nat} {x : Int32} {off : Int} {tgt : Nat} (d : decode cc pc = .ok (.tableswitch dflt low hi offs, len)) (h1 : ¬ x.toInt < low) (h2 : ¬ hi < x.toInt) (ho : offs[(x.toInt - low).toNat]? = some off) (ht : (pc : Int) + off = (tgt : Int)) (kk : LJ X G Q k n nL tgt lv st σ) : LJ X G Q k n nL pc lv (.int x :: st) σ := by
  obtain ⟨p, l, e, R, s, m, args, below, meth, c⟩ := X
  obtain ⟨hx, hb, -⟩ := C
  intro H locs ls hP hS hl
  exact lv_tableIn hx hb d h1 h2 ho ht (kk H locs ls hP hS hl)
theorem l_tabOut (C : CX X G cc nL own fr lo) {dflt low hi : Int} {offs : Array Int} {len : Nat} {x : Int32} {tgt : Nat} (d : decode cc pc = .ok (.tableswitch dflt low hi offs, len)) (h : x.toInt < low ∨ hi < x.toInt) (ht : (pc : Int) + dflt = (tgt : Int)) (kk : LJ X G Q k n nL tgt lv st σ) : LJ X G Q k n nL pc lv (.int x :: st) σ := by
  obtain ⟨p, l, e, R, s, m, args, below, meth, c⟩ := X
  obtain ⟨hx, hb, -⟩ := C
  intro H locs ls hP hS hl
  exact lv_tableOut hx hb d h ht (kk H locs ls hP hS hl)
theorem l_slen (C : CX X G cc nL own fr lo) (SC : SX X G b L xs k n) (d : decode cc pc = .ok (.arraylength, 1)) (kk : LJ X G Q k n nL (pc + 1) lv (.int (nI L) :: st) σ) : LJ X G Q k n nL pc lv (.ref b :: st) σ := by
  obtain ⟨p, l, e, R, s, m, args, below, meth, c⟩ := X
  obtain ⟨hx, hb, -⟩ := C
  obtain ⟨hX, hbl, hbA, -⟩ := SC
  intro H locs ls hP hS hl
  exact va_slen hx hb hX hbl hbA hS d (kk H locs ls hP hS hl)
theorem l_sld (C : CX X G cc nL own fr lo) (SC : SX X G b L xs k n) {j : Nat} (hj : j < L) (hL : L < 2147483648) (d : decode cc pc = .ok (.iaload, 1)) (kk : LJ X G Q k n nL (pc + 1) lv (.int (xs j) :: st) σ) : LJ X G Q k n nL pc lv (.int (nI j) :: .ref b :: st) σ := by
  obtain ⟨p, l, e, R, s, m, args, below, meth, c⟩ := X
  obtain ⟨hx, hb, -⟩ := C
  obtain ⟨hX, hbl, hbA, -⟩ := SC
  intro H locs ls hP hS hl
  refine va_sld hx hb hX hbl hbA hS (vp_in_nI hj (by omega)) d ?_
  rw [nIc (by omega)]
  exact kk H locs ls hP hS hl
theorem l_callI (C : CX X G cc nL own fr lo) (SC : SX X G b L xs k n) {index kc kd ci N fr1 lo1 maxL na : Nat} {T : u_T} {y : MethodName} {bytes : ByteArray} {ret : Option FieldType} {fs As stk : List Value} {r0 : Int32} {σ0 : MT} (hM : CTI (XL X) G y bytes maxL ret fr1 lo1 (rf G kc :: As) σ r0 σ0) (hk : kdf kc = kd) (h99 : kd ≠ 99) (he : cont G kd kc (σ.1 kc) (σ.2 kc) = .inr (ci, fs)) (hc : classes[ci]? = some (y.cls, T, N)) (hm : MWV y bytes maxL ret na) (hl0 : Cond.methodLink own index y ∈ GW) (hn : As.length = na) (hst : stk = As.reverse ++ rf G kc :: st) (hcat : (st.map fun v => v.category).sum ≤ 8) (hR : fr1 + 1 ≤ fr ∧ 8 + (maxL + 11) + lo1 ≤ lo) (d : decode cc pc = .ok (.invokevirtual index, 3)) (kk : LJ X G Q k n nL (pc + 3) lv (.int r0 :: st) σ0) : LJ X G Q k n nL pc lv stk σ := by
  obtain ⟨p, l, e, R, s, m, args, below, meth, c⟩ := X
  obtain ⟨hx, hb, hml, hown, hts, hK, hI, hN, hZ, hfr, hlo, hlk⟩ := C
  obtain ⟨hX, hbl, hbA, hr1, hr2⟩ := SC
  intro H locs ls hP hS hl
  exact va_calli (va_runV (As := As) (rest := st) ⟨hx, hb, hml, hown, hts⟩ hM (cV hts hm hl0 ⟨Nat.le_trans hR.1 hfr, Nat.le_trans hR.2 hlo⟩) ⟨blind, va_recv hK hP hc (wld_is hk h99 he), fun U hU hW => ⟨rfl, preW hP hK hI hN hZ hS hU hW⟩⟩ rfl hn hl.1 hst (lv_room hcat) d ⟨hr1, hr2⟩) hS (fun q _ h => h) (fun q h => h) (by
  refine (fun r u t H1 locs1 ht hvm hw hB hz1 hk1 hS1 => ?_)
  obtain ⟨rfl, rfl⟩ := hw
  have hP1 := hB.1
  rw [ht] at hP1
  exact kk H1 locs1 ls hP1 hS1 hl)
theorem l_callL (C : CX X G cc nL own fr lo) (SC : SX X G b L xs k n) {index kc kd ci N fr1 lo1 maxL na : Nat} {T : u_T} {y : MethodName} {bytes : ByteArray} {ret : Option FieldType} {fs As stk : List Value} {r0 : Int64} {σ0 : MT} (hM : CTL (XL X) G y bytes maxL ret fr1 lo1 (rf G kc :: As) σ r0 σ0) (hk : kdf kc = kd) (h99 : kd ≠ 99) (he : cont G kd kc (σ.1 kc) (σ.2 kc) = .inr (ci, fs)) (hc : classes[ci]? = some (y.cls, T, N)) (hm : MWV y bytes maxL ret na) (hl0 : Cond.methodLink own index y ∈ GW) (hn : As.length = na) (hst : stk = As.reverse ++ rf G kc :: st) (hcat : (st.map fun v => v.category).sum ≤ 8) (hR : fr1 + 1 ≤ fr ∧ 8 + (maxL + 11) + lo1 ≤ lo) (d : decode cc pc = .ok (.invokevirtual index, 3)) (kk : LJ X G Q k n nL (pc + 3) lv (.long r0 :: st) σ0) : LJ X G Q k n nL pc lv stk σ := by
  obtain ⟨p, l, e, R, s, m, args, below, meth, c⟩ := X
  obtain ⟨hx, hb, hml, hown, hts, hK, hI, hN, hZ, hfr, hlo, hlk⟩ := C
  obtain ⟨hX, hbl, hbA, hr1, hr2⟩ := SC
  intro H locs ls hP hS hl
  exact va_calll (va_runV (As := As) (rest := st) ⟨hx, hb, hml, hown, hts⟩ hM (cV hts hm hl0 ⟨Nat.le_trans hR.1 hfr, Nat.le_trans hR.2 hlo⟩) ⟨blind, va_recv hK hP hc (wld_is hk h99 he), fun U hU hW => ⟨rfl, preW hP hK hI hN hZ hS hU hW⟩⟩ rfl hn hl.1 hst (lv_room hcat) d ⟨hr1, hr2⟩) hS (fun q _ h => h) (fun q h => h) (by
  refine (fun r u t H1 locs1 ht hvm hw hB hz1 hk1 hS1 => ?_)
  obtain ⟨rfl, rfl⟩ := hw
  have hP1 := hB.1
  rw [ht] at hP1
  exact kk H1 locs1 ls hP1 hS1 hl)
end LAWR
