/-! MAKING THE OBJECTS: the constructors' judgement -/
def zAOA (U : State) : Prop := (Cond.arrayOver (.array .int)).before #[] U = true
theorem zAOA.moved {u U : State} (hvm : u.vm.Alike U.vm) (h : zAOA u) : zAOA U := by
  obtain ⟨comp, c, k, h1, h2, h3, h4, h5⟩ := arrayOverA_spec h
  obtain ⟨k', hk', he⟩ := hvm.2.2 _ _ h3
  have hi : (U.vm.classes.findIdx? fun (x : Class) => match x.kind with | .array component _ => component == comp | _ => false) = some c := by
    refine (va_idx_bare U.vm comp).symm.trans ?_
    first | rw [hvm.bare_eq] | rw [← hvm.bare_eq]
    exact (va_idx_bare u.vm comp).trans h2
  have hkind : k'.kind = .array comp (.array .int) := by rw [he]; exact h4
  have f1 : U.vm.findClass (FieldType.array .int).toString = some comp := by rw [hvm.findClass]; exact h1
  have f2 : U.vm.findClass ("[" ++ (FieldType.array .int).toString) = some c := by rw [hvm.findClass]; exact h5
  unfold zAOA Cond.before Cond.holds
  simp only [Cond.value]
  rw [f1, Option.bind_some]
  refine (congrArg (fun o : Option Nat => (o.bind (fun c => (U.vm.classes[c]?).map fun (k : Class) => match k.kind with | .array _ ty => decide (ty = FieldType.array .int) && decide (U.vm.findClass ("[" ++ (FieldType.array .int).toString) = some c) | _ => false) == some true)) hi).trans ?_
  simp [hk', hkind, f2]
def y_Rd_init : MethodName := ⟨"TimeFlood$Reader", "<init>", "()V"⟩
def y_Pl_init : MethodName := ⟨"TimeFlood$Plan", "<init>", "()V"⟩
def y_Fl_init : MethodName := ⟨"TimeFlood$Flood", "<init>", "()V"⟩
def y_St_init : MethodName := ⟨"TimeFlood$State", "<init>", "()V"⟩
def y_Nd_init : MethodName := ⟨"TimeFlood$Node", "<init>", "()V"⟩
def y_Jr_init : MethodName := ⟨"TimeFlood$Journal", "<init>", "()V"⟩
def y_Sg_init : MethodName := ⟨"TimeFlood$Sightings", "<init>", "()V"⟩
def y_TF_init : MethodName := ⟨"TimeFlood", "<init>", "()V"⟩
def y_M_init : MethodName := ⟨"TimeFloodModel", "<init>", "()V"⟩
/-- the constructors that are called across the nest -/
def NI (U : State) : Prop := va_Nw (.methodLinkNest "TimeFlood" 19 y_Rd_init "TimeFlood") U ∧ va_Nw (.methodLinkNest "TimeFlood$Reader" 11 y_Pl_init "TimeFlood") U ∧ va_Nw (.methodLinkNest "TimeFlood" 26 y_Fl_init "TimeFlood") U ∧ va_Nw (.methodLinkNest "TimeFlood$Flood" 11 y_Pl_init "TimeFlood") U ∧ va_Nw (.methodLinkNest "TimeFlood$State" 24 y_Nd_init "TimeFlood") U ∧ va_Nw (.methodLinkNest "TimeFlood" 63 y_Sg_init "TimeFlood") U
theorem NI.same {u U : State} (h : u.vm = U.vm) (hZ : NI u) : NI U := ⟨va_Nw.same rfl h hZ.1, va_Nw.same rfl h hZ.2.1, va_Nw.same rfl h hZ.2.2.1, va_Nw.same rfl h hZ.2.2.2.1, va_Nw.same rfl h hZ.2.2.2.2.1, va_Nw.same rfl h hZ.2.2.2.2.2⟩
theorem NI.warm {s U : State} (hW : s.WarmedH U.vm) (hZ : NI s) : NI U := ⟨va_Nw.warmM hW hZ.1, va_Nw.warmM hW hZ.2.1, va_Nw.warmM hW hZ.2.2.1, va_Nw.warmM hW hZ.2.2.2.1, va_Nw.warmM hW hZ.2.2.2.2.1, va_Nw.warmM hW hZ.2.2.2.2.2⟩
/-- what is known of the classes while objects are made -/
def KW (D : va_G) (E : Nat → ClassId) (U : State) : Prop := va_K D classes (tysW E) U ∧ va_AO "TimeFlood$State" U ∧ va_AO "TimeFlood$Node" U ∧ zAOA U ∧ NI U
theorem KW.call {D : va_G} {E : Nat → ClassId} {U : State} (h : KW D E U) (g : JFrame) (mk : MethodId) (a : Array Value) : KW D E (U.calling g mk a) :=
  ⟨va_K.moved (u := U) (U := U.calling g mk a) (Vm.Alike.refl U.vm) h.1, va_AO.moved (u := U) (U := U.calling g mk a) (Vm.Alike.refl U.vm) h.2.1, va_AO.moved (u := U) (U := U.calling g mk a) (Vm.Alike.refl U.vm) h.2.2.1, zAOA.moved (u := U) (U := U.calling g mk a) (Vm.Alike.refl U.vm) h.2.2.2.1, NI.same (u := U) (U := U.calling g mk a) rfl h.2.2.2.2⟩
theorem KW.warm {D : va_G} {E : Nat → ClassId} {s U : State} (hW : s.WarmedH U.vm) (h : KW D E s) : KW D E U :=
  ⟨va_K.moved hW.alike h.1, va_AO.moved hW.alike h.2.1, va_AO.moved hW.alike h.2.2.1, zAOA.moved hW.alike h.2.2.2.1, NI.warm hW h.2.2.2.2⟩
/-- the first world -/
def isNd (a : Nat) : Bool := decide (61 ≤ a) && (decide (2 ≤ (a - 61) % 22) && decide (((a - 61) % 22 - 2) % 4 = 0))
def w0 : MT := (fun a => if a = 3 ∨ a = 15 then (fun b => if b = 0 then 8 else if b = 1 then 1 else 0) else if a = 38 then (fun b => if b = 2 then 8 else if b = 3 then 1 else 0) else if isNd a = true then (fun b => if b = 2 then -9 else 0) else fun _ => 0, fun _ => 0)
/-- the cells ks of the first world, at addresses ad -/
def blk (D : va_G) (E : Nat → ClassId) (ad : Nat → Nat) (ks : List Nat) : va_W := ks.map (cellOf (D, E, ad) w0)
def OneC (h0 ci : Nat) (fs : List Value) : va_W := [(h0, .inr (ci, fs))]
/-- a constructor's contract: from one object of default fields to the cells ks, k0 the object's -/
def CTN (l : Launch) (D : va_G) (E : Nat → ClassId) (y : MethodName) (bytes : ByteArray) (maxL fr lo mc ms ci : Nat) (fs : List Value) (k0 : Nat) (ks : List Nat) (h0 sz : Nat) : Prop :=
  Met l y (WS y bytes maxL none) { frames := fr, cells := mc, slots := ms, locals := lo } (va_Pc [.ref h0] (fun U => U.heap.size = sz ∧ va_P D classes (OneC h0 ci fs) U.heap ∧ KW D E U)) (va_Qv (fun ad : Nat → Nat => ad k0 = h0) (fun ad t => va_P D classes (blk D E ad ks) t.heap ∧ va_D (va_A (OneC h0 ci fs) sz) (blk D E ad ks)) (va_A (OneC h0 ci fs) sz)) mc ms (va_A (OneC h0 ci fs) sz)
/-- what holds all through a constructor's body -/
def KX (X : XT) (D : va_G) (E : Nat → ClassId) (A : Nat → Prop) (cc : ByteArray) (nL : Nat) (own : String) (fr lo mc ms : Nat) : Prop :=
  match X with
  | (p, l, e, R, s, m, args, below, meth, c) => p.tables.exec = Jvm.exec ∧ c.code = cc ∧ c.maxLocals = nL ∧ s.vm.findClass own = some m.cls ∧ (∀ w ∈ GW, w.before args s = true) ∧ KW D E s ∧ (fr ≤ R.frames ∧ lo ≤ R.locals ∧ mc ≤ R.cells ∧ ms ≤ R.slots) ∧ meth.locks = false ∧ meth.name = "<init>" ∧ (∀ q, s.heap.size ≤ q → A q) ∧ meth.sig.returnType = none
/-- wherever the heap holds the cells ws, with k cells and n slots made, the run comes to Q -/
def KJ (X : XT) (D : va_G) (A : Nat → Prop) (Q : State → Prop) (nL pc : Nat) (lv : List (Nat × Value)) (st : List Value) (ws : va_W) (k n : Nat) : Prop :=
  match X with
  | (p, l, e, R, s, m, args, below, meth, c) => ∀ (H : Heap) (locs : List Loc) (ls : Array Slot), va_P D classes ws H → va_D A ws → va_S A s.heap H locs → lv_has ls nL lv → W p l e R s m args below meth c H locs k n Q (F0 m pc ls st)
section MK
variable {X : XT} {D : va_G} {E : Nat → ClassId} {A : Nat → Prop} {Q : State → Prop} {cc : ByteArray} {nL : Nat} {own : String} {fr lo mc ms pc : Nat} {lv : List (Nat × Value)} {st : List Value} {ws : va_W} {k n : Nat}
theorem k_widen {k2 n2 : Nat} (h1 : k ≤ k2) (h2 : n ≤ n2) (kk : KJ X D A Q nL pc lv st ws k2 n2) : KJ X D A Q nL pc lv st ws k n := by
  obtain ⟨p, l, e, R, s, m, args, below, meth, c⟩ := X
  intro H locs ls hP hD hS hl
  exact W.widen h1 h2 (kk H locs ls hP hD hS hl)
theorem k_aload (C : KX X D E A cc nL own fr lo mc ms) {i : Fin 4} {j place x : Nat} (d : decode cc pc = .ok (.aload_n i, 1)) (hi : (i : Nat) = j) (hv : lv[place]? = some (j, .ref x)) (kk : KJ X D A Q nL (pc + 1) lv (.ref x :: st) ws k n) : KJ X D A Q nL pc lv st ws k n := by
  obtain ⟨p, l, e, R, s, m, args, below, meth, c⟩ := X
  obtain ⟨hx, hb, -⟩ := C
  intro H locs ls hP hD hS hl
  exact lv_aload_n hx hb d hi (lv_at hl place hv) (kk H locs ls hP hD hS hl)
theorem k_iload (C : KX X D E A cc nL own fr lo mc ms) {i : Fin 4} {j place : Nat} {x : Int32} (d : decode cc pc = .ok (.iload_n i, 1)) (hi : (i : Nat) = j) (hv : lv[place]? = some (j, .int x)) (kk : KJ X D A Q nL (pc + 1) lv (.int x :: st) ws k n) : KJ X D A Q nL pc lv st ws k n := by
  obtain ⟨p, l, e, R, s, m, args, below, meth, c⟩ := X
  obtain ⟨hx, hb, -⟩ := C
  intro H locs ls hP hD hS hl
  exact lv_iload_n hx hb d hi (lv_at hl place hv) (kk H locs ls hP hD hS hl)
theorem k_istore (C : KX X D E A cc nL own fr lo mc ms) {i : Fin 4} {j : Nat} {x : Int32} {lv2 : List (Nat × Value)} (d : decode cc pc = .ok (.istore_n i, 1)) (hi : (i : Nat) = j) (hn : j < nL) (hv : (j, Value.int x) :: lv.filter (fun q => !(q.1 == j) && !(q.1 + 1 == j && q.2.category == 2)) = lv2) (kk : KJ X D A Q nL (pc + 1) lv2 st ws k n) : KJ X D A Q nL pc lv (.int x :: st) ws k n := by
  obtain ⟨p, l, e, R, s, m, args, below, meth, c⟩ := X
  obtain ⟨hx, hb, -⟩ := C
  intro H locs ls hP hD hS hl
  exact lv_istore_n hx hb d hi hl hn hv (fun ls2 hl2 => kk H locs ls2 hP hD hS hl2)
theorem k_iinc (C : KX X D E A cc nL own fr lo mc ms) {j place : Nat} {i : Int} {x v : Int32} {lv2 : List (Nat × Value)} (d : decode cc pc = .ok (.iinc j i, 3)) (hv : lv[place]? = some (j, .int x)) (hw : x + Int32.ofInt i = v) (hn : j < nL) (h2 : (j, Value.int v) :: lv.filter (fun q => !(q.1 == j) && !(q.1 + 1 == j && q.2.category == 2)) = lv2) (kk : KJ X D A Q nL (pc + 3) lv2 st ws k n) : KJ X D A Q nL pc lv st ws k n := by
  obtain ⟨p, l, e, R, s, m, args, below, meth, c⟩ := X
  obtain ⟨hx, hb, -⟩ := C
  intro H locs ls hP hD hS hl
  exact lv_iinc hx hb d hl hv hw hn h2 (fun ls2 hl2 => kk H locs ls2 hP hD hS hl2)
theorem k_goto (C : KX X D E A cc nL own fr lo mc ms) {off : Int} {tgt : Nat} (d : decode cc pc = .ok (.goto off, 3)) (ht : (pc : Int) + off = (tgt : Int)) (kk : KJ X D A Q nL tgt lv st ws k n) : KJ X D A Q nL pc lv st ws k n := by
  obtain ⟨p, l, e, R, s, m, args, below, meth, c⟩ := X
  obtain ⟨hx, hb, -⟩ := C
  intro H locs ls hP hD hS hl
  exact lv_goto hx hb d ht (kk H locs ls hP hD hS hl)
theorem k_icmpge (C : KX X D E A cc nL own fr lo mc ms) {off : Int} {tgt : Nat} {x y : Int32} (d : decode cc pc = .ok (.if_icmp .ge off, 3)) (ht : (pc : Int) + off = (tgt : Int)) (k1 : y ≤ x → KJ X D A Q nL tgt lv st ws k n) (k2 : ¬ y ≤ x → KJ X D A Q nL (pc + 3) lv st ws k n) : KJ X D A Q nL pc lv (.int y :: .int x :: st) ws k n := by
  obtain ⟨p, l, e, R, s, m, args, below, meth, c⟩ := X
  obtain ⟨hx, hb, -⟩ := C
  intro H locs ls hP hD hS hl
  exact lv_icmp_ge hx hb d ht (fun h => k1 h H locs ls hP hD hS hl) (fun h => k2 h H locs ls hP hD hS hl)
theorem k_iconst (C : KX X D E A cc nL own fr lo mc ms) {i : Int} {v : Int32} (d : decode cc pc = .ok (.iconst i, 1)) (hv : Int32.ofInt i = v) (kk : KJ X D A Q nL (pc + 1) lv (.int v :: st) ws k n) : KJ X D A Q nL pc lv st ws k n := by
  obtain ⟨p, l, e, R, s, m, args, below, meth, c⟩ := X
  obtain ⟨hx, hb, -⟩ := C
  intro H locs ls hP hD hS hl
  exact lv_iconst hx hb d hv (kk H locs ls hP hD hS hl)
theorem k_bipush (C : KX X D E A cc nL own fr lo mc ms) {i : Int} {v : Int32} (d : decode cc pc = .ok (.bipush i, 2)) (hv : (Int8.ofInt i).toInt32 = v) (kk : KJ X D A Q nL (pc + 2) lv (.int v :: st) ws k n) : KJ X D A Q nL pc lv st ws k n := by
  obtain ⟨p, l, e, R, s, m, args, below, meth, c⟩ := X
  obtain ⟨hx, hb, -⟩ := C
  intro H locs ls hP hD hS hl
  exact lv_bipush hx hb d hv (kk H locs ls hP hD hS hl)
theorem k_sipush (C : KX X D E A cc nL own fr lo mc ms) {i : Int} {v : Int32} (d : decode cc pc = .ok (.sipush i, 3)) (hv : (Int16.ofInt i).toInt32 = v) (kk : KJ X D A Q nL (pc + 3) lv (.int v :: st) ws k n) : KJ X D A Q nL pc lv st ws k n := by
  obtain ⟨p, l, e, R, s, m, args, below, meth, c⟩ := X
  obtain ⟨hx, hb, -⟩ := C
  intro H locs ls hP hD hS hl
  exact lv_sipush hx hb d hv (kk H locs ls hP hD hS hl)
theorem k_lconst (C : KX X D E A cc nL own fr lo mc ms) {i : Fin 2} {v : Int64} (d : decode cc pc = .ok (.lconst i, 1)) (hv : Int64.ofNat (i : Nat) = v) (kk : KJ X D A Q nL (pc + 1) lv (.long v :: st) ws k n) : KJ X D A Q nL pc lv st ws k n := by
  obtain ⟨p, l, e, R, s, m, args, below, meth, c⟩ := X
  obtain ⟨hx, hb, -⟩ := C
  intro H locs ls hP hD hS hl
  exact lv_lconst hx hb d hv (kk H locs ls hP hD hS hl)
theorem k_dup (C : KX X D E A cc nL own fr lo mc ms) {v : Value} (d : decode cc pc = .ok (.dup, 1)) (hv : v.category = 1) (kk : KJ X D A Q nL (pc + 1) lv (v :: v :: st) ws k n) : KJ X D A Q nL pc lv (v :: st) ws k n := by
  obtain ⟨p, l, e, R, s, m, args, below, meth, c⟩ := X
  obtain ⟨hx, hb, -⟩ := C
  intro H locs ls hP hD hS hl
  exact lv_dup hx hb d hv (kk H locs ls hP hD hS hl)
theorem k_obj (C : KX X D E A cc nL own fr lo mc ms) {index a : Nat} (w : Cond.methodLink own index objectInit ∈ GW) (hR : 1 ≤ fr ∧ (st.map fun v => v.category).sum + 12 ≤ lo) (d : decode cc pc = .ok (.invokespecial index, 3)) (kk : KJ X D A Q nL (pc + 3) lv st ws k n) : KJ X D A Q nL pc lv (.ref a :: st) ws k n := by
  obtain ⟨p, l, e, R, s, m, args, below, meth, c⟩ := X
  obtain ⟨hx, hb, hml, hown, hts, hK, ⟨r1, r2, r3, r4⟩, -⟩ := C
  intro H locs ls hP hD hS hl
  refine W.objInit hx hb hown (hts _ w) (hts _ wd_19) (hts _ wd_20) rfl (by rw [hml]; exact hl.1) rfl d (Nat.le_trans hR.1 r1) ?_ ?_
  · show 2 * 0 + _ + 12 ≤ R.locals
    rw [Nat.mul_zero, Nat.zero_add]
    exact Nat.le_trans hR.2 r2
  · exact kk H locs ls hP hD hS hl
theorem k_new (C : KX X D E A cc nL own fr lo mc ms) {index ci N : Nat} {R : String} {T : u_T} {fs : List Value} (w1 : Cond.classLink own index R ∈ GW) (w2 : Cond.instantiable R N ∈ GW) (w3 : Cond.initialized R ∈ GW) (hin : ∀ w ∈ u_ws R T N, w ∈ GW) (ty0 : Nat → FieldType) (hty : ∀ k, k < N → parseFieldDescriptor (T k).2.2.1 = some (ty0 k)) (hc : classes[ci]? = some (R, T, N)) (hfs : ∀ j, j < N → defaultValue (ty0 j) = vp_V fs j) (h1 : k + 1 ≤ mc) (h2 : n + N ≤ ms) (d : decode cc pc = .ok (.new index, 3)) (kk : ∀ q : Nat, KJ X D A Q nL (pc + 3) lv (.ref q :: st) (ws ++ OneC q ci fs) (k + 1) (n + N)) : KJ X D A Q nL pc lv st ws k n := by
  obtain ⟨p, l, e, R, s, m, args, below, meth, c⟩ := X
  obtain ⟨hx, hb, hml, hown, hts, hK, ⟨r1, r2, r3, r4⟩, hlk, hnm, hA, hret⟩ := C
  intro H locs ls hP hD hS hl
  exact va_new hx hb hts hin ty0 hty hown (hts _ w1) (hts _ w2) (hts _ w3) hK.1 hP hD hS hA hc hfs (Nat.le_trans h1 r3) (Nat.le_trans h2 r4) d (fun q H1 hP1 hD1 hS1 => kk q H1 locs ls hP1 hD1 hS1 hl)
theorem k_newi (C : KX X D E A cc nL own fr lo mc ms) {t N' : Nat} {atype : ArrayType} {ty : FieldType} {x : Int32} (hty : newarray.typeOf atype = ty) (w : Cond.arrayClass ty ∈ GW) (ht : (tysW E)[t]? = some (E t, ty)) (hra : ∀ U cA, va_RA U cA ty → U.vm.findClass ("[" ++ ty.toString) = some cA) (hdv : defaultValue ty = .int 0) (hx0 : ¬ x < 0) (hN : x.toNatClampNeg = N') (hby : N' * componentBytes ty ≤ 536870912) (h1 : k + 1 ≤ mc) (h2 : n + N' ≤ ms) (d : decode cc pc = .ok (.newarray atype, 2)) (kk : ∀ q : Nat, KJ X D A Q nL (pc + 2) lv (.ref q :: st) (ws ++ [(q, .inl (E t, N', .inl fun _ => 0))]) (k + 1) (n + N')) : KJ X D A Q nL pc lv (.int x :: st) ws k n := by
  obtain ⟨p, l, e, R, s, m, args, below, meth, c⟩ := X
  obtain ⟨hx, hb, hml, hown, hts, hK, ⟨r1, r2, r3, r4⟩, hlk, hnm, hA, hret⟩ := C
  intro H locs ls hP hD hS hl
  refine va_newa (ty := ty) (N' := N') (a0 := (N', .inl fun _ => 0)) hx hb (by rw [hty]; exact hts _ w) hty hK.1 hP hD hS hA (fun cA => by rw [hdv]; rfl) hx0 hN hby (Nat.le_trans h1 r3) (Nat.le_trans h2 r4) d (fun q cA H1 hK1 hP1 hD1 hS1 => ?_)
  have e1 : s.vm.findClass ("[" ++ ty.toString) = some cA := hra s cA (hK1.2 6 (cA, ty) rfl).2
  have e2 : s.vm.findClass ("[" ++ ty.toString) = some (E t) := hra s (E t) (hK.1.2 t _ ht).2
  have ec : cA = E t := Option.some.inj (e1.symm.trans e2)
  subst ec
  exact kk q H1 locs ls hP1 hD1 hS1 hl
theorem k_newq (C : KX X D E A cc nL own fr lo mc ms) {index t N' : Nat} {R : String} {x : Int32} (w : Cond.classLink own index R ∈ GW) (hao : ∀ U, KW D E U → va_AO R U) (ht : (tysW E)[t]? = some (E t, .object R)) (hx0 : ¬ x < 0) (hN : x.toNatClampNeg = N') (hby : N' * 4 ≤ 536870912) (h1 : k + 1 ≤ mc) (h2 : n + N' ≤ ms) (d : decode cc pc = .ok (.anewarray index, 3)) (kk : ∀ q : Nat, KJ X D A Q nL (pc + 3) lv (.ref q :: st) (ws ++ [(q, .inl (E t, N', .inr (.inr (.inr (.inr fun _ => none)))))]) (k + 1) (n + N')) : KJ X D A Q nL pc lv (.int x :: st) ws k n := by
  obtain ⟨p, l, e, R, s, m, args, below, meth, c⟩ := X
  obtain ⟨hx, hb, hml, hown, hts, hK, ⟨r1, r2, r3, r4⟩, hlk, hnm, hA, hret⟩ := C
  intro H locs ls hP hD hS hl
  refine va_newq (N' := N') hx hb hown (hts _ w) (hao s hK) hK.1 hP hD hS hA hx0 hN hby (Nat.le_trans h1 r3) (Nat.le_trans h2 r4) d (fun q cA H1 hK1 hP1 hD1 hS1 => ?_)
  obtain ⟨_, _, _, _, _, e1⟩ := (hK1.2 6 _ rfl).2
  obtain ⟨_, _, _, _, _, e2⟩ := (hK.1.2 t _ ht).2
  have ec : cA = E t := Option.some.inj (e1.symm.trans e2)
  subst ec
  exact kk q H1 locs ls hP1 hD1 hS1 hl
theorem k_get (C : KX X D E A cc nL own fr lo mc ms) {index q0 ci N a : Nat} {R : String} {T : u_T} {fs : List Value} {v : Value} (he : ws[q0]? = some (a, .inr (ci, fs))) (hin : ∀ w ∈ u_ws R T N, w ∈ GW) (hc : classes[ci]? = some (R, T, N)) (j : Nat) (hj : j < N) (hv : fs[j]? = some v) (w : Cond.fieldLink own index (T j).1 (T j).2.1 (T j).2.2.1 ∈ GW) (d : decode cc pc = .ok (.getfield index, 3)) (kk : KJ X D A Q nL (pc + 3) lv (v :: st) ws k n) : KJ X D A Q nL pc lv (.ref a :: st) ws k n := by
  obtain ⟨p, l, e, R, s, m, args, below, meth, c⟩ := X
  obtain ⟨hx, hb, hml, hown, hts, hK, ⟨r1, r2, r3, r4⟩, hlk, hnm, hA, hret⟩ := C
  intro H locs ls hP hD hS hl
  exact va_get hx hb hts hin hown hK.1 hP q0 he hc j hj (hts _ w) (fun _ h9 => h9) hv d (kk H locs ls hP hD hS hl)
theorem k_put (C : KX X D E A cc nL own fr lo mc ms) {index q0 ci N a : Nat} {R : String} {T : u_T} {fs : List Value} {v : Value} {ty : FieldType} {ws2 : va_W} (he : ws[q0]? = some (a, .inr (ci, fs))) (hin : ∀ w ∈ u_ws R T N, w ∈ GW) (ty0 : Nat → FieldType) (hty : ∀ k, k < N → parseFieldDescriptor (T k).2.2.1 = some (ty0 k)) (hnm : ∀ a, a < N → ∀ b, b < N → a ≠ b → (T a).2.1 ≠ (T b).2.1) (hc : classes[ci]? = some (R, T, N)) (j : Nat) (hj : j < N) (hjl : j < fs.length) (hfin : (T j).2.2.2 = false) (hd : parseFieldDescriptor (T j).2.2.1 = some ty) (hn : narrow ty v = v) (hf : fits ty v = true) (w : Cond.fieldLink own index (T j).1 (T j).2.1 (T j).2.2.1 ∈ GW) (d : decode cc pc = .ok (.putfield index, 3)) (hw2 : ws.set q0 (a, .inr (ci, fs.set j v)) = ws2) (kk : KJ X D A Q nL (pc + 3) lv st ws2 k n) : KJ X D A Q nL pc lv (v :: .ref a :: st) ws k n := by
  obtain ⟨p, l, e, R, s, m, args, below, meth, c⟩ := X
  obtain ⟨hx, hb, hml, hown, hts, hK, ⟨r1, r2, r3, r4⟩, hlk, hmn, hA, hret⟩ := C
  intro H locs ls hP hD hS hl
  subst hw2
  exact va_put hx hb hts hin ty0 hty hnm hown hK.1 hP hD hS q0 he hc j hj (hts _ w) (fun _ h9 => h9) hfin hd hn hf hjl d (fun H1 locs1 hP1 hD1 hS1 => kk H1 locs1 ls hP1 hD1 hS1 hl)
theorem k_putF (C : KX X D E A cc nL own fr lo mc ms) {index q0 ci N a : Nat} {R : String} {T : u_T} {fs : List Value} {v : Value} {ty : FieldType} {ws2 : va_W} (he : ws[q0]? = some (a, .inr (ci, fs))) (hin : ∀ w ∈ u_ws R T N, w ∈ GW) (ty0 : Nat → FieldType) (hty : ∀ k, k < N → parseFieldDescriptor (T k).2.2.1 = some (ty0 k)) (hnm : ∀ a, a < N → ∀ b, b < N → a ≠ b → (T a).2.1 ≠ (T b).2.1) (hc : classes[ci]? = some (R, T, N)) (j : Nat) (hj : j < N) (hjl : j < fs.length) (hfin : (T j).2.2.2 = true) (hdecl : (T j).1 = own) (hd : parseFieldDescriptor (T j).2.2.1 = some ty) (hn : narrow ty v = v) (hf : fits ty v = true) (w : Cond.fieldLink own index (T j).1 (T j).2.1 (T j).2.2.1 ∈ GW) (d : decode cc pc = .ok (.putfield index, 3)) (hw2 : ws.set q0 (a, .inr (ci, fs.set j v)) = ws2) (kk : KJ X D A Q nL (pc + 3) lv st ws2 k n) : KJ X D A Q nL pc lv (v :: .ref a :: st) ws k n := by
  obtain ⟨p, l, e, R, s, m, args, below, meth, c⟩ := X
  obtain ⟨hx, hb, hml, hown, hts, hK, ⟨r1, r2, r3, r4⟩, hlk, hmn, hA, hret⟩ := C
  intro H locs ls hP hD hS hl
  subst hw2
  exact va_putF hx hb hts hin ty0 hty hnm hown hK.1 hP hD hS q0 he hc j hj (hts _ w) (fun _ h9 => h9) hfin hmn hdecl hd hn hf hjl d (fun H1 locs1 hP1 hD1 hS1 => kk H1 locs1 ls hP1 hD1 hS1 hl)
theorem k_ast (C : KX X D E A cc nL own fr lo mc ms) {q0 t0 qk ci N' v a : Nat} {r : vw_C} {vs : List Value} {f : Nat → Option Nat} {i : Int32} {ws2 : va_W} (ha : ws[q0]? = some (a, .inl (E t0, N', .inr (.inr (.inr (.inr f)))))) (ht : (tysW E)[t0]? = some (E t0, .object r.1)) (hv : ws[qk]? = some (v, .inr (ci, vs))) (hc : classes[ci]? = some r) (hin : vp_in i N') (d : decode cc pc = .ok (.aastore, 1)) (hw2 : ws.set q0 (a, .inl (E t0, N', .inr (.inr (.inr (.inr (va_up f i.toNatClampNeg (some v))))))) = ws2) (kk : KJ X D A Q nL (pc + 1) lv st ws2 k n) : KJ X D A Q nL pc lv (.ref v :: .int i :: .ref a :: st) ws k n := by
  obtain ⟨p, l, e, R, s, m, args, below, meth, c⟩ := X
  obtain ⟨hx, hb, hml, hown, hts, hK, ⟨r1, r2, r3, r4⟩, hlk, hmn, hA, hret⟩ := C
  intro H locs ls hP hD hS hl
  subst hw2
  exact va_astq hx hb hK.1 hP hD hS q0 t0 qk ci ha ht hv hc hin d (fun H1 locs1 hP1 hD1 hS1 => kk H1 locs1 ls hP1 hD1 hS1 hl)
/-- two lists of cells that say the same -/
theorem k_same {ws2 : va_W} (hlen : ws2.length = ws.length) (h : ∀ (i : Nat) (q : Nat × va_E), ws2[i]? = some q → ∃ q2, ws[i]? = some q2 ∧ q.1 = q2.1 ∧ ∀ H, va_at D classes q2 H → va_at D classes q H) (kk : KJ X D A Q nL pc lv st ws2 k n) : KJ X D A Q nL pc lv st ws k n := by
  obtain ⟨p, l, e, R, s, m, args, below, meth, c⟩ := X
  intro H locs ls hP hD hS hl
  refine kk H locs ls (fun i q hq => ?_) ⟨fun i j x y hi hj hxy => ?_, fun i q hq => ?_⟩ hS hl
  · obtain ⟨q2, h1, -, h3⟩ := h i q hq
    exact h3 H (hP i q2 h1)
  · obtain ⟨x2, h1, h2, -⟩ := h i x hi
    obtain ⟨y2, h3, h4, -⟩ := h j y hj
    exact hD.1 i j x2 y2 h1 h3 (by rw [← h2, ← h4, hxy])
  · obtain ⟨q2, h1, h2, -⟩ := h i q hq
    rw [h2]
    exact hD.2 i q2 h1
end MK
