theorem j_iconst {X : XT} {G : GT} {Q : State → Prop} {cc : ByteArray} {nL : Nat} {own : String} {fr lo pc : Nat} {lv : List (Nat × Value)} {st : List Value} {σ : MT} (C : CX X G cc nL own fr lo) {n : Int} {v : Int32} (d : decode cc pc = .ok (.iconst n, 1)) (hv : Int32.ofInt n = v) (k : JW X G Q nL (pc + 1) lv (.int v :: st) σ) : JW X G Q nL pc lv (st) σ := by
  obtain ⟨p, l, e, R, s, m, args, below, meth, c⟩ := X
  obtain ⟨hx, hb, hml, hown, hts, hK, hI, hN, hZ, hfr, hlo, hlk⟩ := C
  intro H locs ls hP hS hl
  exact lv_iconst hx hb d hv (k H locs ls hP hS hl)
theorem j_bipush {X : XT} {G : GT} {Q : State → Prop} {cc : ByteArray} {nL : Nat} {own : String} {fr lo pc : Nat} {lv : List (Nat × Value)} {st : List Value} {σ : MT} (C : CX X G cc nL own fr lo) {n : Int} {v : Int32} (d : decode cc pc = .ok (.bipush n, 2)) (hv : (Int8.ofInt n).toInt32 = v) (k : JW X G Q nL (pc + 2) lv (.int v :: st) σ) : JW X G Q nL pc lv (st) σ := by
  obtain ⟨p, l, e, R, s, m, args, below, meth, c⟩ := X
  obtain ⟨hx, hb, hml, hown, hts, hK, hI, hN, hZ, hfr, hlo, hlk⟩ := C
  intro H locs ls hP hS hl
  exact lv_bipush hx hb d hv (k H locs ls hP hS hl)
theorem j_sipush {X : XT} {G : GT} {Q : State → Prop} {cc : ByteArray} {nL : Nat} {own : String} {fr lo pc : Nat} {lv : List (Nat × Value)} {st : List Value} {σ : MT} (C : CX X G cc nL own fr lo) {n : Int} {v : Int32} (d : decode cc pc = .ok (.sipush n, 3)) (hv : (Int16.ofInt n).toInt32 = v) (k : JW X G Q nL (pc + 3) lv (.int v :: st) σ) : JW X G Q nL pc lv (st) σ := by
  obtain ⟨p, l, e, R, s, m, args, below, meth, c⟩ := X
  obtain ⟨hx, hb, hml, hown, hts, hK, hI, hN, hZ, hfr, hlo, hlk⟩ := C
  intro H locs ls hP hS hl
  exact lv_sipush hx hb d hv (k H locs ls hP hS hl)
theorem j_lconst {X : XT} {G : GT} {Q : State → Prop} {cc : ByteArray} {nL : Nat} {own : String} {fr lo pc : Nat} {lv : List (Nat × Value)} {st : List Value} {σ : MT} (C : CX X G cc nL own fr lo) {n : Fin 2} {v : Int64} (d : decode cc pc = .ok (.lconst n, 1)) (hv : Int64.ofNat (n : Nat) = v) (k : JW X G Q nL (pc + 1) lv (.long v :: st) σ) : JW X G Q nL pc lv (st) σ := by
  obtain ⟨p, l, e, R, s, m, args, below, meth, c⟩ := X
  obtain ⟨hx, hb, hml, hown, hts, hK, hI, hN, hZ, hfr, hlo, hlk⟩ := C
  intro H locs ls hP hS hl
  exact lv_lconst hx hb d hv (k H locs ls hP hS hl)
theorem j_iadd {X : XT} {G : GT} {Q : State → Prop} {cc : ByteArray} {nL : Nat} {own : String} {fr lo pc : Nat} {lv : List (Nat × Value)} {st : List Value} {σ : MT} (C : CX X G cc nL own fr lo) {x y : Int32} (d : decode cc pc = .ok (.iadd, 1))  (k : JW X G Q nL (pc + 1) lv (.int (x + y) :: st) σ) : JW X G Q nL pc lv (.int y :: .int x :: st) σ := by
  obtain ⟨p, l, e, R, s, m, args, below, meth, c⟩ := X
  obtain ⟨hx, hb, hml, hown, hts, hK, hI, hN, hZ, hfr, hlo, hlk⟩ := C
  intro H locs ls hP hS hl
  exact lv_iadd hx hb d  (k H locs ls hP hS hl)
theorem j_isub {X : XT} {G : GT} {Q : State → Prop} {cc : ByteArray} {nL : Nat} {own : String} {fr lo pc : Nat} {lv : List (Nat × Value)} {st : List Value} {σ : MT} (C : CX X G cc nL own fr lo) {x y : Int32} (d : decode cc pc = .ok (.isub, 1))  (k : JW X G Q nL (pc + 1) lv (.int (x - y) :: st) σ) : JW X G Q nL pc lv (.int y :: .int x :: st) σ := by
  obtain ⟨p, l, e, R, s, m, args, below, meth, c⟩ := X
  obtain ⟨hx, hb, hml, hown, hts, hK, hI, hN, hZ, hfr, hlo, hlk⟩ := C
  intro H locs ls hP hS hl
  exact lv_isub hx hb d  (k H locs ls hP hS hl)
theorem j_imul {X : XT} {G : GT} {Q : State → Prop} {cc : ByteArray} {nL : Nat} {own : String} {fr lo pc : Nat} {lv : List (Nat × Value)} {st : List Value} {σ : MT} (C : CX X G cc nL own fr lo) {x y : Int32} (d : decode cc pc = .ok (.imul, 1))  (k : JW X G Q nL (pc + 1) lv (.int (x * y) :: st) σ) : JW X G Q nL pc lv (.int y :: .int x :: st) σ := by
  obtain ⟨p, l, e, R, s, m, args, below, meth, c⟩ := X
  obtain ⟨hx, hb, hml, hown, hts, hK, hI, hN, hZ, hfr, hlo, hlk⟩ := C
  intro H locs ls hP hS hl
  exact lv_imul hx hb d  (k H locs ls hP hS hl)
theorem j_iand {X : XT} {G : GT} {Q : State → Prop} {cc : ByteArray} {nL : Nat} {own : String} {fr lo pc : Nat} {lv : List (Nat × Value)} {st : List Value} {σ : MT} (C : CX X G cc nL own fr lo) {x y : Int32} (d : decode cc pc = .ok (.iand, 1))  (k : JW X G Q nL (pc + 1) lv (.int (x &&& y) :: st) σ) : JW X G Q nL pc lv (.int y :: .int x :: st) σ := by
  obtain ⟨p, l, e, R, s, m, args, below, meth, c⟩ := X
  obtain ⟨hx, hb, hml, hown, hts, hK, hI, hN, hZ, hfr, hlo, hlk⟩ := C
  intro H locs ls hP hS hl
  exact lv_iand hx hb d  (k H locs ls hP hS hl)
theorem j_ior {X : XT} {G : GT} {Q : State → Prop} {cc : ByteArray} {nL : Nat} {own : String} {fr lo pc : Nat} {lv : List (Nat × Value)} {st : List Value} {σ : MT} (C : CX X G cc nL own fr lo) {x y : Int32} (d : decode cc pc = .ok (.ior, 1))  (k : JW X G Q nL (pc + 1) lv (.int (x ||| y) :: st) σ) : JW X G Q nL pc lv (.int y :: .int x :: st) σ := by
  obtain ⟨p, l, e, R, s, m, args, below, meth, c⟩ := X
  obtain ⟨hx, hb, hml, hown, hts, hK, hI, hN, hZ, hfr, hlo, hlk⟩ := C
  intro H locs ls hP hS hl
  exact lv_ior hx hb d  (k H locs ls hP hS hl)
theorem j_ixor {X : XT} {G : GT} {Q : State → Prop} {cc : ByteArray} {nL : Nat} {own : String} {fr lo pc : Nat} {lv : List (Nat × Value)} {st : List Value} {σ : MT} (C : CX X G cc nL own fr lo) {x y : Int32} (d : decode cc pc = .ok (.ixor, 1))  (k : JW X G Q nL (pc + 1) lv (.int (x ^^^ y) :: st) σ) : JW X G Q nL pc lv (.int y :: .int x :: st) σ := by
  obtain ⟨p, l, e, R, s, m, args, below, meth, c⟩ := X
  obtain ⟨hx, hb, hml, hown, hts, hK, hI, hN, hZ, hfr, hlo, hlk⟩ := C
  intro H locs ls hP hS hl
  exact lv_ixor hx hb d  (k H locs ls hP hS hl)
theorem j_ishl {X : XT} {G : GT} {Q : State → Prop} {cc : ByteArray} {nL : Nat} {own : String} {fr lo pc : Nat} {lv : List (Nat × Value)} {st : List Value} {σ : MT} (C : CX X G cc nL own fr lo) {x y : Int32} (d : decode cc pc = .ok (.ishl, 1))  (k : JW X G Q nL (pc + 1) lv (.int (x <<< (y &&& 31)) :: st) σ) : JW X G Q nL pc lv (.int y :: .int x :: st) σ := by
  obtain ⟨p, l, e, R, s, m, args, below, meth, c⟩ := X
  obtain ⟨hx, hb, hml, hown, hts, hK, hI, hN, hZ, hfr, hlo, hlk⟩ := C
  intro H locs ls hP hS hl
  exact lv_ishl hx hb d  (k H locs ls hP hS hl)
theorem j_ishr {X : XT} {G : GT} {Q : State → Prop} {cc : ByteArray} {nL : Nat} {own : String} {fr lo pc : Nat} {lv : List (Nat × Value)} {st : List Value} {σ : MT} (C : CX X G cc nL own fr lo) {x y : Int32} (d : decode cc pc = .ok (.ishr, 1))  (k : JW X G Q nL (pc + 1) lv (.int (x >>> (y &&& 31)) :: st) σ) : JW X G Q nL pc lv (.int y :: .int x :: st) σ := by
  obtain ⟨p, l, e, R, s, m, args, below, meth, c⟩ := X
  obtain ⟨hx, hb, hml, hown, hts, hK, hI, hN, hZ, hfr, hlo, hlk⟩ := C
  intro H locs ls hP hS hl
  exact lv_ishr hx hb d  (k H locs ls hP hS hl)
theorem j_idiv {X : XT} {G : GT} {Q : State → Prop} {cc : ByteArray} {nL : Nat} {own : String} {fr lo pc : Nat} {lv : List (Nat × Value)} {st : List Value} {σ : MT} (C : CX X G cc nL own fr lo) {x y : Int32} (d : decode cc pc = .ok (.idiv, 1)) (hne : ¬ y = 0) (k : JW X G Q nL (pc + 1) lv (.int (x / y) :: st) σ) : JW X G Q nL pc lv (.int y :: .int x :: st) σ := by
  obtain ⟨p, l, e, R, s, m, args, below, meth, c⟩ := X
  obtain ⟨hx, hb, hml, hown, hts, hK, hI, hN, hZ, hfr, hlo, hlk⟩ := C
  intro H locs ls hP hS hl
  exact lv_idiv hx hb d hne (k H locs ls hP hS hl)
theorem j_irem {X : XT} {G : GT} {Q : State → Prop} {cc : ByteArray} {nL : Nat} {own : String} {fr lo pc : Nat} {lv : List (Nat × Value)} {st : List Value} {σ : MT} (C : CX X G cc nL own fr lo) {x y : Int32} (d : decode cc pc = .ok (.irem, 1)) (hne : ¬ y = 0) (k : JW X G Q nL (pc + 1) lv (.int (x - x / y * y) :: st) σ) : JW X G Q nL pc lv (.int y :: .int x :: st) σ := by
  obtain ⟨p, l, e, R, s, m, args, below, meth, c⟩ := X
  obtain ⟨hx, hb, hml, hown, hts, hK, hI, hN, hZ, hfr, hlo, hlk⟩ := C
  intro H locs ls hP hS hl
  exact lv_irem hx hb d hne (k H locs ls hP hS hl)
theorem j_ineg {X : XT} {G : GT} {Q : State → Prop} {cc : ByteArray} {nL : Nat} {own : String} {fr lo pc : Nat} {lv : List (Nat × Value)} {st : List Value} {σ : MT} (C : CX X G cc nL own fr lo) {x : Int32} (d : decode cc pc = .ok (.ineg, 1))  (k : JW X G Q nL (pc + 1) lv (.int (-x) :: st) σ) : JW X G Q nL pc lv (.int x :: st) σ := by
  obtain ⟨p, l, e, R, s, m, args, below, meth, c⟩ := X
  obtain ⟨hx, hb, hml, hown, hts, hK, hI, hN, hZ, hfr, hlo, hlk⟩ := C
  intro H locs ls hP hS hl
  exact lv_ineg hx hb d  (k H locs ls hP hS hl)
theorem j_ladd {X : XT} {G : GT} {Q : State → Prop} {cc : ByteArray} {nL : Nat} {own : String} {fr lo pc : Nat} {lv : List (Nat × Value)} {st : List Value} {σ : MT} (C : CX X G cc nL own fr lo) {x y : Int64} (d : decode cc pc = .ok (.ladd, 1))  (k : JW X G Q nL (pc + 1) lv (.long (x + y) :: st) σ) : JW X G Q nL pc lv (.long y :: .long x :: st) σ := by
  obtain ⟨p, l, e, R, s, m, args, below, meth, c⟩ := X
  obtain ⟨hx, hb, hml, hown, hts, hK, hI, hN, hZ, hfr, hlo, hlk⟩ := C
  intro H locs ls hP hS hl
  exact lv_ladd hx hb d  (k H locs ls hP hS hl)
theorem j_lsub {X : XT} {G : GT} {Q : State → Prop} {cc : ByteArray} {nL : Nat} {own : String} {fr lo pc : Nat} {lv : List (Nat × Value)} {st : List Value} {σ : MT} (C : CX X G cc nL own fr lo) {x y : Int64} (d : decode cc pc = .ok (.lsub, 1))  (k : JW X G Q nL (pc + 1) lv (.long (x - y) :: st) σ) : JW X G Q nL pc lv (.long y :: .long x :: st) σ := by
  obtain ⟨p, l, e, R, s, m, args, below, meth, c⟩ := X
  obtain ⟨hx, hb, hml, hown, hts, hK, hI, hN, hZ, hfr, hlo, hlk⟩ := C
  intro H locs ls hP hS hl
  exact lv_lsub hx hb d  (k H locs ls hP hS hl)
theorem j_lmul {X : XT} {G : GT} {Q : State → Prop} {cc : ByteArray} {nL : Nat} {own : String} {fr lo pc : Nat} {lv : List (Nat × Value)} {st : List Value} {σ : MT} (C : CX X G cc nL own fr lo) {x y : Int64} (d : decode cc pc = .ok (.lmul, 1))  (k : JW X G Q nL (pc + 1) lv (.long (x * y) :: st) σ) : JW X G Q nL pc lv (.long y :: .long x :: st) σ := by
  obtain ⟨p, l, e, R, s, m, args, below, meth, c⟩ := X
  obtain ⟨hx, hb, hml, hown, hts, hK, hI, hN, hZ, hfr, hlo, hlk⟩ := C
  intro H locs ls hP hS hl
  exact lv_lmul hx hb d  (k H locs ls hP hS hl)
theorem j_land {X : XT} {G : GT} {Q : State → Prop} {cc : ByteArray} {nL : Nat} {own : String} {fr lo pc : Nat} {lv : List (Nat × Value)} {st : List Value} {σ : MT} (C : CX X G cc nL own fr lo) {x y : Int64} (d : decode cc pc = .ok (.land, 1))  (k : JW X G Q nL (pc + 1) lv (.long (x &&& y) :: st) σ) : JW X G Q nL pc lv (.long y :: .long x :: st) σ := by
  obtain ⟨p, l, e, R, s, m, args, below, meth, c⟩ := X
  obtain ⟨hx, hb, hml, hown, hts, hK, hI, hN, hZ, hfr, hlo, hlk⟩ := C
  intro H locs ls hP hS hl
  exact lv_land hx hb d  (k H locs ls hP hS hl)
theorem j_lor {X : XT} {G : GT} {Q : State → Prop} {cc : ByteArray} {nL : Nat} {own : String} {fr lo pc : Nat} {lv : List (Nat × Value)} {st : List Value} {σ : MT} (C : CX X G cc nL own fr lo) {x y : Int64} (d : decode cc pc = .ok (.lor, 1))  (k : JW X G Q nL (pc + 1) lv (.long (x ||| y) :: st) σ) : JW X G Q nL pc lv (.long y :: .long x :: st) σ := by
  obtain ⟨p, l, e, R, s, m, args, below, meth, c⟩ := X
  obtain ⟨hx, hb, hml, hown, hts, hK, hI, hN, hZ, hfr, hlo, hlk⟩ := C
  intro H locs ls hP hS hl
  exact lv_lor hx hb d  (k H locs ls hP hS hl)
theorem j_lxor {X : XT} {G : GT} {Q : State → Prop} {cc : ByteArray} {nL : Nat} {own : String} {fr lo pc : Nat} {lv : List (Nat × Value)} {st : List Value} {σ : MT} (C : CX X G cc nL own fr lo) {x y : Int64} (d : decode cc pc = .ok (.lxor, 1))  (k : JW X G Q nL (pc + 1) lv (.long (x ^^^ y) :: st) σ) : JW X G Q nL pc lv (.long y :: .long x :: st) σ := by
  obtain ⟨p, l, e, R, s, m, args, below, meth, c⟩ := X
  obtain ⟨hx, hb, hml, hown, hts, hK, hI, hN, hZ, hfr, hlo, hlk⟩ := C
  intro H locs ls hP hS hl
  exact lv_lxor hx hb d  (k H locs ls hP hS hl)
theorem j_ldiv {X : XT} {G : GT} {Q : State → Prop} {cc : ByteArray} {nL : Nat} {own : String} {fr lo pc : Nat} {lv : List (Nat × Value)} {st : List Value} {σ : MT} (C : CX X G cc nL own fr lo) {x y : Int64} (d : decode cc pc = .ok (.ldiv, 1)) (hne : ¬ y = 0) (k : JW X G Q nL (pc + 1) lv (.long (x / y) :: st) σ) : JW X G Q nL pc lv (.long y :: .long x :: st) σ := by
  obtain ⟨p, l, e, R, s, m, args, below, meth, c⟩ := X
  obtain ⟨hx, hb, hml, hown, hts, hK, hI, hN, hZ, hfr, hlo, hlk⟩ := C
  intro H locs ls hP hS hl
  exact lv_ldiv hx hb d hne (k H locs ls hP hS hl)
theorem j_lrem {X : XT} {G : GT} {Q : State → Prop} {cc : ByteArray} {nL : Nat} {own : String} {fr lo pc : Nat} {lv : List (Nat × Value)} {st : List Value} {σ : MT} (C : CX X G cc nL own fr lo) {x y : Int64} (d : decode cc pc = .ok (.lrem, 1)) (hne : ¬ y = 0) (k : JW X G Q nL (pc + 1) lv (.long (x - x / y * y) :: st) σ) : JW X G Q nL pc lv (.long y :: .long x :: st) σ := by
  obtain ⟨p, l, e, R, s, m, args, below, meth, c⟩ := X
  obtain ⟨hx, hb, hml, hown, hts, hK, hI, hN, hZ, hfr, hlo, hlk⟩ := C
  intro H locs ls hP hS hl
  exact lv_lrem hx hb d hne (k H locs ls hP hS hl)
theorem j_lneg {X : XT} {G : GT} {Q : State → Prop} {cc : ByteArray} {nL : Nat} {own : String} {fr lo pc : Nat} {lv : List (Nat × Value)} {st : List Value} {σ : MT} (C : CX X G cc nL own fr lo) {x : Int64} (d : decode cc pc = .ok (.lneg, 1))  (k : JW X G Q nL (pc + 1) lv (.long (-x) :: st) σ) : JW X G Q nL pc lv (.long x :: st) σ := by
  obtain ⟨p, l, e, R, s, m, args, below, meth, c⟩ := X
  obtain ⟨hx, hb, hml, hown, hts, hK, hI, hN, hZ, hfr, hlo, hlk⟩ := C
  intro H locs ls hP hS hl
  exact lv_lneg hx hb d  (k H locs ls hP hS hl)
theorem j_i2l {X : XT} {G : GT} {Q : State → Prop} {cc : ByteArray} {nL : Nat} {own : String} {fr lo pc : Nat} {lv : List (Nat × Value)} {st : List Value} {σ : MT} (C : CX X G cc nL own fr lo) {x : Int32} (d : decode cc pc = .ok (.i2l, 1))  (k : JW X G Q nL (pc + 1) lv (.long x.toInt64 :: st) σ) : JW X G Q nL pc lv (.int x :: st) σ := by
  obtain ⟨p, l, e, R, s, m, args, below, meth, c⟩ := X
  obtain ⟨hx, hb, hml, hown, hts, hK, hI, hN, hZ, hfr, hlo, hlk⟩ := C
  intro H locs ls hP hS hl
  exact lv_i2l hx hb d rfl (k H locs ls hP hS hl)
theorem j_l2i {X : XT} {G : GT} {Q : State → Prop} {cc : ByteArray} {nL : Nat} {own : String} {fr lo pc : Nat} {lv : List (Nat × Value)} {st : List Value} {σ : MT} (C : CX X G cc nL own fr lo) {x : Int64} (d : decode cc pc = .ok (.l2i, 1))  (k : JW X G Q nL (pc + 1) lv (.int x.toInt32 :: st) σ) : JW X G Q nL pc lv (.long x :: st) σ := by
  obtain ⟨p, l, e, R, s, m, args, below, meth, c⟩ := X
  obtain ⟨hx, hb, hml, hown, hts, hK, hI, hN, hZ, hfr, hlo, hlk⟩ := C
  intro H locs ls hP hS hl
  exact lv_l2i hx hb d rfl (k H locs ls hP hS hl)
theorem j_i2c {X : XT} {G : GT} {Q : State → Prop} {cc : ByteArray} {nL : Nat} {own : String} {fr lo pc : Nat} {lv : List (Nat × Value)} {st : List Value} {σ : MT} (C : CX X G cc nL own fr lo) {x : Int32} (d : decode cc pc = .ok (.i2c, 1))  (k : JW X G Q nL (pc + 1) lv (.int (x.toUInt32 % 65536).toInt32 :: st) σ) : JW X G Q nL pc lv (.int x :: st) σ := by
  obtain ⟨p, l, e, R, s, m, args, below, meth, c⟩ := X
  obtain ⟨hx, hb, hml, hown, hts, hK, hI, hN, hZ, hfr, hlo, hlk⟩ := C
  intro H locs ls hP hS hl
  exact lv_i2c hx hb d rfl (k H locs ls hP hS hl)
theorem j_iushr {X : XT} {G : GT} {Q : State → Prop} {cc : ByteArray} {nL : Nat} {own : String} {fr lo pc : Nat} {lv : List (Nat × Value)} {st : List Value} {σ : MT} (C : CX X G cc nL own fr lo) {x y : Int32} (d : decode cc pc = .ok (.iushr, 1))  (k : JW X G Q nL (pc + 1) lv (.int (x.toUInt32 >>> (y.toUInt32 &&& Int32.toUInt32 31)).toInt32 :: st) σ) : JW X G Q nL pc lv (.int y :: .int x :: st) σ := by
  obtain ⟨p, l, e, R, s, m, args, below, meth, c⟩ := X
  obtain ⟨hx, hb, hml, hown, hts, hK, hI, hN, hZ, hfr, hlo, hlk⟩ := C
  intro H locs ls hP hS hl
  exact lv_iushr hx hb d rfl (k H locs ls hP hS hl)
theorem j_lushr {X : XT} {G : GT} {Q : State → Prop} {cc : ByteArray} {nL : Nat} {own : String} {fr lo pc : Nat} {lv : List (Nat × Value)} {st : List Value} {σ : MT} (C : CX X G cc nL own fr lo) {x : Int64} {y : Int32} (d : decode cc pc = .ok (.lushr, 1))  (k : JW X G Q nL (pc + 1) lv (.long (x.toUInt64 >>> (y.toInt64.toUInt64 &&& Int64.toUInt64 63)).toInt64 :: st) σ) : JW X G Q nL pc lv (.int y :: .long x :: st) σ := by
  obtain ⟨p, l, e, R, s, m, args, below, meth, c⟩ := X
  obtain ⟨hx, hb, hml, hown, hts, hK, hI, hN, hZ, hfr, hlo, hlk⟩ := C
  intro H locs ls hP hS hl
  exact lv_lushr hx hb d rfl (k H locs ls hP hS hl)
theorem j_lshl {X : XT} {G : GT} {Q : State → Prop} {cc : ByteArray} {nL : Nat} {own : String} {fr lo pc : Nat} {lv : List (Nat × Value)} {st : List Value} {σ : MT} (C : CX X G cc nL own fr lo) {x : Int64} {y : Int32} (d : decode cc pc = .ok (.lshl, 1))  (k : JW X G Q nL (pc + 1) lv (.long (x <<< (y.toInt64 &&& 63)) :: st) σ) : JW X G Q nL pc lv (.int y :: .long x :: st) σ := by
  obtain ⟨p, l, e, R, s, m, args, below, meth, c⟩ := X
  obtain ⟨hx, hb, hml, hown, hts, hK, hI, hN, hZ, hfr, hlo, hlk⟩ := C
  intro H locs ls hP hS hl
  exact lv_lshl hx hb d rfl (k H locs ls hP hS hl)
theorem j_lcmp {X : XT} {G : GT} {Q : State → Prop} {cc : ByteArray} {nL : Nat} {own : String} {fr lo pc : Nat} {lv : List (Nat × Value)} {st : List Value} {σ : MT} (C : CX X G cc nL own fr lo) {x y : Int64} (d : decode cc pc = .ok (.lcmp, 1)) (k : JW X G Q nL (pc + 1) lv (.int (lg_cmp x y) :: st) σ) : JW X G Q nL pc lv (.long y :: .long x :: st) σ := by
  obtain ⟨p, l, e, R, s, m, args, below, meth, c⟩ := X
  obtain ⟨hx, hb, hml, hown, hts, hK, hI, hN, hZ, hfr, hlo, hlk⟩ := C
  intro H locs ls hP hS hl
  exact W.lcmp hx hb d (k H locs ls hP hS hl)
theorem j_dup {X : XT} {G : GT} {Q : State → Prop} {cc : ByteArray} {nL : Nat} {own : String} {fr lo pc : Nat} {lv : List (Nat × Value)} {st : List Value} {σ : MT} (C : CX X G cc nL own fr lo) {va : Value} (d : decode cc pc = .ok (.dup, 1)) (h1 : va.category = 1) (k : JW X G Q nL (pc + 1) lv (va :: va :: st) σ) : JW X G Q nL pc lv (va :: st) σ := by
  obtain ⟨p, l, e, R, s, m, args, below, meth, c⟩ := X
  obtain ⟨hx, hb, hml, hown, hts, hK, hI, hN, hZ, hfr, hlo, hlk⟩ := C
  intro H locs ls hP hS hl
  exact lv_dup hx hb d h1 (k H locs ls hP hS hl)
theorem j_pop {X : XT} {G : GT} {Q : State → Prop} {cc : ByteArray} {nL : Nat} {own : String} {fr lo pc : Nat} {lv : List (Nat × Value)} {st : List Value} {σ : MT} (C : CX X G cc nL own fr lo) {va : Value} (d : decode cc pc = .ok (.pop, 1)) (h1 : va.category = 1) (k : JW X G Q nL (pc + 1) lv (st) σ) : JW X G Q nL pc lv (va :: st) σ := by
  obtain ⟨p, l, e, R, s, m, args, below, meth, c⟩ := X
  obtain ⟨hx, hb, hml, hown, hts, hK, hI, hN, hZ, hfr, hlo, hlk⟩ := C
  intro H locs ls hP hS hl
  exact lv_pop hx hb d h1 (k H locs ls hP hS hl)
theorem j_dup2_11 {X : XT} {G : GT} {Q : State → Prop} {cc : ByteArray} {nL : Nat} {own : String} {fr lo pc : Nat} {lv : List (Nat × Value)} {st : List Value} {σ : MT} (C : CX X G cc nL own fr lo) {va vb : Value} (d : decode cc pc = .ok (.dup2, 1)) (h1 : va.category = 1) (h2 : vb.category = 1) (k : JW X G Q nL (pc + 1) lv (va :: vb :: va :: vb :: st) σ) : JW X G Q nL pc lv (va :: vb :: st) σ := by
  obtain ⟨p, l, e, R, s, m, args, below, meth, c⟩ := X
  obtain ⟨hx, hb, hml, hown, hts, hK, hI, hN, hZ, hfr, hlo, hlk⟩ := C
  intro H locs ls hP hS hl
  exact lv_dup2_11 hx hb d h1 h2 (k H locs ls hP hS hl)
theorem j_ldc2 {X : XT} {G : GT} {Q : State → Prop} {cc : ByteArray} {nL : Nat} {own : String} {fr lo pc : Nat} {lv : List (Nat × Value)} {st : List Value} {σ : MT} (C : CX X G cc nL own fr lo) {index : Nat} {v : Int64} (w : Cond.constantLong own index v ∈ GW) (d : decode cc pc = .ok (.ldc2_w index, 3)) (k : JW X G Q nL (pc + 3) lv (.long v :: st) σ) : JW X G Q nL pc lv st σ := by
  obtain ⟨p, l, e, R, s, m, args, below, meth, c⟩ := X
  obtain ⟨hx, hb, hml, hown, hts, hK, hI, hN, hZ, hfr, hlo, hlk⟩ := C
  intro H locs ls hP hS hl
  exact lv_ldc2 hx hb hown (hts _ w) d (k H locs ls hP hS hl)
theorem j_ldcw {X : XT} {G : GT} {Q : State → Prop} {cc : ByteArray} {nL : Nat} {own : String} {fr lo pc : Nat} {lv : List (Nat × Value)} {st : List Value} {σ : MT} (C : CX X G cc nL own fr lo) {index : Nat} {v : Int32} (w : Cond.constant own index v ∈ GW) (d : decode cc pc = .ok (.ldc_w index, 3)) (k : JW X G Q nL (pc + 3) lv (.int v :: st) σ) : JW X G Q nL pc lv st σ := by
  obtain ⟨p, l, e, R, s, m, args, below, meth, c⟩ := X
  obtain ⟨hx, hb, hml, hown, hts, hK, hI, hN, hZ, hfr, hlo, hlk⟩ := C
  intro H locs ls hP hS hl
  exact lv_ldcw hx hb hown (hts _ w) d (k H locs ls hP hS hl)
theorem j_iload_n {X : XT} {G : GT} {Q : State → Prop} {cc : ByteArray} {nL : Nat} {own : String} {fr lo pc : Nat} {lv : List (Nat × Value)} {st : List Value} {σ : MT} (C : CX X G cc nL own fr lo) {kf : Fin 4} {i : Nat} {x : Int32} (d : decode cc pc = .ok (.iload_n kf, 1)) (hi : (kf : Nat) = i) (j : Nat) (h : lv[j]? = some (i, .int x)) (k : JW X G Q nL (pc + 1) lv (.int x :: st) σ) : JW X G Q nL pc lv st σ := by
  obtain ⟨p, l, e, R, s, m, args, below, meth, c⟩ := X
  obtain ⟨hx, hb, hml, hown, hts, hK, hI, hN, hZ, hfr, hlo, hlk⟩ := C
  intro H locs ls hP hS hl
  exact lv_iload_n hx hb d hi (lv_at hl j h) (k H locs ls hP hS hl)
theorem j_iload {X : XT} {G : GT} {Q : State → Prop} {cc : ByteArray} {nL : Nat} {own : String} {fr lo pc : Nat} {lv : List (Nat × Value)} {st : List Value} {σ : MT} (C : CX X G cc nL own fr lo) {i : Nat} {x : Int32} (d : decode cc pc = .ok (.iload i, 2)) (j : Nat) (h : lv[j]? = some (i, .int x)) (k : JW X G Q nL (pc + 2) lv (.int x :: st) σ) : JW X G Q nL pc lv st σ := by
  obtain ⟨p, l, e, R, s, m, args, below, meth, c⟩ := X
  obtain ⟨hx, hb, hml, hown, hts, hK, hI, hN, hZ, hfr, hlo, hlk⟩ := C
  intro H locs ls hP hS hl
  exact lv_iload hx hb d (lv_at hl j h) (k H locs ls hP hS hl)
theorem j_lload_n {X : XT} {G : GT} {Q : State → Prop} {cc : ByteArray} {nL : Nat} {own : String} {fr lo pc : Nat} {lv : List (Nat × Value)} {st : List Value} {σ : MT} (C : CX X G cc nL own fr lo) {kf : Fin 4} {i : Nat} {x : Int64} (d : decode cc pc = .ok (.lload_n kf, 1)) (hi : (kf : Nat) = i) (j : Nat) (h : lv[j]? = some (i, .long x)) (k : JW X G Q nL (pc + 1) lv (.long x :: st) σ) : JW X G Q nL pc lv st σ := by
  obtain ⟨p, l, e, R, s, m, args, below, meth, c⟩ := X
  obtain ⟨hx, hb, hml, hown, hts, hK, hI, hN, hZ, hfr, hlo, hlk⟩ := C
  intro H locs ls hP hS hl
  exact lv_lload_n hx hb d hi (lv_at hl j h) (k H locs ls hP hS hl)
theorem j_lload {X : XT} {G : GT} {Q : State → Prop} {cc : ByteArray} {nL : Nat} {own : String} {fr lo pc : Nat} {lv : List (Nat × Value)} {st : List Value} {σ : MT} (C : CX X G cc nL own fr lo) {i : Nat} {x : Int64} (d : decode cc pc = .ok (.lload i, 2)) (j : Nat) (h : lv[j]? = some (i, .long x)) (k : JW X G Q nL (pc + 2) lv (.long x :: st) σ) : JW X G Q nL pc lv st σ := by
  obtain ⟨p, l, e, R, s, m, args, below, meth, c⟩ := X
  obtain ⟨hx, hb, hml, hown, hts, hK, hI, hN, hZ, hfr, hlo, hlk⟩ := C
  intro H locs ls hP hS hl
  exact lv_lload hx hb d (lv_at hl j h) (k H locs ls hP hS hl)
theorem j_aload_n {X : XT} {G : GT} {Q : State → Prop} {cc : ByteArray} {nL : Nat} {own : String} {fr lo pc : Nat} {lv : List (Nat × Value)} {st : List Value} {σ : MT} (C : CX X G cc nL own fr lo) {kf : Fin 4} {i a : Nat} (d : decode cc pc = .ok (.aload_n kf, 1)) (hi : (kf : Nat) = i) (j : Nat) (h : lv[j]? = some (i, rf G a)) (k : JW X G Q nL (pc + 1) lv (rf G a :: st) σ) : JW X G Q nL pc lv st σ := by
  obtain ⟨p, l, e, R, s, m, args, below, meth, c⟩ := X
  obtain ⟨hx, hb, hml, hown, hts, hK, hI, hN, hZ, hfr, hlo, hlk⟩ := C
  intro H locs ls hP hS hl
  exact lv_aload_n hx hb d hi (lv_at hl j h) (k H locs ls hP hS hl)
theorem j_aload {X : XT} {G : GT} {Q : State → Prop} {cc : ByteArray} {nL : Nat} {own : String} {fr lo pc : Nat} {lv : List (Nat × Value)} {st : List Value} {σ : MT} (C : CX X G cc nL own fr lo) {i a : Nat} (d : decode cc pc = .ok (.aload i, 2)) (j : Nat) (h : lv[j]? = some (i, rf G a)) (k : JW X G Q nL (pc + 2) lv (rf G a :: st) σ) : JW X G Q nL pc lv st σ := by
  obtain ⟨p, l, e, R, s, m, args, below, meth, c⟩ := X
  obtain ⟨hx, hb, hml, hown, hts, hK, hI, hN, hZ, hfr, hlo, hlk⟩ := C
  intro H locs ls hP hS hl
  exact lv_aload hx hb d (lv_at hl j h) (k H locs ls hP hS hl)
theorem j_istore_n {X : XT} {G : GT} {Q : State → Prop} {cc : ByteArray} {nL : Nat} {own : String} {fr lo pc : Nat} {lv : List (Nat × Value)} {st : List Value} {σ : MT} (C : CX X G cc nL own fr lo) {kf : Fin 4} {i : Nat} {x : Int32} (lv' : List (Nat × Value)) (d : decode cc pc = .ok (.istore_n kf, 1)) (hi : (kf : Nat) = i) (hn : i < nL) (h : (i, .int x) :: lv.filter (fun q => !(q.1 == i) && !(q.1 + 1 == i && q.2.category == 2)) = lv') (k : JW X G Q nL (pc + 1) lv' st σ) : JW X G Q nL pc lv (.int x :: st) σ := by
  obtain ⟨p, l, e, R, s, m, args, below, meth, c⟩ := X
  obtain ⟨hx, hb, hml, hown, hts, hK, hI, hN, hZ, hfr, hlo, hlk⟩ := C
  intro H locs ls hP hS hl
  exact lv_istore_n hx hb d hi hl hn h (fun ls hl => k H locs ls hP hS hl)
theorem j_istore {X : XT} {G : GT} {Q : State → Prop} {cc : ByteArray} {nL : Nat} {own : String} {fr lo pc : Nat} {lv : List (Nat × Value)} {st : List Value} {σ : MT} (C : CX X G cc nL own fr lo) {i : Nat} {x : Int32} (lv' : List (Nat × Value)) (d : decode cc pc = .ok (.istore i, 2)) (hn : i < nL) (h : (i, .int x) :: lv.filter (fun q => !(q.1 == i) && !(q.1 + 1 == i && q.2.category == 2)) = lv') (k : JW X G Q nL (pc + 2) lv' st σ) : JW X G Q nL pc lv (.int x :: st) σ := by
  obtain ⟨p, l, e, R, s, m, args, below, meth, c⟩ := X
  obtain ⟨hx, hb, hml, hown, hts, hK, hI, hN, hZ, hfr, hlo, hlk⟩ := C
  intro H locs ls hP hS hl
  exact lv_istore hx hb d hl hn h (fun ls hl => k H locs ls hP hS hl)
theorem j_lstore_n {X : XT} {G : GT} {Q : State → Prop} {cc : ByteArray} {nL : Nat} {own : String} {fr lo pc : Nat} {lv : List (Nat × Value)} {st : List Value} {σ : MT} (C : CX X G cc nL own fr lo) {kf : Fin 4} {i : Nat} {x : Int64} (lv' : List (Nat × Value)) (d : decode cc pc = .ok (.lstore_n kf, 1)) (hi : (kf : Nat) = i) (hn : i + 1 < nL) (h : (i, .long x) :: lv.filter (fun q => !(q.1 == i) && (!(q.1 == i + 1) && !(q.1 + 1 == i && q.2.category == 2))) = lv') (k : JW X G Q nL (pc + 1) lv' st σ) : JW X G Q nL pc lv (.long x :: st) σ := by
  obtain ⟨p, l, e, R, s, m, args, below, meth, c⟩ := X
  obtain ⟨hx, hb, hml, hown, hts, hK, hI, hN, hZ, hfr, hlo, hlk⟩ := C
  intro H locs ls hP hS hl
  exact lv_lstore_n hx hb d hi hl hn h (fun ls hl => k H locs ls hP hS hl)
theorem j_lstore {X : XT} {G : GT} {Q : State → Prop} {cc : ByteArray} {nL : Nat} {own : String} {fr lo pc : Nat} {lv : List (Nat × Value)} {st : List Value} {σ : MT} (C : CX X G cc nL own fr lo) {i : Nat} {x : Int64} (lv' : List (Nat × Value)) (d : decode cc pc = .ok (.lstore i, 2)) (hn : i + 1 < nL) (h : (i, .long x) :: lv.filter (fun q => !(q.1 == i) && (!(q.1 == i + 1) && !(q.1 + 1 == i && q.2.category == 2))) = lv') (k : JW X G Q nL (pc + 2) lv' st σ) : JW X G Q nL pc lv (.long x :: st) σ := by
  obtain ⟨p, l, e, R, s, m, args, below, meth, c⟩ := X
  obtain ⟨hx, hb, hml, hown, hts, hK, hI, hN, hZ, hfr, hlo, hlk⟩ := C
  intro H locs ls hP hS hl
  exact lv_lstore hx hb d hl hn h (fun ls hl => k H locs ls hP hS hl)
theorem j_astore_n {X : XT} {G : GT} {Q : State → Prop} {cc : ByteArray} {nL : Nat} {own : String} {fr lo pc : Nat} {lv : List (Nat × Value)} {st : List Value} {σ : MT} (C : CX X G cc nL own fr lo) {kf : Fin 4} {i : Nat} {a : Nat} (lv' : List (Nat × Value)) (d : decode cc pc = .ok (.astore_n kf, 1)) (hi : (kf : Nat) = i) (hn : i < nL) (h : (i, rf G a) :: lv.filter (fun q => !(q.1 == i) && !(q.1 + 1 == i && q.2.category == 2)) = lv') (k : JW X G Q nL (pc + 1) lv' st σ) : JW X G Q nL pc lv (rf G a :: st) σ := by
  obtain ⟨p, l, e, R, s, m, args, below, meth, c⟩ := X
  obtain ⟨hx, hb, hml, hown, hts, hK, hI, hN, hZ, hfr, hlo, hlk⟩ := C
  intro H locs ls hP hS hl
  exact lv_astore_n hx hb d hi hl hn h (fun ls hl => k H locs ls hP hS hl)
theorem j_astore {X : XT} {G : GT} {Q : State → Prop} {cc : ByteArray} {nL : Nat} {own : String} {fr lo pc : Nat} {lv : List (Nat × Value)} {st : List Value} {σ : MT} (C : CX X G cc nL own fr lo) {i : Nat} {a : Nat} (lv' : List (Nat × Value)) (d : decode cc pc = .ok (.astore i, 2)) (hn : i < nL) (h : (i, rf G a) :: lv.filter (fun q => !(q.1 == i) && !(q.1 + 1 == i && q.2.category == 2)) = lv') (k : JW X G Q nL (pc + 2) lv' st σ) : JW X G Q nL pc lv (rf G a :: st) σ := by
  obtain ⟨p, l, e, R, s, m, args, below, meth, c⟩ := X
  obtain ⟨hx, hb, hml, hown, hts, hK, hI, hN, hZ, hfr, hlo, hlk⟩ := C
  intro H locs ls hP hS hl
  exact lv_astore hx hb d hl hn h (fun ls hl => k H locs ls hP hS hl)
theorem j_iinc {X : XT} {G : GT} {Q : State → Prop} {cc : ByteArray} {nL : Nat} {own : String} {fr lo pc : Nat} {lv : List (Nat × Value)} {st : List Value} {σ : MT} (C : CX X G cc nL own fr lo) {i : Nat} {n : Int} {x v : Int32} (lv' : List (Nat × Value)) (d : decode cc pc = .ok (.iinc i n, 3)) (j : Nat) (hk : lv[j]? = some (i, .int x)) (hv : x + Int32.ofInt n = v) (hn : i < nL) (h : (i, .int v) :: lv.filter (fun q => !(q.1 == i) && !(q.1 + 1 == i && q.2.category == 2)) = lv') (k : JW X G Q nL (pc + 3) lv' st σ) : JW X G Q nL pc lv st σ := by
  obtain ⟨p, l, e, R, s, m, args, below, meth, c⟩ := X
  obtain ⟨hx, hb, hml, hown, hts, hK, hI, hN, hZ, hfr, hlo, hlk⟩ := C
  intro H locs ls hP hS hl
  exact lv_iinc hx hb d hl hk hv hn h (fun ls hl => k H locs ls hP hS hl)
theorem j_goto {X : XT} {G : GT} {Q : State → Prop} {cc : ByteArray} {nL : Nat} {own : String} {fr lo pc : Nat} {lv : List (Nat × Value)} {st : List Value} {σ : MT} (C : CX X G cc nL own fr lo) {off : Int} (tgt : Nat) (d : decode cc pc = .ok (.goto off, 3)) (ht : (pc : Int) + off = (tgt : Int)) (k : JW X G Q nL tgt lv st σ) : JW X G Q nL pc lv st σ := by
  obtain ⟨p, l, e, R, s, m, args, below, meth, c⟩ := X
  obtain ⟨hx, hb, hml, hown, hts, hK, hI, hN, hZ, hfr, hlo, hlk⟩ := C
  intro H locs ls hP hS hl
  exact lv_goto hx hb d ht (k H locs ls hP hS hl)
theorem j_sub {X : XT} {G : GT} {Q : State → Prop} {cc : ByteArray} {nL : Nat} {own : String} {fr lo pc : Nat} {lv : List (Nat × Value)} {st : List Value} {σ : MT} (C : CX X G cc nL own fr lo) (lv' : List (Nat × Value)) (ks : List Nat) (h : lv_pick lv ks = lv') (k : JW X G Q nL pc lv' st σ) : JW X G Q nL pc lv st σ := by
  obtain ⟨p, l, e, R, s, m, args, below, meth, c⟩ := X
  obtain ⟨hx, hb, hml, hown, hts, hK, hI, hN, hZ, hfr, hlo, hlk⟩ := C
  intro H locs ls hP hS hl
  exact k H locs ls hP hS (lv_sub hl ks h)
theorem j_if_eq {X : XT} {G : GT} {Q : State → Prop} {cc : ByteArray} {nL : Nat} {own : String} {fr lo pc : Nat} {lv : List (Nat × Value)} {st : List Value} {σ : MT} {α : Type} {a b z : α} (C : CX X G cc nL own fr lo) {x : Int32} {off : Int} (tgt : Nat) (d : decode cc pc = .ok (.ifCond .eq off, 3)) (ht : (pc : Int) + off = (tgt : Int)) (hF : (if x = 0 then a else b) = z) (kt : x = 0 → a = z → JW X G Q nL tgt lv st σ) (kf : ¬ x = 0 → b = z → JW X G Q nL (pc + 3) lv st σ) : JW X G Q nL pc lv (.int x :: st) σ := by
  obtain ⟨p, l, e, R, s, m, args, below, meth, c⟩ := X
  obtain ⟨hx, hb, hml, hown, hts, hK, hI, hN, hZ, hfr, hlo, hlk⟩ := C
  intro H locs ls hP hS hl
  exact lv_if_eq hx hb d ht (fun q => kt q (by rw [if_pos q] at hF; exact hF) H locs ls hP hS hl) (fun q => kf q (by rw [if_neg q] at hF; exact hF) H locs ls hP hS hl)
theorem j_icmp_eq {X : XT} {G : GT} {Q : State → Prop} {cc : ByteArray} {nL : Nat} {own : String} {fr lo pc : Nat} {lv : List (Nat × Value)} {st : List Value} {σ : MT} {α : Type} {a b z : α} (C : CX X G cc nL own fr lo) {x y : Int32} {off : Int} (tgt : Nat) (d : decode cc pc = .ok (.if_icmp .eq off, 3)) (ht : (pc : Int) + off = (tgt : Int)) (hF : (if x = y then a else b) = z) (kt : x = y → a = z → JW X G Q nL tgt lv st σ) (kf : ¬ x = y → b = z → JW X G Q nL (pc + 3) lv st σ) : JW X G Q nL pc lv (.int y :: .int x :: st) σ := by
  obtain ⟨p, l, e, R, s, m, args, below, meth, c⟩ := X
  obtain ⟨hx, hb, hml, hown, hts, hK, hI, hN, hZ, hfr, hlo, hlk⟩ := C
  intro H locs ls hP hS hl
  exact lv_icmp_eq hx hb d ht (fun q => kt q (by rw [if_pos q] at hF; exact hF) H locs ls hP hS hl) (fun q => kf q (by rw [if_neg q] at hF; exact hF) H locs ls hP hS hl)
theorem j_if_ne {X : XT} {G : GT} {Q : State → Prop} {cc : ByteArray} {nL : Nat} {own : String} {fr lo pc : Nat} {lv : List (Nat × Value)} {st : List Value} {σ : MT} {α : Type} {a b z : α} (C : CX X G cc nL own fr lo) {x : Int32} {off : Int} (tgt : Nat) (d : decode cc pc = .ok (.ifCond .ne off, 3)) (ht : (pc : Int) + off = (tgt : Int)) (hF : (if x = 0 then a else b) = z) (kt : ¬ x = 0 → b = z → JW X G Q nL tgt lv st σ) (kf : x = 0 → a = z → JW X G Q nL (pc + 3) lv st σ) : JW X G Q nL pc lv (.int x :: st) σ := by
  obtain ⟨p, l, e, R, s, m, args, below, meth, c⟩ := X
  obtain ⟨hx, hb, hml, hown, hts, hK, hI, hN, hZ, hfr, hlo, hlk⟩ := C
  intro H locs ls hP hS hl
  exact lv_if_ne hx hb d ht (fun q => kt q (by rw [if_neg q] at hF; exact hF) H locs ls hP hS hl) (fun q => kf q (by rw [if_pos q] at hF; exact hF) H locs ls hP hS hl)
theorem j_icmp_ne {X : XT} {G : GT} {Q : State → Prop} {cc : ByteArray} {nL : Nat} {own : String} {fr lo pc : Nat} {lv : List (Nat × Value)} {st : List Value} {σ : MT} {α : Type} {a b z : α} (C : CX X G cc nL own fr lo) {x y : Int32} {off : Int} (tgt : Nat) (d : decode cc pc = .ok (.if_icmp .ne off, 3)) (ht : (pc : Int) + off = (tgt : Int)) (hF : (if x = y then a else b) = z) (kt : ¬ x = y → b = z → JW X G Q nL tgt lv st σ) (kf : x = y → a = z → JW X G Q nL (pc + 3) lv st σ) : JW X G Q nL pc lv (.int y :: .int x :: st) σ := by
  obtain ⟨p, l, e, R, s, m, args, below, meth, c⟩ := X
  obtain ⟨hx, hb, hml, hown, hts, hK, hI, hN, hZ, hfr, hlo, hlk⟩ := C
  intro H locs ls hP hS hl
  exact lv_icmp_ne hx hb d ht (fun q => kt q (by rw [if_neg q] at hF; exact hF) H locs ls hP hS hl) (fun q => kf q (by rw [if_pos q] at hF; exact hF) H locs ls hP hS hl)
theorem j_if_lt {X : XT} {G : GT} {Q : State → Prop} {cc : ByteArray} {nL : Nat} {own : String} {fr lo pc : Nat} {lv : List (Nat × Value)} {st : List Value} {σ : MT} {α : Type} {a b z : α} (C : CX X G cc nL own fr lo) {x : Int32} {off : Int} (tgt : Nat) (d : decode cc pc = .ok (.ifCond .lt off, 3)) (ht : (pc : Int) + off = (tgt : Int)) (hF : (if x < 0 then a else b) = z) (kt : x < 0 → a = z → JW X G Q nL tgt lv st σ) (kf : ¬ x < 0 → b = z → JW X G Q nL (pc + 3) lv st σ) : JW X G Q nL pc lv (.int x :: st) σ := by
  obtain ⟨p, l, e, R, s, m, args, below, meth, c⟩ := X
  obtain ⟨hx, hb, hml, hown, hts, hK, hI, hN, hZ, hfr, hlo, hlk⟩ := C
  intro H locs ls hP hS hl
  exact lv_if_lt hx hb d ht (fun q => kt q (by rw [if_pos q] at hF; exact hF) H locs ls hP hS hl) (fun q => kf q (by rw [if_neg q] at hF; exact hF) H locs ls hP hS hl)
theorem j_icmp_lt {X : XT} {G : GT} {Q : State → Prop} {cc : ByteArray} {nL : Nat} {own : String} {fr lo pc : Nat} {lv : List (Nat × Value)} {st : List Value} {σ : MT} {α : Type} {a b z : α} (C : CX X G cc nL own fr lo) {x y : Int32} {off : Int} (tgt : Nat) (d : decode cc pc = .ok (.if_icmp .lt off, 3)) (ht : (pc : Int) + off = (tgt : Int)) (hF : (if x < y then a else b) = z) (kt : x < y → a = z → JW X G Q nL tgt lv st σ) (kf : ¬ x < y → b = z → JW X G Q nL (pc + 3) lv st σ) : JW X G Q nL pc lv (.int y :: .int x :: st) σ := by
  obtain ⟨p, l, e, R, s, m, args, below, meth, c⟩ := X
  obtain ⟨hx, hb, hml, hown, hts, hK, hI, hN, hZ, hfr, hlo, hlk⟩ := C
  intro H locs ls hP hS hl
  exact lv_icmp_lt hx hb d ht (fun q => kt q (by rw [if_pos q] at hF; exact hF) H locs ls hP hS hl) (fun q => kf q (by rw [if_neg q] at hF; exact hF) H locs ls hP hS hl)
theorem j_if_ge {X : XT} {G : GT} {Q : State → Prop} {cc : ByteArray} {nL : Nat} {own : String} {fr lo pc : Nat} {lv : List (Nat × Value)} {st : List Value} {σ : MT} {α : Type} {a b z : α} (C : CX X G cc nL own fr lo) {x : Int32} {off : Int} (tgt : Nat) (d : decode cc pc = .ok (.ifCond .ge off, 3)) (ht : (pc : Int) + off = (tgt : Int)) (hF : (if 0 ≤ x then a else b) = z) (kt : 0 ≤ x → a = z → JW X G Q nL tgt lv st σ) (kf : ¬ 0 ≤ x → b = z → JW X G Q nL (pc + 3) lv st σ) : JW X G Q nL pc lv (.int x :: st) σ := by
  obtain ⟨p, l, e, R, s, m, args, below, meth, c⟩ := X
  obtain ⟨hx, hb, hml, hown, hts, hK, hI, hN, hZ, hfr, hlo, hlk⟩ := C
  intro H locs ls hP hS hl
  exact lv_if_ge hx hb d ht (fun q => kt q (by rw [if_pos q] at hF; exact hF) H locs ls hP hS hl) (fun q => kf q (by rw [if_neg q] at hF; exact hF) H locs ls hP hS hl)
theorem j_icmp_ge {X : XT} {G : GT} {Q : State → Prop} {cc : ByteArray} {nL : Nat} {own : String} {fr lo pc : Nat} {lv : List (Nat × Value)} {st : List Value} {σ : MT} {α : Type} {a b z : α} (C : CX X G cc nL own fr lo) {x y : Int32} {off : Int} (tgt : Nat) (d : decode cc pc = .ok (.if_icmp .ge off, 3)) (ht : (pc : Int) + off = (tgt : Int)) (hF : (if y ≤ x then a else b) = z) (kt : y ≤ x → a = z → JW X G Q nL tgt lv st σ) (kf : ¬ y ≤ x → b = z → JW X G Q nL (pc + 3) lv st σ) : JW X G Q nL pc lv (.int y :: .int x :: st) σ := by
  obtain ⟨p, l, e, R, s, m, args, below, meth, c⟩ := X
  obtain ⟨hx, hb, hml, hown, hts, hK, hI, hN, hZ, hfr, hlo, hlk⟩ := C
  intro H locs ls hP hS hl
  exact lv_icmp_ge hx hb d ht (fun q => kt q (by rw [if_pos q] at hF; exact hF) H locs ls hP hS hl) (fun q => kf q (by rw [if_neg q] at hF; exact hF) H locs ls hP hS hl)
theorem j_if_gt {X : XT} {G : GT} {Q : State → Prop} {cc : ByteArray} {nL : Nat} {own : String} {fr lo pc : Nat} {lv : List (Nat × Value)} {st : List Value} {σ : MT} {α : Type} {a b z : α} (C : CX X G cc nL own fr lo) {x : Int32} {off : Int} (tgt : Nat) (d : decode cc pc = .ok (.ifCond .gt off, 3)) (ht : (pc : Int) + off = (tgt : Int)) (hF : (if 0 < x then a else b) = z) (kt : 0 < x → a = z → JW X G Q nL tgt lv st σ) (kf : ¬ 0 < x → b = z → JW X G Q nL (pc + 3) lv st σ) : JW X G Q nL pc lv (.int x :: st) σ := by
  obtain ⟨p, l, e, R, s, m, args, below, meth, c⟩ := X
  obtain ⟨hx, hb, hml, hown, hts, hK, hI, hN, hZ, hfr, hlo, hlk⟩ := C
  intro H locs ls hP hS hl
  exact lv_if_gt hx hb d ht (fun q => kt q (by rw [if_pos q] at hF; exact hF) H locs ls hP hS hl) (fun q => kf q (by rw [if_neg q] at hF; exact hF) H locs ls hP hS hl)
theorem j_icmp_gt {X : XT} {G : GT} {Q : State → Prop} {cc : ByteArray} {nL : Nat} {own : String} {fr lo pc : Nat} {lv : List (Nat × Value)} {st : List Value} {σ : MT} {α : Type} {a b z : α} (C : CX X G cc nL own fr lo) {x y : Int32} {off : Int} (tgt : Nat) (d : decode cc pc = .ok (.if_icmp .gt off, 3)) (ht : (pc : Int) + off = (tgt : Int)) (hF : (if y < x then a else b) = z) (kt : y < x → a = z → JW X G Q nL tgt lv st σ) (kf : ¬ y < x → b = z → JW X G Q nL (pc + 3) lv st σ) : JW X G Q nL pc lv (.int y :: .int x :: st) σ := by
  obtain ⟨p, l, e, R, s, m, args, below, meth, c⟩ := X
  obtain ⟨hx, hb, hml, hown, hts, hK, hI, hN, hZ, hfr, hlo, hlk⟩ := C
  intro H locs ls hP hS hl
  exact lv_icmp_gt hx hb d ht (fun q => kt q (by rw [if_pos q] at hF; exact hF) H locs ls hP hS hl) (fun q => kf q (by rw [if_neg q] at hF; exact hF) H locs ls hP hS hl)
theorem j_if_le {X : XT} {G : GT} {Q : State → Prop} {cc : ByteArray} {nL : Nat} {own : String} {fr lo pc : Nat} {lv : List (Nat × Value)} {st : List Value} {σ : MT} {α : Type} {a b z : α} (C : CX X G cc nL own fr lo) {x : Int32} {off : Int} (tgt : Nat) (d : decode cc pc = .ok (.ifCond .le off, 3)) (ht : (pc : Int) + off = (tgt : Int)) (hF : (if x ≤ 0 then a else b) = z) (kt : x ≤ 0 → a = z → JW X G Q nL tgt lv st σ) (kf : ¬ x ≤ 0 → b = z → JW X G Q nL (pc + 3) lv st σ) : JW X G Q nL pc lv (.int x :: st) σ := by
  obtain ⟨p, l, e, R, s, m, args, below, meth, c⟩ := X
  obtain ⟨hx, hb, hml, hown, hts, hK, hI, hN, hZ, hfr, hlo, hlk⟩ := C
  intro H locs ls hP hS hl
  exact lv_if_le hx hb d ht (fun q => kt q (by rw [if_pos q] at hF; exact hF) H locs ls hP hS hl) (fun q => kf q (by rw [if_neg q] at hF; exact hF) H locs ls hP hS hl)
theorem j_icmp_le {X : XT} {G : GT} {Q : State → Prop} {cc : ByteArray} {nL : Nat} {own : String} {fr lo pc : Nat} {lv : List (Nat × Value)} {st : List Value} {σ : MT} {α : Type} {a b z : α} (C : CX X G cc nL own fr lo) {x y : Int32} {off : Int} (tgt : Nat) (d : decode cc pc = .ok (.if_icmp .le off, 3)) (ht : (pc : Int) + off = (tgt : Int)) (hF : (if x ≤ y then a else b) = z) (kt : x ≤ y → a = z → JW X G Q nL tgt lv st σ) (kf : ¬ x ≤ y → b = z → JW X G Q nL (pc + 3) lv st σ) : JW X G Q nL pc lv (.int y :: .int x :: st) σ := by
  obtain ⟨p, l, e, R, s, m, args, below, meth, c⟩ := X
  obtain ⟨hx, hb, hml, hown, hts, hK, hI, hN, hZ, hfr, hlo, hlk⟩ := C
  intro H locs ls hP hS hl
  exact lv_icmp_le hx hb d ht (fun q => kt q (by rw [if_pos q] at hF; exact hF) H locs ls hP hS hl) (fun q => kf q (by rw [if_neg q] at hF; exact hF) H locs ls hP hS hl)
theorem j_tabIn {X : XT} {G : GT} {Q : State → Prop} {cc : ByteArray} {nL : Nat} {own : String} {fr lo pc : Nat} {lv : List (Nat × Value)} {st : List Value} {σ : MT} (C : CX X G cc nL own fr lo) {dflt lw hi : Int} {offs : Array Int} {len : Nat} {x y : Int32} {off : Int} (tgt : Nat) (hxy : x = y) (d : decode cc pc = .ok (.tableswitch dflt lw hi offs, len)) (h1 : ¬ y.toInt < lw) (h2 : ¬ hi < y.toInt) (ho : offs[(y.toInt - lw).toNat]? = some off) (ht : (pc : Int) + off = (tgt : Int)) (k : JW X G Q nL tgt lv st σ) : JW X G Q nL pc lv (.int x :: st) σ := by
  obtain ⟨p, l, e, R, s, m, args, below, meth, c⟩ := X
  obtain ⟨hx, hb, hml, hown, hts, hK, hI, hN, hZ, hfr, hlo, hlk⟩ := C
  intro H locs ls hP hS hl
  subst hxy
  exact lv_tableIn hx hb d h1 h2 ho ht (k H locs ls hP hS hl)
theorem j_tabOut {X : XT} {G : GT} {Q : State → Prop} {cc : ByteArray} {nL : Nat} {own : String} {fr lo pc : Nat} {lv : List (Nat × Value)} {st : List Value} {σ : MT} (C : CX X G cc nL own fr lo) {dflt lw hi : Int} {offs : Array Int} {len : Nat} {x : Int32} (tgt : Nat) (d : decode cc pc = .ok (.tableswitch dflt lw hi offs, len)) (h : x.toInt < lw ∨ hi < x.toInt) (ht : (pc : Int) + dflt = (tgt : Int)) (k : JW X G Q nL tgt lv st σ) : JW X G Q nL pc lv (.int x :: st) σ := by
  obtain ⟨p, l, e, R, s, m, args, below, meth, c⟩ := X
  obtain ⟨hx, hb, hml, hown, hts, hK, hI, hN, hZ, hfr, hlo, hlk⟩ := C
  intro H locs ls hP hS hl
  exact lv_tableOut hx hb d h ht (k H locs ls hP hS hl)
theorem j_lookup {X : XT} {G : GT} {Q : State → Prop} {cc : ByteArray} {nL : Nat} {own : String} {fr lo pc : Nat} {lv : List (Nat × Value)} {st : List Value} {σ : MT} (C : CX X G cc nL own fr lo) {dflt : Int} {ps : Array (Int × Int)} {len : Nat} {x : Int32} {off : Int} (tgt : Nat) (d : decode cc pc = .ok (.lookupswitch dflt ps, len)) (hp : (ps.toList.zip (ps.toList.drop 1)).all (fun (a, next) => a.1 < next.1) = true) (ho : Op.lookupswitch.offset ps.toList dflt x.toInt = off) (ht : (pc : Int) + off = (tgt : Int)) (k : JW X G Q nL tgt lv st σ) : JW X G Q nL pc lv (.int x :: st) σ := by
  obtain ⟨p, l, e, R, s, m, args, below, meth, c⟩ := X
  obtain ⟨hx, hb, hml, hown, hts, hK, hI, hN, hZ, hfr, hlo, hlk⟩ := C
  intro H locs ls hP hS hl
  exact lv_lookup hx hb d hp ho ht (k H locs ls hP hS hl)
theorem j_iret {X : XT} {G : GT} {cc : ByteArray} {nL : Nat} {own : String} {fr lo pc : Nat} {lv : List (Nat × Value)} {st : List Value} {σ : MT} {v r0 : Int32} {σ0 : MT} (C : CX X G cc nL own fr lo) (hr : XR X (some .int)) (d : decode cc pc = .ok (.ireturn, 1)) (h1 : v = r0) (h2 : σ = σ0) : JW X G (QX X (PI G r0 σ0) G) nL pc lv [.int v] σ := by
  subst h1; subst h2
  obtain ⟨p, l, e, R, s, m, args, below, meth, c⟩ := X
  obtain ⟨hx, hb, hml, hown, hts, hK, hI, hN, hZ, hfr, hlo, hlk⟩ := C
  intro H locs ls hP hS hl
  exact W.iret (v := v) hx hb hr (fun t ht hW => ⟨⟨v, σ, rfl, ⟨rfl, rfl⟩, by rw [ht]; exact hP, va_K.moved hW.alike hK, hI, NW.warm hW hN, (hZ.kept (fun a h1 h2 => by rw [ht]; exact hS.2.1 a h1 h2)).moved hW.alike⟩, hS.F ht⟩) hS.2.2 d
theorem j_zret {X : XT} {G : GT} {cc : ByteArray} {nL : Nat} {own : String} {fr lo pc : Nat} {lv : List (Nat × Value)} {st : List Value} {σ : MT} {v r0 : Int32} {σ0 : MT} (C : CX X G cc nL own fr lo) (hr : XR X (some .boolean)) (hn : narrow .boolean (.int v) = .int v) (d : decode cc pc = .ok (.ireturn, 1)) (h1 : v = r0) (h2 : σ = σ0) : JW X G (QX X (PI G r0 σ0) G) nL pc lv [.int v] σ := by
  subst h1; subst h2
  obtain ⟨p, l, e, R, s, m, args, below, meth, c⟩ := X
  obtain ⟨hx, hb, hml, hown, hts, hK, hI, hN, hZ, hfr, hlo, hlk⟩ := C
  intro H locs ls hP hS hl
  exact W.zret (v := v) hx hb hr hn (fun t ht hW => ⟨⟨v, σ, rfl, ⟨rfl, rfl⟩, by rw [ht]; exact hP, va_K.moved hW.alike hK, hI, NW.warm hW hN, (hZ.kept (fun a h1 h2 => by rw [ht]; exact hS.2.1 a h1 h2)).moved hW.alike⟩, hS.F ht⟩) hS.2.2 d
theorem j_lret {X : XT} {G : GT} {cc : ByteArray} {nL : Nat} {own : String} {fr lo pc : Nat} {lv : List (Nat × Value)} {st : List Value} {σ : MT} {v r0 : Int64} {σ0 : MT} (C : CX X G cc nL own fr lo) (hr : XR X (some .long)) (d : decode cc pc = .ok (.lreturn, 1)) (h1 : v = r0) (h2 : σ = σ0) : JW X G (QX X (PL G r0 σ0) G) nL pc lv [.long v] σ := by
  subst h1; subst h2
  obtain ⟨p, l, e, R, s, m, args, below, meth, c⟩ := X
  obtain ⟨hx, hb, hml, hown, hts, hK, hI, hN, hZ, hfr, hlo, hlk⟩ := C
  intro H locs ls hP hS hl
  exact W.lret (v := v) hx hb hr (fun t ht hW => ⟨⟨v, σ, rfl, ⟨rfl, rfl⟩, by rw [ht]; exact hP, va_K.moved hW.alike hK, hI, NW.warm hW hN, (hZ.kept (fun a h1 h2 => by rw [ht]; exact hS.2.1 a h1 h2)).moved hW.alike⟩, hS.F ht⟩) hS.2.2 d
theorem j_vret {X : XT} {G : GT} {cc : ByteArray} {nL : Nat} {own : String} {fr lo pc : Nat} {lv : List (Nat × Value)} {σ : MT} {σ0 : MT} (C : CX X G cc nL own fr lo) (hr : XR X none) (d : decode cc pc = .ok (.return_, 1)) (h2 : σ = σ0) : JW X G (QX X (PV G σ0) G) nL pc lv [] σ := by
  subst h2
  obtain ⟨p, l, e, R, s, m, args, below, meth, c⟩ := X
  obtain ⟨hx, hb, hml, hown, hts, hK, hI, hN, hZ, hfr, hlo, hlk⟩ := C
  intro H locs ls hP hS hl
  exact W.vret hx hb hr (fun t ht hW => ⟨⟨σ, rfl, rfl, by rw [ht]; exact hP, va_K.moved hW.alike hK, hI, NW.warm hW hN, (hZ.kept (fun a h1 h2 => by rw [ht]; exact hS.2.1 a h1 h2)).moved hW.alike⟩, hS.F ht⟩) hS.2.2 d
