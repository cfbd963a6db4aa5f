def f_TF_write_37 (σ : MT) : Option (Int32 × MT) :=
  some ((sI σ 0 1 ((σ.1 0 1) + (1 : Int32))).1 0 1, sI σ 0 1 ((σ.1 0 1) + (1 : Int32)))
def f_TF_write (x1 : Int32) (σ : MT) : Option (Int32 × MT) :=
  if x1 < 0 then some ((-2 : Int32), σ) else if x1 ≤ (255 : Int32) then if (σ.1 0 1) < (60 : Int32) then if inb (σ.1 0 1) 60 = true then f_TF_write_37 (sI σ 1 (σ.1 0 1).toNatClampNeg (vp_nar .char ((x1.toUInt32 % 65536).toInt32))) else none else some ((-4 : Int32), σ) else some ((-2 : Int32), σ)
def f_TF_wipe  (σ : MT) : Option (Int32 × MT) :=
  some (σ.1 0 1, sI σ 0 1 (0 : Int32))
def f_Pl_clear_19 (K12 : Nat → Int32 → MT → Option MT) : Nat → Nat → Int32 → Int32 → MT → Option MT
  | 0, _, _, _, _ => none
  | n + 1, k0, x1, x2, σ =>
    if (5 : Int32) ≤ x2 then K12 k0 (x1 + (1 : Int32)) σ else if inb x1 5 = true then if inb x2 5 = true then f_Pl_clear_19 K12 n k0 x1 (x2 + (1 : Int32)) (sI σ ((k0 + 5) + 1 + x1.toNatClampNeg) x2.toNatClampNeg (-9 : Int32)) else none else none
def f_Pl_clear_12 : Nat → Nat → Int32 → MT → Option MT
  | 0, _, _, _ => none
  | n + 1, k0, x1, σ =>
    if (5 : Int32) ≤ x1 then some σ else f_Pl_clear_19 (f_Pl_clear_12 n) 1100 k0 x1 (0 : Int32) σ
def f_Pl_clear (k0 : Nat) (σ : MT) : Option MT :=
  f_Pl_clear_12 1100 k0 (0 : Int32) (sI (sI σ k0 3 (0 : Int32)) k0 4 (0 : Int32))
def f_Pl_canLinkAny (k0 : Nat) (σ : MT) : Option Int32 :=
  if (7 : Int32) ≤ (σ.1 k0 4) then some (0 : Int32) else if (((σ.1 k0 3) * ((σ.1 k0 3) - (1 : Int32))) / (2 : Int32)) ≤ (σ.1 k0 4) then some (0 : Int32) else some (1 : Int32)
def f_Rd_takesItem (x1 : Int32) (σ : MT) : Option (Int32 × MT) :=
  if x1 = (110 : Int32) then if (5 : Int32) ≤ ((sI σ 2 1 (6 : Int32)).1 3 3) then some ((0 : Int32), sI σ 2 1 (6 : Int32)) else some ((1 : Int32), sI σ 2 1 (6 : Int32)) else if x1 = (107 : Int32) then (f_Pl_canLinkAny 3 (sI σ 2 1 (9 : Int32))).bind fun r45 => if r45 = 0 then some ((0 : Int32), sI σ 2 1 (9 : Int32)) else some ((1 : Int32), sI σ 2 1 (9 : Int32)) else some ((0 : Int32), sI σ 2 1 (9 : Int32))
def f_Rd_takesOfHead (x1 : Int32) (σ : MT) : Option (Int32 × MT) :=
  if (σ.1 2 1) = 1 then if (3 : Int32) < x1 then some ((0 : Int32), sI (sI σ 2 2 x1) 2 1 (2 : Int32)) else some ((1 : Int32), sI (sI σ 2 2 x1) 2 1 (2 : Int32)) else if (σ.1 2 1) = 2 then if ((sI (sI σ 3 0 (((10 : Int32) * (σ.1 2 2)) + x1)) 2 1 (3 : Int32)).1 3 0) < (8 : Int32) then some ((0 : Int32), sI (sI σ 3 0 (((10 : Int32) * (σ.1 2 2)) + x1)) 2 1 (3 : Int32)) else if (32 : Int32) < ((sI (sI σ 3 0 (((10 : Int32) * (σ.1 2 2)) + x1)) 2 1 (3 : Int32)).1 3 0) then some ((0 : Int32), sI (sI σ 3 0 (((10 : Int32) * (σ.1 2 2)) + x1)) 2 1 (3 : Int32)) else some ((1 : Int32), sI (sI σ 3 0 (((10 : Int32) * (σ.1 2 2)) + x1)) 2 1 (3 : Int32)) else if (σ.1 2 1) = 3 then if x1 < (1 : Int32) then some ((0 : Int32), sI (sI σ 3 1 x1) 2 1 (4 : Int32)) else some ((1 : Int32), sI (sI σ 3 1 x1) 2 1 (4 : Int32)) else some ((1 : Int32), sI (sI σ 3 2 x1) 2 1 (5 : Int32))
def f_Pl_addNode_28 (k0 : Nat) (σ : MT) : Option MT :=
  some (sI σ k0 3 ((σ.1 k0 3) + (1 : Int32)))
def f_Pl_addNode (k0 : Nat) (x1 : Int32) (x2 : Int32) (σ : MT) : Option MT :=
  if (5 : Int32) ≤ (σ.1 k0 3) then some σ else if inb (σ.1 k0 3) 5 = true then if inb ((sI σ (k0 + 1) (σ.1 k0 3).toNatClampNeg x1).1 k0 3) 5 = true then f_Pl_addNode_28 k0 (sI (sI σ (k0 + 1) (σ.1 k0 3).toNatClampNeg x1) (k0 + 2) ((sI σ (k0 + 1) (σ.1 k0 3).toNatClampNeg x1).1 k0 3).toNatClampNeg x2) else none else none
def f_Pl_canLink (k0 : Nat) (x1 : Int32) (x2 : Int32) (σ : MT) : Option Int32 :=
  if x1 = x2 then some (0 : Int32) else if (σ.1 k0 3) ≤ x1 then some (0 : Int32) else if (σ.1 k0 3) ≤ x2 then some (0 : Int32) else if inb x1 5 = true then if inb x2 5 = true then if (σ.1 ((k0 + 5) + 1 + x1.toNatClampNeg) x2.toNatClampNeg) = (-9 : Int32) then some (1 : Int32) else some (0 : Int32) else none else none
def f_Pl_canLinkFrom_2 : Nat → Nat → Int32 → Int32 → MT → Option Int32
  | 0, _, _, _, _ => none
  | n + 1, k0, x1, x2, σ =>
    if (σ.1 k0 3) ≤ x2 then some (0 : Int32) else (f_Pl_canLink k0 x1 x2 σ).bind fun r13 => if r13 = 0 then f_Pl_canLinkFrom_2 n k0 x1 (x2 + (1 : Int32)) σ else some (1 : Int32)
def f_Pl_canLinkFrom (k0 : Nat) (x1 : Int32) (σ : MT) : Option Int32 :=
  f_Pl_canLinkFrom_2 1100 k0 x1 (0 : Int32) σ
def f_Mt_min (x0 : Int32) (x1 : Int32) : Option Int32 :=
  if x1 < x0 then some x1 else some x0
def f_Mt_max (x0 : Int32) (x1 : Int32) : Option Int32 :=
  if x0 < x1 then some x1 else some x0
def f_Pl_addLink_72 (k0 : Nat) (σ : MT) : Option (Int32 × MT) :=
  some ((1 : Int32), sI σ k0 4 ((σ.1 k0 4) + (1 : Int32)))
def f_Pl_addLink_48 (k0 : Nat) (x1 : Int32) (x2 : Int32) (σ : MT) : Option (Int32 × MT) :=
  if inb x1 5 = true then if inb x2 5 = true then if inb x2 5 = true then if inb x1 5 = true then f_Pl_addLink_72 k0 (sI (sI σ ((k0 + 5) + 1 + x1.toNatClampNeg) x2.toNatClampNeg (σ.1 k0 4)) ((k0 + 5) + 1 + x2.toNatClampNeg) x1.toNatClampNeg ((sI σ ((k0 + 5) + 1 + x1.toNatClampNeg) x2.toNatClampNeg (σ.1 k0 4)).1 k0 4)) else none else none else none else none
def f_Pl_addLink (k0 : Nat) (x1 : Int32) (x2 : Int32) (σ : MT) : Option (Int32 × MT) :=
  if (7 : Int32) ≤ (σ.1 k0 4) then some ((0 : Int32), σ) else (f_Pl_canLink k0 x1 x2 σ).bind fun r12 => if r12 = 0 then some ((0 : Int32), σ) else (f_Mt_min x1 x2).bind fun r30 => if inb (σ.1 k0 4) 7 = true then (f_Mt_max x1 x2).bind fun r44 => if inb ((sI σ (k0 + 3) (σ.1 k0 4).toNatClampNeg r30).1 k0 4) 7 = true then f_Pl_addLink_48 k0 x1 x2 (sI (sI σ (k0 + 3) (σ.1 k0 4).toNatClampNeg r30) (k0 + 4) ((sI σ (k0 + 3) (σ.1 k0 4).toNatClampNeg r30).1 k0 4).toNatClampNeg r44) else none else none
def f_Rd_takesOfItem (x1 : Int32) (σ : MT) : Option (Int32 × MT) :=
  if (σ.1 2 1) = 6 then some ((1 : Int32), sI (sI σ 2 3 (x1 + (-4 : Int32))) 2 1 (7 : Int32)) else if (σ.1 2 1) = 7 then if (6 : Int32) < x1 then some ((0 : Int32), sI (sI σ 2 2 x1) 2 1 (8 : Int32)) else some ((1 : Int32), sI (sI σ 2 2 x1) 2 1 (8 : Int32)) else if (σ.1 2 1) = 8 then (f_Pl_addNode 3 (σ.1 2 3) (((10 : Int32) * (σ.1 2 2)) + x1) σ).bind fun r92 => if (63 : Int32) < (((10 : Int32) * ((sI r92 2 1 (5 : Int32)).1 2 2)) + x1) then some ((0 : Int32), sI r92 2 1 (5 : Int32)) else some ((1 : Int32), sI r92 2 1 (5 : Int32)) else if (σ.1 2 1) = 9 then (f_Pl_canLinkFrom 3 x1 (sI (sI σ 2 2 x1) 2 1 (10 : Int32))).bind fun r136 => if zbb r136 = true then some (r136, sI (sI σ 2 2 x1) 2 1 (10 : Int32)) else none else (f_Pl_addLink 3 ((sI σ 2 1 (5 : Int32)).1 2 2) x1 (sI σ 2 1 (5 : Int32))).bind fun r154 => if zbb r154.1 = true then some (r154.1, r154.2) else none
def f_Rd_takes (x1 : Int32) (σ : MT) : Option (Int32 × MT) :=
  if (σ.1 2 1) = 0 then if x1 = (70 : Int32) then some ((1 : Int32), sI σ 2 1 (1 : Int32)) else some ((0 : Int32), sI σ 2 1 (1 : Int32)) else if (σ.1 2 1) = (5 : Int32) then (f_Rd_takesItem x1 σ).bind fun r34 => if zbb r34.1 = true then some (r34.1, r34.2) else none else if x1 < (48 : Int32) then some ((0 : Int32), σ) else if x1 ≤ (57 : Int32) then if (5 : Int32) ≤ (σ.1 2 1) then (f_Rd_takesOfItem (x1 - (48 : Int32)) σ).bind fun r75 => if zbb r75.1 = true then some (r75.1, r75.2) else none else (f_Rd_takesOfHead (x1 - (48 : Int32)) σ).bind fun r67 => if zbb r67.1 = true then some (r67.1, r67.2) else none else some ((0 : Int32), σ)
def f_Rd_read_14 (K43 : Int32 → MT → Option (Int32 × MT)) : Nat → Nat → Int32 → Int32 → MT → Option (Int32 × MT)
  | 0, _, _, _, _ => none
  | n + 1, k1, x2, x3, σ =>
    if x2 ≤ x3 then K43 x2 σ else if (60 : Int32) ≤ x3 then K43 x2 σ else if inb x3 60 = true then (f_Rd_takes (σ.1 k1 x3.toNatClampNeg) σ).bind fun r29 => if r29.1 = 0 then some (x3, r29.2) else f_Rd_read_14 K43 n k1 x2 (x3 + (1 : Int32)) r29.2 else none
def f_Rd_read_43 (x2 : Int32) (σ : MT) : Option (Int32 × MT) :=
  if (σ.1 2 1) = (5 : Int32) then some ((-9 : Int32), σ) else some (x2, σ)
def f_Rd_read (k1 : Nat) (x2 : Int32) (σ : MT) : Option (Int32 × MT) :=
  (f_Pl_clear 3 σ).bind fun r4 => f_Rd_read_14 f_Rd_read_43 1100 k1 x2 (0 : Int32) (sI r4 2 1 (0 : Int32))
def f_TF_fault  (σ : MT) : Option (Int32 × MT) :=
  (f_Rd_read 1 (σ.1 0 1) σ).bind fun r12 => some (r12.1, r12.2)
def f_Pl_copyFrom_30 (K62 : Nat → Nat → Int32 → MT → Option MT) : Nat → Nat → Nat → Int32 → MT → Option MT
  | 0, _, _, _, _ => none
  | n + 1, k0, k1, x2, σ =>
    if (σ.1 k1 3) ≤ x2 then K62 k0 k1 (0 : Int32) σ else if inb x2 5 = true then if inb x2 5 = true then (f_Pl_addNode k0 (σ.1 (k1 + 1) x2.toNatClampNeg) (σ.1 (k1 + 2) x2.toNatClampNeg) σ).bind fun r51 => f_Pl_copyFrom_30 K62 n k0 k1 (x2 + (1 : Int32)) r51 else none else none
def f_Pl_copyFrom_62 : Nat → Nat → Nat → Int32 → MT → Option MT
  | 0, _, _, _, _ => none
  | n + 1, k0, k1, x2, σ =>
    if (σ.1 k1 4) ≤ x2 then some σ else if inb x2 7 = true then if inb x2 7 = true then (f_Pl_addLink k0 (σ.1 (k1 + 3) x2.toNatClampNeg) (σ.1 (k1 + 4) x2.toNatClampNeg) σ).bind fun r83 => f_Pl_copyFrom_62 n k0 k1 (x2 + (1 : Int32)) r83.2 else none else none
def f_Pl_copyFrom_28 (k0 : Nat) (k1 : Nat) (σ : MT) : Option MT :=
  f_Pl_copyFrom_30 (f_Pl_copyFrom_62 1100) 1100 k0 k1 (0 : Int32) σ
def f_Pl_copyFrom (k0 : Nat) (k1 : Nat) (σ : MT) : Option MT :=
  (f_Pl_clear k0 σ).bind fun r1 => f_Pl_copyFrom_28 k0 k1 (sI (sI (sI r1 k0 0 (r1.1 k1 0)) k0 1 ((sI r1 k0 0 (r1.1 k1 0)).1 k1 1)) k0 2 ((sI (sI r1 k0 0 (r1.1 k1 0)) k0 1 ((sI r1 k0 0 (r1.1 k1 0)).1 k1 1)).1 k1 2))
def f_Nd_forget_21 (k0 : Nat) (σ : MT) : Option MT :=
  some (sI σ k0 6 (0 : Int32))
def f_Nd_forget (k0 : Nat) (σ : MT) : Option MT :=
  f_Nd_forget_21 k0 (sI (sI (sI (sI σ k0 2 (-9 : Int32)) k0 3 (0 : Int32)) k0 4 (0 : Int32)) k0 5 (0 : Int32))
def f_St_begin_63 (K12 : Nat → Nat → Int32 → MT → Option MT) (k0 : Nat) (k1 : Nat) (x2 : Int32) (σ : MT) : Option MT :=
  K12 k0 k1 (x2 + (1 : Int32)) σ
def f_St_begin_45 (K12 : Nat → Nat → Int32 → MT → Option MT) (k0 : Nat) (k1 : Nat) (x2 : Int32) (xs0 : Int32) (ks1 : Nat) (σ : MT) : Option MT :=
  if zbb xs0 = true then if inb x2 5 = true then if inb x2 5 = true then f_St_begin_63 K12 k0 k1 x2 (sI (sI σ ks1 0 xs0) ((k0 + 1) + 1 + 4 * x2.toNatClampNeg) 1 ((sI σ ks1 0 xs0).1 (k1 + 1) x2.toNatClampNeg)) else none else none else none
def f_St_begin_12 : Nat → Nat → Nat → Int32 → MT → Option MT
  | 0, _, _, _, _ => none
  | n + 1, k0, k1, x2, σ =>
    if (5 : Int32) ≤ x2 then some σ else if inb x2 5 = true then (f_Nd_forget ((k0 + 1) + 1 + 4 * x2.toNatClampNeg) σ).bind fun r23 => if inb x2 5 = true then if (r23.1 k1 3) ≤ x2 then f_St_begin_45 (f_St_begin_12 n) k0 k1 x2 (0 : Int32) ((k0 + 1) + 1 + 4 * x2.toNatClampNeg) r23 else f_St_begin_45 (f_St_begin_12 n) k0 k1 x2 (1 : Int32) ((k0 + 1) + 1 + 4 * x2.toNatClampNeg) r23 else none else none
def f_St_begin (k0 : Nat) (k1 : Nat) (σ : MT) : Option MT :=
  f_St_begin_12 1100 k0 k1 (0 : Int32) (sI (sI σ k0 0 (0 : Int32)) k0 1 (0 : Int32))
def f_Jr_clear  (σ : MT) : Option MT :=
  some (sI σ 30 2 (0 : Int32))
def f_TF_net_57 : Nat → Int32 → MT → Option (Int32 × MT)
  | 0, _, _ => none
  | n + 1, x1, σ =>
    if (2 : Int32) ≤ x1 then some (σ.1 15 3, σ) else if inb x1 2 = true then f_TF_net_57 n (x1 + (1 : Int32)) (sI σ 33 x1.toNatClampNeg (vp_nar .boolean (0 : Int32))) else none
def f_TF_net  (σ : MT) : Option (Int32 × MT) :=
  (f_Rd_read 1 (σ.1 0 1) σ).bind fun r12 => if r12.1 = (-9 : Int32) then (f_Pl_copyFrom 15 3 r12.2).bind fun r34 => (f_St_begin 61 15 r34).bind fun r45 => (f_Jr_clear r45).bind fun r52 => f_TF_net_57 1100 (0 : Int32) r52 else some ((-3 : Int32), r12.2)
def f_St_onSet_27 (K4 : Nat → Int32 → Int32 → MT → Option Int32) (k0 : Nat) (x1 : Int32) (x2 : Int32) (σ : MT) : Option Int32 :=
  K4 k0 x1 (x2 + (1 : Int32)) σ
def f_St_onSet_4 : Nat → Nat → Int32 → Int32 → MT → Option Int32
  | 0, _, _, _, _ => none
  | n + 1, k0, x1, x2, σ =>
    if (5 : Int32) ≤ x2 then some x1 else if inb x2 5 = true then if (σ.1 ((k0 + 1) + 1 + 4 * x2.toNatClampNeg) 0) = 0 then f_St_onSet_27 (f_St_onSet_4 n) k0 x1 x2 σ else f_St_onSet_27 (f_St_onSet_4 n) k0 (x1 ||| ((1 : Int32) <<< (x2 &&& 31))) x2 σ else none
def f_St_onSet (k0 : Nat) (σ : MT) : Option Int32 :=
  f_St_onSet_4 1100 k0 (0 : Int32) (0 : Int32) σ
def f_St_shownRoot (k0 : Nat) (x1 : Int32) (σ : MT) : Option Int32 :=
  if inb x1 5 = true then if (σ.1 ((k0 + 1) + 1 + 4 * x1.toNatClampNeg) 0) = 0 then some (-9 : Int32) else if inb x1 5 = true then some (σ.1 ((k0 + 1) + 1 + 4 * x1.toNatClampNeg) 2) else none else none
def f_St_ownRootSet_24 (K4 : Nat → Int32 → Int32 → MT → Option Int32) (k0 : Nat) (x1 : Int32) (x2 : Int32) (σ : MT) : Option Int32 :=
  K4 k0 x1 (x2 + (1 : Int32)) σ
def f_St_ownRootSet_4 : Nat → Nat → Int32 → Int32 → MT → Option Int32
  | 0, _, _, _, _ => none
  | n + 1, k0, x1, x2, σ =>
    if (5 : Int32) ≤ x2 then some x1 else (f_St_shownRoot k0 x2 σ).bind fun r11 => if r11 = x2 then f_St_ownRootSet_24 (f_St_ownRootSet_4 n) k0 (x1 ||| ((1 : Int32) <<< (x2 &&& 31))) x2 σ else f_St_ownRootSet_24 (f_St_ownRootSet_4 n) k0 x1 x2 σ
def f_St_ownRootSet (k0 : Nat) (σ : MT) : Option Int32 :=
  f_St_ownRootSet_4 1100 k0 (0 : Int32) (0 : Int32) σ
def f_Mt_floorDivI (x0 : Int32) (x1 : Int32) : Option Int32 :=
  if ¬ x1 = 0 then if 0 ≤ (x0 ^^^ x1) then some (x0 / x1) else if ((x0 / x1) * x1) = x0 then some (x0 / x1) else some ((x0 / x1) - (1 : Int32)) else none
def f_Mt_floorModI (x0 : Int32) (x1 : Int32) : Option Int32 :=
  if ¬ x1 = 0 then if 0 ≤ (x0 ^^^ x1) then some (x0 - x0 / x1 * x1) else if (x0 - x0 / x1 * x1) = 0 then some (x0 - x0 / x1 * x1) else some ((x0 - x0 / x1 * x1) + x1) else none
def f_Fl_clock (k1 : Nat) (x2 : Int32) (σ : MT) : Option Int32 :=
  if inb x2 5 = true then (f_Mt_floorDivI ((σ.1 k1 0) * (σ.1 ((k1 + 1) + 1 + 4 * x2.toNatClampNeg) 1)) (64 : Int32)).bind fun r16 => if inb x2 5 = true then (f_Mt_floorModI ((((16 : Int32) * (σ.1 17 x2.toNatClampNeg)) + (σ.1 k1 0)) + r16) (1024 : Int32)).bind fun r42 => some r42 else none else none
def f_TF_near (x0 : Int32) : Option Int32 :=
  (f_Mt_floorModI x0 (1024 : Int32)).bind fun r4 => if r4 < (512 : Int32) then some r4 else some (r4 - (1024 : Int32))
def f_Mt_floorDivJ (y0 : Int64) (y2 : Int64) : Option Int64 :=
  if ¬ y2 = 0 then if 0 ≤ (lg_cmp (y0 ^^^ y2) (0 : Int64)) then some (y0 / y2) else if (lg_cmp ((y0 / y2) * y2) y0) = 0 then some (y0 / y2) else some ((y0 / y2) - (1 : Int64)) else none
def f_Mt_floorModJ (y0 : Int64) (y2 : Int64) : Option Int64 :=
  if ¬ y2 = 0 then if 0 ≤ (lg_cmp (y0 ^^^ y2) (0 : Int64)) then some (y0 - y0 / y2 * y2) else if (lg_cmp (y0 - y0 / y2 * y2) (0 : Int64)) = 0 then some (y0 - y0 / y2 * y2) else some ((y0 - y0 / y2 * y2) + y2) else none
def f_Nd_estimate_65 (K230 : Int32 → Int32 → Int64 → MT → Option Int32) : Nat → Nat → Int32 → Int32 → Int32 → Int32 → Int64 → Int64 → Int64 → Int64 → Int32 → MT → Option Int32
  | 0, _, _, _, _, _, _, _, _, _, _, _ => none
  | n + 1, k0, x2, x3, x4, x5, y6, y8, y10, y12, x14, σ =>
    if x3 ≤ x14 then if (lg_cmp ((x3.toInt64 * y12) - (y6 * y6)) (0 : Int64)) = 0 then (f_Mt_floorDivJ y8 x3.toInt64).bind fun r190 => K230 x2 x5 r190 σ else (f_TF_near (x2 - x4)).bind fun r216 => (f_Mt_floorDivJ (((y8 * ((x3.toInt64 * y12) - (y6 * y6))) - (((x3.toInt64 * y10) - (y6 * y8)) * y6)) + ((x3.toInt64 * ((x3.toInt64 * y10) - (y6 * y8))) * r216.toInt64)) (x3.toInt64 * ((x3.toInt64 * y12) - (y6 * y6)))).bind fun r227 => K230 x2 x5 r227 σ else if inb x14 4 = true then (f_TF_near ((σ.1 (k0 + 1) x14.toNatClampNeg) - x4)).bind fun r81 => if inb x14 4 = true then if inb x14 4 = true then (f_TF_near (((σ.1 (k0 + 2) x14.toNatClampNeg) - (σ.1 (k0 + 1) x14.toNatClampNeg)) - x5)).bind fun r104 => f_Nd_estimate_65 K230 n k0 x2 x3 x4 x5 (y6 + r81.toInt64) (y8 + r104.toInt64) (y10 + ((r81 * r104).toInt64)) (y12 + ((r81 * r81).toInt64)) (x14 + (1 : Int32)) σ else none else none else none
def f_Nd_estimate_230 (x2 : Int32) (x5 : Int32) (ys0 : Int64) (σ : MT) : Option Int32 :=
  (f_Mt_floorModJ (((x2 + x5).toInt64) + ys0) (1024 : Int64)).bind fun r243 => some r243.toInt32
def f_Nd_estimate_50 (k0 : Nat) (x2 : Int32) (x3 : Int32) (x4 : Int32) (x5 : Int32) (σ : MT) : Option Int32 :=
  f_Nd_estimate_65 f_Nd_estimate_230 1100 k0 x2 x3 x4 x5 (0 : Int64) (0 : Int64) (0 : Int64) (0 : Int64) (0 : Int32) σ
def f_Nd_estimate (k0 : Nat) (x1 : Int32) (x2 : Int32) (σ : MT) : Option Int32 :=
  if (σ.1 k0 2) = x1 then some x2 else (f_Mt_min (σ.1 k0 6) (4 : Int32)).bind fun r15 => if (1 : Int32) ≤ r15 then if inb (r15 - (1 : Int32)) 4 = true then if inb (r15 - (1 : Int32)) 4 = true then f_Nd_estimate_50 k0 x2 r15 (σ.1 (k0 + 1) (r15 - (1 : Int32)).toNatClampNeg) ((σ.1 (k0 + 2) (r15 - (1 : Int32)).toNatClampNeg) - (σ.1 (k0 + 1) (r15 - (1 : Int32)).toNatClampNeg)) σ else none else none else some (-9 : Int32)
def f_Fl_shiftedMiss (k1 : Nat) (x2 : Int32) (σ : MT) : Option Int32 :=
  (f_St_shownRoot k1 x2 σ).bind fun r2 => if r2 < 0 then some (-9 : Int32) else if r2 < (σ.1 15 3) then if inb x2 5 = true then (f_Fl_clock k1 x2 σ).bind fun r34 => (f_Nd_estimate ((k1 + 1) + 1 + 4 * x2.toNatClampNeg) x2 r34 σ).bind fun r37 => if r37 = (-9 : Int32) then some (-9 : Int32) else (f_Fl_clock k1 r2 σ).bind fun r57 => (f_TF_near (r37 - r57)).bind fun r61 => some (r61 + (1000 : Int32)) else none else some (-9 : Int32)
def f_Fl_isInTime (k1 : Nat) (x2 : Int32) (σ : MT) : Option Int32 :=
  (f_Fl_shiftedMiss k1 x2 σ).bind fun r3 => if r3 < (997 : Int32) then some (0 : Int32) else if (1003 : Int32) < r3 then some (0 : Int32) else some (1 : Int32)
def f_Fl_inTimeSet_30 (K4 : Nat → Int32 → Int32 → MT → Option Int32) (k1 : Nat) (x2 : Int32) (x3 : Int32) (σ : MT) : Option Int32 :=
  K4 k1 x2 (x3 + (1 : Int32)) σ
def f_Fl_inTimeSet_4 : Nat → Nat → Int32 → Int32 → MT → Option Int32
  | 0, _, _, _, _ => none
  | n + 1, k1, x2, x3, σ =>
    if (σ.1 15 3) ≤ x3 then some x2 else (f_Fl_isInTime k1 x3 σ).bind fun r18 => if r18 = 0 then f_Fl_inTimeSet_30 (f_Fl_inTimeSet_4 n) k1 x2 x3 σ else f_Fl_inTimeSet_30 (f_Fl_inTimeSet_4 n) k1 (x2 ||| ((1 : Int32) <<< (x3 &&& 31))) x3 σ
def f_Fl_inTimeSet (k1 : Nat) (σ : MT) : Option Int32 :=
  f_Fl_inTimeSet_4 1100 k1 (0 : Int32) (0 : Int32) σ
def f_St_isUnited_53 (K5 : Nat → Int32 → Int32 → MT → Option Int32) (k0 : Nat) (x1 : Int32) (x2 : Int32) (σ : MT) : Option Int32 :=
  K5 k0 x1 (x2 + (1 : Int32)) σ
def f_St_isUnited_51 (K5 : Nat → Int32 → Int32 → MT → Option Int32) (k0 : Nat) (x2 : Int32) (x3 : Int32) (σ : MT) : Option Int32 :=
  f_St_isUnited_53 K5 k0 x3 x2 σ
def f_St_isUnited_5 : Nat → Nat → Int32 → Int32 → MT → Option Int32
  | 0, _, _, _, _ => none
  | n + 1, k0, x1, x2, σ =>
    if (5 : Int32) ≤ x2 then some (1 : Int32) else if inb x2 5 = true then if (σ.1 ((k0 + 1) + 1 + 4 * x2.toNatClampNeg) 0) = 0 then f_St_isUnited_53 (f_St_isUnited_5 n) k0 x1 x2 σ else if inb x2 5 = true then if (σ.1 ((k0 + 1) + 1 + 4 * x2.toNatClampNeg) 2) = (-9 : Int32) then some (0 : Int32) else if x1 = (-9 : Int32) then f_St_isUnited_51 (f_St_isUnited_5 n) k0 x2 (σ.1 ((k0 + 1) + 1 + 4 * x2.toNatClampNeg) 2) σ else if (σ.1 ((k0 + 1) + 1 + 4 * x2.toNatClampNeg) 2) = x1 then f_St_isUnited_51 (f_St_isUnited_5 n) k0 x2 (σ.1 ((k0 + 1) + 1 + 4 * x2.toNatClampNeg) 2) σ else some (0 : Int32) else none else none
def f_St_isUnited (k0 : Nat) (σ : MT) : Option Int32 :=
  f_St_isUnited_5 1100 k0 (-9 : Int32) (0 : Int32) σ
def f_TF_about (x1 : Int32) (σ : MT) : Option Int32 :=
  if x1 = 0 then some (σ.1 15 3) else if x1 = 1 then some (σ.1 15 4) else if x1 = 2 then some (σ.1 15 0) else if x1 = 3 then some (σ.1 15 1) else if x1 = 4 then some (σ.1 15 2) else if x1 = 5 then some (σ.1 61 0) else if x1 = 6 then (f_St_onSet 61 σ).bind fun r124 => some r124 else if x1 = 7 then (f_St_ownRootSet 61 σ).bind fun r132 => some r132 else if x1 = 8 then (f_Fl_inTimeSet 61 σ).bind fun r144 => some r144 else if x1 = 9 then some (σ.1 61 1) else if x1 = 10 then (f_St_isUnited 61 σ).bind fun r160 => if r160 = 0 then some (0 : Int32) else some (1 : Int32) else if x1 = 11 then some (σ.1 30 2) else if x1 = 12 then some (σ.1 34 3) else if x1 = 13 then some (σ.1 0 1) else some (-2 : Int32)
def f_TF_hasNode (x1 : Int32) (σ : MT) : Option Int32 :=
  if x1 < 0 then some (0 : Int32) else if (σ.1 15 3) ≤ x1 then some (0 : Int32) else some (1 : Int32)
def f_Fl_property_24 (k1 : Nat) (x2 : Int32) (x3 : Int32) (k4 : Nat) (σ : MT) : Option Int32 :=
  if x3 = 0 then some ((σ.1 k4 1) - (-4 : Int32)) else if x3 = 1 then if inb x2 5 = true then some (σ.1 17 x2.toNatClampNeg) else none else if x3 = 2 then (f_Fl_clock k1 x2 σ).bind fun r102 => some r102 else if x3 = 3 then if (σ.1 k4 0) = 0 then some (0 : Int32) else some (1 : Int32) else if x3 = 4 then some (σ.1 k4 2) else if x3 = 5 then some (σ.1 k4 3) else if x3 = 6 then some (σ.1 k4 4) else if x3 = 7 then some (σ.1 k4 5) else if x3 = 8 then some (σ.1 k4 6) else if x3 = 9 then (f_Fl_clock k1 x2 σ).bind fun r156 => (f_Nd_estimate k4 x2 r156 σ).bind fun r159 => some r159 else (f_Fl_shiftedMiss k1 x2 σ).bind fun r166 => some r166
def f_Fl_property (k1 : Nat) (x2 : Int32) (x3 : Int32) (σ : MT) : Option Int32 :=
  if inb x2 5 = true then if x3 < (4 : Int32) then f_Fl_property_24 k1 x2 x3 ((k1 + 1) + 1 + 4 * x2.toNatClampNeg) σ else if (σ.1 ((k1 + 1) + 1 + 4 * x2.toNatClampNeg) 0) = 0 then some (-9 : Int32) else f_Fl_property_24 k1 x2 x3 ((k1 + 1) + 1 + 4 * x2.toNatClampNeg) σ else none
def f_TF_node (x1 : Int32) (x2 : Int32) (σ : MT) : Option Int32 :=
  (f_TF_hasNode x1 σ).bind fun r2 => if r2 = 0 then some (-1 : Int32) else if x2 < 0 then some (-2 : Int32) else if x2 ≤ (10 : Int32) then (f_Fl_property 61 x1 x2 σ).bind fun r33 => some r33 else some (-2 : Int32)
def f_Nd_stampPart (k0 : Nat) (x1 : Int32) (x2 : Int32) (σ : MT) : Option Int32 :=
  if x1 < 0 then some (-9 : Int32) else if (σ.1 k0 6) ≤ x1 then some (-9 : Int32) else if x1 < (4 : Int32) then if x2 = 0 then if inb x1 4 = true then some (σ.1 (k0 + 1) x1.toNatClampNeg) else none else if x2 = 1 then if inb x1 4 = true then some (σ.1 (k0 + 2) x1.toNatClampNeg) else none else if inb x1 4 = true then some (σ.1 (k0 + 3) x1.toNatClampNeg) else none else some (-9 : Int32)
def f_TF_stamp (x1 : Int32) (x2 : Int32) (x3 : Int32) (σ : MT) : Option Int32 :=
  (f_TF_hasNode x1 σ).bind fun r2 => if r2 = 0 then some (-1 : Int32) else if x3 < 0 then some (-2 : Int32) else if x3 ≤ (2 : Int32) then if inb x1 5 = true then if (σ.1 (62 + 1 + 4 * x1.toNatClampNeg) 0) = 0 then some (-9 : Int32) else if inb x1 5 = true then (f_Nd_stampPart (62 + 1 + 4 * x1.toNatClampNeg) x2 x3 σ).bind fun r51 => some r51 else none else none else some (-2 : Int32)
def f_TF_hasLink (x1 : Int32) (σ : MT) : Option Int32 :=
  if x1 < 0 then some (0 : Int32) else if (σ.1 15 4) ≤ x1 then some (0 : Int32) else some (1 : Int32)
def f_St_isDown (k0 : Nat) (x1 : Int32) (σ : MT) : Option Int32 :=
  if (((σ.1 k0 1) >>> (x1 &&& 31)) &&& (1 : Int32)) = (1 : Int32) then some (1 : Int32) else some (0 : Int32)
def f_TF_link (x1 : Int32) (x2 : Int32) (σ : MT) : Option Int32 :=
  (f_TF_hasLink x1 σ).bind fun r2 => if r2 = 0 then some (-1 : Int32) else if x2 = 0 then if inb x1 7 = true then some (σ.1 18 x1.toNatClampNeg) else none else if x2 = 1 then if inb x1 7 = true then some (σ.1 19 x1.toNatClampNeg) else none else if x2 = 2 then (f_St_isDown 61 x1 σ).bind fun r61 => if r61 = 0 then some (0 : Int32) else some (1 : Int32) else some (-2 : Int32)
def f_Nd_copyFrom_98 (σ : MT) : Option MT :=
  some σ
def f_Nd_copyFrom_70 (k0 : Nat) (k1 : Nat) (σ : MT) : Option MT :=
  f_Nd_copyFrom_98 (sA (sA σ (k0 + 2) (va_cpy (σ.1 (k1 + 2)) (σ.1 (k0 + 2)) 0 0 4)) (k0 + 3) (va_cpy ((sA σ (k0 + 2) (va_cpy (σ.1 (k1 + 2)) (σ.1 (k0 + 2)) 0 0 4)).1 (k1 + 3)) ((sA σ (k0 + 2) (va_cpy (σ.1 (k1 + 2)) (σ.1 (k0 + 2)) 0 0 4)).1 (k0 + 3)) 0 0 4))
def f_Nd_copyFrom_48 (k0 : Nat) (k1 : Nat) (σ : MT) : Option MT :=
  f_Nd_copyFrom_70 k0 k1 (sA (sI σ k0 6 (σ.1 k1 6)) (k0 + 1) (va_cpy ((sI σ k0 6 (σ.1 k1 6)).1 (k1 + 1)) ((sI σ k0 6 (σ.1 k1 6)).1 (k0 + 1)) 0 0 4))
def f_Nd_copyFrom_24 (k0 : Nat) (k1 : Nat) (σ : MT) : Option MT :=
  f_Nd_copyFrom_48 k0 k1 (sI (sI (sI σ k0 3 (σ.1 k1 3)) k0 4 ((sI σ k0 3 (σ.1 k1 3)).1 k1 4)) k0 5 ((sI (sI σ k0 3 (σ.1 k1 3)) k0 4 ((sI σ k0 3 (σ.1 k1 3)).1 k1 4)).1 k1 5))
def f_Nd_copyFrom (k0 : Nat) (k1 : Nat) (σ : MT) : Option MT :=
  if zbb (σ.1 k1 0) = true then f_Nd_copyFrom_24 k0 k1 (sI (sI (sI σ k0 0 (σ.1 k1 0)) k0 1 ((sI σ k0 0 (σ.1 k1 0)).1 k1 1)) k0 2 ((sI (sI σ k0 0 (σ.1 k1 0)) k0 1 ((sI σ k0 0 (σ.1 k1 0)).1 k1 1)).1 k1 2)) else none
def f_St_copyFrom_18 : Nat → Nat → Nat → Int32 → MT → Option MT
  | 0, _, _, _, _ => none
  | n + 1, k0, k1, x2, σ =>
    if (5 : Int32) ≤ x2 then some σ else if inb x2 5 = true then if inb x2 5 = true then (f_Nd_copyFrom ((k0 + 1) + 1 + 4 * x2.toNatClampNeg) ((k1 + 1) + 1 + 4 * x2.toNatClampNeg) σ).bind fun r35 => f_St_copyFrom_18 n k0 k1 (x2 + (1 : Int32)) r35 else none else none
def f_St_copyFrom (k0 : Nat) (k1 : Nat) (σ : MT) : Option MT :=
  f_St_copyFrom_18 1100 k0 k1 (0 : Int32) (sI (sI σ k0 0 (σ.1 k1 0)) k0 1 ((sI σ k0 0 (σ.1 k1 0)).1 k1 1))
def f_Jr_push_26 (σ : MT) : Option MT :=
  (f_Mt_min ((σ.1 30 2) + (1 : Int32)) (14 : Int32)).bind fun r35 => some (sI σ 30 2 r35)
def f_Jr_push (k1 : Nat) (σ : MT) : Option MT :=
  if inb (σ.1 30 1) 14 = true then (f_St_copyFrom (149 + 22 * (σ.1 30 1).toNatClampNeg) k1 σ).bind fun r10 => f_Jr_push_26 (sI r10 30 1 (((r10.1 30 1) + (1 : Int32)) - ((r10.1 30 1) + (1 : Int32)) / (14 : Int32) * (14 : Int32))) else none
def f_Nd_grow_69 (K4 : Nat → Int32 → Int32 → MT → Option MT) (k0 : Nat) (x1 : Int32) (x2 : Int32) (σ : MT) : Option MT :=
  K4 k0 x1 (x2 + (1 : Int32)) σ
def f_Nd_grow_66 (K4 : Nat → Int32 → Int32 → MT → Option MT) (k0 : Nat) (x1 : Int32) (x2 : Int32) (σ : MT) : Option MT :=
  f_Nd_grow_69 K4 k0 (x1 + (1 : Int32)) x2 σ
def f_Nd_grow_52 (K4 : Nat → Int32 → Int32 → MT → Option MT) (k0 : Nat) (x1 : Int32) (x2 : Int32) (σ : MT) : Option MT :=
  if inb x2 4 = true then if inb x1 4 = true then f_Nd_grow_66 K4 k0 x1 x2 (sI σ (k0 + 3) x1.toNatClampNeg ((σ.1 (k0 + 3) x2.toNatClampNeg) + (1 : Int32))) else none else none
def f_Nd_grow_4 (K75 : Nat → Int32 → MT → Option MT) : Nat → Nat → Int32 → Int32 → MT → Option MT
  | 0, _, _, _, _ => none
  | n + 1, k0, x1, x2, σ =>
    if (σ.1 k0 6) ≤ x2 then K75 k0 x1 σ else if (4 : Int32) ≤ x2 then K75 k0 x1 σ else if inb x2 4 = true then if (9 : Int32) ≤ (σ.1 (k0 + 3) x2.toNatClampNeg) then f_Nd_grow_69 (f_Nd_grow_4 K75 n) k0 x1 x2 σ else if inb x2 4 = true then if inb x1 4 = true then if inb x2 4 = true then if inb x1 4 = true then f_Nd_grow_52 (f_Nd_grow_4 K75 n) k0 x1 x2 (sI (sI σ (k0 + 1) x1.toNatClampNeg (σ.1 (k0 + 1) x2.toNatClampNeg)) (k0 + 2) x1.toNatClampNeg ((sI σ (k0 + 1) x1.toNatClampNeg (σ.1 (k0 + 1) x2.toNatClampNeg)).1 (k0 + 2) x2.toNatClampNeg)) else none else none else none else none else none
def f_Nd_grow_107 (σ : MT) : Option MT :=
  some σ
def f_Nd_grow_75 (k0 : Nat) (x1 : Int32) (σ : MT) : Option MT :=
  if ((sI (sI σ k0 6 x1) k0 4 (((sI σ k0 6 x1).1 k0 4) + (1 : Int32))).1 k0 5) ≤ 0 then some (sI (sI σ k0 6 x1) k0 4 (((sI σ k0 6 x1).1 k0 4) + (1 : Int32))) else f_Nd_grow_107 (sI (sI (sI σ k0 6 x1) k0 4 (((sI σ k0 6 x1).1 k0 4) + (1 : Int32))) k0 5 (((sI (sI σ k0 6 x1) k0 4 (((sI σ k0 6 x1).1 k0 4) + (1 : Int32))).1 k0 5) - (1 : Int32)))
def f_Nd_grow (k0 : Nat) (σ : MT) : Option MT :=
  f_Nd_grow_4 f_Nd_grow_75 1100 k0 (0 : Int32) (0 : Int32) σ
def f_Nd_lead_68 (k0 : Nat) (σ : MT) : Option MT :=
  some (sI σ k0 4 (0 : Int32))
def f_Nd_lead_47 (k0 : Nat) (x1 : Int32) (σ : MT) : Option MT :=
  if (σ.1 k0 2) = x1 then f_Nd_lead_68 k0 (sI σ k0 3 (((σ.1 k0 3) + (1 : Int32)) - ((σ.1 k0 3) + (1 : Int32)) / (64 : Int32) * (64 : Int32))) else some σ
def f_Nd_lead_24 (k0 : Nat) (x1 : Int32) (k2 : Nat) (xs0 : Int32) (σ : MT) : Option MT :=
  if xs0 = 0 then f_Nd_lead_47 k0 x1 σ else f_Nd_lead_47 k0 x1 (sI (sI (sI σ k0 2 x1) k0 6 (0 : Int32)) k0 5 ((sI (sI σ k0 2 x1) k0 6 (0 : Int32)).1 k2 2))
def f_Nd_lead_23 (k0 : Nat) (x1 : Int32) (k2 : Nat) (σ : MT) : Option MT :=
  f_Nd_lead_24 k0 x1 k2 (0 : Int32) σ
def f_Nd_lead (k0 : Nat) (x1 : Int32) (k2 : Nat) (σ : MT) : Option MT :=
  if (σ.1 k0 2) = x1 then f_Nd_lead_23 k0 x1 k2 σ else if (σ.1 k0 4) ≤ (σ.1 k2 1) then f_Nd_lead_23 k0 x1 k2 σ else f_Nd_lead_24 k0 x1 k2 (1 : Int32) σ
def f_Nd_sends (k0 : Nat) (x1 : Int32) (σ : MT) : Option Int32 :=
  if (σ.1 k0 0) = 0 then some (0 : Int32) else if (σ.1 k0 2) = x1 then some (1 : Int32) else if (σ.1 k0 6) < (2 : Int32) then some (0 : Int32) else some (1 : Int32)
def f_Nd_takesAsNewRoot_20 (k0 : Nat) (x2 : Int32) (xs0 : Int32) (σ : MT) : Option Int32 :=
  if xs0 = 0 then if (σ.1 k0 2) = (-9 : Int32) then some (1 : Int32) else if (σ.1 k0 2) ≤ x2 then some (0 : Int32) else some (1 : Int32) else some (0 : Int32)
def f_Nd_takesAsNewRoot_19 (k0 : Nat) (x2 : Int32) (σ : MT) : Option Int32 :=
  f_Nd_takesAsNewRoot_20 k0 x2 (0 : Int32) σ
def f_Nd_takesAsNewRoot (k0 : Nat) (x1 : Int32) (x2 : Int32) (σ : MT) : Option Int32 :=
  if (σ.1 k0 2) = x1 then if (σ.1 k0 5) ≤ 0 then f_Nd_takesAsNewRoot_19 k0 x2 σ else f_Nd_takesAsNewRoot_20 k0 x2 (1 : Int32) σ else f_Nd_takesAsNewRoot_19 k0 x2 σ
def f_Nd_store_126 (σ : MT) : Option MT :=
  some σ
def f_Nd_store_106 (k0 : Nat) (σ : MT) : Option MT :=
  if inb (σ.1 k0 6) 4 = true then f_Nd_store_126 (sI (sI σ (k0 + 3) (σ.1 k0 6).toNatClampNeg (0 : Int32)) k0 6 (((sI σ (k0 + 3) (σ.1 k0 6).toNatClampNeg (0 : Int32)).1 k0 6) + (1 : Int32))) else none
def f_Nd_store_86 (k0 : Nat) (x2 : Int32) (x3 : Int32) (σ : MT) : Option MT :=
  if inb (σ.1 k0 6) 4 = true then if inb ((sI σ (k0 + 1) (σ.1 k0 6).toNatClampNeg x2).1 k0 6) 4 = true then f_Nd_store_106 k0 (sI (sI σ (k0 + 1) (σ.1 k0 6).toNatClampNeg x2) (k0 + 2) ((sI σ (k0 + 1) (σ.1 k0 6).toNatClampNeg x2).1 k0 6).toNatClampNeg x3) else none else none
def f_Nd_store_75 (K21 : Nat → Int32 → Int32 → Int32 → MT → Option MT) (k0 : Nat) (x2 : Int32) (x3 : Int32) (x4 : Int32) (σ : MT) : Option MT :=
  K21 k0 x2 x3 (x4 + (1 : Int32)) σ
def f_Nd_store_59 (K21 : Nat → Int32 → Int32 → Int32 → MT → Option MT) (k0 : Nat) (x2 : Int32) (x3 : Int32) (x4 : Int32) (σ : MT) : Option MT :=
  if inb x4 4 = true then if inb (x4 - (1 : Int32)) 4 = true then f_Nd_store_75 K21 k0 x2 x3 x4 (sI σ (k0 + 3) (x4 - (1 : Int32)).toNatClampNeg (σ.1 (k0 + 3) x4.toNatClampNeg)) else none else none
def f_Nd_store_43 (K21 : Nat → Int32 → Int32 → Int32 → MT → Option MT) (k0 : Nat) (x2 : Int32) (x3 : Int32) (x4 : Int32) (σ : MT) : Option MT :=
  if inb x4 4 = true then if inb (x4 - (1 : Int32)) 4 = true then f_Nd_store_59 K21 k0 x2 x3 x4 (sI σ (k0 + 2) (x4 - (1 : Int32)).toNatClampNeg (σ.1 (k0 + 2) x4.toNatClampNeg)) else none else none
def f_Nd_store_21 (K86 : Nat → Int32 → Int32 → MT → Option MT) : Nat → Nat → Int32 → Int32 → Int32 → MT → Option MT
  | 0, _, _, _, _, _ => none
  | n + 1, k0, x2, x3, x4, σ =>
    if (4 : Int32) ≤ x4 then K86 k0 x2 x3 (sI σ k0 6 (3 : Int32)) else if inb x4 4 = true then if inb (x4 - (1 : Int32)) 4 = true then f_Nd_store_43 (f_Nd_store_21 K86 n) k0 x2 x3 x4 (sI σ (k0 + 1) (x4 - (1 : Int32)).toNatClampNeg (σ.1 (k0 + 1) x4.toNatClampNeg)) else none else none
def f_Nd_store (k0 : Nat) (x1 : Int32) (x2 : Int32) (x3 : Int32) (σ : MT) : Option MT :=
  if ((sI (sI σ k0 3 x1) k0 4 (0 : Int32)).1 k0 6) < (4 : Int32) then f_Nd_store_86 k0 x2 x3 (sI (sI σ k0 3 x1) k0 4 (0 : Int32)) else f_Nd_store_21 f_Nd_store_86 1100 k0 x2 x3 (1 : Int32) (sI (sI σ k0 3 x1) k0 4 (0 : Int32))
def f_Nd_takesAsNews (k0 : Nat) (x1 : Int32) (x2 : Int32) (x3 : Int32) (σ : MT) : Option Int32 :=
  (f_Mt_floorModI (x3 - (σ.1 k0 3)) (64 : Int32)).bind fun r8 => if x2 = (σ.1 k0 2) then if (σ.1 k0 2) = x1 then some (0 : Int32) else if r8 < (1 : Int32) then some (0 : Int32) else if (31 : Int32) < r8 then some (0 : Int32) else some (1 : Int32) else some (0 : Int32)
def f_Fl_hear_40 (k1 : Nat) (x2 : Int32) (x3 : Int32) (k4 : Nat) (σ : MT) : Option MT :=
  if inb x3 5 = true then (f_Fl_clock k1 x2 σ).bind fun r51 => if inb x3 5 = true then (f_Nd_store k4 (σ.1 28 x3.toNatClampNeg) r51 (σ.1 29 x3.toNatClampNeg) σ).bind fun r60 => some r60 else none else none
def f_Fl_hear (k1 : Nat) (x2 : Int32) (x3 : Int32) (σ : MT) : Option MT :=
  if inb x2 5 = true then if inb x3 5 = true then (f_Nd_takesAsNewRoot ((k1 + 1) + 1 + 4 * x2.toNatClampNeg) x2 (σ.1 27 x3.toNatClampNeg) σ).bind fun r17 => if r17 = 0 then if inb x3 5 = true then if inb x3 5 = true then (f_Nd_takesAsNews ((k1 + 1) + 1 + 4 * x2.toNatClampNeg) x2 (σ.1 27 x3.toNatClampNeg) (σ.1 28 x3.toNatClampNeg) σ).bind fun r81 => if r81 = 0 then some σ else if inb x3 5 = true then (f_Fl_clock k1 x2 σ).bind fun r98 => if inb x3 5 = true then (f_Nd_store ((k1 + 1) + 1 + 4 * x2.toNatClampNeg) (σ.1 28 x3.toNatClampNeg) r98 (σ.1 29 x3.toNatClampNeg) σ).bind fun r107 => some r107 else none else none else none else none else if inb x3 5 = true then f_Fl_hear_40 k1 x2 x3 ((k1 + 1) + 1 + 4 * x2.toNatClampNeg) (sI (sI σ ((k1 + 1) + 1 + 4 * x2.toNatClampNeg) 2 (σ.1 27 x3.toNatClampNeg)) ((k1 + 1) + 1 + 4 * x2.toNatClampNeg) 6 (0 : Int32)) else none else none else none
def f_Fl_receive_58 (K2 : Nat → Int32 → Int32 → MT → Option MT) (k1 : Nat) (x2 : Int32) (x3 : Int32) (σ : MT) : Option MT :=
  K2 k1 x2 (x3 + (1 : Int32)) σ
def f_Fl_receive_2 : Nat → Nat → Int32 → Int32 → MT → Option MT
  | 0, _, _, _, _ => none
  | n + 1, k1, x2, x3, σ =>
    if (σ.1 15 3) ≤ x3 then some σ else if inb x3 5 = true then if (σ.1 26 x3.toNatClampNeg) = 0 then f_Fl_receive_58 (f_Fl_receive_2 n) k1 x2 x3 σ else if inb x3 5 = true then if inb x2 5 = true then if (σ.1 (20 + 1 + x3.toNatClampNeg) x2.toNatClampNeg) = (-9 : Int32) then f_Fl_receive_58 (f_Fl_receive_2 n) k1 x2 x3 σ else (f_St_isDown k1 (σ.1 (20 + 1 + x3.toNatClampNeg) x2.toNatClampNeg) σ).bind fun r45 => if r45 = 0 then (f_Fl_hear k1 x2 x3 σ).bind fun r55 => f_Fl_receive_58 (f_Fl_receive_2 n) k1 x2 x3 r55 else f_Fl_receive_58 (f_Fl_receive_2 n) k1 x2 x3 σ else none else none else none
def f_Fl_receive (k1 : Nat) (x2 : Int32) (σ : MT) : Option MT :=
  f_Fl_receive_2 1100 k1 x2 (0 : Int32) σ
def f_Fl_pass_113 (K18 : Nat → Int32 → MT → Option MT) (k1 : Nat) (x2 : Int32) (σ : MT) : Option MT :=
  K18 k1 (x2 + (1 : Int32)) σ
def f_Fl_pass_86 (K18 : Nat → Int32 → MT → Option MT) (k1 : Nat) (x2 : Int32) (k3 : Nat) (σ : MT) : Option MT :=
  if inb x2 5 = true then (f_Fl_clock k1 x2 (sI σ 28 x2.toNatClampNeg (σ.1 k3 3))).bind fun r106 => (f_Nd_estimate k3 x2 r106 (sI σ 28 x2.toNatClampNeg (σ.1 k3 3))).bind fun r109 => if inb x2 5 = true then f_Fl_pass_113 K18 k1 x2 (sI (sI σ 28 x2.toNatClampNeg (σ.1 k3 3)) 29 x2.toNatClampNeg r109) else none else none
def f_Fl_pass_56 (K18 : Nat → Int32 → MT → Option MT) (k1 : Nat) (x2 : Int32) (k3 : Nat) (σ : MT) : Option MT :=
  (f_Nd_sends k3 x2 σ).bind fun r63 => if inb x2 5 = true then if inb x2 5 = true then if ((sI σ 26 x2.toNatClampNeg (vp_nar .boolean r63)).1 26 x2.toNatClampNeg) = 0 then f_Fl_pass_113 K18 k1 x2 (sI σ 26 x2.toNatClampNeg (vp_nar .boolean r63)) else if inb x2 5 = true then f_Fl_pass_86 K18 k1 x2 k3 (sI (sI σ 26 x2.toNatClampNeg (vp_nar .boolean r63)) 27 x2.toNatClampNeg ((sI σ 26 x2.toNatClampNeg (vp_nar .boolean r63)).1 k3 2)) else none else none else none
def f_Fl_pass_18 (K121 : Nat → Int32 → MT → Option MT) : Nat → Nat → Int32 → MT → Option MT
  | 0, _, _, _ => none
  | n + 1, k1, x2, σ =>
    if (σ.1 15 3) ≤ x2 then K121 k1 (0 : Int32) σ else if inb x2 5 = true then if (σ.1 ((k1 + 1) + 1 + 4 * x2.toNatClampNeg) 0) = 0 then f_Fl_pass_56 (f_Fl_pass_18 K121 n) k1 x2 ((k1 + 1) + 1 + 4 * x2.toNatClampNeg) σ else (f_Nd_grow ((k1 + 1) + 1 + 4 * x2.toNatClampNeg) σ).bind fun r44 => (f_Nd_lead ((k1 + 1) + 1 + 4 * x2.toNatClampNeg) x2 15 r44).bind fun r53 => f_Fl_pass_56 (f_Fl_pass_18 K121 n) k1 x2 ((k1 + 1) + 1 + 4 * x2.toNatClampNeg) r53 else none
def f_Fl_pass_150 (K121 : Nat → Int32 → MT → Option MT) (k1 : Nat) (x2 : Int32) (σ : MT) : Option MT :=
  K121 k1 (x2 + (1 : Int32)) σ
def f_Fl_pass_121 : Nat → Nat → Int32 → MT → Option MT
  | 0, _, _, _ => none
  | n + 1, k1, x2, σ =>
    if (σ.1 15 3) ≤ x2 then some σ else if inb x2 5 = true then if (σ.1 ((k1 + 1) + 1 + 4 * x2.toNatClampNeg) 0) = 0 then f_Fl_pass_150 (f_Fl_pass_121 n) k1 x2 σ else (f_Fl_receive k1 x2 σ).bind fun r147 => f_Fl_pass_150 (f_Fl_pass_121 n) k1 x2 r147 else none
def f_Fl_pass (k1 : Nat) (σ : MT) : Option MT :=
  f_Fl_pass_18 (f_Fl_pass_121 1100) 1100 k1 (0 : Int32) (sI σ k1 0 ((σ.1 k1 0) + (σ.1 15 0)))
def f_Fl_passMany_2 : Nat → Nat → Int32 → Int32 → MT → Option MT
  | 0, _, _, _, _ => none
  | n + 1, k1, x2, x3, σ =>
    if x2 ≤ x3 then some σ else (f_Fl_pass k1 σ).bind fun r9 => f_Fl_passMany_2 n k1 x2 (x3 + (1 : Int32)) r9
def f_Fl_passMany (k1 : Nat) (x2 : Int32) (σ : MT) : Option MT :=
  f_Fl_passMany_2 1100 k1 x2 (0 : Int32) σ
def f_In_bitCount_48 (x0 : Int32) : Option Int32 :=
  some (x0 &&& (63 : Int32))
def f_In_bitCount_34 (x0 : Int32) : Option Int32 :=
  f_In_bitCount_48 ((x0 + ((x0.toUInt32 >>> ((8 : Int32).toUInt32 &&& Int32.toUInt32 31)).toInt32)) + (((x0 + ((x0.toUInt32 >>> ((8 : Int32).toUInt32 &&& Int32.toUInt32 31)).toInt32)).toUInt32 >>> ((16 : Int32).toUInt32 &&& Int32.toUInt32 31)).toInt32))
def f_In_bitCount_24 (x0 : Int32) : Option Int32 :=
  f_In_bitCount_34 ((x0 + ((x0.toUInt32 >>> ((4 : Int32).toUInt32 &&& Int32.toUInt32 31)).toInt32)) &&& (252645135 : Int32))
def f_In_bitCount_10 (x0 : Int32) : Option Int32 :=
  f_In_bitCount_24 ((x0 &&& (858993459 : Int32)) + (((x0.toUInt32 >>> ((2 : Int32).toUInt32 &&& Int32.toUInt32 31)).toInt32) &&& (858993459 : Int32)))
def f_In_bitCount (x0 : Int32) : Option Int32 :=
  f_In_bitCount_10 (x0 - (((x0.toUInt32 >>> ((1 : Int32).toUInt32 &&& Int32.toUInt32 31)).toInt32) &&& (1431655765 : Int32)))
def f_TF_period (x1 : Int32) (σ : MT) : Option (Int32 × MT) :=
  if x1 < (1 : Int32) then some ((-2 : Int32), σ) else if x1 ≤ (99 : Int32) then (f_Jr_push 61 σ).bind fun r22 => (f_Fl_passMany 61 x1 r22).bind fun r34 => (f_Fl_inTimeSet 61 r34).bind fun r45 => (f_In_bitCount r45).bind fun r48 => some (r48, r34) else some ((-2 : Int32), σ)
def f_St_flipLink (k0 : Nat) (x1 : Int32) (σ : MT) : Option MT :=
  some (sI σ k0 1 ((σ.1 k0 1) ^^^ ((1 : Int32) <<< (x1 &&& 31))))
def f_TF_turn (x1 : Int32) (σ : MT) : Option (Int32 × MT) :=
  (f_TF_hasLink x1 σ).bind fun r2 => if r2 = 0 then some ((-1 : Int32), σ) else (f_Jr_push 61 σ).bind fun r18 => (f_St_flipLink 61 x1 r18).bind fun r26 => (f_St_isDown 61 x1 r26).bind fun r34 => if r34 = 0 then some ((0 : Int32), r26) else some ((1 : Int32), r26)
def f_Nd_flipPower_13 (k0 : Nat) (xs0 : Int32) (ks1 : Nat) (σ : MT) : Option MT :=
  if zbb xs0 = true then if ((sI σ ks1 0 xs0).1 k0 0) = 0 then some (sI σ ks1 0 xs0) else (f_Nd_forget k0 (sI σ ks1 0 xs0)).bind fun r24 => some r24 else none
def f_Nd_flipPower (k0 : Nat) (σ : MT) : Option MT :=
  if (σ.1 k0 0) = 0 then f_Nd_flipPower_13 k0 (1 : Int32) k0 σ else f_Nd_flipPower_13 k0 (0 : Int32) k0 σ
def f_TF_power (x1 : Int32) (σ : MT) : Option (Int32 × MT) :=
  (f_TF_hasNode x1 σ).bind fun r2 => if r2 = 0 then some ((-1 : Int32), σ) else (f_Jr_push 61 σ).bind fun r18 => if inb x1 5 = true then (f_Nd_flipPower (62 + 1 + 4 * x1.toNatClampNeg) r18).bind fun r30 => if inb x1 5 = true then if (r30.1 (62 + 1 + 4 * x1.toNatClampNeg) 0) = 0 then some ((0 : Int32), r30) else some ((1 : Int32), r30) else none else none
def f_TF_drift (x1 : Int32) (x2 : Int32) (σ : MT) : Option (Int32 × MT) :=
  (f_TF_hasNode x1 σ).bind fun r2 => if r2 = 0 then some ((-1 : Int32), σ) else if x2 < (-4 : Int32) then some ((-2 : Int32), σ) else if x2 ≤ (5 : Int32) then (f_Jr_push 61 σ).bind fun r32 => if inb x1 5 = true then (f_Fl_clock 61 x1 (sI r32 (62 + 1 + 4 * x1.toNatClampNeg) 1 x2)).bind fun r57 => some (r57, sI r32 (62 + 1 + 4 * x1.toNatClampNeg) 1 x2) else none else some ((-2 : Int32), σ)
def f_Jr_pop_23 (k1 : Nat) (σ : MT) : Option MT :=
  if inb ((sI σ 30 2 ((σ.1 30 2) - (1 : Int32))).1 30 1) 14 = true then (f_St_copyFrom k1 (149 + 22 * ((sI σ 30 2 ((σ.1 30 2) - (1 : Int32))).1 30 1).toNatClampNeg) (sI σ 30 2 ((σ.1 30 2) - (1 : Int32)))).bind fun r43 => some r43 else none
def f_Jr_pop (k1 : Nat) (σ : MT) : Option MT :=
  if (σ.1 30 2) ≤ 0 then some σ else f_Jr_pop_23 k1 (sI σ 30 1 ((((σ.1 30 1) + (14 : Int32)) - (1 : Int32)) - (((σ.1 30 1) + (14 : Int32)) - (1 : Int32)) / (14 : Int32) * (14 : Int32)))
def f_TF_undo  (σ : MT) : Option (Int32 × MT) :=
  if (σ.1 30 2) = 0 then some ((-3 : Int32), σ) else (f_Jr_pop 61 σ).bind fun r21 => some (r21.1 30 2, r21)
def f_TF_ahead (x1 : Int32) (x2 : Int32) (x3 : Int32) (σ : MT) : Option (Int32 × MT) :=
  (f_TF_hasNode x2 σ).bind fun r2 => if r2 = 0 then some ((-1 : Int32), σ) else if x1 < 0 then some ((-2 : Int32), σ) else if (99 : Int32) < x1 then some ((-2 : Int32), σ) else if x3 < (2 : Int32) then some ((-2 : Int32), σ) else if x3 ≤ (10 : Int32) then (f_St_copyFrom 83 61 σ).bind fun r42 => (f_Fl_passMany 83 x1 r42).bind fun r54 => (f_Fl_property 83 x2 x3 r54).bind fun r67 => some (r67, r54) else some ((-2 : Int32), σ)
def f_TF_agree_13 : Nat → Int32 → MT → Option (Int32 × MT)
  | 0, _, _ => none
  | n + 1, x1, σ =>
    if (60 : Int32) < x1 then some ((-9 : Int32), σ) else (f_St_isUnited 83 σ).bind fun r23 => if r23 = 0 then (f_Fl_pass 83 σ).bind fun r39 => f_TF_agree_13 n (x1 + (1 : Int32)) r39 else some (x1, σ)
def f_TF_agree  (σ : MT) : Option (Int32 × MT) :=
  (f_St_copyFrom 83 61 σ).bind fun r8 => f_TF_agree_13 1100 (0 : Int32) r8
def f_TF_holdsOnTrial (x1 : Int32) (x2 : Int32) (x3 : Int32) (σ : MT) : Option (Int32 × MT) :=
  if x1 = 1 then (f_Fl_passMany 83 (((10 : Int32) * x2) + x3) σ).bind fun r54 => if (((10 : Int32) * x2) + x3) ≤ 0 then some ((0 : Int32), r54) else some ((1 : Int32), r54) else if x1 = 2 then if x2 = 0 then (f_TF_hasLink x3 σ).bind fun r78 => if r78 = 0 then some ((0 : Int32), σ) else (f_St_flipLink 83 x3 σ).bind fun r91 => some ((1 : Int32), r91) else some ((0 : Int32), σ) else if x1 = 3 then if x2 = 0 then (f_TF_hasNode x3 σ).bind fun r102 => if r102 = 0 then some ((0 : Int32), σ) else if inb x3 5 = true then (f_Nd_flipPower (84 + 1 + 4 * x3.toNatClampNeg) σ).bind fun r119 => some ((1 : Int32), r119) else none else some ((0 : Int32), σ) else if x1 = 4 then (f_TF_hasNode x2 σ).bind fun r126 => if r126 = 0 then some ((0 : Int32), σ) else (f_TF_hasNode x3 σ).bind fun r134 => if r134 = 0 then some ((0 : Int32), σ) else (f_St_shownRoot 83 x2 σ).bind fun r145 => if r145 = x3 then some ((1 : Int32), σ) else some ((0 : Int32), σ) else if x1 = 5 then if x2 = 0 then (f_TF_hasNode x3 σ).bind fun r164 => if r164 = 0 then some ((0 : Int32), σ) else (f_Fl_isInTime 83 x3 σ).bind fun r179 => if r179 = 0 then some ((0 : Int32), σ) else some ((1 : Int32), σ) else some ((0 : Int32), σ) else if x1 = 6 then (f_TF_hasNode x2 σ).bind fun r193 => if r193 = 0 then some ((0 : Int32), σ) else if inb x2 5 = true then if (σ.1 (84 + 1 + 4 * x2.toNatClampNeg) 0) = 0 then some ((0 : Int32), σ) else if inb x2 5 = true then if (σ.1 (84 + 1 + 4 * x2.toNatClampNeg) 6) = x3 then some ((1 : Int32), σ) else some ((0 : Int32), σ) else none else none else some ((0 : Int32), σ)
def f_TF_judge_71 (K46 : Int32 → Int64 → Int32 → MT → Option (Int32 × MT)) (x1 : Int32) (y2 : Int64) (x4 : Int32) (x5 : Int32) (σ : MT) : Option (Int32 × MT) :=
  (f_TF_holdsOnTrial (x5 / (100 : Int32)) ((x5 / (10 : Int32)) - (x5 / (10 : Int32)) / (10 : Int32) * (10 : Int32)) (x5 - x5 / (10 : Int32) * (10 : Int32)) σ).bind fun r90 => if r90.1 = 0 then some (x4, r90.2) else K46 x1 y2 (x4 + (1 : Int32)) r90.2
def f_TF_judge_46 : Nat → Int32 → Int64 → Int32 → MT → Option (Int32 × MT)
  | 0, _, _, _, _ => none
  | n + 1, x1, y2, x4, σ =>
    if x1 ≤ x4 then some ((-9 : Int32), σ) else if inb ((x1 - (1 : Int32)) - x4) 5 = true then if ¬ (thV ((x1 - (1 : Int32)) - x4).toNatClampNeg) = 0 then f_TF_judge_71 (f_TF_judge_46 n) x1 y2 x4 (((y2 / (thV ((x1 - (1 : Int32)) - x4).toNatClampNeg)) - (y2 / (thV ((x1 - (1 : Int32)) - x4).toNatClampNeg)) / (1000 : Int64) * (1000 : Int64)).toInt32) σ else none else none
def f_TF_judge (x1 : Int32) (y2 : Int64) (σ : MT) : Option (Int32 × MT) :=
  if x1 < (1 : Int32) then some ((-2 : Int32), σ) else if x1 ≤ (4 : Int32) then if (lg_cmp y2 (0 : Int64)) < 0 then some ((-2 : Int32), σ) else if inb x1 5 = true then if (lg_cmp y2 (thV x1.toNatClampNeg)) < 0 then (f_St_copyFrom 83 61 σ).bind fun r40 => f_TF_judge_46 1100 x1 y2 (0 : Int32) r40 else some ((-2 : Int32), σ) else none else some ((-2 : Int32), σ)
def f_Sg_add_49 (σ : MT) : Option MT :=
  some σ
def f_Sg_add_29 (x3 : Int32) (σ : MT) : Option MT :=
  if inb (σ.1 34 3) 6 = true then f_Sg_add_49 (sI (sI σ 37 (σ.1 34 3).toNatClampNeg x3) 34 3 (((sI σ 37 (σ.1 34 3).toNatClampNeg x3).1 34 3) + (1 : Int32))) else none
def f_Sg_add (x1 : Int32) (x2 : Int32) (x3 : Int32) (σ : MT) : Option MT :=
  if (6 : Int32) ≤ (σ.1 34 3) then some σ else if inb (σ.1 34 3) 6 = true then if inb ((sI σ 35 (σ.1 34 3).toNatClampNeg x1).1 34 3) 6 = true then f_Sg_add_29 x3 (sI (sI σ 35 (σ.1 34 3).toNatClampNeg x1) 36 ((sI σ 35 (σ.1 34 3).toNatClampNeg x1).1 34 3).toNatClampNeg x2) else none else none
def f_TF_see_37 (x1 : Int32) (x2 : Int32) (x3 : Int32) (σ : MT) : Option (Int32 × MT) :=
  if (σ.1 34 3) < (6 : Int32) then (f_Sg_add x1 x2 x3 σ).bind fun r59 => some (r59.1 34 3, r59) else some ((-4 : Int32), σ)
def f_TF_see (x1 : Int32) (x2 : Int32) (x3 : Int32) (σ : MT) : Option (Int32 × MT) :=
  (f_TF_hasNode x1 σ).bind fun r2 => if r2 = 0 then some ((-1 : Int32), σ) else if x2 < 0 then some ((-2 : Int32), σ) else if (20 : Int32) < x2 then some ((-2 : Int32), σ) else if x3 = (-9 : Int32) then f_TF_see_37 x1 x2 x3 σ else (f_TF_hasNode x3 σ).bind fun r28 => if r28 = 0 then some ((-2 : Int32), σ) else f_TF_see_37 x1 x2 x3 σ
def f_TF_unsee  (σ : MT) : Option (Int32 × MT) :=
  some (σ.1 34 3, sI σ 34 3 (0 : Int32))
def f_Sg_contradict_69 (K3 : Nat → Int32 → Int32 → Int32 → MT → Option Int32) (k1 : Nat) (x2 : Int32) (x3 : Int32) (x4 : Int32) (σ : MT) : Option Int32 :=
  K3 k1 x2 x3 (x4 + (1 : Int32)) σ
def f_Sg_contradict_39 (K3 : Nat → Int32 → Int32 → Int32 → MT → Option Int32) (k1 : Nat) (x2 : Int32) (x3 : Int32) (x4 : Int32) (xs0 : Int32) (σ : MT) : Option Int32 :=
  if xs0 = 0 then f_Sg_contradict_69 K3 k1 x2 x3 x4 σ else if inb x4 6 = true then (f_St_shownRoot k1 (σ.1 35 x4.toNatClampNeg) σ).bind fun r54 => if inb x4 6 = true then if r54 = (σ.1 37 x4.toNatClampNeg) then f_Sg_contradict_69 K3 k1 x2 x3 x4 σ else some (1 : Int32) else none else none
def f_Sg_contradict_38 (K3 : Nat → Int32 → Int32 → Int32 → MT → Option Int32) (k1 : Nat) (x2 : Int32) (x3 : Int32) (x4 : Int32) (σ : MT) : Option Int32 :=
  f_Sg_contradict_39 K3 k1 x2 x3 x4 (0 : Int32) σ
def f_Sg_contradict_3 : Nat → Nat → Int32 → Int32 → Int32 → MT → Option Int32
  | 0, _, _, _, _, _ => none
  | n + 1, k1, x2, x3, x4, σ =>
    if (σ.1 34 3) ≤ x4 then some (0 : Int32) else if inb x4 6 = true then if (σ.1 36 x4.toNatClampNeg) = x2 then if inb x4 6 = true then if x3 ≤ (σ.1 35 x4.toNatClampNeg) then f_Sg_contradict_38 (f_Sg_contradict_3 n) k1 x2 x3 x4 σ else f_Sg_contradict_39 (f_Sg_contradict_3 n) k1 x2 x3 x4 (1 : Int32) σ else none else f_Sg_contradict_38 (f_Sg_contradict_3 n) k1 x2 x3 x4 σ else none
def f_Sg_contradict (k1 : Nat) (x2 : Int32) (x3 : Int32) (σ : MT) : Option Int32 :=
  f_Sg_contradict_3 1100 k1 x2 x3 (0 : Int32) σ
def f_TF_failureExplains_26 : Nat → Int32 → MT → Option (Int32 × MT)
  | 0, _, _ => none
  | n + 1, x2, σ =>
    if (20 : Int32) < x2 then some ((1 : Int32), σ) else (f_Sg_contradict 83 x2 (σ.1 15 3) σ).bind fun r48 => if r48 = 0 then (f_Fl_pass 83 σ).bind fun r64 => f_TF_failureExplains_26 n (x2 + (1 : Int32)) r64 else some ((0 : Int32), σ)
def f_TF_failureExplains (x1 : Int32) (σ : MT) : Option (Int32 × MT) :=
  (f_St_copyFrom 83 61 σ).bind fun r8 => if inb x1 5 = true then f_TF_failureExplains_26 1100 (0 : Int32) (sI r8 (84 + 1 + 4 * x1.toNatClampNeg) 0 (0 : Int32)) else none
def f_TF_which_44 (K4 : Int32 → Int32 → MT → Option (Int32 × MT)) (x1 : Int32) (x2 : Int32) (σ : MT) : Option (Int32 × MT) :=
  K4 x1 (x2 + (1 : Int32)) σ
def f_TF_which_4 : Nat → Int32 → Int32 → MT → Option (Int32 × MT)
  | 0, _, _, _ => none
  | n + 1, x1, x2, σ =>
    if (σ.1 15 3) ≤ x2 then some (x1, σ) else if inb x2 5 = true then if (σ.1 (62 + 1 + 4 * x2.toNatClampNeg) 0) = 0 then f_TF_which_44 (f_TF_which_4 n) x1 x2 σ else (f_TF_failureExplains x2 σ).bind fun r32 => if r32.1 = 0 then f_TF_which_44 (f_TF_which_4 n) x1 x2 r32.2 else f_TF_which_44 (f_TF_which_4 n) (x1 ||| ((1 : Int32) <<< (x2 &&& 31))) x2 r32.2 else none
def f_TF_which  (σ : MT) : Option (Int32 × MT) :=
  f_TF_which_4 1100 (0 : Int32) (0 : Int32) σ
def f_St_switchOffAllBut_25 (K2 : Nat → Int32 → Int32 → MT → Option MT) (k0 : Nat) (x1 : Int32) (x2 : Int32) (σ : MT) : Option MT :=
  K2 k0 x1 (x2 + (1 : Int32)) σ
def f_St_switchOffAllBut_2 : Nat → Nat → Int32 → Int32 → MT → Option MT
  | 0, _, _, _, _ => none
  | n + 1, k0, x1, x2, σ =>
    if (5 : Int32) ≤ x2 then some σ else if ((x1 >>> (x2 &&& 31)) &&& (1 : Int32)) = 0 then if inb x2 5 = true then f_St_switchOffAllBut_25 (f_St_switchOffAllBut_2 n) k0 x1 x2 (sI σ ((k0 + 1) + 1 + 4 * x2.toNatClampNeg) 0 (0 : Int32)) else none else f_St_switchOffAllBut_25 (f_St_switchOffAllBut_2 n) k0 x1 x2 σ
def f_St_switchOffAllBut (k0 : Nat) (x1 : Int32) (σ : MT) : Option MT :=
  f_St_switchOffAllBut_2 1100 k0 x1 (0 : Int32) σ
def f_TF_worth (x1 : Int32) (σ : MT) : Option (Int32 × MT) :=
  (f_St_copyFrom 83 61 σ).bind fun r8 => (f_St_switchOffAllBut 83 x1 r8).bind fun r16 => (f_Fl_passMany 83 (12 : Int32) r16).bind fun r29 => (f_Fl_inTimeSet 83 r29).bind fun r40 => (f_In_bitCount r40).bind fun r43 => some (r43, r29)
def f_Mt_abs (y0 : Int64) : Option Int64 :=
  if 0 ≤ (lg_cmp y0 (0 : Int64)) then some y0 else some (-y0)
def f_TF_commonDivisor_9 : Nat → Int64 → Int64 → Int32 → Option Int64
  | 0, _, _, _ => none
  | n + 1, y4, y6, x8 =>
    if (1000 : Int32) ≤ x8 then some y4 else if (lg_cmp y6 (0 : Int64)) = 0 then some y4 else if ¬ y6 = 0 then f_TF_commonDivisor_9 n y6 (y4 - y4 / y6 * y6) (x8 + (1 : Int32)) else none
def f_TF_commonDivisor (y0 : Int64) (y2 : Int64) : Option Int64 :=
  f_TF_commonDivisor_9 1100 y0 y2 (0 : Int32)
def f_TF_partOfFraction_10 (y0 : Int64) (y2 : Int64) (ys0 : Int64) : Option Int32 :=
  (f_Mt_abs y0).bind fun r13 => (f_TF_commonDivisor r13 y2).bind fun r17 => if (lg_cmp r17 (1 : Int64)) ≤ 0 then some ys0.toInt32 else if ¬ r17 = 0 then some ((ys0 / r17).toInt32) else none
def f_TF_partOfFraction (y0 : Int64) (y2 : Int64) (x4 : Int32) : Option Int32 :=
  if x4 = 0 then f_TF_partOfFraction_10 y0 y2 y2 else f_TF_partOfFraction_10 y0 y2 y0
def f_TF_share_121 (K54 : Int32 → Int32 → Int32 → Int32 → Int64 → Int32 → MT → Option (Int32 × MT)) (x1 : Int32) (x2 : Int32) (x3 : Int32) (x4 : Int32) (y5 : Int64) (x7 : Int32) (σ : MT) : Option (Int32 × MT) :=
  K54 x1 x2 x3 x4 y5 (x7 + (1 : Int32)) σ
def f_TF_share_54 : Nat → Int32 → Int32 → Int32 → Int32 → Int64 → Int32 → MT → Option (Int32 × MT)
  | 0, _, _, _, _, _, _, _ => none
  | n + 1, x1, x2, x3, x4, y5, x7, σ =>
    if (32 : Int32) ≤ x7 then if inb (x4 + (1 : Int32)) 6 = true then (f_TF_partOfFraction y5 ((faV (x4 + (1 : Int32)).toNatClampNeg).toInt64) x2).bind fun r139 => some (r139, σ) else none else if (x7 &&& (x3 ^^^ (-1 : Int32))) = 0 then (f_In_bitCount x7).bind fun r72 => if inb r72 6 = true then if inb (x4 - r72) 6 = true then (f_TF_worth (x7 ||| ((1 : Int32) <<< (x1 &&& 31))) σ).bind fun r106 => (f_TF_worth x7 r106.2).bind fun r112 => f_TF_share_121 (f_TF_share_54 n) x1 x2 x3 x4 (y5 + ((((faV r72.toNatClampNeg) * (faV (x4 - r72).toNatClampNeg)) * (r106.1 - r112.1)).toInt64)) x7 r112.2 else none else none else f_TF_share_121 (f_TF_share_54 n) x1 x2 x3 x4 y5 x7 σ
def f_TF_share (x1 : Int32) (x2 : Int32) (σ : MT) : Option (Int32 × MT) :=
  (f_TF_hasNode x1 σ).bind fun r2 => if r2 = 0 then some ((-1 : Int32), σ) else if inb x1 5 = true then if (σ.1 (62 + 1 + 4 * x1.toNatClampNeg) 0) = 0 then some ((-3 : Int32), σ) else (f_St_onSet 61 σ).bind fun r32 => (f_In_bitCount (r32 &&& (((1 : Int32) <<< (x1 &&& 31)) ^^^ (-1 : Int32)))).bind fun r43 => f_TF_share_54 1100 x1 x2 (r32 &&& (((1 : Int32) <<< (x1 &&& 31)) ^^^ (-1 : Int32))) r43 (0 : Int64) (0 : Int32) σ else none
def f_TF_weightOfFailing_52 (K5 : Int32 → Int32 → Int64 → Int32 → MT → Option Int64) (x1 : Int32) (x2 : Int32) (y3 : Int64) (x5 : Int32) (σ : MT) : Option Int64 :=
  K5 x1 x2 y3 (x5 + (1 : Int32)) σ
def f_TF_weightOfFailing_50 (K5 : Int32 → Int32 → Int64 → Int32 → MT → Option Int64) (x1 : Int32) (x2 : Int32) (x5 : Int32) (ys0 : Int64) (ys1 : Int64) (σ : MT) : Option Int64 :=
  f_TF_weightOfFailing_52 K5 x1 x2 (ys1 * ys0) x5 σ
def f_TF_weightOfFailing_5 : Nat → Int32 → Int32 → Int64 → Int32 → MT → Option Int64
  | 0, _, _, _, _, _ => none
  | n + 1, x1, x2, y3, x5, σ =>
    if (σ.1 15 4) ≤ x5 then some y3 else (f_St_isDown 61 x5 σ).bind fun r23 => if r23 = 0 then if ((x1 >>> (x5 &&& 31)) &&& (1 : Int32)) = (1 : Int32) then f_TF_weightOfFailing_50 (f_TF_weightOfFailing_5 n) x1 x2 x5 x2.toInt64 y3 σ else f_TF_weightOfFailing_50 (f_TF_weightOfFailing_5 n) x1 x2 x5 (((10 : Int32) - x2).toInt64) y3 σ else f_TF_weightOfFailing_52 (f_TF_weightOfFailing_5 n) x1 x2 y3 x5 σ
def f_TF_weightOfFailing (x1 : Int32) (x2 : Int32) (σ : MT) : Option Int64 :=
  f_TF_weightOfFailing_5 1100 x1 x2 (1 : Int64) (0 : Int32) σ
def f_TF_unitesWithout (x1 : Int32) (x2 : Int32) (σ : MT) : Option (Int32 × MT) :=
  (f_St_copyFrom 83 61 σ).bind fun r8 => (f_Fl_passMany 83 x2 (sI r8 83 1 ((r8.1 83 1) ||| x1))).bind fun r33 => (f_St_isUnited 83 r33).bind fun r40 => if zbb r40 = true then some (r40, r33) else none
def f_TF_tenToTheUpLinks_32 (K4 : Int64 → Int32 → MT → Option Int64) (y1 : Int64) (x3 : Int32) (σ : MT) : Option Int64 :=
  K4 y1 (x3 + (1 : Int32)) σ
def f_TF_tenToTheUpLinks_4 : Nat → Int64 → Int32 → MT → Option Int64
  | 0, _, _, _ => none
  | n + 1, y1, x3, σ =>
    if (σ.1 15 4) ≤ x3 then some y1 else (f_St_isDown 61 x3 σ).bind fun r20 => if r20 = 0 then f_TF_tenToTheUpLinks_32 (f_TF_tenToTheUpLinks_4 n) (y1 * (10 : Int64)) x3 σ else f_TF_tenToTheUpLinks_32 (f_TF_tenToTheUpLinks_4 n) y1 x3 σ
def f_TF_tenToTheUpLinks  (σ : MT) : Option Int64 :=
  f_TF_tenToTheUpLinks_4 1100 (1 : Int64) (0 : Int32) σ
def f_TF_chance_89 (K29 : Int32 → Int32 → Int32 → Int64 → Int32 → MT → Option (Int32 × MT)) (x1 : Int32) (x2 : Int32) (x3 : Int32) (y4 : Int64) (x6 : Int32) (σ : MT) : Option (Int32 × MT) :=
  K29 x1 x2 x3 y4 (x6 + (1 : Int32)) σ
def f_TF_chance_29 : Nat → Int32 → Int32 → Int32 → Int64 → Int32 → MT → Option (Int32 × MT)
  | 0, _, _, _, _, _, _ => none
  | n + 1, x1, x2, x3, y4, x6, σ =>
    if ((1 : Int32) <<< ((σ.1 15 4) &&& 31)) ≤ x6 then (f_TF_tenToTheUpLinks σ).bind fun r98 => (f_TF_partOfFraction y4 r98 x3).bind fun r102 => some (r102, σ) else if (x6 &&& (σ.1 61 1)) = 0 then (f_TF_weightOfFailing x6 x2 σ).bind fun r60 => if (lg_cmp r60 (0 : Int64)) = 0 then f_TF_chance_89 (f_TF_chance_29 n) x1 x2 x3 y4 x6 σ else (f_TF_unitesWithout x6 x1 σ).bind fun r76 => if r76.1 = 0 then f_TF_chance_89 (f_TF_chance_29 n) x1 x2 x3 y4 x6 r76.2 else f_TF_chance_89 (f_TF_chance_29 n) x1 x2 x3 (y4 + r60) x6 r76.2 else f_TF_chance_89 (f_TF_chance_29 n) x1 x2 x3 y4 x6 σ
def f_TF_chance (x1 : Int32) (x2 : Int32) (x3 : Int32) (σ : MT) : Option (Int32 × MT) :=
  if x1 < 0 then some ((-2 : Int32), σ) else if (20 : Int32) < x1 then some ((-2 : Int32), σ) else if x2 < 0 then some ((-2 : Int32), σ) else if x2 ≤ (10 : Int32) then f_TF_chance_29 1100 x1 x2 x3 (0 : Int64) (0 : Int32) σ else some ((-2 : Int32), σ)
def f_TF_seed (y1 : Int64) (σ : MT) : Option (Int64 × MT) :=
  some (σ.2 0, sL σ 0 y1)
def f_TF_drawn_97 (K29 : Int32 → Int32 → Int32 → MT → Option (Int32 × MT)) (x1 : Int32) (x2 : Int32) (x3 : Int32) (σ : MT) : Option (Int32 × MT) :=
  (f_Fl_pass 83 σ).bind fun r105 => (f_Fl_inTimeSet 83 r105).bind fun r117 => (f_In_bitCount r117).bind fun r120 => K29 x1 (x2 + r120) (x3 + (1 : Int32)) r105
def f_TF_drawn_60 (K29 : Int32 → Int32 → Int32 → MT → Option (Int32 × MT)) (x1 : Int32) (x2 : Int32) (x3 : Int32) (x4 : Int32) (σ : MT) : Option (Int32 × MT) :=
  if (σ.1 15 4) ≤ 0 then f_TF_drawn_97 K29 x1 x2 x3 σ else if ((x4 / (16 : Int32)) - (x4 / (16 : Int32)) / (2 : Int32) * (2 : Int32)) = 0 then if ¬ (σ.1 15 4) = 0 then (f_St_flipLink 83 (x4 - x4 / (σ.1 15 4) * (σ.1 15 4)) σ).bind fun r94 => f_TF_drawn_97 K29 x1 x2 x3 r94 else none else f_TF_drawn_97 K29 x1 x2 x3 σ
def f_TF_drawn_50 (K29 : Int32 → Int32 → Int32 → MT → Option (Int32 × MT)) (x1 : Int32) (x2 : Int32) (x3 : Int32) (σ : MT) : Option (Int32 × MT) :=
  f_TF_drawn_60 K29 x1 x2 x3 ((((σ.2 0).toUInt64 >>> ((33 : Int32).toInt64.toUInt64 &&& Int64.toUInt64 63)).toInt64).toInt32) σ
def f_TF_drawn_29 : Nat → Int32 → Int32 → Int32 → MT → Option (Int32 × MT)
  | 0, _, _, _, _ => none
  | n + 1, x1, x2, x3, σ =>
    if x1 ≤ x3 then some (x2, σ) else f_TF_drawn_50 (f_TF_drawn_29 n) x1 x2 x3 (sL σ 0 (((σ.2 0) * (6364136223846793005 : Int64)) + (1442695040888963407 : Int64)))
def f_TF_drawn (x1 : Int32) (σ : MT) : Option (Int32 × MT) :=
  if x1 < (1 : Int32) then some ((-2 : Int32), σ) else if x1 ≤ (20 : Int32) then (f_St_copyFrom 83 61 σ).bind fun r22 => f_TF_drawn_29 1100 x1 (0 : Int32) (0 : Int32) r22 else some ((-2 : Int32), σ)
def f_TF_keep (x1 : Int32) (σ : MT) : Option (Int32 × MT) :=
  if x1 < 0 then some ((-1 : Int32), σ) else if x1 < (2 : Int32) then if inb x1 2 = true then (f_St_copyFrom (105 + 22 * x1.toNatClampNeg) 61 σ).bind fun r21 => if inb x1 2 = true then some ((sI r21 33 x1.toNatClampNeg (vp_nar .boolean (1 : Int32))).1 61 0, sI r21 33 x1.toNatClampNeg (vp_nar .boolean (1 : Int32))) else none else none else some ((-1 : Int32), σ)
def f_TF_again (x1 : Int32) (σ : MT) : Option (Int32 × MT) :=
  if x1 < 0 then some ((-1 : Int32), σ) else if x1 < (2 : Int32) then if inb x1 2 = true then if (σ.1 33 x1.toNatClampNeg) = 0 then some ((-3 : Int32), σ) else if inb x1 2 = true then (f_St_copyFrom 61 (105 + 22 * x1.toNatClampNeg) σ).bind fun r33 => (f_Jr_clear r33).bind fun r40 => some (r40.1 61 0, r40) else none else none else some ((-1 : Int32), σ)
def f_M_copy_2 : Nat → Nat → Nat → Int32 → MT → Option MT
  | 0, _, _, _, _ => none
  | n + 1, k0, k1, x2, σ =>
    if (103 : Int32) ≤ x2 then some σ else if inb x2 103 = true then if inb x2 103 = true then f_M_copy_2 n k0 k1 (x2 + (1 : Int32)) (sI σ k1 x2.toNatClampNeg (σ.1 k0 x2.toNatClampNeg)) else none else none
def f_M_copy (k0 : Nat) (k1 : Nat) (σ : MT) : Option MT :=
  f_M_copy_2 1100 k0 k1 (0 : Int32) σ
def f_M_in (y0 : Int64) (y2 : Int64) (y4 : Int64) : Option Int32 :=
  if (lg_cmp y0 y2) < 0 then some (0 : Int32) else if 0 < (lg_cmp y0 y4) then some (0 : Int32) else some (1 : Int32)
def f_M_has (x0 : Int32) (x1 : Int32) : Option Int32 :=
  if ((x0 >>> (x1 &&& 31)) &&& (1 : Int32)) = (1 : Int32) then some (1 : Int32) else some (0 : Int32)
def f_M_ones_4 : Nat → Int32 → Int32 → Int32 → Option Int32
  | 0, _, _, _ => none
  | n + 1, x0, x1, x2 =>
    if (7 : Int32) ≤ x2 then some x1 else f_M_ones_4 n x0 (x1 + ((x0 >>> (x2 &&& 31)) &&& (1 : Int32))) (x2 + (1 : Int32))
def f_M_ones (x0 : Int32) : Option Int32 :=
  f_M_ones_4 1100 x0 (0 : Int32) (0 : Int32)
def f_M_raised_4 : Nat → Int32 → Int32 → Int32 → Int32 → Option Int32
  | 0, _, _, _, _ => none
  | n + 1, x0, x1, x2, x3 =>
    if x1 ≤ x3 then some x2 else f_M_raised_4 n x0 x1 (x2 * x0) (x3 + (1 : Int32))
def f_M_raised (x0 : Int32) (x1 : Int32) : Option Int32 :=
  f_M_raised_4 1100 x0 x1 (1 : Int32) (0 : Int32)
def f_M_factorial_4 : Nat → Int32 → Int32 → Int32 → Option Int32
  | 0, _, _, _ => none
  | n + 1, x0, x1, x2 =>
    if x0 < x2 then some x1 else f_M_factorial_4 n x0 (x1 * x2) (x2 + (1 : Int32))
def f_M_factorial (x0 : Int32) : Option Int32 :=
  f_M_factorial_4 1100 x0 (1 : Int32) (2 : Int32)
def f_M_fraction_14 : Nat → Int32 → Int32 → Int32 → Int32 → Int32 → Option Int32
  | 0, _, _, _, _, _ => none
  | n + 1, x0, x1, x2, x3, x4 =>
    if x4 = 0 then if x2 = 0 then if ¬ x3 = 0 then some (x1 / x3) else none else if ¬ x3 = 0 then some (x0 / x3) else none else if ¬ x4 = 0 then f_M_fraction_14 n x0 x1 x2 x4 (x3 - x3 / x4 * x4) else none
def f_M_fraction_10 (x0 : Int32) (x1 : Int32) (x2 : Int32) (xs0 : Int32) : Option Int32 :=
  f_M_fraction_14 1100 x0 x1 x2 xs0 x1
def f_M_fraction (x0 : Int32) (x1 : Int32) (x2 : Int32) : Option Int32 :=
  if 0 ≤ x0 then f_M_fraction_10 x0 x1 x2 x0 else f_M_fraction_10 x0 x1 x2 (-x0)
def f_M_down (y0 : Int64) (y2 : Int64) : Option Int64 :=
  if ¬ y2 = 0 then if ¬ y2 = 0 then if 0 ≤ (lg_cmp (y0 - y0 / y2 * y2) (0 : Int64)) then some (y0 / y2) else some ((y0 / y2) - (1 : Int64)) else none else none
def f_M_round (y0 : Int64) : Option Int32 :=
  (f_M_down y0 (1024 : Int64)).bind fun r5 => some ((y0 - (r5 * (1024 : Int64))).toInt32)
def f_M_near (y0 : Int64) : Option Int32 :=
  (f_M_round y0).bind fun r1 => if r1 ≤ (511 : Int32) then some r1 else some (r1 - (1024 : Int32))
def f_M_isNode (x1 : Int32) (σ : MT) : Option Int32 :=
  (f_M_in x1.toInt64 (0 : Int64) (((σ.1 38 5) - (1 : Int32)).toInt64)).bind fun r10 => if zbb r10 = true then some r10 else none
def f_M_isLink (x1 : Int32) (σ : MT) : Option Int32 :=
  (f_M_in x1.toInt64 (0 : Int64) (((σ.1 38 7) - (1 : Int32)).toInt64)).bind fun r10 => if zbb r10 = true then some r10 else none
def f_M_write_47 (σ : MT) : Option (Int32 × MT) :=
  some (σ.1 38 1, σ)
def f_M_write (x1 : Int32) (σ : MT) : Option (Int32 × MT) :=
  (f_M_in x1.toInt64 (0 : Int64) (255 : Int64)).bind fun r6 => if r6 = 0 then some ((-2 : Int32), σ) else if (σ.1 38 1) = (60 : Int32) then some ((-4 : Int32), σ) else if inb (σ.1 38 1) 60 = true then f_M_write_47 (sI (sI σ 39 (σ.1 38 1).toNatClampNeg x1) 38 1 (((sI σ 39 (σ.1 38 1).toNatClampNeg x1).1 38 1) + (1 : Int32))) else none
def f_M_wipe  (σ : MT) : Option (Int32 × MT) :=
  some (σ.1 38 1, sI σ 38 1 (0 : Int32))
def f_M_areLinkedAsRead_67 (K5 : Int32 → Int32 → Int32 → Int32 → MT → Option Int32) (x1 : Int32) (x2 : Int32) (x4 : Int32) (xs0 : Int32) (σ : MT) : Option Int32 :=
  K5 x1 x2 xs0 (x4 + (1 : Int32)) σ
def f_M_areLinkedAsRead_62 (K5 : Int32 → Int32 → Int32 → Int32 → MT → Option Int32) (x1 : Int32) (x2 : Int32) (x4 : Int32) (σ : MT) : Option Int32 :=
  f_M_areLinkedAsRead_67 K5 x1 x2 x4 (1 : Int32) σ
def f_M_areLinkedAsRead_66 (K5 : Int32 → Int32 → Int32 → Int32 → MT → Option Int32) (x1 : Int32) (x2 : Int32) (x4 : Int32) (σ : MT) : Option Int32 :=
  f_M_areLinkedAsRead_67 K5 x1 x2 x4 (0 : Int32) σ
def f_M_areLinkedAsRead_40 (K5 : Int32 → Int32 → Int32 → Int32 → MT → Option Int32) (x1 : Int32) (x2 : Int32) (x4 : Int32) (σ : MT) : Option Int32 :=
  if inb x4 7 = true then if (σ.1 59 x4.toNatClampNeg) = x2 then if inb x4 7 = true then if (σ.1 60 x4.toNatClampNeg) = x1 then f_M_areLinkedAsRead_62 K5 x1 x2 x4 σ else f_M_areLinkedAsRead_66 K5 x1 x2 x4 σ else none else f_M_areLinkedAsRead_66 K5 x1 x2 x4 σ else none
def f_M_areLinkedAsRead_5 : Nat → Int32 → Int32 → Int32 → Int32 → MT → Option Int32
  | 0, _, _, _, _, _ => none
  | n + 1, x1, x2, x3, x4, σ =>
    if (σ.1 38 34) ≤ x4 then if zbb x3 = true then some x3 else none else if x3 = 0 then if inb x4 7 = true then if (σ.1 59 x4.toNatClampNeg) = x1 then if inb x4 7 = true then if (σ.1 60 x4.toNatClampNeg) = x2 then f_M_areLinkedAsRead_62 (f_M_areLinkedAsRead_5 n) x1 x2 x4 σ else f_M_areLinkedAsRead_40 (f_M_areLinkedAsRead_5 n) x1 x2 x4 σ else none else f_M_areLinkedAsRead_40 (f_M_areLinkedAsRead_5 n) x1 x2 x4 σ else none else f_M_areLinkedAsRead_62 (f_M_areLinkedAsRead_5 n) x1 x2 x4 σ
def f_M_areLinkedAsRead (x1 : Int32) (x2 : Int32) (σ : MT) : Option Int32 :=
  f_M_areLinkedAsRead_5 1100 x1 x2 (0 : Int32) (0 : Int32) σ
def f_M_isFullAsRead_35 (K4 : Int32 → Int32 → Int32 → MT → Option Int32) (x1 : Int32) (x3 : Int32) (xs0 : Int32) (σ : MT) : Option Int32 :=
  K4 x1 xs0 (x3 + (1 : Int32)) σ
def f_M_isFullAsRead_34 (K4 : Int32 → Int32 → Int32 → MT → Option Int32) (x1 : Int32) (x3 : Int32) (σ : MT) : Option Int32 :=
  f_M_isFullAsRead_35 K4 x1 x3 (0 : Int32) σ
def f_M_isFullAsRead_30 (K4 : Int32 → Int32 → Int32 → MT → Option Int32) (x1 : Int32) (x3 : Int32) (σ : MT) : Option Int32 :=
  f_M_isFullAsRead_35 K4 x1 x3 (1 : Int32) σ
def f_M_isFullAsRead_4 : Nat → Int32 → Int32 → Int32 → MT → Option Int32
  | 0, _, _, _, _ => none
  | n + 1, x1, x2, x3, σ =>
    if (σ.1 38 31) ≤ x3 then if zbb x2 = true then some x2 else none else if x2 = 0 then f_M_isFullAsRead_34 (f_M_isFullAsRead_4 n) x1 x3 σ else if x3 = x1 then f_M_isFullAsRead_30 (f_M_isFullAsRead_4 n) x1 x3 σ else (f_M_areLinkedAsRead x1 x3 σ).bind fun r24 => if r24 = 0 then f_M_isFullAsRead_34 (f_M_isFullAsRead_4 n) x1 x3 σ else f_M_isFullAsRead_30 (f_M_isFullAsRead_4 n) x1 x3 σ
def f_M_isFullAsRead (x1 : Int32) (σ : MT) : Option Int32 :=
  f_M_isFullAsRead_4 1100 x1 (1 : Int32) (0 : Int32) σ
def f_M_mayLink_29 (K4 : Int32 → Int32 → MT → Option Int32) (x2 : Int32) (xs0 : Int32) (σ : MT) : Option Int32 :=
  K4 xs0 (x2 + (1 : Int32)) σ
def f_M_mayLink_24 (K4 : Int32 → Int32 → MT → Option Int32) (x2 : Int32) (σ : MT) : Option Int32 :=
  f_M_mayLink_29 K4 x2 (1 : Int32) σ
def f_M_mayLink_4 : Nat → Int32 → Int32 → MT → Option Int32
  | 0, _, _, _ => none
  | n + 1, x1, x2, σ =>
    if (σ.1 38 31) ≤ x2 then if x1 = 0 then some (0 : Int32) else if (7 : Int32) ≤ (σ.1 38 34) then some (0 : Int32) else some (1 : Int32) else if x1 = 0 then (f_M_isFullAsRead x2 σ).bind fun r18 => if r18 = 0 then f_M_mayLink_24 (f_M_mayLink_4 n) x2 σ else f_M_mayLink_29 (f_M_mayLink_4 n) x2 (0 : Int32) σ else f_M_mayLink_24 (f_M_mayLink_4 n) x2 σ
def f_M_mayLink  (σ : MT) : Option Int32 :=
  f_M_mayLink_4 1100 (0 : Int32) (0 : Int32) σ
def f_M_takeHead_68 (x1 : Int32) (σ : MT) : Option (Int32 × MT) :=
  (f_M_in x1.toInt64 (0 : Int64) (9 : Int64)).bind fun r74 => if r74 = 0 then some ((0 : Int32), σ) else (f_M_in ((σ.1 38 28).toInt64) (8 : Int64) (32 : Int64)).bind fun r91 => if r91 = 0 then some ((0 : Int32), σ) else some ((1 : Int32), σ)
def f_M_takeHead_128 (x1 : Int32) (σ : MT) : Option (Int32 × MT) :=
  (f_M_in x1.toInt64 (0 : Int64) (9 : Int64)).bind fun r134 => if zbb r134 = true then some (r134, σ) else none
def f_M_takeHead (x1 : Int32) (σ : MT) : Option (Int32 × MT) :=
  if ((sI σ 38 38 ((σ.1 38 38) + (1 : Int32))).1 38 38) = 1 then (f_M_in x1.toInt64 (0 : Int64) (3 : Int64)).bind fun r51 => if zbb r51 = true then some (r51, sI (sI σ 38 38 ((σ.1 38 38) + (1 : Int32))) 38 28 x1) else none else if ((sI σ 38 38 ((σ.1 38 38) + (1 : Int32))).1 38 38) = 2 then f_M_takeHead_68 x1 (sI (sI σ 38 38 ((σ.1 38 38) + (1 : Int32))) 38 28 (((10 : Int32) * ((sI σ 38 38 ((σ.1 38 38) + (1 : Int32))).1 38 28)) + x1)) else if ((sI σ 38 38 ((σ.1 38 38) + (1 : Int32))).1 38 38) = 3 then (f_M_in x1.toInt64 (1 : Int64) (9 : Int64)).bind fun r114 => if zbb r114 = true then some (r114, sI (sI σ 38 38 ((σ.1 38 38) + (1 : Int32))) 38 29 x1) else none else f_M_takeHead_128 x1 (sI (sI (sI σ 38 38 ((σ.1 38 38) + (1 : Int32))) 38 30 x1) 38 37 (0 : Int32))
def f_M_takeOfNode_52 (x1 : Int32) (σ : MT) : Option (Int32 × MT) :=
  (f_M_in x1.toInt64 (0 : Int64) (9 : Int64)).bind fun r58 => if zbb r58 = true then some (r58, σ) else none
def f_M_takeOfNode_72 (x1 : Int32) (σ : MT) : Option (Int32 × MT) :=
  (f_M_in x1.toInt64 (0 : Int64) (6 : Int64)).bind fun r78 => if zbb r78 = true then some (r78, σ) else none
def f_M_takeOfNode_105 (x1 : Int32) (σ : MT) : Option (Int32 × MT) :=
  (f_M_in x1.toInt64 (0 : Int64) (9 : Int64)).bind fun r111 => if r111 = 0 then some ((0 : Int32), σ) else if inb (σ.1 38 31) 5 = true then if (σ.1 58 (σ.1 38 31).toNatClampNeg) ≤ (63 : Int32) then some ((1 : Int32), sI (sI σ 38 31 ((σ.1 38 31) + (1 : Int32))) 38 37 (0 : Int32)) else some ((0 : Int32), σ) else none
def f_M_takeOfNode (x1 : Int32) (σ : MT) : Option (Int32 × MT) :=
  if ((sI σ 38 38 ((σ.1 38 38) + (1 : Int32))).1 38 38) = 1 then if inb ((sI σ 38 38 ((σ.1 38 38) + (1 : Int32))).1 38 31) 5 = true then f_M_takeOfNode_52 x1 (sI (sI σ 38 38 ((σ.1 38 38) + (1 : Int32))) 57 ((sI σ 38 38 ((σ.1 38 38) + (1 : Int32))).1 38 31).toNatClampNeg (x1 - (4 : Int32))) else none else if ((sI σ 38 38 ((σ.1 38 38) + (1 : Int32))).1 38 38) = 2 then if inb ((sI σ 38 38 ((σ.1 38 38) + (1 : Int32))).1 38 31) 5 = true then f_M_takeOfNode_72 x1 (sI (sI σ 38 38 ((σ.1 38 38) + (1 : Int32))) 58 ((sI σ 38 38 ((σ.1 38 38) + (1 : Int32))).1 38 31).toNatClampNeg x1) else none else if inb ((sI σ 38 38 ((σ.1 38 38) + (1 : Int32))).1 38 31) 5 = true then if inb ((sI σ 38 38 ((σ.1 38 38) + (1 : Int32))).1 38 31) 5 = true then f_M_takeOfNode_105 x1 (sI (sI σ 38 38 ((σ.1 38 38) + (1 : Int32))) 58 ((sI σ 38 38 ((σ.1 38 38) + (1 : Int32))).1 38 31).toNatClampNeg (((10 : Int32) * ((sI σ 38 38 ((σ.1 38 38) + (1 : Int32))).1 58 ((sI σ 38 38 ((σ.1 38 38) + (1 : Int32))).1 38 31).toNatClampNeg)) + x1)) else none else none
def f_M_takeOfLink_115 (σ : MT) : Option (Int32 × MT) :=
  some ((1 : Int32), sI σ 38 34 ((σ.1 38 34) + (1 : Int32)))
def f_M_takeOfLink_68 (x1 : Int32) (x2 : Int32) (σ : MT) : Option (Int32 × MT) :=
  (f_M_in x1.toInt64 (0 : Int64) ((((sI σ 38 37 (0 : Int32)).1 38 31) - (1 : Int32)).toInt64)).bind fun r83 => if r83 = 0 then some ((0 : Int32), sI σ 38 37 (0 : Int32)) else if x1 = x2 then some ((0 : Int32), sI σ 38 37 (0 : Int32)) else (f_M_areLinkedAsRead x2 x1 (sI σ 38 37 (0 : Int32))).bind fun r97 => if r97 = 0 then if inb ((sI σ 38 37 (0 : Int32)).1 38 34) 7 = true then f_M_takeOfLink_115 (sI (sI σ 38 37 (0 : Int32)) 60 ((sI σ 38 37 (0 : Int32)).1 38 34).toNatClampNeg x1) else none else some ((0 : Int32), sI σ 38 37 (0 : Int32))
def f_M_takeOfLink_28 (x1 : Int32) (σ : MT) : Option (Int32 × MT) :=
  (f_M_in x1.toInt64 (0 : Int64) (((σ.1 38 31) - (1 : Int32)).toInt64)).bind fun r38 => if r38 = 0 then some ((0 : Int32), σ) else (f_M_isFullAsRead x1 σ).bind fun r46 => if r46 = 0 then some ((1 : Int32), σ) else some ((0 : Int32), σ)
def f_M_takeOfLink (x1 : Int32) (σ : MT) : Option (Int32 × MT) :=
  if ((sI σ 38 38 ((σ.1 38 38) + (1 : Int32))).1 38 38) = (1 : Int32) then if inb ((sI σ 38 38 ((σ.1 38 38) + (1 : Int32))).1 38 34) 7 = true then f_M_takeOfLink_28 x1 (sI (sI σ 38 38 ((σ.1 38 38) + (1 : Int32))) 59 ((sI σ 38 38 ((σ.1 38 38) + (1 : Int32))).1 38 34).toNatClampNeg x1) else none else if inb ((sI σ 38 38 ((σ.1 38 38) + (1 : Int32))).1 38 34) 7 = true then f_M_takeOfLink_68 x1 ((sI σ 38 38 ((σ.1 38 38) + (1 : Int32))).1 59 ((sI σ 38 38 ((σ.1 38 38) + (1 : Int32))).1 38 34).toNatClampNeg) (sI σ 38 38 ((σ.1 38 38) + (1 : Int32))) else none
def f_M_take_86 (x1 : Int32) (σ : MT) : Option (Int32 × MT) :=
  if x1 = (107 : Int32) then (f_M_mayLink σ).bind fun r93 => if r93 = 0 then some ((0 : Int32), σ) else some ((1 : Int32), σ) else some ((0 : Int32), σ)
def f_M_take (x1 : Int32) (σ : MT) : Option (Int32 × MT) :=
  if (σ.1 38 37) = 70 then (f_M_takeHead (x1 - (48 : Int32)) σ).bind fun r46 => if zbb r46.1 = true then some (r46.1, r46.2) else none else if (σ.1 38 37) = 107 then (f_M_takeOfLink (x1 - (48 : Int32)) σ).bind fun r58 => if zbb r58.1 = true then some (r58.1, r58.2) else none else if (σ.1 38 37) = 110 then (f_M_takeOfNode (x1 - (48 : Int32)) σ).bind fun r52 => if zbb r52.1 = true then some (r52.1, r52.2) else none else if x1 = (110 : Int32) then if ((sI (sI σ 38 37 x1) 38 38 (0 : Int32)).1 38 31) < (5 : Int32) then some ((1 : Int32), sI (sI σ 38 37 x1) 38 38 (0 : Int32)) else f_M_take_86 x1 (sI (sI σ 38 37 x1) 38 38 (0 : Int32)) else f_M_take_86 x1 (sI (sI σ 38 37 x1) 38 38 (0 : Int32))
def f_M_readText_43 : Nat → Int32 → MT → Option (Int32 × MT)
  | 0, _, _ => none
  | n + 1, x1, σ =>
    if (σ.1 38 1) ≤ x1 then if (σ.1 38 37) = 0 then some ((-9 : Int32), σ) else some (σ.1 38 1, σ) else if inb x1 60 = true then (f_M_take (σ.1 39 x1.toNatClampNeg) σ).bind fun r58 => if r58.1 = 0 then some (x1, r58.2) else f_M_readText_43 n (x1 + (1 : Int32)) r58.2 else none
def f_M_readText_21 (σ : MT) : Option (Int32 × MT) :=
  if (σ.1 38 1) = 0 then some ((0 : Int32), σ) else if inb (0 : Int32) 60 = true then if (σ.1 39 (0 : Int32).toNatClampNeg) = (70 : Int32) then f_M_readText_43 1100 (1 : Int32) σ else some ((0 : Int32), σ) else none
def f_M_readText  (σ : MT) : Option (Int32 × MT) :=
  f_M_readText_21 (sI (sI (sI (sI σ 38 31 (0 : Int32)) 38 34 (0 : Int32)) 38 37 (70 : Int32)) 38 38 (0 : Int32))
def f_M_fault  (σ : MT) : Option (Int32 × MT) :=
  (f_M_readText σ).bind fun r1 => some (r1.1, r1.2)
def f_M_first_43 (σ : MT) : Option MT :=
  some σ
def f_M_first_30 (k0 : Nat) (x2 : Int32) (σ : MT) : Option MT :=
  if inb (x2 + (5 : Int32)) 103 = true then if inb (x2 + (6 : Int32)) 103 = true then f_M_first_43 (sI (sI σ k0 (x2 + (5 : Int32)).toNatClampNeg (0 : Int32)) k0 (x2 + (6 : Int32)).toNatClampNeg (0 : Int32)) else none else none
def f_M_first_18 (k0 : Nat) (x2 : Int32) (σ : MT) : Option MT :=
  if inb (x2 + (3 : Int32)) 103 = true then if inb (x2 + (4 : Int32)) 103 = true then f_M_first_30 k0 x2 (sI (sI σ k0 (x2 + (3 : Int32)).toNatClampNeg (0 : Int32)) k0 (x2 + (4 : Int32)).toNatClampNeg (0 : Int32)) else none else none
def f_M_first (k0 : Nat) (x1 : Int32) (σ : MT) : Option MT :=
  if inb (((19 : Int32) * x1) + (0 : Int32)) 103 = true then if inb (((19 : Int32) * x1) + (2 : Int32)) 103 = true then f_M_first_18 k0 ((19 : Int32) * x1) (sI (sI σ k0 (((19 : Int32) * x1) + (0 : Int32)).toNatClampNeg (1 : Int32)) k0 (((19 : Int32) * x1) + (2 : Int32)).toNatClampNeg (-9 : Int32)) else none else none
def f_M_net_87 (K54 : Int32 → MT → Option (Int32 × MT)) (x1 : Int32) (σ : MT) : Option (Int32 × MT) :=
  if inb x1 5 = true then if inb x1 5 = true then K54 (x1 + (1 : Int32)) (sI σ 40 x1.toNatClampNeg (σ.1 58 x1.toNatClampNeg)) else none else none
def f_M_net_54 (K107 : Int32 → MT → Option (Int32 × MT)) : Nat → Int32 → MT → Option (Int32 × MT)
  | 0, _, _ => none
  | n + 1, x1, σ =>
    if (σ.1 38 5) ≤ x1 then K107 (0 : Int32) σ else (f_M_first 43 x1 σ).bind fun r67 => if inb x1 5 = true then if inb (((19 : Int32) * x1) + (1 : Int32)) 103 = true then f_M_net_87 (f_M_net_54 K107 n) x1 (sI r67 43 (((19 : Int32) * x1) + (1 : Int32)).toNatClampNeg (r67.1 57 x1.toNatClampNeg)) else none else none
def f_M_net_170 (K107 : Int32 → MT → Option (Int32 × MT)) (x1 : Int32) (xs0 : Int32) (xs1 : Int32) (σ : MT) : Option (Int32 × MT) :=
  if inb xs1 7 = true then K107 (x1 + (1 : Int32)) (sI σ 42 xs1.toNatClampNeg xs0) else none
def f_M_net_146 (K107 : Int32 → MT → Option (Int32 × MT)) (x1 : Int32) (xs0 : Int32) (xs1 : Int32) (σ : MT) : Option (Int32 × MT) :=
  if inb xs1 7 = true then if ((sI σ 41 xs1.toNatClampNeg xs0).1 38 7) ≤ x1 then f_M_net_170 K107 x1 (0 : Int32) x1 (sI σ 41 xs1.toNatClampNeg xs0) else if inb x1 7 = true then f_M_net_170 K107 x1 ((sI σ 41 xs1.toNatClampNeg xs0).1 60 x1.toNatClampNeg) x1 (sI σ 41 xs1.toNatClampNeg xs0) else none else none
def f_M_net_107 : Nat → Int32 → MT → Option (Int32 × MT)
  | 0, _, _ => none
  | n + 1, x1, σ =>
    if (7 : Int32) ≤ x1 then if inb (102 : Int32) 103 = true then if inb (0 : Int32) 2 = true then if inb (1 : Int32) 2 = true then some ((sI (sI (sI (sI σ 43 (102 : Int32).toNatClampNeg (0 : Int32)) 38 13 (0 : Int32)) 47 (0 : Int32).toNatClampNeg (vp_nar .boolean (0 : Int32))) 47 (1 : Int32).toNatClampNeg (vp_nar .boolean (0 : Int32))).1 38 5, sI (sI (sI (sI σ 43 (102 : Int32).toNatClampNeg (0 : Int32)) 38 13 (0 : Int32)) 47 (0 : Int32).toNatClampNeg (vp_nar .boolean (0 : Int32))) 47 (1 : Int32).toNatClampNeg (vp_nar .boolean (0 : Int32))) else none else none else none else if inb ((95 : Int32) + x1) 103 = true then if ((sI σ 43 ((95 : Int32) + x1).toNatClampNeg (0 : Int32)).1 38 7) ≤ x1 then f_M_net_146 (f_M_net_107 n) x1 (0 : Int32) x1 (sI σ 43 ((95 : Int32) + x1).toNatClampNeg (0 : Int32)) else if inb x1 7 = true then f_M_net_146 (f_M_net_107 n) x1 ((sI σ 43 ((95 : Int32) + x1).toNatClampNeg (0 : Int32)).1 59 x1.toNatClampNeg) x1 (sI σ 43 ((95 : Int32) + x1).toNatClampNeg (0 : Int32)) else none else none
def f_M_net_52 (σ : MT) : Option (Int32 × MT) :=
  f_M_net_54 (f_M_net_107 1100) 1100 (0 : Int32) σ
def f_M_net_28 (σ : MT) : Option (Int32 × MT) :=
  f_M_net_52 (sI (sI (sI σ 38 4 (σ.1 38 30)) 38 5 ((sI σ 38 4 (σ.1 38 30)).1 38 31)) 38 7 ((sI (sI σ 38 4 (σ.1 38 30)) 38 5 ((sI σ 38 4 (σ.1 38 30)).1 38 31)).1 38 34))
def f_M_net  (σ : MT) : Option (Int32 × MT) :=
  (f_M_readText σ).bind fun r1 => if r1.1 = (-9 : Int32) then f_M_net_28 (sI (sI r1.2 38 2 (r1.2.1 38 28)) 38 3 ((sI r1.2 38 2 (r1.2.1 38 28)).1 38 29)) else some ((-3 : Int32), r1.2)
def f_M_clockOf (k1 : Nat) (x2 : Int32) (σ : MT) : Option Int32 :=
  if inb (102 : Int32) 103 = true then if inb x2 5 = true then if inb (((19 : Int32) * x2) + (1 : Int32)) 103 = true then (f_M_down (((σ.1 k1 (102 : Int32).toNatClampNeg).toInt64) * ((σ.1 k1 (((19 : Int32) * x2) + (1 : Int32)).toNatClampNeg).toInt64)) (64 : Int64)).bind fun r33 => (f_M_round ((((16 : Int64) * ((σ.1 40 x2.toNatClampNeg).toInt64)) + ((σ.1 k1 (102 : Int32).toNatClampNeg).toInt64)) + r33)).bind fun r37 => some r37 else none else none else none
def f_M_estimate_86 (K275 : Int32 → Int32 → Int32 → Int64 → MT → Option Int32) : Nat → Nat → Int32 → Int32 → Int32 → Int32 → Int32 → Int64 → Int64 → Int64 → Int64 → Int32 → MT → Option Int32
  | 0, _, _, _, _, _, _, _, _, _, _, _, _ => none
  | n + 1, k1, x3, x4, x5, x6, x7, y8, y10, y12, y14, x16, σ =>
    if x5 ≤ x16 then if (lg_cmp ((x5.toInt64 * y14) - (y8 * y8)) (0 : Int64)) = 0 then (f_M_down y10 x5.toInt64).bind fun r231 => K275 x4 x6 x7 r231 σ else (f_M_near ((x4 - x6).toInt64)).bind fun r260 => (f_M_down (((y10 * ((x5.toInt64 * y14) - (y8 * y8))) - (((x5.toInt64 * y12) - (y8 * y10)) * y8)) + ((x5.toInt64 * ((x5.toInt64 * y12) - (y8 * y10))) * r260.toInt64)) (x5.toInt64 * ((x5.toInt64 * y14) - (y8 * y8)))).bind fun r272 => K275 x4 x6 x7 r272 σ else if inb ((x3 + (7 : Int32)) + ((3 : Int32) * x16)) 103 = true then if inb (((x3 + (7 : Int32)) + ((3 : Int32) * x16)) + (1 : Int32)) 103 = true then (f_M_near (((σ.1 k1 ((x3 + (7 : Int32)) + ((3 : Int32) * x16)).toNatClampNeg) - x6).toInt64)).bind fun r127 => (f_M_near ((((σ.1 k1 (((x3 + (7 : Int32)) + ((3 : Int32) * x16)) + (1 : Int32)).toNatClampNeg) - (σ.1 k1 ((x3 + (7 : Int32)) + ((3 : Int32) * x16)).toNatClampNeg)) - (x7 - x6)).toInt64)).bind fun r145 => f_M_estimate_86 K275 n k1 x3 x4 x5 x6 x7 (y8 + r127.toInt64) (y10 + r145.toInt64) (y12 + (r127.toInt64 * r145.toInt64)) (y14 + (r127.toInt64 * r127.toInt64)) (x16 + (1 : Int32)) σ else none else none
def f_M_estimate_275 (x4 : Int32) (x6 : Int32) (x7 : Int32) (ys0 : Int64) (σ : MT) : Option Int32 :=
  (f_M_round ((((x4 + x7) - x6).toInt64) + ys0)).bind fun r289 => some r289
def f_M_estimate_56 (k1 : Nat) (x3 : Int32) (x4 : Int32) (x5 : Int32) (x6 : Int32) (σ : MT) : Option Int32 :=
  if inb (((x3 + (7 : Int32)) + ((3 : Int32) * x5)) - (2 : Int32)) 103 = true then f_M_estimate_86 f_M_estimate_275 1100 k1 x3 x4 x5 x6 (σ.1 k1 (((x3 + (7 : Int32)) + ((3 : Int32) * x5)) - (2 : Int32)).toNatClampNeg) (0 : Int64) (0 : Int64) (0 : Int64) (0 : Int64) (0 : Int32) σ else none
def f_M_estimate (k1 : Nat) (x2 : Int32) (σ : MT) : Option Int32 :=
  (f_M_clockOf k1 x2 σ).bind fun r8 => if inb (((19 : Int32) * x2) + (2 : Int32)) 103 = true then if (σ.1 k1 (((19 : Int32) * x2) + (2 : Int32)).toNatClampNeg) = x2 then some r8 else if inb (((19 : Int32) * x2) + (6 : Int32)) 103 = true then if (σ.1 k1 (((19 : Int32) * x2) + (6 : Int32)).toNatClampNeg) = 0 then some (-9 : Int32) else if inb (((((19 : Int32) * x2) + (7 : Int32)) + ((3 : Int32) * (σ.1 k1 (((19 : Int32) * x2) + (6 : Int32)).toNatClampNeg))) - (3 : Int32)) 103 = true then f_M_estimate_56 k1 ((19 : Int32) * x2) r8 (σ.1 k1 (((19 : Int32) * x2) + (6 : Int32)).toNatClampNeg) (σ.1 k1 (((((19 : Int32) * x2) + (7 : Int32)) + ((3 : Int32) * (σ.1 k1 (((19 : Int32) * x2) + (6 : Int32)).toNatClampNeg))) - (3 : Int32)).toNatClampNeg) σ else none else none else none
def f_M_dropOld_112 (K11 : Nat → Int32 → Int32 → Int32 → MT → Option MT) (k1 : Nat) (x3 : Int32) (x4 : Int32) (x5 : Int32) (σ : MT) : Option MT :=
  K11 k1 x3 x4 (x5 + (1 : Int32)) σ
def f_M_dropOld_109 (K11 : Nat → Int32 → Int32 → Int32 → MT → Option MT) (k1 : Nat) (x3 : Int32) (x4 : Int32) (x5 : Int32) (σ : MT) : Option MT :=
  f_M_dropOld_112 K11 k1 x3 (x4 + (1 : Int32)) x5 σ
def f_M_dropOld_94 (K11 : Nat → Int32 → Int32 → Int32 → MT → Option MT) (k1 : Nat) (x3 : Int32) (x4 : Int32) (x5 : Int32) (x6 : Int32) (σ : MT) : Option MT :=
  if inb (((x3 + (7 : Int32)) + ((3 : Int32) * x4)) + (2 : Int32)) 103 = true then f_M_dropOld_109 K11 k1 x3 x4 x5 (sI σ k1 (((x3 + (7 : Int32)) + ((3 : Int32) * x4)) + (2 : Int32)).toNatClampNeg x6) else none
def f_M_dropOld_68 (K11 : Nat → Int32 → Int32 → Int32 → MT → Option MT) (k1 : Nat) (x3 : Int32) (x4 : Int32) (x5 : Int32) (x6 : Int32) (σ : MT) : Option MT :=
  if inb (((x3 + (7 : Int32)) + ((3 : Int32) * x5)) + (1 : Int32)) 103 = true then if inb (((x3 + (7 : Int32)) + ((3 : Int32) * x4)) + (1 : Int32)) 103 = true then f_M_dropOld_94 K11 k1 x3 x4 x5 x6 (sI σ k1 (((x3 + (7 : Int32)) + ((3 : Int32) * x4)) + (1 : Int32)).toNatClampNeg (σ.1 k1 (((x3 + (7 : Int32)) + ((3 : Int32) * x5)) + (1 : Int32)).toNatClampNeg)) else none else none
def f_M_dropOld_39 (K11 : Nat → Int32 → Int32 → Int32 → MT → Option MT) (k1 : Nat) (x3 : Int32) (x4 : Int32) (x5 : Int32) (x6 : Int32) (σ : MT) : Option MT :=
  if (9 : Int32) < x6 then f_M_dropOld_112 K11 k1 x3 x4 x5 σ else if inb ((x3 + (7 : Int32)) + ((3 : Int32) * x5)) 103 = true then if inb ((x3 + (7 : Int32)) + ((3 : Int32) * x4)) 103 = true then f_M_dropOld_68 K11 k1 x3 x4 x5 x6 (sI σ k1 ((x3 + (7 : Int32)) + ((3 : Int32) * x4)).toNatClampNeg (σ.1 k1 ((x3 + (7 : Int32)) + ((3 : Int32) * x5)).toNatClampNeg)) else none else none
def f_M_dropOld_11 : Nat → Nat → Int32 → Int32 → Int32 → MT → Option MT
  | 0, _, _, _, _, _ => none
  | n + 1, k1, x3, x4, x5, σ =>
    if inb (x3 + (6 : Int32)) 103 = true then if (σ.1 k1 (x3 + (6 : Int32)).toNatClampNeg) ≤ x5 then if inb (x3 + (6 : Int32)) 103 = true then some (sI σ k1 (x3 + (6 : Int32)).toNatClampNeg x4) else none else if inb (((x3 + (7 : Int32)) + ((3 : Int32) * x5)) + (2 : Int32)) 103 = true then f_M_dropOld_39 (f_M_dropOld_11 n) k1 x3 x4 x5 ((σ.1 k1 (((x3 + (7 : Int32)) + ((3 : Int32) * x5)) + (2 : Int32)).toNatClampNeg) + (1 : Int32)) σ else none else none
def f_M_dropOld (k1 : Nat) (x2 : Int32) (σ : MT) : Option MT :=
  f_M_dropOld_11 1100 k1 ((19 : Int32) * x2) (0 : Int32) (0 : Int32) σ
def f_M_goOne_140 (k1 : Nat) (x3 : Int32) (σ : MT) : Option MT :=
  if inb (x3 + (5 : Int32)) 103 = true then some (sI σ k1 (x3 + (5 : Int32)).toNatClampNeg (σ.1 38 4)) else none
def f_M_goOne_127 (k1 : Nat) (x3 : Int32) (σ : MT) : Option MT :=
  if inb (x3 + (6 : Int32)) 103 = true then if inb (x3 + (4 : Int32)) 103 = true then f_M_goOne_140 k1 x3 (sI (sI σ k1 (x3 + (6 : Int32)).toNatClampNeg (0 : Int32)) k1 (x3 + (4 : Int32)).toNatClampNeg (0 : Int32)) else none else none
def f_M_goOne_112 (k1 : Nat) (x3 : Int32) (σ : MT) : Option MT :=
  if inb (x3 + (3 : Int32)) 103 = true then if inb (x3 + (3 : Int32)) 103 = true then f_M_goOne_127 k1 x3 (sI σ k1 (x3 + (3 : Int32)).toNatClampNeg (((σ.1 k1 (x3 + (3 : Int32)).toNatClampNeg) + (1 : Int32)) - ((σ.1 k1 (x3 + (3 : Int32)).toNatClampNeg) + (1 : Int32)) / (64 : Int32) * (64 : Int32))) else none else none
def f_M_goOne_85 (k1 : Nat) (x3 : Int32) (σ : MT) : Option MT :=
  if inb (x3 + (4 : Int32)) 103 = true then some (sI σ k1 (x3 + (4 : Int32)).toNatClampNeg (0 : Int32)) else none
def f_M_goOne_59 (k1 : Nat) (x2 : Int32) (x3 : Int32) (xs0 : Int32) (xs1 : Int32) (xs2 : Int32) (ks3 : Nat) (σ : MT) : Option MT :=
  if inb xs2 103 = true then if inb x2 5 = true then if ((sI σ ks3 xs2.toNatClampNeg (xs1 - xs0)).1 55 x2.toNatClampNeg) = 0 then if inb (x3 + (4 : Int32)) 103 = true then if ((sI σ ks3 xs2.toNatClampNeg (xs1 - xs0)).1 k1 (x3 + (4 : Int32)).toNatClampNeg) ≤ ((sI σ ks3 xs2.toNatClampNeg (xs1 - xs0)).1 38 3) then some (sI σ ks3 xs2.toNatClampNeg (xs1 - xs0)) else if inb (x3 + (2 : Int32)) 103 = true then f_M_goOne_112 k1 x3 (sI (sI σ ks3 xs2.toNatClampNeg (xs1 - xs0)) k1 (x3 + (2 : Int32)).toNatClampNeg x2) else none else none else if inb (x3 + (3 : Int32)) 103 = true then if inb (x3 + (3 : Int32)) 103 = true then f_M_goOne_85 k1 x3 (sI (sI σ ks3 xs2.toNatClampNeg (xs1 - xs0)) k1 (x3 + (3 : Int32)).toNatClampNeg ((((sI σ ks3 xs2.toNatClampNeg (xs1 - xs0)).1 k1 (x3 + (3 : Int32)).toNatClampNeg) + (1 : Int32)) - (((sI σ ks3 xs2.toNatClampNeg (xs1 - xs0)).1 k1 (x3 + (3 : Int32)).toNatClampNeg) + (1 : Int32)) / (64 : Int32) * (64 : Int32))) else none else none else none else none
def f_M_goOne_40 (k1 : Nat) (x2 : Int32) (x3 : Int32) (σ : MT) : Option MT :=
  if inb (x3 + (5 : Int32)) 103 = true then if inb (x3 + (5 : Int32)) 103 = true then if (σ.1 k1 (x3 + (5 : Int32)).toNatClampNeg) ≤ 0 then f_M_goOne_59 k1 x2 x3 (0 : Int32) (σ.1 k1 (x3 + (5 : Int32)).toNatClampNeg) (x3 + (5 : Int32)) k1 σ else f_M_goOne_59 k1 x2 x3 (1 : Int32) (σ.1 k1 (x3 + (5 : Int32)).toNatClampNeg) (x3 + (5 : Int32)) k1 σ else none else none
def f_M_goOne_24 (k1 : Nat) (x2 : Int32) (x3 : Int32) (xs0 : Int32) (xs1 : Int32) (σ : MT) : Option MT :=
  if inb xs1 5 = true then (f_M_dropOld k1 x2 (sI σ 55 xs1.toNatClampNeg (vp_nar .boolean xs0))).bind fun r28 => if inb (x3 + (4 : Int32)) 103 = true then if inb (x3 + (4 : Int32)) 103 = true then f_M_goOne_40 k1 x2 x3 (sI r28 k1 (x3 + (4 : Int32)).toNatClampNeg ((r28.1 k1 (x3 + (4 : Int32)).toNatClampNeg) + (1 : Int32))) else none else none else none
def f_M_goOne (k1 : Nat) (x2 : Int32) (σ : MT) : Option MT :=
  if inb (((19 : Int32) * x2) + (2 : Int32)) 103 = true then if (σ.1 k1 (((19 : Int32) * x2) + (2 : Int32)).toNatClampNeg) = x2 then f_M_goOne_24 k1 x2 ((19 : Int32) * x2) (1 : Int32) x2 σ else f_M_goOne_24 k1 x2 ((19 : Int32) * x2) (0 : Int32) x2 σ else none
def f_M_laySent_88 (K2 : Nat → Int32 → MT → Option MT) (k1 : Nat) (x2 : Int32) (σ : MT) : Option MT :=
  K2 k1 (x2 + (1 : Int32)) σ
def f_M_laySent_65 (K2 : Nat → Int32 → MT → Option MT) (k1 : Nat) (x2 : Int32) (x3 : Int32) (σ : MT) : Option MT :=
  if inb (x3 + (3 : Int32)) 103 = true then if inb x2 5 = true then (f_M_estimate k1 x2 (sI σ 53 x2.toNatClampNeg (σ.1 k1 (x3 + (3 : Int32)).toNatClampNeg))).bind fun r84 => if inb x2 5 = true then f_M_laySent_88 K2 k1 x2 (sI (sI σ 53 x2.toNatClampNeg (σ.1 k1 (x3 + (3 : Int32)).toNatClampNeg)) 54 x2.toNatClampNeg r84) else none else none else none
def f_M_laySent_53 (K2 : Nat → Int32 → MT → Option MT) (k1 : Nat) (x2 : Int32) (x3 : Int32) (xs0 : Int32) (xs1 : Int32) (σ : MT) : Option MT :=
  if inb xs1 5 = true then if inb (x3 + (2 : Int32)) 103 = true then if inb x2 5 = true then f_M_laySent_65 K2 k1 x2 x3 (sI (sI σ 51 xs1.toNatClampNeg (vp_nar .boolean xs0)) 52 x2.toNatClampNeg ((sI σ 51 xs1.toNatClampNeg (vp_nar .boolean xs0)).1 k1 (x3 + (2 : Int32)).toNatClampNeg)) else none else none else none
def f_M_laySent_52 (K2 : Nat → Int32 → MT → Option MT) (k1 : Nat) (x2 : Int32) (x3 : Int32) (xs0 : Int32) (σ : MT) : Option MT :=
  f_M_laySent_53 K2 k1 x2 x3 (0 : Int32) xs0 σ
def f_M_laySent_48 (K2 : Nat → Int32 → MT → Option MT) (k1 : Nat) (x2 : Int32) (x3 : Int32) (xs0 : Int32) (σ : MT) : Option MT :=
  f_M_laySent_53 K2 k1 x2 x3 (1 : Int32) xs0 σ
def f_M_laySent_2 : Nat → Nat → Int32 → MT → Option MT
  | 0, _, _, _ => none
  | n + 1, k1, x2, σ =>
    if (σ.1 38 5) ≤ x2 then some σ else if inb (((19 : Int32) * x2) + (0 : Int32)) 103 = true then if (σ.1 k1 (((19 : Int32) * x2) + (0 : Int32)).toNatClampNeg) = (1 : Int32) then if inb (((19 : Int32) * x2) + (2 : Int32)) 103 = true then if (σ.1 k1 (((19 : Int32) * x2) + (2 : Int32)).toNatClampNeg) = x2 then f_M_laySent_48 (f_M_laySent_2 n) k1 x2 ((19 : Int32) * x2) x2 σ else if inb (((19 : Int32) * x2) + (6 : Int32)) 103 = true then if (σ.1 k1 (((19 : Int32) * x2) + (6 : Int32)).toNatClampNeg) ≤ (1 : Int32) then f_M_laySent_52 (f_M_laySent_2 n) k1 x2 ((19 : Int32) * x2) x2 σ else f_M_laySent_48 (f_M_laySent_2 n) k1 x2 ((19 : Int32) * x2) x2 σ else none else none else f_M_laySent_52 (f_M_laySent_2 n) k1 x2 ((19 : Int32) * x2) x2 σ else none
def f_M_laySent (k1 : Nat) (σ : MT) : Option MT :=
  f_M_laySent_2 1100 k1 (0 : Int32) σ
def f_M_areBeside_91 (K6 : Nat → Int32 → Int32 → Int32 → Int32 → MT → Option Int32) (k1 : Nat) (x2 : Int32) (x3 : Int32) (x5 : Int32) (xs0 : Int32) (σ : MT) : Option Int32 :=
  K6 k1 x2 x3 xs0 (x5 + (1 : Int32)) σ
def f_M_areBeside_86 (K6 : Nat → Int32 → Int32 → Int32 → Int32 → MT → Option Int32) (k1 : Nat) (x2 : Int32) (x3 : Int32) (x5 : Int32) (σ : MT) : Option Int32 :=
  f_M_areBeside_91 K6 k1 x2 x3 x5 (1 : Int32) σ
def f_M_areBeside_90 (K6 : Nat → Int32 → Int32 → Int32 → Int32 → MT → Option Int32) (k1 : Nat) (x2 : Int32) (x3 : Int32) (x5 : Int32) (σ : MT) : Option Int32 :=
  f_M_areBeside_91 K6 k1 x2 x3 x5 (0 : Int32) σ
def f_M_areBeside_64 (K6 : Nat → Int32 → Int32 → Int32 → Int32 → MT → Option Int32) (k1 : Nat) (x2 : Int32) (x3 : Int32) (x4 : Int32) (x5 : Int32) (xs0 : Int32) (σ : MT) : Option Int32 :=
  if x4 = 0 then if xs0 = 0 then f_M_areBeside_90 K6 k1 x2 x3 x5 σ else if inb ((95 : Int32) + x5) 103 = true then if (σ.1 k1 ((95 : Int32) + x5).toNatClampNeg) = 0 then f_M_areBeside_86 K6 k1 x2 x3 x5 σ else f_M_areBeside_90 K6 k1 x2 x3 x5 σ else none else f_M_areBeside_86 K6 k1 x2 x3 x5 σ
def f_M_areBeside_63 (K6 : Nat → Int32 → Int32 → Int32 → Int32 → MT → Option Int32) (k1 : Nat) (x2 : Int32) (x3 : Int32) (x4 : Int32) (x5 : Int32) (σ : MT) : Option Int32 :=
  f_M_areBeside_64 K6 k1 x2 x3 x4 x5 (0 : Int32) σ
def f_M_areBeside_59 (K6 : Nat → Int32 → Int32 → Int32 → Int32 → MT → Option Int32) (k1 : Nat) (x2 : Int32) (x3 : Int32) (x4 : Int32) (x5 : Int32) (σ : MT) : Option Int32 :=
  f_M_areBeside_64 K6 k1 x2 x3 x4 x5 (1 : Int32) σ
def f_M_areBeside_37 (K6 : Nat → Int32 → Int32 → Int32 → Int32 → MT → Option Int32) (k1 : Nat) (x2 : Int32) (x3 : Int32) (x4 : Int32) (x5 : Int32) (σ : MT) : Option Int32 :=
  if inb x5 7 = true then if (σ.1 41 x5.toNatClampNeg) = x3 then if inb x5 7 = true then if (σ.1 42 x5.toNatClampNeg) = x2 then f_M_areBeside_59 K6 k1 x2 x3 x4 x5 σ else f_M_areBeside_63 K6 k1 x2 x3 x4 x5 σ else none else f_M_areBeside_63 K6 k1 x2 x3 x4 x5 σ else none
def f_M_areBeside_6 : Nat → Nat → Int32 → Int32 → Int32 → Int32 → MT → Option Int32
  | 0, _, _, _, _, _, _ => none
  | n + 1, k1, x2, x3, x4, x5, σ =>
    if (σ.1 38 7) ≤ x5 then if zbb x4 = true then some x4 else none else if inb x5 7 = true then if (σ.1 41 x5.toNatClampNeg) = x2 then if inb x5 7 = true then if (σ.1 42 x5.toNatClampNeg) = x3 then f_M_areBeside_59 (f_M_areBeside_6 n) k1 x2 x3 x4 x5 σ else f_M_areBeside_37 (f_M_areBeside_6 n) k1 x2 x3 x4 x5 σ else none else f_M_areBeside_37 (f_M_areBeside_6 n) k1 x2 x3 x4 x5 σ else none
def f_M_areBeside (k1 : Nat) (x2 : Int32) (x3 : Int32) (σ : MT) : Option Int32 :=
  f_M_areBeside_6 1100 k1 x2 x3 (0 : Int32) (0 : Int32) σ
def f_M_stampOn_118 (σ : MT) : Option MT :=
  some σ
def f_M_stampOn_107 (k1 : Nat) (x4 : Int32) (σ : MT) : Option MT :=
  if inb (x4 + (6 : Int32)) 103 = true then if inb (x4 + (6 : Int32)) 103 = true then f_M_stampOn_118 (sI σ k1 (x4 + (6 : Int32)).toNatClampNeg ((σ.1 k1 (x4 + (6 : Int32)).toNatClampNeg) + (1 : Int32))) else none else none
def f_M_stampOn_93 (k1 : Nat) (x3 : Int32) (x4 : Int32) (x5 : Int32) (σ : MT) : Option MT :=
  if inb (x5 + (1 : Int32)) 103 = true then if inb (x5 + (2 : Int32)) 103 = true then f_M_stampOn_107 k1 x4 (sI (sI σ k1 (x5 + (1 : Int32)).toNatClampNeg x3) k1 (x5 + (2 : Int32)).toNatClampNeg (0 : Int32)) else none else none
def f_M_stampOn_66 (k1 : Nat) (x2 : Int32) (x3 : Int32) (x4 : Int32) (σ : MT) : Option MT :=
  if inb (x4 + (6 : Int32)) 103 = true then (f_M_clockOf k1 x2 σ).bind fun r89 => if inb ((x4 + (7 : Int32)) + ((3 : Int32) * (σ.1 k1 (x4 + (6 : Int32)).toNatClampNeg))) 103 = true then f_M_stampOn_93 k1 x3 x4 ((x4 + (7 : Int32)) + ((3 : Int32) * (σ.1 k1 (x4 + (6 : Int32)).toNatClampNeg))) (sI σ k1 ((x4 + (7 : Int32)) + ((3 : Int32) * (σ.1 k1 (x4 + (6 : Int32)).toNatClampNeg))).toNatClampNeg r89) else none else none
def f_M_stampOn_49 (K20 : Nat → Int32 → Int32 → Int32 → Int32 → MT → Option MT) (k1 : Nat) (x2 : Int32) (x3 : Int32) (x4 : Int32) (x5 : Int32) (σ : MT) : Option MT :=
  K20 k1 x2 x3 x4 (x5 + (1 : Int32)) σ
def f_M_stampOn_20 (K66 : Nat → Int32 → Int32 → Int32 → MT → Option MT) : Nat → Nat → Int32 → Int32 → Int32 → Int32 → MT → Option MT
  | 0, _, _, _, _, _, _ => none
  | n + 1, k1, x2, x3, x4, x5, σ =>
    if (9 : Int32) ≤ x5 then if inb (x4 + (6 : Int32)) 103 = true then if inb (x4 + (6 : Int32)) 103 = true then K66 k1 x2 x3 x4 (sI σ k1 (x4 + (6 : Int32)).toNatClampNeg ((σ.1 k1 (x4 + (6 : Int32)).toNatClampNeg) - (1 : Int32))) else none else none else if inb (((x4 + (7 : Int32)) + x5) + (3 : Int32)) 103 = true then if inb ((x4 + (7 : Int32)) + x5) 103 = true then f_M_stampOn_49 (f_M_stampOn_20 K66 n) k1 x2 x3 x4 x5 (sI σ k1 ((x4 + (7 : Int32)) + x5).toNatClampNeg (σ.1 k1 (((x4 + (7 : Int32)) + x5) + (3 : Int32)).toNatClampNeg)) else none else none
def f_M_stampOn (k1 : Nat) (x2 : Int32) (x3 : Int32) (σ : MT) : Option MT :=
  if inb (((19 : Int32) * x2) + (6 : Int32)) 103 = true then if (σ.1 k1 (((19 : Int32) * x2) + (6 : Int32)).toNatClampNeg) = (4 : Int32) then f_M_stampOn_20 f_M_stampOn_66 1100 k1 x2 x3 ((19 : Int32) * x2) (0 : Int32) σ else f_M_stampOn_66 k1 x2 x3 ((19 : Int32) * x2) σ else none
def f_M_hear_163 (k1 : Nat) (x2 : Int32) (x3 : Int32) (σ : MT) : Option MT :=
  if inb x3 5 = true then (f_M_stampOn k1 x2 (σ.1 54 x3.toNatClampNeg) σ).bind fun r172 => some r172 else none
def f_M_hear_144 (k1 : Nat) (x2 : Int32) (x3 : Int32) (x4 : Int32) (σ : MT) : Option MT :=
  if inb x3 5 = true then if inb (x4 + (3 : Int32)) 103 = true then if inb (x4 + (4 : Int32)) 103 = true then f_M_hear_163 k1 x2 x3 (sI (sI σ k1 (x4 + (3 : Int32)).toNatClampNeg (σ.1 53 x3.toNatClampNeg)) k1 (x4 + (4 : Int32)).toNatClampNeg (0 : Int32)) else none else none else none
def f_M_hear_123 (k1 : Nat) (x2 : Int32) (x3 : Int32) (x4 : Int32) (x6 : Int32) (x7 : Int32) (σ : MT) : Option MT :=
  if x7 = 0 then f_M_hear_144 k1 x2 x3 x4 σ else if inb (x4 + (2 : Int32)) 103 = true then if inb (x4 + (6 : Int32)) 103 = true then f_M_hear_144 k1 x2 x3 x4 (sI (sI σ k1 (x4 + (2 : Int32)).toNatClampNeg x6) k1 (x4 + (6 : Int32)).toNatClampNeg (0 : Int32)) else none else none
def f_M_hear_110 (k1 : Nat) (x2 : Int32) (x3 : Int32) (x4 : Int32) (x6 : Int32) (x7 : Int32) (xs0 : Int32) (σ : MT) : Option MT :=
  if x7 = 0 then if xs0 = 0 then some σ else f_M_hear_123 k1 x2 x3 x4 x6 x7 σ else f_M_hear_123 k1 x2 x3 x4 x6 x7 σ
def f_M_hear_109 (k1 : Nat) (x2 : Int32) (x3 : Int32) (x4 : Int32) (x6 : Int32) (x7 : Int32) (σ : MT) : Option MT :=
  f_M_hear_110 k1 x2 x3 x4 x6 x7 (0 : Int32) σ
def f_M_hear_79 (k1 : Nat) (x2 : Int32) (x3 : Int32) (x4 : Int32) (x5 : Int32) (x6 : Int32) (x7 : Int32) (x8 : Int32) (σ : MT) : Option MT :=
  if x6 = x5 then if x6 = x2 then f_M_hear_109 k1 x2 x3 x4 x6 x7 σ else (f_M_in x8.toInt64 (1 : Int64) (31 : Int64)).bind fun r99 => if r99 = 0 then f_M_hear_109 k1 x2 x3 x4 x6 x7 σ else f_M_hear_110 k1 x2 x3 x4 x6 x7 (1 : Int32) σ else f_M_hear_109 k1 x2 x3 x4 x6 x7 σ
def f_M_hear_56 (k1 : Nat) (x2 : Int32) (x3 : Int32) (x4 : Int32) (x5 : Int32) (x6 : Int32) (xs0 : Int32) (σ : MT) : Option MT :=
  if inb x3 5 = true then if inb (x4 + (3 : Int32)) 103 = true then f_M_hear_79 k1 x2 x3 x4 x5 x6 xs0 ((((σ.1 53 x3.toNatClampNeg) - (σ.1 k1 (x4 + (3 : Int32)).toNatClampNeg)) + (64 : Int32)) - (((σ.1 53 x3.toNatClampNeg) - (σ.1 k1 (x4 + (3 : Int32)).toNatClampNeg)) + (64 : Int32)) / (64 : Int32) * (64 : Int32)) σ else none else none
def f_M_hear_51 (k1 : Nat) (x2 : Int32) (x3 : Int32) (x4 : Int32) (x5 : Int32) (x6 : Int32) (σ : MT) : Option MT :=
  f_M_hear_56 k1 x2 x3 x4 x5 x6 (1 : Int32) σ
def f_M_hear_55 (k1 : Nat) (x2 : Int32) (x3 : Int32) (x4 : Int32) (x5 : Int32) (x6 : Int32) (σ : MT) : Option MT :=
  f_M_hear_56 k1 x2 x3 x4 x5 x6 (0 : Int32) σ
def f_M_hear (k1 : Nat) (x2 : Int32) (x3 : Int32) (σ : MT) : Option MT :=
  if inb (((19 : Int32) * x2) + (2 : Int32)) 103 = true then if inb x3 5 = true then if (σ.1 k1 (((19 : Int32) * x2) + (2 : Int32)).toNatClampNeg) = (-9 : Int32) then f_M_hear_51 k1 x2 x3 ((19 : Int32) * x2) (σ.1 k1 (((19 : Int32) * x2) + (2 : Int32)).toNatClampNeg) (σ.1 52 x3.toNatClampNeg) σ else if (σ.1 k1 (((19 : Int32) * x2) + (2 : Int32)).toNatClampNeg) ≤ (σ.1 52 x3.toNatClampNeg) then f_M_hear_55 k1 x2 x3 ((19 : Int32) * x2) (σ.1 k1 (((19 : Int32) * x2) + (2 : Int32)).toNatClampNeg) (σ.1 52 x3.toNatClampNeg) σ else if (σ.1 k1 (((19 : Int32) * x2) + (2 : Int32)).toNatClampNeg) = x2 then if inb (((19 : Int32) * x2) + (5 : Int32)) 103 = true then if (σ.1 k1 (((19 : Int32) * x2) + (5 : Int32)).toNatClampNeg) = 0 then f_M_hear_51 k1 x2 x3 ((19 : Int32) * x2) (σ.1 k1 (((19 : Int32) * x2) + (2 : Int32)).toNatClampNeg) (σ.1 52 x3.toNatClampNeg) σ else f_M_hear_55 k1 x2 x3 ((19 : Int32) * x2) (σ.1 k1 (((19 : Int32) * x2) + (2 : Int32)).toNatClampNeg) (σ.1 52 x3.toNatClampNeg) σ else none else f_M_hear_51 k1 x2 x3 ((19 : Int32) * x2) (σ.1 k1 (((19 : Int32) * x2) + (2 : Int32)).toNatClampNeg) (σ.1 52 x3.toNatClampNeg) σ else none else none
def f_M_goOn_39 (K13 : Nat → Int32 → MT → Option MT) (k1 : Nat) (x2 : Int32) (σ : MT) : Option MT :=
  K13 k1 (x2 + (1 : Int32)) σ
def f_M_goOn_13 (K52 : Nat → Int32 → MT → Option MT) : Nat → Nat → Int32 → MT → Option MT
  | 0, _, _, _ => none
  | n + 1, k1, x2, σ =>
    if (σ.1 38 5) ≤ x2 then (f_M_laySent k1 σ).bind fun r47 => K52 k1 (0 : Int32) r47 else if inb (((19 : Int32) * x2) + (0 : Int32)) 103 = true then if (σ.1 k1 (((19 : Int32) * x2) + (0 : Int32)).toNatClampNeg) = (1 : Int32) then (f_M_goOne k1 x2 σ).bind fun r36 => f_M_goOn_39 (f_M_goOn_13 K52 n) k1 x2 r36 else f_M_goOn_39 (f_M_goOn_13 K52 n) k1 x2 σ else none
def f_M_goOn_108 (K62 : Nat → Int32 → Int32 → MT → Option MT) (k1 : Nat) (x2 : Int32) (x3 : Int32) (σ : MT) : Option MT :=
  K62 k1 x2 (x3 + (1 : Int32)) σ
def f_M_goOn_62 (K114 : Nat → Int32 → MT → Option MT) : Nat → Nat → Int32 → Int32 → MT → Option MT
  | 0, _, _, _, _ => none
  | n + 1, k1, x2, x3, σ =>
    if (σ.1 38 5) ≤ x3 then K114 k1 x2 σ else if inb (((19 : Int32) * x2) + (0 : Int32)) 103 = true then if (σ.1 k1 (((19 : Int32) * x2) + (0 : Int32)).toNatClampNeg) = (1 : Int32) then if inb x3 5 = true then if (σ.1 51 x3.toNatClampNeg) = 0 then f_M_goOn_108 (f_M_goOn_62 K114 n) k1 x2 x3 σ else (f_M_areBeside k1 x2 x3 σ).bind fun r95 => if r95 = 0 then f_M_goOn_108 (f_M_goOn_62 K114 n) k1 x2 x3 σ else (f_M_hear k1 x2 x3 σ).bind fun r105 => f_M_goOn_108 (f_M_goOn_62 K114 n) k1 x2 x3 r105 else none else K114 k1 x2 σ else none
def f_M_goOn_114 (K52 : Nat → Int32 → MT → Option MT) (k1 : Nat) (x2 : Int32) (σ : MT) : Option MT :=
  K52 k1 (x2 + (1 : Int32)) σ
def f_M_goOn_52 : Nat → Nat → Int32 → MT → Option MT
  | 0, _, _, _ => none
  | n + 1, k1, x2, σ =>
    if (σ.1 38 5) ≤ x2 then some σ else f_M_goOn_62 (f_M_goOn_114 (f_M_goOn_52 n)) 1100 k1 x2 (0 : Int32) σ
def f_M_goOn_11 (k1 : Nat) (σ : MT) : Option MT :=
  f_M_goOn_13 (f_M_goOn_52 1100) 1100 k1 (0 : Int32) σ
def f_M_goOn (k1 : Nat) (σ : MT) : Option MT :=
  if inb (102 : Int32) 103 = true then if inb (102 : Int32) 103 = true then f_M_goOn_11 k1 (sI σ k1 (102 : Int32).toNatClampNeg ((σ.1 k1 (102 : Int32).toNatClampNeg) + (σ.1 38 2))) else none else none
def f_M_tryPeriods_2 : Nat → Int32 → Int32 → MT → Option MT
  | 0, _, _, _ => none
  | n + 1, x1, x2, σ =>
    if x1 ≤ x2 then some σ else (f_M_goOn 44 σ).bind fun r12 => f_M_tryPeriods_2 n x1 (x2 + (1 : Int32)) r12
def f_M_tryPeriods (x1 : Int32) (σ : MT) : Option MT :=
  f_M_tryPeriods_2 1100 x1 (0 : Int32) σ
def f_M_isOn (k0 : Nat) (x1 : Int32) (σ : MT) : Option Int32 :=
  if inb (((19 : Int32) * x1) + (0 : Int32)) 103 = true then if (σ.1 k0 (((19 : Int32) * x1) + (0 : Int32)).toNatClampNeg) = (1 : Int32) then some (1 : Int32) else some (0 : Int32) else none
def f_M_missOf (k1 : Nat) (x2 : Int32) (σ : MT) : Option Int32 :=
  if inb (((19 : Int32) * x2) + (2 : Int32)) 103 = true then (f_M_isOn k1 x2 σ).bind fun r11 => if r11 = 0 then some (-9 : Int32) else if (σ.1 k1 (((19 : Int32) * x2) + (2 : Int32)).toNatClampNeg) = (-9 : Int32) then some (-9 : Int32) else (f_M_estimate k1 x2 σ).bind fun r29 => if r29 = (-9 : Int32) then some (-9 : Int32) else (f_M_clockOf k1 (σ.1 k1 (((19 : Int32) * x2) + (2 : Int32)).toNatClampNeg) σ).bind fun r54 => (f_M_near ((r29 - r54).toInt64)).bind fun r59 => some ((1000 : Int32) + r59) else none
def f_M_inTime_39 (K4 : Nat → Int32 → Int32 → MT → Option Int32) (k1 : Nat) (x3 : Int32) (xs0 : Int32) (xs1 : Int32) (σ : MT) : Option Int32 :=
  K4 k1 (xs1 ||| xs0) (x3 + (1 : Int32)) σ
def f_M_inTime_4 : Nat → Nat → Int32 → Int32 → MT → Option Int32
  | 0, _, _, _, _ => none
  | n + 1, k1, x2, x3, σ =>
    if (σ.1 38 5) ≤ x3 then some x2 else (f_M_missOf k1 x3 σ).bind fun r16 => (f_M_in r16.toInt64 (997 : Int64) (1003 : Int64)).bind fun r26 => if r26 = 0 then f_M_inTime_39 (f_M_inTime_4 n) k1 x3 (0 : Int32) x2 σ else f_M_inTime_39 (f_M_inTime_4 n) k1 x3 ((1 : Int32) <<< (x3 &&& 31)) x2 σ
def f_M_inTime (k1 : Nat) (σ : MT) : Option Int32 :=
  f_M_inTime_4 1100 k1 (0 : Int32) (0 : Int32) σ
def f_M_isOne_74 (K11 : Nat → Int32 → Int32 → Int32 → Int32 → MT → Option Int32) (k1 : Nat) (x2 : Int32) (x3 : Int32) (x4 : Int32) (x5 : Int32) (σ : MT) : Option Int32 :=
  K11 k1 x2 x3 x4 (x5 + (1 : Int32)) σ
def f_M_isOne_67 (K11 : Nat → Int32 → Int32 → Int32 → Int32 → MT → Option Int32) (k1 : Nat) (x5 : Int32) (x6 : Int32) (xs0 : Int32) (σ : MT) : Option Int32 :=
  f_M_isOne_74 K11 k1 x6 xs0 (1 : Int32) x5 σ
def f_M_isOne_66 (K11 : Nat → Int32 → Int32 → Int32 → Int32 → MT → Option Int32) (k1 : Nat) (x5 : Int32) (x6 : Int32) (σ : MT) : Option Int32 :=
  f_M_isOne_67 K11 k1 x5 x6 (0 : Int32) σ
def f_M_isOne_62 (K11 : Nat → Int32 → Int32 → Int32 → Int32 → MT → Option Int32) (k1 : Nat) (x5 : Int32) (x6 : Int32) (σ : MT) : Option Int32 :=
  f_M_isOne_67 K11 k1 x5 x6 (1 : Int32) σ
def f_M_isOne_11 : Nat → Nat → Int32 → Int32 → Int32 → Int32 → MT → Option Int32
  | 0, _, _, _, _, _, _ => none
  | n + 1, k1, x2, x3, x4, x5, σ =>
    if (σ.1 38 5) ≤ x5 then if zbb x3 = true then some x3 else none else (f_M_isOn k1 x5 σ).bind fun r23 => if r23 = 0 then f_M_isOne_74 (f_M_isOne_11 n) k1 x2 x3 x4 x5 σ else if inb (((19 : Int32) * x5) + (2 : Int32)) 103 = true then if x3 = 0 then f_M_isOne_66 (f_M_isOne_11 n) k1 x5 (σ.1 k1 (((19 : Int32) * x5) + (2 : Int32)).toNatClampNeg) σ else if (σ.1 k1 (((19 : Int32) * x5) + (2 : Int32)).toNatClampNeg) = (-9 : Int32) then f_M_isOne_66 (f_M_isOne_11 n) k1 x5 (σ.1 k1 (((19 : Int32) * x5) + (2 : Int32)).toNatClampNeg) σ else if x4 = 0 then f_M_isOne_62 (f_M_isOne_11 n) k1 x5 (σ.1 k1 (((19 : Int32) * x5) + (2 : Int32)).toNatClampNeg) σ else if (σ.1 k1 (((19 : Int32) * x5) + (2 : Int32)).toNatClampNeg) = x2 then f_M_isOne_62 (f_M_isOne_11 n) k1 x5 (σ.1 k1 (((19 : Int32) * x5) + (2 : Int32)).toNatClampNeg) σ else f_M_isOne_66 (f_M_isOne_11 n) k1 x5 (σ.1 k1 (((19 : Int32) * x5) + (2 : Int32)).toNatClampNeg) σ else none
def f_M_isOne (k1 : Nat) (σ : MT) : Option Int32 :=
  f_M_isOne_11 1100 k1 (-9 : Int32) (1 : Int32) (0 : Int32) (0 : Int32) σ
def f_M_those_50 (K4 : Int32 → Int32 → Int32 → MT → Option Int32) (x1 : Int32) (x3 : Int32) (xs0 : Int32) (xs1 : Int32) (σ : MT) : Option Int32 :=
  K4 x1 (xs1 ||| xs0) (x3 + (1 : Int32)) σ
def f_M_those_49 (K4 : Int32 → Int32 → Int32 → MT → Option Int32) (x1 : Int32) (x3 : Int32) (xs0 : Int32) (σ : MT) : Option Int32 :=
  f_M_those_50 K4 x1 x3 (0 : Int32) xs0 σ
def f_M_those_43 (K4 : Int32 → Int32 → Int32 → MT → Option Int32) (x1 : Int32) (x3 : Int32) (xs0 : Int32) (σ : MT) : Option Int32 :=
  f_M_those_50 K4 x1 x3 ((1 : Int32) <<< (x3 &&& 31)) xs0 σ
def f_M_those_4 : Nat → Int32 → Int32 → Int32 → MT → Option Int32
  | 0, _, _, _, _ => none
  | n + 1, x1, x2, x3, σ =>
    if (σ.1 38 5) ≤ x3 then some x2 else (f_M_isOn 43 x3 σ).bind fun r18 => if r18 = 0 then f_M_those_49 (f_M_those_4 n) x1 x3 x2 σ else if x1 = 0 then f_M_those_43 (f_M_those_4 n) x1 x3 x2 σ else if inb (((19 : Int32) * x3) + (2 : Int32)) 103 = true then if (σ.1 43 (((19 : Int32) * x3) + (2 : Int32)).toNatClampNeg) = x3 then f_M_those_43 (f_M_those_4 n) x1 x3 x2 σ else f_M_those_49 (f_M_those_4 n) x1 x3 x2 σ else none
def f_M_those (x1 : Int32) (σ : MT) : Option Int32 :=
  f_M_those_4 1100 x1 (0 : Int32) (0 : Int32) σ
def f_M_downs_4 : Nat → Int32 → Int32 → MT → Option Int32
  | 0, _, _, _ => none
  | n + 1, x1, x2, σ =>
    if (σ.1 38 7) ≤ x2 then some x1 else if inb ((95 : Int32) + x2) 103 = true then f_M_downs_4 n (x1 ||| ((σ.1 43 ((95 : Int32) + x2).toNatClampNeg) <<< (x2 &&& 31))) (x2 + (1 : Int32)) σ else none
def f_M_downs  (σ : MT) : Option Int32 :=
  f_M_downs_4 1100 (0 : Int32) (0 : Int32) σ
def f_M_about (x1 : Int32) (σ : MT) : Option Int32 :=
  if x1 = 0 then some (σ.1 38 5) else if x1 = 1 then some (σ.1 38 7) else if x1 = 2 then some (σ.1 38 2) else if x1 = 3 then some (σ.1 38 3) else if x1 = 4 then some (σ.1 38 4) else if x1 = 5 then if inb (102 : Int32) 103 = true then some (σ.1 43 (102 : Int32).toNatClampNeg) else none else if x1 = 6 then (f_M_those (0 : Int32) σ).bind fun r107 => some r107 else if x1 = 7 then (f_M_those (1 : Int32) σ).bind fun r113 => some r113 else if x1 = 8 then (f_M_inTime 43 σ).bind fun r122 => some r122 else if x1 = 9 then (f_M_downs σ).bind fun r127 => some r127 else if x1 = 10 then (f_M_isOne 43 σ).bind fun r136 => if r136 = 0 then some (0 : Int32) else some (1 : Int32) else if x1 = 11 then some (σ.1 38 13) else if x1 = 12 then some (σ.1 38 20) else if x1 = 13 then some (σ.1 38 1) else some (-2 : Int32)
def f_M_tell_31 (k1 : Nat) (x2 : Int32) (x3 : Int32) (x4 : Int32) (σ : MT) : Option Int32 :=
  if x3 = 0 then if inb (x4 + (1 : Int32)) 103 = true then some ((σ.1 k1 (x4 + (1 : Int32)).toNatClampNeg) + (4 : Int32)) else none else if x3 = 1 then if inb x2 5 = true then some (σ.1 40 x2.toNatClampNeg) else none else if x3 = 2 then (f_M_clockOf k1 x2 σ).bind fun r111 => some r111 else if x3 = 3 then if inb (x4 + (0 : Int32)) 103 = true then some (σ.1 k1 (x4 + (0 : Int32)).toNatClampNeg) else none else if x3 = 4 then if inb (x4 + (2 : Int32)) 103 = true then some (σ.1 k1 (x4 + (2 : Int32)).toNatClampNeg) else none else if x3 = 5 then if inb (x4 + (3 : Int32)) 103 = true then some (σ.1 k1 (x4 + (3 : Int32)).toNatClampNeg) else none else if x3 = 6 then if inb (x4 + (4 : Int32)) 103 = true then some (σ.1 k1 (x4 + (4 : Int32)).toNatClampNeg) else none else if x3 = 7 then if inb (x4 + (5 : Int32)) 103 = true then some (σ.1 k1 (x4 + (5 : Int32)).toNatClampNeg) else none else if x3 = 8 then if inb (x4 + (6 : Int32)) 103 = true then some (σ.1 k1 (x4 + (6 : Int32)).toNatClampNeg) else none else if x3 = 9 then (f_M_estimate k1 x2 σ).bind fun r161 => some r161 else if x3 = 10 then (f_M_missOf k1 x2 σ).bind fun r168 => some r168 else some (-2 : Int32)
def f_M_tell (k1 : Nat) (x2 : Int32) (x3 : Int32) (σ : MT) : Option Int32 :=
  (f_M_in x3.toInt64 (4 : Int64) (10 : Int64)).bind fun r14 => if r14 = 0 then f_M_tell_31 k1 x2 x3 ((19 : Int32) * x2) σ else (f_M_isOn k1 x2 σ).bind fun r22 => if r22 = 0 then some (-9 : Int32) else f_M_tell_31 k1 x2 x3 ((19 : Int32) * x2) σ
def f_M_node (x1 : Int32) (x2 : Int32) (σ : MT) : Option Int32 :=
  (f_M_isNode x1 σ).bind fun r2 => if r2 = 0 then some (-1 : Int32) else (f_M_tell 43 x1 x2 σ).bind fun r15 => some r15
def f_M_stamp (x1 : Int32) (x2 : Int32) (x3 : Int32) (σ : MT) : Option Int32 :=
  (f_M_isNode x1 σ).bind fun r2 => if r2 = 0 then some (-1 : Int32) else (f_M_in x3.toInt64 (0 : Int64) (2 : Int64)).bind fun r16 => if r16 = 0 then some (-2 : Int32) else (f_M_isOn 43 x1 σ).bind fun r30 => if r30 = 0 then some (-9 : Int32) else if inb (((19 : Int32) * x1) + (6 : Int32)) 103 = true then (f_M_in x2.toInt64 (0 : Int64) (((σ.1 43 (((19 : Int32) * x1) + (6 : Int32)).toNatClampNeg) - (1 : Int32)).toInt64)).bind fun r54 => if r54 = 0 then some (-9 : Int32) else if inb (((((19 : Int32) * x1) + (7 : Int32)) + ((3 : Int32) * x2)) + x3) 103 = true then some (σ.1 43 (((((19 : Int32) * x1) + (7 : Int32)) + ((3 : Int32) * x2)) + x3).toNatClampNeg) else none else none
def f_M_link_30 (x1 : Int32) (x2 : Int32) (xs0 : Int32) (σ : MT) : Option Int32 :=
  if x2 = 0 then if xs0 = 0 then if inb x1 7 = true then some (σ.1 42 x1.toNatClampNeg) else none else if inb x1 7 = true then some (σ.1 41 x1.toNatClampNeg) else none else if x2 = 1 then if xs0 = 0 then if inb x1 7 = true then some (σ.1 41 x1.toNatClampNeg) else none else if inb x1 7 = true then some (σ.1 42 x1.toNatClampNeg) else none else if x2 = 2 then if inb ((95 : Int32) + x1) 103 = true then some (σ.1 43 ((95 : Int32) + x1).toNatClampNeg) else none else some (-2 : Int32)
def f_M_link (x1 : Int32) (x2 : Int32) (σ : MT) : Option Int32 :=
  (f_M_isLink x1 σ).bind fun r2 => if r2 = 0 then some (-1 : Int32) else if inb x1 7 = true then if inb x1 7 = true then if (σ.1 42 x1.toNatClampNeg) ≤ (σ.1 41 x1.toNatClampNeg) then f_M_link_30 x1 x2 (0 : Int32) σ else f_M_link_30 x1 x2 (1 : Int32) σ else none else none
def f_M_note_28 (K2 : Int32 → MT → Option MT) (x1 : Int32) (σ : MT) : Option MT :=
  K2 (x1 + (1 : Int32)) σ
def f_M_note_2 : Nat → Int32 → MT → Option MT
  | 0, _, _ => none
  | n + 1, x1, σ =>
    if (103 : Int32) ≤ x1 then if (14 : Int32) ≤ ((sI σ 38 14 (((σ.1 38 14) + (1 : Int32)) - ((σ.1 38 14) + (1 : Int32)) / (14 : Int32) * (14 : Int32))).1 38 13) then some (sI (sI σ 38 14 (((σ.1 38 14) + (1 : Int32)) - ((σ.1 38 14) + (1 : Int32)) / (14 : Int32) * (14 : Int32))) 38 13 (14 : Int32)) else some (sI (sI σ 38 14 (((σ.1 38 14) + (1 : Int32)) - ((σ.1 38 14) + (1 : Int32)) / (14 : Int32) * (14 : Int32))) 38 13 (((sI σ 38 14 (((σ.1 38 14) + (1 : Int32)) - ((σ.1 38 14) + (1 : Int32)) / (14 : Int32) * (14 : Int32))).1 38 13) + (1 : Int32))) else if inb x1 103 = true then if inb (((103 : Int32) * (σ.1 38 14)) + x1) 1442 = true then f_M_note_28 (f_M_note_2 n) x1 (sI σ 45 (((103 : Int32) * (σ.1 38 14)) + x1).toNatClampNeg (σ.1 43 x1.toNatClampNeg)) else none else none
def f_M_note  (σ : MT) : Option MT :=
  f_M_note_2 1100 (0 : Int32) σ
def f_M_period_21 : Nat → Int32 → Int32 → MT → Option (Int32 × MT)
  | 0, _, _, _ => none
  | n + 1, x1, x2, σ =>
    if x1 ≤ x2 then (f_M_inTime 43 σ).bind fun r45 => (f_M_ones r45).bind fun r48 => some (r48, σ) else (f_M_goOn 43 σ).bind fun r31 => f_M_period_21 n x1 (x2 + (1 : Int32)) r31
def f_M_period (x1 : Int32) (σ : MT) : Option (Int32 × MT) :=
  (f_M_in x1.toInt64 (1 : Int64) (99 : Int64)).bind fun r6 => if r6 = 0 then some ((-2 : Int32), σ) else (f_M_note σ).bind fun r16 => f_M_period_21 1100 x1 (0 : Int32) r16
def f_M_turn_34 (x1 : Int32) (σ : MT) : Option (Int32 × MT) :=
  if inb ((95 : Int32) + x1) 103 = true then some (σ.1 43 ((95 : Int32) + x1).toNatClampNeg, σ) else none
def f_M_turn (x1 : Int32) (σ : MT) : Option (Int32 × MT) :=
  (f_M_isLink x1 σ).bind fun r2 => if r2 = 0 then some ((-1 : Int32), σ) else (f_M_note σ).bind fun r11 => if inb ((95 : Int32) + x1) 103 = true then if inb ((95 : Int32) + x1) 103 = true then f_M_turn_34 x1 (sI r11 43 ((95 : Int32) + x1).toNatClampNeg ((1 : Int32) - (r11.1 43 ((95 : Int32) + x1).toNatClampNeg))) else none else none
def f_M_powerOn (k0 : Nat) (x1 : Int32) (σ : MT) : Option MT :=
  (f_M_isOn k0 x1 σ).bind fun r2 => if r2 = 0 then (f_M_first k0 x1 σ).bind fun r22 => some r22 else if inb (((19 : Int32) * x1) + (0 : Int32)) 103 = true then some (sI σ k0 (((19 : Int32) * x1) + (0 : Int32)).toNatClampNeg (0 : Int32)) else none
def f_M_power (x1 : Int32) (σ : MT) : Option (Int32 × MT) :=
  (f_M_isNode x1 σ).bind fun r2 => if r2 = 0 then some ((-1 : Int32), σ) else (f_M_note σ).bind fun r11 => (f_M_powerOn 43 x1 r11).bind fun r19 => if inb (((19 : Int32) * x1) + (0 : Int32)) 103 = true then some (r19.1 43 (((19 : Int32) * x1) + (0 : Int32)).toNatClampNeg, r19) else none
def f_M_drift (x1 : Int32) (x2 : Int32) (σ : MT) : Option (Int32 × MT) :=
  (f_M_isNode x1 σ).bind fun r2 => if r2 = 0 then some ((-1 : Int32), σ) else (f_M_in x2.toInt64 (-4 : Int64) (5 : Int64)).bind fun r18 => if r18 = 0 then some ((-2 : Int32), σ) else (f_M_note σ).bind fun r28 => if inb (((19 : Int32) * x1) + (1 : Int32)) 103 = true then (f_M_clockOf 43 x1 (sI r28 43 (((19 : Int32) * x1) + (1 : Int32)).toNatClampNeg x2)).bind fun r49 => some (r49, sI r28 43 (((19 : Int32) * x1) + (1 : Int32)).toNatClampNeg x2) else none
def f_M_undo_64 (K38 : Int32 → MT → Option (Int32 × MT)) (x1 : Int32) (σ : MT) : Option (Int32 × MT) :=
  K38 (x1 + (1 : Int32)) σ
def f_M_undo_38 : Nat → Int32 → MT → Option (Int32 × MT)
  | 0, _, _ => none
  | n + 1, x1, σ =>
    if (103 : Int32) ≤ x1 then some (σ.1 38 13, σ) else if inb (((103 : Int32) * (σ.1 38 14)) + x1) 1442 = true then if inb x1 103 = true then f_M_undo_64 (f_M_undo_38 n) x1 (sI σ 43 x1.toNatClampNeg (σ.1 45 (((103 : Int32) * (σ.1 38 14)) + x1).toNatClampNeg)) else none else none
def f_M_undo_36 (σ : MT) : Option (Int32 × MT) :=
  f_M_undo_38 1100 (0 : Int32) σ
def f_M_undo  (σ : MT) : Option (Int32 × MT) :=
  if (σ.1 38 13) = 0 then some ((-3 : Int32), σ) else f_M_undo_36 (sI (sI σ 38 13 ((σ.1 38 13) - (1 : Int32))) 38 14 (((((sI σ 38 13 ((σ.1 38 13) - (1 : Int32))).1 38 14) + (14 : Int32)) - (1 : Int32)) - ((((sI σ 38 13 ((σ.1 38 13) - (1 : Int32))).1 38 14) + (14 : Int32)) - (1 : Int32)) / (14 : Int32) * (14 : Int32)))
def f_M_ahead (x1 : Int32) (x2 : Int32) (x3 : Int32) (σ : MT) : Option (Int32 × MT) :=
  (f_M_isNode x2 σ).bind fun r2 => if r2 = 0 then some ((-1 : Int32), σ) else (f_M_in x1.toInt64 (0 : Int64) (99 : Int64)).bind fun r16 => if r16 = 0 then some ((-2 : Int32), σ) else (f_M_in x3.toInt64 (2 : Int64) (10 : Int64)).bind fun r30 => if r30 = 0 then some ((-2 : Int32), σ) else (f_M_copy 43 44 σ).bind fun r47 => (f_M_tryPeriods x1 r47).bind fun r52 => (f_M_tell 44 x2 x3 r52).bind fun r62 => some (r62, r52)
def f_M_agree_13 : Nat → Int32 → MT → Option (Int32 × MT)
  | 0, _, _ => none
  | n + 1, x1, σ =>
    if (60 : Int32) < x1 then some ((-9 : Int32), σ) else (f_M_isOne 44 σ).bind fun r24 => if r24 = 0 then (f_M_goOn 44 σ).bind fun r37 => f_M_agree_13 n (x1 + (1 : Int32)) r37 else some (x1, σ)
def f_M_agree  (σ : MT) : Option (Int32 × MT) :=
  (f_M_copy 43 44 σ).bind fun r8 => f_M_agree_13 1100 (0 : Int32) r8
def f_M_judged_99 (σ : MT) : Option (Int32 × MT) :=
  some ((1 : Int32), σ)
def f_M_judged (x1 : Int32) (x2 : Int32) (x3 : Int32) (σ : MT) : Option (Int32 × MT) :=
  if x1 = 1 then (f_M_tryPeriods (((10 : Int32) * x2) + x3) σ).bind fun r47 => if (((10 : Int32) * x2) + x3) ≤ 0 then some ((0 : Int32), r47) else some ((1 : Int32), r47) else if x1 = 2 then if x2 = 0 then (f_M_isLink x3 σ).bind fun r71 => if r71 = 0 then some ((0 : Int32), σ) else if inb ((95 : Int32) + x3) 103 = true then if inb ((95 : Int32) + x3) 103 = true then f_M_judged_99 (sI σ 44 ((95 : Int32) + x3).toNatClampNeg ((1 : Int32) - (σ.1 44 ((95 : Int32) + x3).toNatClampNeg))) else none else none else some ((0 : Int32), σ) else if x1 = 3 then if x2 = 0 then (f_M_isNode x3 σ).bind fun r107 => if r107 = 0 then some ((0 : Int32), σ) else (f_M_powerOn 44 x3 σ).bind fun r120 => some ((1 : Int32), r120) else some ((0 : Int32), σ) else if x1 = 4 then (f_M_isNode x2 σ).bind fun r127 => if r127 = 0 then some ((0 : Int32), σ) else (f_M_isNode x3 σ).bind fun r135 => if r135 = 0 then some ((0 : Int32), σ) else (f_M_isOn 44 x2 σ).bind fun r146 => if r146 = 0 then some ((0 : Int32), σ) else if inb (((19 : Int32) * x2) + (2 : Int32)) 103 = true then if (σ.1 44 (((19 : Int32) * x2) + (2 : Int32)).toNatClampNeg) = x3 then some ((1 : Int32), σ) else some ((0 : Int32), σ) else none else if x1 = 5 then if x2 = 0 then (f_M_isNode x3 σ).bind fun r179 => if r179 = 0 then some ((0 : Int32), σ) else (f_M_inTime 44 σ).bind fun r190 => (f_M_has r190 x3).bind fun r194 => if r194 = 0 then some ((0 : Int32), σ) else some ((1 : Int32), σ) else some ((0 : Int32), σ) else if x1 = 6 then (f_M_isNode x2 σ).bind fun r208 => if r208 = 0 then some ((0 : Int32), σ) else (f_M_isOn 44 x2 σ).bind fun r219 => if r219 = 0 then some ((0 : Int32), σ) else if inb (((19 : Int32) * x2) + (6 : Int32)) 103 = true then if (σ.1 44 (((19 : Int32) * x2) + (6 : Int32)).toNatClampNeg) = x3 then some ((1 : Int32), σ) else some ((0 : Int32), σ) else none else some ((0 : Int32), σ)
def f_M_thousands_4 : Nat → Int32 → Int64 → Int32 → Option Int64
  | 0, _, _, _ => none
  | n + 1, x0, y1, x3 =>
    if x0 ≤ x3 then some y1 else f_M_thousands_4 n x0 (y1 * (1000 : Int64)) (x3 + (1 : Int32))
def f_M_thousands (x0 : Int32) : Option Int64 :=
  f_M_thousands_4 1100 x0 (1 : Int64) (0 : Int32)
def f_M_judge_43 : Nat → Int32 → Int64 → Int32 → MT → Option (Int32 × MT)
  | 0, _, _, _, _ => none
  | n + 1, x1, y2, x4, σ =>
    if x1 ≤ x4 then some ((-9 : Int32), σ) else (f_M_thousands ((x1 - (1 : Int32)) - x4)).bind fun r56 => if ¬ r56 = 0 then (f_M_judged ((((y2 / r56) - (y2 / r56) / (1000 : Int64) * (1000 : Int64)).toInt32) / (100 : Int32)) (((((y2 / r56) - (y2 / r56) / (1000 : Int64) * (1000 : Int64)).toInt32) / (10 : Int32)) - ((((y2 / r56) - (y2 / r56) / (1000 : Int64) * (1000 : Int64)).toInt32) / (10 : Int32)) / (10 : Int32) * (10 : Int32)) ((((y2 / r56) - (y2 / r56) / (1000 : Int64) * (1000 : Int64)).toInt32) - (((y2 / r56) - (y2 / r56) / (1000 : Int64) * (1000 : Int64)).toInt32) / (10 : Int32) * (10 : Int32)) σ).bind fun r86 => if r86.1 = 0 then some (x4, r86.2) else f_M_judge_43 n x1 y2 (x4 + (1 : Int32)) r86.2 else none
def f_M_judge (x1 : Int32) (y2 : Int64) (σ : MT) : Option (Int32 × MT) :=
  (f_M_in x1.toInt64 (1 : Int64) (4 : Int64)).bind fun r6 => if r6 = 0 then some ((-2 : Int32), σ) else (f_M_thousands x1).bind fun r15 => (f_M_in y2 (0 : Int64) (r15 - (1 : Int64))).bind fun r20 => if r20 = 0 then some ((-2 : Int32), σ) else (f_M_copy 43 44 σ).bind fun r37 => f_M_judge_43 1100 x1 y2 (0 : Int32) r37
def f_M_see_91 (σ : MT) : Option (Int32 × MT) :=
  some (σ.1 38 20, σ)
def f_M_see_71 (x3 : Int32) (σ : MT) : Option (Int32 × MT) :=
  if inb (σ.1 38 20) 6 = true then f_M_see_91 (sI (sI σ 50 (σ.1 38 20).toNatClampNeg x3) 38 20 (((sI σ 50 (σ.1 38 20).toNatClampNeg x3).1 38 20) + (1 : Int32))) else none
def f_M_see_39 (x1 : Int32) (x2 : Int32) (x3 : Int32) (σ : MT) : Option (Int32 × MT) :=
  if (σ.1 38 20) = (6 : Int32) then some ((-4 : Int32), σ) else if inb (σ.1 38 20) 6 = true then if inb ((sI σ 48 (σ.1 38 20).toNatClampNeg x1).1 38 20) 6 = true then f_M_see_71 x3 (sI (sI σ 48 (σ.1 38 20).toNatClampNeg x1) 49 ((sI σ 48 (σ.1 38 20).toNatClampNeg x1).1 38 20).toNatClampNeg x2) else none else none
def f_M_see (x1 : Int32) (x2 : Int32) (x3 : Int32) (σ : MT) : Option (Int32 × MT) :=
  (f_M_isNode x1 σ).bind fun r2 => if r2 = 0 then some ((-1 : Int32), σ) else (f_M_in x2.toInt64 (0 : Int64) (20 : Int64)).bind fun r16 => if r16 = 0 then some ((-2 : Int32), σ) else (f_M_isNode x3 σ).bind fun r24 => if r24 = 0 then if x3 = (-9 : Int32) then f_M_see_39 x1 x2 x3 σ else some ((-2 : Int32), σ) else f_M_see_39 x1 x2 x3 σ
def f_M_unsee  (σ : MT) : Option (Int32 × MT) :=
  some (σ.1 38 20, sI σ 38 20 (0 : Int32))
def f_M_isSoBy_77 (x2 : Int32) (xs0 : Int32) (σ : MT) : Option (Int32 × MT) :=
  if inb x2 6 = true then if xs0 = (σ.1 50 x2.toNatClampNeg) then some ((1 : Int32), σ) else some ((0 : Int32), σ) else none
def f_M_isSoBy_40 (x2 : Int32) (x3 : Int32) (σ : MT) : Option (Int32 × MT) :=
  if inb x2 6 = true then (f_M_tryPeriods (σ.1 49 x2.toNatClampNeg) σ).bind fun r47 => (f_M_isOn 44 x3 r47).bind fun r55 => if r55 = 0 then f_M_isSoBy_77 x2 (-9 : Int32) r47 else if inb (((19 : Int32) * x3) + (2 : Int32)) 103 = true then f_M_isSoBy_77 x2 (r47.1 44 (((19 : Int32) * x3) + (2 : Int32)).toNatClampNeg) r47 else none else none
def f_M_isSoBy (x1 : Int32) (x2 : Int32) (σ : MT) : Option (Int32 × MT) :=
  if inb x2 6 = true then (f_M_isNode (σ.1 48 x2.toNatClampNeg) σ).bind fun r9 => if r9 = 0 then some ((1 : Int32), σ) else (f_M_copy 43 44 σ).bind fun r25 => if inb (((19 : Int32) * x1) + (0 : Int32)) 103 = true then f_M_isSoBy_40 x2 (σ.1 48 x2.toNatClampNeg) (sI r25 44 (((19 : Int32) * x1) + (0 : Int32)).toNatClampNeg (0 : Int32)) else none else none
def f_M_which_52 (K24 : Int32 → Int32 → Int32 → Int32 → MT → Option (Int32 × MT)) (x1 : Int32) (x2 : Int32) (x4 : Int32) (xs0 : Int32) (σ : MT) : Option (Int32 × MT) :=
  K24 x1 x2 xs0 (x4 + (1 : Int32)) σ
def f_M_which_51 (K24 : Int32 → Int32 → Int32 → Int32 → MT → Option (Int32 × MT)) (x1 : Int32) (x2 : Int32) (x4 : Int32) (σ : MT) : Option (Int32 × MT) :=
  f_M_which_52 K24 x1 x2 x4 (0 : Int32) σ
def f_M_which_24 (K71 : Int32 → Int32 → Int32 → MT → Option (Int32 × MT)) : Nat → Int32 → Int32 → Int32 → Int32 → MT → Option (Int32 × MT)
  | 0, _, _, _, _, _ => none
  | n + 1, x1, x2, x3, x4, σ =>
    if (σ.1 38 20) ≤ x4 then if x3 = 0 then K71 x2 (0 : Int32) x1 σ else K71 x2 ((1 : Int32) <<< (x2 &&& 31)) x1 σ else if x3 = 0 then f_M_which_51 (f_M_which_24 K71 n) x1 x2 x4 σ else (f_M_isSoBy x2 x4 σ).bind fun r41 => if r41.1 = 0 then f_M_which_51 (f_M_which_24 K71 n) x1 x2 x4 r41.2 else f_M_which_52 (f_M_which_24 K71 n) x1 x2 x4 (1 : Int32) r41.2
def f_M_which_71 (K4 : Int32 → Int32 → MT → Option (Int32 × MT)) (x2 : Int32) (xs0 : Int32) (xs1 : Int32) (σ : MT) : Option (Int32 × MT) :=
  K4 (xs1 ||| xs0) (x2 + (1 : Int32)) σ
def f_M_which_4 : Nat → Int32 → Int32 → MT → Option (Int32 × MT)
  | 0, _, _, _ => none
  | n + 1, x1, x2, σ =>
    if (σ.1 38 5) ≤ x2 then some (x1, σ) else (f_M_isOn 43 x2 σ).bind fun r17 => f_M_which_24 (f_M_which_71 (f_M_which_4 n)) 1100 x1 x2 r17 (0 : Int32) σ
def f_M_which  (σ : MT) : Option (Int32 × MT) :=
  f_M_which_4 1100 (0 : Int32) (0 : Int32) σ
def f_M_inTimeBy_54 (K13 : Int32 → Int32 → MT → Option (Int32 × MT)) (x1 : Int32) (x2 : Int32) (xs0 : Int32) (xs1 : Int32) (σ : MT) : Option (Int32 × MT) :=
  if inb xs1 103 = true then K13 x1 (x2 + (1 : Int32)) (sI σ 44 xs1.toNatClampNeg xs0) else none
def f_M_inTimeBy_13 : Nat → Int32 → Int32 → MT → Option (Int32 × MT)
  | 0, _, _, _ => none
  | n + 1, x1, x2, σ =>
    if (σ.1 38 5) ≤ x2 then (f_M_tryPeriods (12 : Int32) σ).bind fun r64 => (f_M_inTime 44 r64).bind fun r72 => (f_M_ones r72).bind fun r75 => some (r75, r64) else (f_M_has x1 x2).bind fun r33 => if r33 = 0 then f_M_inTimeBy_54 (f_M_inTimeBy_13 n) x1 x2 (0 : Int32) (((19 : Int32) * x2) + (0 : Int32)) σ else if inb (((19 : Int32) * x2) + (0 : Int32)) 103 = true then f_M_inTimeBy_54 (f_M_inTimeBy_13 n) x1 x2 (σ.1 44 (((19 : Int32) * x2) + (0 : Int32)).toNatClampNeg) (((19 : Int32) * x2) + (0 : Int32)) σ else none
def f_M_inTimeBy (x1 : Int32) (σ : MT) : Option (Int32 × MT) :=
  (f_M_copy 43 44 σ).bind fun r8 => f_M_inTimeBy_13 1100 x1 (0 : Int32) r8
def f_M_share_71 (K39 : Int32 → Int32 → Int32 → Int32 → Int32 → MT → Option (Int32 × MT)) (x1 : Int32) (x2 : Int32) (x3 : Int32) (x4 : Int32) (x5 : Int32) (xs0 : Int32) (xs1 : Int32) (σ : MT) : Option (Int32 × MT) :=
  if inb xs1 32 = true then K39 x1 x2 x3 x4 (x5 + (1 : Int32)) (sI σ 56 xs1.toNatClampNeg xs0) else none
def f_M_share_39 (K84 : Int32 → Int32 → Int32 → Int32 → Int32 → Int32 → MT → Option (Int32 × MT)) : Nat → Int32 → Int32 → Int32 → Int32 → Int32 → MT → Option (Int32 × MT)
  | 0, _, _, _, _, _, _ => none
  | n + 1, x1, x2, x3, x4, x5, σ =>
    if (32 : Int32) ≤ x5 then K84 x1 x2 x3 x4 (0 : Int32) (0 : Int32) σ else if (x5 &&& (x3 ^^^ (-1 : Int32))) = 0 then (f_M_inTimeBy x5 σ).bind fun r64 => f_M_share_71 (f_M_share_39 K84 n) x1 x2 x3 x4 x5 r64.1 x5 r64.2 else f_M_share_71 (f_M_share_39 K84 n) x1 x2 x3 x4 x5 (0 : Int32) x5 σ
def f_M_share_157 (K84 : Int32 → Int32 → Int32 → Int32 → Int32 → Int32 → MT → Option (Int32 × MT)) (x1 : Int32) (x2 : Int32) (x3 : Int32) (x4 : Int32) (x5 : Int32) (x6 : Int32) (σ : MT) : Option (Int32 × MT) :=
  K84 x1 x2 x3 x4 x5 (x6 + (1 : Int32)) σ
def f_M_share_84 : Nat → Int32 → Int32 → Int32 → Int32 → Int32 → Int32 → MT → Option (Int32 × MT)
  | 0, _, _, _, _, _, _, _ => none
  | n + 1, x1, x2, x3, x4, x5, x6, σ =>
    if (32 : Int32) ≤ x6 then (f_M_factorial x4).bind fun r167 => (f_M_fraction x5 r167 x2).bind fun r171 => some (r171, σ) else if (x6 &&& (x3 ^^^ (-1 : Int32))) = 0 then (f_M_has x6 x1).bind fun r103 => if r103 = 0 then (f_M_ones x6).bind fun r111 => (f_M_factorial r111).bind fun r120 => (f_M_factorial ((x4 - (1 : Int32)) - r111)).bind fun r130 => if inb (x6 ||| ((1 : Int32) <<< (x1 &&& 31))) 32 = true then if inb x6 32 = true then f_M_share_157 (f_M_share_84 n) x1 x2 x3 x4 (x5 + ((r120 * r130) * ((σ.1 56 (x6 ||| ((1 : Int32) <<< (x1 &&& 31))).toNatClampNeg) - (σ.1 56 x6.toNatClampNeg)))) x6 σ else none else none else f_M_share_157 (f_M_share_84 n) x1 x2 x3 x4 x5 x6 σ else f_M_share_157 (f_M_share_84 n) x1 x2 x3 x4 x5 x6 σ
def f_M_share (x1 : Int32) (x2 : Int32) (σ : MT) : Option (Int32 × MT) :=
  (f_M_isNode x1 σ).bind fun r2 => if r2 = 0 then some ((-1 : Int32), σ) else (f_M_isOn 43 x1 σ).bind fun r15 => if r15 = 0 then some ((-3 : Int32), σ) else (f_M_those (0 : Int32) σ).bind fun r26 => (f_M_ones r26).bind fun r31 => f_M_share_39 (f_M_share_84 1100) 1100 x1 x2 r26 r31 (0 : Int32) σ
def f_M_chance_191 (K57 : Int32 → Int32 → Int32 → Int32 → Int32 → Int32 → Int32 → MT → Option (Int32 × MT)) (x1 : Int32) (x2 : Int32) (x3 : Int32) (x4 : Int32) (x5 : Int32) (x6 : Int32) (x7 : Int32) (σ : MT) : Option (Int32 × MT) :=
  K57 x1 x2 x3 x4 x5 x6 (x7 + (1 : Int32)) σ
def f_M_chance_134 (K92 : Int32 → Int32 → Int32 → Int32 → Int32 → Int32 → Int32 → Int32 → MT → Option (Int32 × MT)) (x1 : Int32) (x2 : Int32) (x3 : Int32) (x4 : Int32) (x5 : Int32) (x6 : Int32) (x7 : Int32) (x8 : Int32) (xs0 : Int32) (xs1 : Int32) (σ : MT) : Option (Int32 × MT) :=
  if inb xs1 103 = true then K92 x1 x2 x3 x4 x5 x6 x7 (x8 + (1 : Int32)) (sI σ 44 xs1.toNatClampNeg xs0) else none
def f_M_chance_92 (K188 : Int32 → Int32 → Int32 → Int32 → Int32 → Int32 → Int32 → Int32 → MT → Option (Int32 × MT)) : Nat → Int32 → Int32 → Int32 → Int32 → Int32 → Int32 → Int32 → Int32 → MT → Option (Int32 × MT)
  | 0, _, _, _, _, _, _, _, _, _ => none
  | n + 1, x1, x2, x3, x4, x5, x6, x7, x8, σ =>
    if (σ.1 38 7) ≤ x8 then (f_M_tryPeriods x1 σ).bind fun r143 => (f_M_isOne 44 r143).bind fun r153 => if r153 = 0 then K188 x1 x2 x3 x4 x5 x7 (0 : Int32) x6 r143 else (f_M_ones x7).bind fun r162 => (f_M_raised x2 r162).bind fun r165 => (f_M_ones x7).bind fun r176 => (f_M_raised ((10 : Int32) - x2) (x5 - r176)).bind fun r180 => K188 x1 x2 x3 x4 x5 x7 (r165 * r180) x6 r143 else (f_M_has x7 x8).bind fun r114 => if r114 = 0 then if inb ((95 : Int32) + x8) 103 = true then f_M_chance_134 (f_M_chance_92 K188 n) x1 x2 x3 x4 x5 x6 x7 x8 (σ.1 44 ((95 : Int32) + x8).toNatClampNeg) ((95 : Int32) + x8) σ else none else f_M_chance_134 (f_M_chance_92 K188 n) x1 x2 x3 x4 x5 x6 x7 x8 (1 : Int32) ((95 : Int32) + x8) σ
def f_M_chance_188 (K57 : Int32 → Int32 → Int32 → Int32 → Int32 → Int32 → Int32 → MT → Option (Int32 × MT)) (x1 : Int32) (x2 : Int32) (x3 : Int32) (x4 : Int32) (x5 : Int32) (x7 : Int32) (xs0 : Int32) (xs1 : Int32) (σ : MT) : Option (Int32 × MT) :=
  f_M_chance_191 K57 x1 x2 x3 x4 x5 (xs1 + xs0) x7 σ
def f_M_chance_57 : Nat → Int32 → Int32 → Int32 → Int32 → Int32 → Int32 → Int32 → MT → Option (Int32 × MT)
  | 0, _, _, _, _, _, _, _, _ => none
  | n + 1, x1, x2, x3, x4, x5, x6, x7, σ =>
    if ((1 : Int32) <<< ((σ.1 38 7) &&& 31)) ≤ x7 then (f_M_raised (10 : Int32) x5).bind fun r203 => (f_M_fraction x6 r203 x3).bind fun r207 => some (r207, σ) else if (x7 &&& (x4 ^^^ (-1 : Int32))) = 0 then (f_M_copy 43 44 σ).bind fun r86 => f_M_chance_92 (f_M_chance_188 (f_M_chance_57 n)) 1100 x1 x2 x3 x4 x5 x6 x7 (0 : Int32) r86 else f_M_chance_191 (f_M_chance_57 n) x1 x2 x3 x4 x5 x6 x7 σ
def f_M_chance (x1 : Int32) (x2 : Int32) (x3 : Int32) (σ : MT) : Option (Int32 × MT) :=
  (f_M_in x1.toInt64 (0 : Int64) (20 : Int64)).bind fun r6 => if r6 = 0 then some ((-2 : Int32), σ) else (f_M_in x2.toInt64 (0 : Int64) (10 : Int64)).bind fun r18 => if r18 = 0 then some ((-2 : Int32), σ) else (f_M_downs σ).bind fun r36 => (f_M_ones ((((1 : Int32) <<< ((σ.1 38 7) &&& 31)) - (1 : Int32)) &&& (r36 ^^^ (-1 : Int32)))).bind fun r46 => f_M_chance_57 1100 x1 x2 x3 ((((1 : Int32) <<< ((σ.1 38 7) &&& 31)) - (1 : Int32)) &&& (r36 ^^^ (-1 : Int32))) r46 (0 : Int32) (0 : Int32) σ
def f_M_seed (y1 : Int64) (σ : MT) : Option (Int64 × MT) :=
  some (σ.2 38, sL σ 38 y1)
def f_M_drawn_109 (K30 : Int32 → Int32 → Int32 → MT → Option (Int32 × MT)) (x1 : Int32) (x2 : Int32) (x3 : Int32) (σ : MT) : Option (Int32 × MT) :=
  (f_M_goOn 44 σ).bind fun r114 => (f_M_inTime 44 r114).bind fun r123 => (f_M_ones r123).bind fun r126 => K30 x1 (x2 + r126) (x3 + (1 : Int32)) r114
def f_M_drawn_61 (K30 : Int32 → Int32 → Int32 → MT → Option (Int32 × MT)) (x1 : Int32) (x2 : Int32) (x3 : Int32) (x4 : Int32) (σ : MT) : Option (Int32 × MT) :=
  if (σ.1 38 7) ≤ 0 then f_M_drawn_109 K30 x1 x2 x3 σ else if ((x4 / (16 : Int32)) - (x4 / (16 : Int32)) / (2 : Int32) * (2 : Int32)) = 0 then if ¬ (σ.1 38 7) = 0 then if inb ((95 : Int32) + (x4 - x4 / (σ.1 38 7) * (σ.1 38 7))) 103 = true then if inb ((95 : Int32) + (x4 - x4 / (σ.1 38 7) * (σ.1 38 7))) 103 = true then f_M_drawn_109 K30 x1 x2 x3 (sI σ 44 ((95 : Int32) + (x4 - x4 / (σ.1 38 7) * (σ.1 38 7))).toNatClampNeg ((1 : Int32) - (σ.1 44 ((95 : Int32) + (x4 - x4 / (σ.1 38 7) * (σ.1 38 7))).toNatClampNeg))) else none else none else none else f_M_drawn_109 K30 x1 x2 x3 σ
def f_M_drawn_51 (K30 : Int32 → Int32 → Int32 → MT → Option (Int32 × MT)) (x1 : Int32) (x2 : Int32) (x3 : Int32) (σ : MT) : Option (Int32 × MT) :=
  f_M_drawn_61 K30 x1 x2 x3 ((((σ.2 38).toUInt64 >>> ((33 : Int32).toInt64.toUInt64 &&& Int64.toUInt64 63)).toInt64).toInt32) σ
def f_M_drawn_30 : Nat → Int32 → Int32 → Int32 → MT → Option (Int32 × MT)
  | 0, _, _, _, _ => none
  | n + 1, x1, x2, x3, σ =>
    if x1 ≤ x3 then some (x2, σ) else f_M_drawn_51 (f_M_drawn_30 n) x1 x2 x3 (sL σ 38 (((σ.2 38) * (6364136223846793005 : Int64)) + (1442695040888963407 : Int64)))
def f_M_drawn (x1 : Int32) (σ : MT) : Option (Int32 × MT) :=
  (f_M_in x1.toInt64 (1 : Int64) (20 : Int64)).bind fun r6 => if r6 = 0 then some ((-2 : Int32), σ) else (f_M_copy 43 44 σ).bind fun r23 => f_M_drawn_30 1100 x1 (0 : Int32) (0 : Int32) r23
def f_M_keep_44 (K21 : Int32 → Int32 → MT → Option (Int32 × MT)) (x1 : Int32) (x2 : Int32) (σ : MT) : Option (Int32 × MT) :=
  K21 x1 (x2 + (1 : Int32)) σ
def f_M_keep_21 : Nat → Int32 → Int32 → MT → Option (Int32 × MT)
  | 0, _, _, _ => none
  | n + 1, x1, x2, σ =>
    if (103 : Int32) ≤ x2 then if inb (102 : Int32) 103 = true then some (σ.1 43 (102 : Int32).toNatClampNeg, σ) else none else if inb x2 103 = true then if inb (((103 : Int32) * x1) + x2) 206 = true then f_M_keep_44 (f_M_keep_21 n) x1 x2 (sI σ 46 (((103 : Int32) * x1) + x2).toNatClampNeg (σ.1 43 x2.toNatClampNeg)) else none else none
def f_M_keep (x1 : Int32) (σ : MT) : Option (Int32 × MT) :=
  (f_M_in x1.toInt64 (0 : Int64) (1 : Int64)).bind fun r4 => if r4 = 0 then some ((-1 : Int32), σ) else if inb x1 2 = true then f_M_keep_21 1100 x1 (0 : Int32) (sI σ 47 x1.toNatClampNeg (vp_nar .boolean (1 : Int32))) else none
def f_M_again_49 (K26 : Int32 → Int32 → MT → Option (Int32 × MT)) (x1 : Int32) (x2 : Int32) (σ : MT) : Option (Int32 × MT) :=
  K26 x1 (x2 + (1 : Int32)) σ
def f_M_again_26 : Nat → Int32 → Int32 → MT → Option (Int32 × MT)
  | 0, _, _, _ => none
  | n + 1, x1, x2, σ =>
    if (103 : Int32) ≤ x2 then if inb (102 : Int32) 103 = true then some ((sI σ 38 13 (0 : Int32)).1 43 (102 : Int32).toNatClampNeg, sI σ 38 13 (0 : Int32)) else none else if inb (((103 : Int32) * x1) + x2) 206 = true then if inb x2 103 = true then f_M_again_49 (f_M_again_26 n) x1 x2 (sI σ 43 x2.toNatClampNeg (σ.1 46 (((103 : Int32) * x1) + x2).toNatClampNeg)) else none else none
def f_M_again (x1 : Int32) (σ : MT) : Option (Int32 × MT) :=
  (f_M_in x1.toInt64 (0 : Int64) (1 : Int64)).bind fun r4 => if r4 = 0 then some ((-1 : Int32), σ) else if inb x1 2 = true then if (σ.1 47 x1.toNatClampNeg) = 0 then some ((-3 : Int32), σ) else f_M_again_26 1100 x1 (0 : Int32) σ else none
