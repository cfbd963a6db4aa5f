/-! A constructor's entry, its end, its calls; new int[5][5] -/
def AC (h0 ci : Nat) (fs : List Value) (sz : Nat) : Nat → Prop := va_A (OneC h0 ci fs) sz
def QC (D : va_G) (E : Nat → ClassId) (ci : Nat) (fs : List Value) (k0 : Nat) (ks : List Nat) (h0 sz : Nat) : Array Value → State → Outcome → State → Prop := va_Qv (fun ad : Nat → Nat => ad k0 = h0) (fun ad t => va_P D classes (blk D E ad ks) t.heap ∧ va_D (AC h0 ci fs sz) (blk D E ad ks)) (AC h0 ci fs sz)
def QK (X : XT) (Qc : Array Value → State → Outcome → State → Prop) (mc ms : Nat) (A : Nat → Prop) : State → Prop :=
  match X with
  | (p, l, e, R, s, m, args, below, meth, c) => MQ below Qc args s mc ms A
theorem entK {l : Launch} {D : va_G} {E : Nat → ClassId} {y : MethodName} {cc : ByteArray} {maxL fr lo mc ms ci : Nat} {fs : List Value} {k0 : Nat} {ks : List Nat} {h0 sz : Nat} (own : String) (hy : plainFor y = true) (ho : y.cls = own) (hn : y.name = "<init>") (hL : 1 ≤ maxL)
    (kk : ∀ X : XT, XL X = l → KX X D E (AC h0 ci fs sz) cc maxL own fr lo mc ms → KJ X D (AC h0 ci fs sz) (QK X (QC D E ci fs k0 ks h0 sz) mc ms (AC h0 ci fs sz)) maxL 0 [(0, .ref h0)] [] (OneC h0 ci fs) 0 0) : CTN l D E y cc maxL fr lo mc ms ci fs k0 ks h0 sz := by
  subst ho
  refine ofWF (cc := cc) (maxL := maxL) (ret := none) hy rfl ?_
  intro p e s m args below meth c s₁ B hml hv
  obtain ⟨rfl, hsz, hP, hK⟩ := hv
  subst hsz
  have hts : ∀ w ∈ GW, w.before [Value.ref h0].toArray s = true := fun w hw => atoms_spec (ws := WS y cc maxL none) B.pre w (List.mem_cons_of_mem _ hw)
  have hown : s.vm.findClass y.cls = some m.cls := findClass_of_methodNamed B.named
  have hin : meth.name = "<init>" := (name_of_methodNamed B.named B.method).1.trans hn
  have hl := lv_entry [.ref h0] (n := maxL) hL
  rw [lg_entry_eq]
  refine kk (p, l, e, { frames := fr, cells := mc, slots := ms, locals := lo }, s, m, [Value.ref h0].toArray, below, meth, c) rfl ⟨B.exec, B.bytes, hml, hown, hts, hK, ⟨Nat.le_refl _, Nat.le_refl _, Nat.le_refl _, Nat.le_refl _⟩, B.notSynchronized, hin, fun q hq => Or.inr hq, B.returns⟩ s.heap [] _ hP ⟨fun i j x y hi hj _ => ?_, fun i q hq => va_A.in hq⟩ va_S.rf hl
  have h1 : i < 1 := (List.getElem?_eq_some_iff.mp hi).1
  have h2 : j < 1 := (List.getElem?_eq_some_iff.mp hj).1
  omega
section MK2
variable {X : XT} {D : va_G} {E : Nat → ClassId} {A : Nat → Prop} {Q : State → Prop} {cc : ByteArray} {nL : Nat} {own : String} {fr lo mc ms pc : Nat} {lv : List (Nat × Value)} {st : List Value} {ws : va_W} {k n : Nat}
theorem k_ret {ci : Nat} {fs : List Value} {k0 : Nat} {ks : List Nat} {h0 sz : Nat} (C : KX X D E (AC h0 ci fs sz) cc nL own fr lo mc ms) (ad : Nat → Nat) (d : decode cc pc = .ok (.return_, 1)) (h1 : k ≤ mc) (h2 : n ≤ ms) (had : ad k0 = h0) (hws : ws = blk D E ad ks) : KJ X D (AC h0 ci fs sz) (QK X (QC D E ci fs k0 ks h0 sz) mc ms (AC h0 ci fs sz)) nL pc lv [] ws k n := by
  obtain ⟨p, l, e, R, s, m, args, below, meth, c⟩ := X
  obtain ⟨hx, hb, hml, hown, hts, hK, ⟨r1, r2, r3, r4⟩, hlk, hmn, hA, hret⟩ := C
  intro H locs ls hP hD hS hl
  subst hws
  refine W.widen h1 h2 ?_
  exact W.vret hx hb hret (fun t ht hW => ⟨⟨ad, rfl, had, by rw [ht]; exact hP, hD⟩, hS.F ht⟩) hS.2.2 d hlk
theorem join_last {ws0 w1 : va_W} {q : Nat} {e : va_E} {H H1 : Heap} (hP : va_P D classes (ws0 ++ [(q, e)]) H) (hD : va_D A (ws0 ++ [(q, e)])) (hF : ∀ x, va_A [(q, e)] H.size x → A x) (hk : ∀ x : Nat, x < H.size → ¬ va_A [(q, e)] H.size x → H1[x]? = H[x]?) (hP1 : va_P D classes w1 H1) (hD1 : va_D (va_A [(q, e)] H.size) w1) : va_P D classes (ws0 ++ w1) H1 ∧ va_D A (ws0 ++ w1) := by
  have up : ∀ (i : Nat) (x : Nat × va_E), ws0[i]? = some x → (ws0 ++ [(q, e)])[i]? = some x := fun i x hx => by
    rw [List.getElem?_append_left (List.getElem?_eq_some_iff.mp hx).1]; exact hx
  have apart : ∀ (i : Nat) (x : Nat × va_E), ws0[i]? = some x → x.1 < H.size ∧ ¬ va_A [(q, e)] H.size x.1 := fun i x hx => by
    have hl := (hP i x (up i x hx)).lt
    refine ⟨hl, fun h => ?_⟩
    rcases h with ⟨k2, e2, h⟩ | h
    · have hk2 : k2 < 1 := (List.getElem?_eq_some_iff.mp h).1
      rw [show k2 = 0 by omega] at h
      have hq : (ws0 ++ [(q, e)])[ws0.length]? = some (q, e) := by
        rw [List.getElem?_append_right (Nat.le_refl _), Nat.sub_self]; rfl
      cases h
      have hij := hD.1 i ws0.length x _ (up i x hx) hq rfl
      have := (List.getElem?_eq_some_iff.mp hx).1
      omega
    · omega
  refine ⟨va_P.app (fun i x hx => ?_) hP1, va_D.app ⟨fun i j x y hi hj hxy => hD.1 i j x y (up i x hi) (up j y hj) hxy, fun i x hx => hD.2 i x (up i x hx)⟩ (hD1.weaken (fun i x _ h => hF x.1 h)) (fun i j x y hx hy hxy => ?_)⟩
  · obtain ⟨g1, g2⟩ := apart i x hx
    exact (hP i x (up i x hx)).kept (hk x.1 g1 g2)
  · exact (apart i x hx).2 (by rw [hxy]; exact hD1.2 j y hy)
theorem last_in {ws0 : va_W} {q : Nat} {e : va_E} {A0 : Nat → Prop} {H0 H : Heap} {locs : List Loc} (hD : va_D A0 (ws0 ++ [(q, e)])) (hS : va_S A0 H0 H locs) (hA : ∀ x, H0.size ≤ x → A0 x) : ∀ x, va_A [(q, e)] H.size x → A0 x := fun x h => by
  rcases h with ⟨k2, e2, h⟩ | h
  · have hk2 : k2 < 1 := (List.getElem?_eq_some_iff.mp h).1
    rw [show k2 = 0 by omega] at h
    have hq : (ws0 ++ [(q, e)])[ws0.length]? = some (q, e) := by
      rw [List.getElem?_append_right (Nat.le_refl _), Nat.sub_self]; rfl
    cases h
    exact hD.2 _ _ hq
  · exact hA x (Nat.le_trans hS.1 h)
theorem last_P {ws0 : va_W} {q : Nat} {e : va_E} {H : Heap} (hP : va_P D classes (ws0 ++ [(q, e)]) H) : va_P D classes [(q, e)] H := fun i x hx => by
  have hi : i < 1 := (List.getElem?_eq_some_iff.mp hx).1
  have hq : (ws0 ++ [(q, e)])[ws0.length]? = some (q, e) := by
    rw [List.getElem?_append_right (Nat.le_refl _), Nat.sub_self]; rfl
  rw [show i = 0 by omega] at hx
  cases hx
  exact hP _ _ hq
theorem blindN {q ci : Nat} {fs : List Value} {sz : Nat} : FrameBlind (va_Pc [.ref q] (fun U => U.heap.size = sz ∧ va_P D classes (OneC q ci fs) U.heap ∧ KW D E U)) := fun a U g mk z => ⟨z.1, z.2.1, z.2.2.1, z.2.2.2.call g mk a⟩
/-- a constructor of a nest mate -/
theorem k_callN (C : KX X D E A cc nL own fr lo mc ms) {index maxL fr1 lo1 mc1 ms1 ci k0 q : Nat} {host : String} {y : MethodName} {bytes : ByteArray} {fs : List Value} {ks : List Nat} {ws0 : va_W} (hM : ∀ sz, CTN (XL X) D E y bytes maxL fr1 lo1 mc1 ms1 ci fs k0 ks q sz) (w1 : Cond.code y bytes maxL none ∈ GW) (w2 : Cond.initialized y.cls ∈ GW) (w3 : Cond.instanceMethod y ∈ GW) (hl0 : ∀ U, NI U → va_Nw (.methodLinkNest own index y host) U) (hn : y.name = "<init>") (hd : y.cls ≠ "java/lang/invoke/MethodHandle" ∧ y.cls ≠ "java/lang/invoke/VarHandle" ∧ (parseMethodDescriptor y.desc).map (fun d => d.parameters.length) = some 0) (hR : fr1 + 1 ≤ fr ∧ 8 + (maxL + 11) + lo1 ≤ lo) (h1 : k + mc1 ≤ mc) (h2 : n + ms1 ≤ ms) (hcat : (st.map fun v => v.category).sum ≤ 8) (d : decode cc pc = .ok (.invokespecial index, 3)) (kk : ∀ ad : Nat → Nat, ad k0 = q → KJ X D A Q nL (pc + 3) lv st (ws0 ++ blk D E ad ks) (k + mc1) (n + ms1)) : KJ X D A Q nL pc lv (.ref q :: st) (ws0 ++ OneC q ci fs) k n := by
  obtain ⟨p, l, e, R, s, m, args, below, meth, c⟩ := X
  obtain ⟨hx, hb, hml, hown, hts, hK, ⟨r1, r2, r3, r4⟩, hlk, hmn, hA, hret⟩ := C
  intro H locs ls hP hD hS hl
  exact va_callv (va_runIN (As := []) (rest := st) ⟨hx, hb, hml, hown, hts⟩ (hM H.size) ⟨va_cnB 0 hts (gi_GW w1) rfl rfl rfl (hl0 s hK.2.2.2.2) (hts _ w2) hd ⟨Nat.le_trans hR.1 r1, Nat.le_trans hR.2 r2⟩, hn, hts _ w3⟩ ⟨blindN, fun U hU hW => ⟨rfl, by rw [hU], by rw [hU]; exact last_P hP, KW.warm hW hK⟩⟩ rfl rfl hl.1 rfl (lv_room hcat) d ⟨Nat.le_trans h1 r3, Nat.le_trans h2 r4⟩) hS (fun x _ h => last_in hD hS hA x h) (fun x h => last_in hD hS hA x h) (fun ad t H1 locs1 ht hvm hw hB hz1 hk1 hS1 => by
    obtain ⟨hP1, hD1⟩ := hB
    rw [ht] at hP1
    obtain ⟨hP2, hD2⟩ := join_last hP hD (last_in hD hS hA) hk1 hP1 hD1
    exact kk ad hw H1 locs1 ls hP2 hD2 hS1 hl)
/-- a constructor that isn't private -/
theorem k_callI (C : KX X D E A cc nL own fr lo mc ms) {index maxL fr1 lo1 mc1 ms1 ci k0 q : Nat} {y : MethodName} {bytes : ByteArray} {fs : List Value} {ks : List Nat} {ws0 : va_W} (hM : ∀ sz, CTN (XL X) D E y bytes maxL fr1 lo1 mc1 ms1 ci fs k0 ks q sz) (w1 : Cond.code y bytes maxL none ∈ GW) (w2 : Cond.initialized y.cls ∈ GW) (w3 : Cond.instanceMethod y ∈ GW) (w4 : Cond.methodLink own index y ∈ GW) (hn : y.name = "<init>") (hd : y.cls ≠ "java/lang/invoke/MethodHandle" ∧ y.cls ≠ "java/lang/invoke/VarHandle" ∧ (parseMethodDescriptor y.desc).map (fun d => d.parameters.length) = some 0) (hR : fr1 + 1 ≤ fr ∧ 8 + (maxL + 11) + lo1 ≤ lo) (h1 : k + mc1 ≤ mc) (h2 : n + ms1 ≤ ms) (hcat : (st.map fun v => v.category).sum ≤ 8) (d : decode cc pc = .ok (.invokespecial index, 3)) (kk : ∀ ad : Nat → Nat, ad k0 = q → KJ X D A Q nL (pc + 3) lv st (ws0 ++ blk D E ad ks) (k + mc1) (n + ms1)) : KJ X D A Q nL pc lv (.ref q :: st) (ws0 ++ OneC q ci fs) k n := by
  obtain ⟨p, l, e, R, s, m, args, below, meth, c⟩ := X
  obtain ⟨hx, hb, hml, hown, hts, hK, ⟨r1, r2, r3, r4⟩, hlk, hmn, hA, hret⟩ := C
  intro H locs ls hP hD hS hl
  exact va_callv (va_runI (As := []) (rest := st) ⟨hx, hb, hml, hown, hts⟩ (hM H.size) ⟨callB_of 0 hts (gi_GW w1) rfl rfl rfl (hts _ w2) (hts _ w4) hd ⟨Nat.le_trans hR.1 r1, Nat.le_trans hR.2 r2⟩, hn, hts _ w3⟩ ⟨blindN, fun U hU hW => ⟨rfl, by rw [hU], by rw [hU]; exact last_P hP, KW.warm hW hK⟩⟩ rfl rfl hl.1 rfl (lv_room hcat) d ⟨Nat.le_trans h1 r3, Nat.le_trans h2 r4⟩) hS (fun x _ h => last_in hD hS hA x h) (fun x h => last_in hD hS hA x h) (fun ad t H1 locs1 ht hvm hw hB hz1 hk1 hS1 => by
    obtain ⟨hP1, hD1⟩ := hB
    rw [ht] at hP1
    obtain ⟨hP2, hD2⟩ := join_last hP hD (last_in hD hS hA) hk1 hP1 hD1
    exact kk ad hw H1 locs1 ls hP2 hD2 hS1 hl)
end MK2
