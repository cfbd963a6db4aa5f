/-! new int[5][5]; cells of the first world side by side -/
theorem outer_q (c : ClassId) (N h0 : Nat) : ∀ i : Nat, Jvm.Free.Multi.outerC c N h0 i = arrV c N (fun j => va_rf (if j < i then some (h0 + 1 + j) else none))
  | 0 => by
    show ({ cls := c, slots := Array.replicate N .null, vm := .none } : Cell) = _
    rw [arrV_new]
    refine congrArg (arrV c N) (funext fun j => ?_)
    simp [va_rf]
  | i + 1 => by
    show (Jvm.Free.Multi.outerC c N h0 i).setSlot i (.ref (h0 + 1 + i)) = _
    rw [outer_q c N h0 i, arrV_store]
    refine congrArg (arrV c N) (funext fun j => ?_)
    by_cases e : j = i
    · subst e
      simp [updV, va_rf]
    · by_cases h : j < i
      · simp [updV, e, h, Nat.lt_succ_of_lt h]
      · simp [updV, e, h, show ¬ j < i + 1 by omega]
theorem rows_at {N : Nat} {f : Nat → Nat × va_E} {i : Nat} {x : Nat × va_E} (h : ((List.range N).map f)[i]? = some x) : i < N ∧ x = f i := by
  have hi : i < N := by
    have := (List.getElem?_eq_some_iff.mp h).1
    simpa using this
  rw [List.getElem?_map, List.getElem?_range hi] at h
  exact ⟨hi, (Option.some.inj h).symm⟩
section MK3
variable {X : XT} {D : va_G} {E : Nat → ClassId} {A : Nat → Prop} {Q : State → Prop} {cc : ByteArray} {nL : Nat} {own : String} {fr lo mc ms pc : Nat} {lv : List (Nat × Value)} {st : List Value} {ws : va_W} {k n : Nat}
theorem k_mna (C : KX X D E A cc nL own fr lo mc ms) {index : Nat} (w : Cond.classLink own index "[[I" ∈ GW) (h1 : k + 6 ≤ mc) (h2 : n + 30 ≤ ms) (d : decode cc pc = .ok (.multianewarray index 2, 4)) (kk : ∀ (q : Nat) (r : Nat → Nat), KJ X D A Q nL (pc + 4) lv (.ref q :: st) (ws ++ ([(q, .inl (E 5, 5, .inr (.inr (.inr (.inr fun i => if i < 5 then some (r i) else none)))))] ++ (List.range 5).map (fun i => (r i, .inl (E 0, 5, .inl fun _ => 0))))) (k + 6) (n + 30)) : KJ X D A Q nL pc lv (.int 5 :: .int 5 :: st) ws k n := by
  obtain ⟨p, l, e, R, s, m, args, below, meth, c⟩ := X
  obtain ⟨hx, hb, hml, hown, hts, hK, ⟨r1, r2, r3, r4⟩, hlk, hmn, hA, hret⟩ := C
  intro H locs ls hP hD hS hl T hT Xs
  obtain ⟨vm₁, cA, comp, -, fA, fC, -, -, X', step⟩ := Xs.multianewarray2F hx (ty := .int) (n := 5) (k := 5) hown (hts _ w) hK.2.2.2.1 (hts _ wd_86) (g := F0 m pc ls (.int 5 :: .int 5 :: st)) rfl (by rw [hb]; exact d) rfl (by decide) (by decide) (by decide) (by decide) (by decide) rfl rfl (Nat.le_trans h1 r3) (Nat.le_trans h2 r4)
  have eA : cA = E 5 := Option.some.inj (fA.symm.trans (hK.1.2 5 (E 5, .array .int) rfl).2)
  have eC : comp = E 0 := Option.some.inj (fC.symm.trans (hK.1.2 0 (E 0, .int) rfl).2)
  subst eA
  subst eC
  have n5 : (5 : Int32).toNatClampNeg = 5 := rfl
  rw [n5] at X' step
  generalize hF : Jvm.Free.Multi.fill (T.setVm vm₁) (E 5) (E 0) 5 5 (defaultValue .int) 5 = F at X' step
  have hTh : (T.setVm vm₁).heap = H := hT
  obtain ⟨f1, f2, -, -⟩ := Jvm.Free.Multi.fill_facts (T.setVm vm₁) (E 5) (E 0) 5 5 (defaultValue .int) 5
  rw [hF, hTh] at f1 f2
  have hold : ∀ x : Nat, x < H.size → F.heap[x]? = H[x]? := fun x hx => by
    have := Jvm.Free.Multi.fill_old (T.setVm vm₁) (E 5) (E 0) 5 5 (defaultValue .int) (a := x) (by rw [hTh]; exact hx) 5
    rw [hF, hTh] at this
    exact this
  have hrow : ∀ j : Nat, j < 5 → F.heap[H.size + 1 + j]? = some (vp_cell (E 0) (5, .inl fun _ => 0)) := fun j hj => by
    have := Jvm.Free.Multi.fill_inner (T.setVm vm₁) (E 5) (E 0) 5 5 (defaultValue .int) 5 j hj
    rw [hF, hTh] at this
    rw [this, vp_cell_i]
    show some ({ cls := E 0, slots := Array.replicate 5 (.int 0), vm := .none } : Cell) = _
    rw [arrV_new]
  have hout : F.heap[H.size]? = some (vp_cell (E 5) (5, .inr (.inr (.inr (.inr fun i => if i < 5 then some (H.size + 1 + i) else none))))) := by
    rw [f2, outer_q, vp_cell_q]
  have hP0 : va_P D classes ws F.heap := hP.kept (fun i x hx => hold x.1 ((hP i x hx).lt))
  refine Exists.elim (kk H.size (fun i => H.size + 1 + i) F.heap locs ls (hP0.app (va_P.app (fun i x hx => ?_) (fun i x hx => ?_))) (va_D.app hD (va_D.app ⟨fun i j x y hi hj _ => ?_, fun i x hx => ?_⟩ ⟨fun i j x y hi hj hxy => ?_, fun i x hx => ?_⟩ (fun i j x y hx hy => ?_)) (fun i j x y hx hy => ?_)) ⟨by rw [f1]; have := hS.1; omega, fun x g1 g2 => (hold x (Nat.lt_of_lt_of_le g1 hS.1)).trans (hS.2.1 x g1 g2), hS.2.2⟩ hl F rfl X') (fun t a => ⟨t, step t (by rw [show T.heap.size = H.size by rw [hT]]; exact a.1), a.2⟩)
  · have h0 : i < 1 := (List.getElem?_eq_some_iff.mp hx).1
    rw [show i = 0 by omega] at hx
    cases hx
    exact hout
  · obtain ⟨hi, rfl⟩ := rows_at hx
    exact hrow i hi
  · have g1 : i < 1 := (List.getElem?_eq_some_iff.mp hi).1
    have g2 : j < 1 := (List.getElem?_eq_some_iff.mp hj).1
    omega
  · have h0 : i < 1 := (List.getElem?_eq_some_iff.mp hx).1
    rw [show i = 0 by omega] at hx
    cases hx
    exact hA _ hS.1
  · obtain ⟨-, rfl⟩ := rows_at hi
    obtain ⟨-, rfl⟩ := rows_at hj
    have : H.size + 1 + i = H.size + 1 + j := hxy
    omega
  · obtain ⟨-, rfl⟩ := rows_at hx
    exact hA _ (Nat.le_trans hS.1 (by show H.size ≤ H.size + 1 + i; omega))
  · have h0 : i < 1 := (List.getElem?_eq_some_iff.mp hx).1
    rw [show i = 0 by omega] at hx
    cases hx
    obtain ⟨-, rfl⟩ := rows_at hy
    show H.size ≠ H.size + 1 + j
    omega
  · have hlt := (hP i x hx).lt
    rcases List.mem_append.mp (List.mem_of_getElem? hy) with h | h
    · rw [List.mem_singleton.mp h]
      show x.1 ≠ H.size
      omega
    · obtain ⟨i2, -, rfl⟩ := List.mem_map.mp h
      show x.1 ≠ H.size + 1 + i2
      omega
end MK3
