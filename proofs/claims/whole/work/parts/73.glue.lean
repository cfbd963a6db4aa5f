/-! CELLS OF THE FIRST WORLD side by side: addresses glued -/
def Sm (D : va_G) (w1 w2 : va_W) : Prop := w2.length = w1.length ∧ ∀ (i : Nat) (q : Nat × va_E), w2[i]? = some q → ∃ q2, w1[i]? = some q2 ∧ q.1 = q2.1 ∧ ∀ H, va_at D classes q2 H → va_at D classes q H
theorem Sm.rf {D : va_G} {w : va_W} : Sm D w w := ⟨rfl, fun _ q h => ⟨q, h, rfl, fun _ z => z⟩⟩
theorem Sm.app {D : va_G} {a b c d : va_W} (h1 : Sm D a b) (h2 : Sm D c d) : Sm D (a ++ c) (b ++ d) := by
  refine ⟨by rw [List.length_append, List.length_append, h1.1, h2.1], fun i q hq => ?_⟩
  by_cases hi : i < b.length
  · rw [List.getElem?_append_left hi] at hq
    obtain ⟨q2, g1, g2⟩ := h1.2 i q hq
    exact ⟨q2, by rw [List.getElem?_append_left (by rw [← h1.1]; exact hi)]; exact g1, g2⟩
  · rw [List.getElem?_append_right (by omega)] at hq
    obtain ⟨q2, g1, g2⟩ := h2.2 _ q hq
    exact ⟨q2, by rw [List.getElem?_append_right (by rw [← h1.1]; omega), ← h1.1]; exact g1, g2⟩
theorem Sm.one {D : va_G} {a : Nat} {x y : va_E} (h : ∀ H, va_at D classes (a, x) H → va_at D classes (a, y) H) : Sm D [(a, x)] [(a, y)] := by
  refine ⟨rfl, fun i q hq => ?_⟩
  have h0 : i < 1 := (List.getElem?_eq_some_iff.mp hq).1
  rw [show i = 0 by omega] at hq ⊢
  cases hq
  exact ⟨(a, x), rfl, rfl, h⟩
theorem arr_congr {c : ClassId} {N : Nat} {f g : Nat → Value} (h : ∀ j, j < N → f j = g j) : arrV c N f = arrV c N g := by
  unfold arrV
  have e : (fun j : Fin N => f j.val) = fun j : Fin N => g j.val := funext fun j => h j.val j.isLt
  rw [e]
theorem at_q {D : va_G} {a N : Nat} {c : ClassId} {f g : Nat → Option Nat} {H : Heap} (h : ∀ j, j < N → f j = g j) (hv : va_at D classes (a, .inl (c, N, .inr (.inr (.inr (.inr f))))) H) : va_at D classes (a, .inl (c, N, .inr (.inr (.inr (.inr g))))) H := by
  have hv' : H[a]? = some (vp_cell c (N, .inr (.inr (.inr (.inr f))))) := hv
  show H[a]? = some (vp_cell c (N, .inr (.inr (.inr (.inr g)))))
  rw [hv', vp_cell_q, vp_cell_q, arr_congr (fun j hj => by rw [h j hj])]
def rfs (k : Nat) : List Nat := k :: (if kdf k = 0 then [1, 2, 14, 15, 61, 83, 30, 32, 33, 34] else if kdf k = 1 then [3] else if kdf k = 2 then [k + 1, k + 2, k + 3, k + 4, k + 5] else if kdf k = 3 then [15, 26, 27, 28, 29] else if kdf k = 4 then [k + 1] else if kdf k = 5 then [k + 1, k + 2, k + 3] else if kdf k = 6 then [31] else if kdf k = 7 then [35, 36, 37] else if kdf k = 8 then [39, 40, 41, 42, 43, 44, 45, 46, 47, 48, 49, 50, 51, 52, 53, 54, 55, 56, 57, 58, 59, 60] else if kdf k = 30 then [105, 127] else if kdf k = 31 then (List.range 14).map (fun j => 149 + 22 * j) else if kdf k = 32 then (List.range 5).map (fun j => k + 1 + 4 * j) else if kdf k = 33 then (List.range 5).map (fun j => k + 1 + j) else [])
theorem kdf_vals (k : Nat) : kdf k ∈ [0, 1, 2, 3, 4, 5, 6, 7, 8, 10, 11, 12, 13, 14, 15, 16, 17, 18, 20, 21, 22, 30, 31, 32, 33, 99] := by
  by_cases h : k < 457
  · exact (by decide +kernel : ∀ k, k < 457 → kdf k ∈ [0, 1, 2, 3, 4, 5, 6, 7, 8, 10, 11, 12, 13, 14, 15, 16, 17, 18, 20, 21, 22, 30, 31, 32, 33, 99]) k h
  · have : kdf k = 99 := by
      unfold kdf
      rw [if_neg (by omega), if_neg h]
    rw [this]
    decide
theorem at_blk {D : va_G} {E : Nat → ClassId} {ad ad' : Nat → Nat} {k : Nat} {H : Heap} (h : ∀ i, i ∈ rfs k → ad' i = ad i) (hv : va_at D classes (cellOf (D, E, ad) w0 k) H) : va_at D classes (cellOf (D, E, ad') w0 k) H := by
  have h0 : ad' k = ad k := h k List.mem_cons_self
  unfold cellOf at hv ⊢
  generalize w0.1 k = g at hv ⊢
  generalize w0.2 k = z at hv ⊢
  have hr : ∀ i, i ∈ (if kdf k = 0 then [1, 2, 14, 15, 61, 83, 30, 32, 33, 34] else if kdf k = 1 then [3] else if kdf k = 2 then [k + 1, k + 2, k + 3, k + 4, k + 5] else if kdf k = 3 then [15, 26, 27, 28, 29] else if kdf k = 4 then [k + 1] else if kdf k = 5 then [k + 1, k + 2, k + 3] else if kdf k = 6 then [31] else if kdf k = 7 then [35, 36, 37] else if kdf k = 8 then [39, 40, 41, 42, 43, 44, 45, 46, 47, 48, 49, 50, 51, 52, 53, 54, 55, 56, 57, 58, 59, 60] else if kdf k = 30 then [105, 127] else if kdf k = 31 then (List.range 14).map (fun j => 149 + 22 * j) else if kdf k = 32 then (List.range 5).map (fun j => k + 1 + 4 * j) else if kdf k = 33 then (List.range 5).map (fun j => k + 1 + j) else []) → ad' i = ad i := fun i hi => h i (List.mem_cons_of_mem _ hi)
  have hvals := kdf_vals k
  generalize kdf k = kd at hv hr hvals ⊢
  show va_at D classes (ad' k, cont (D, E, ad') kd k g z) H
  rw [h0]
  have same : cont (D, E, ad') kd k g z = cont (D, E, ad) kd k g z → va_at D classes (ad k, cont (D, E, ad') kd k g z) H := fun e => by rw [e]; exact hv
  simp only [List.mem_cons, List.not_mem_nil, or_false] at hvals
  rcases hvals with rfl | rfl | rfl | rfl | rfl | rfl | rfl | rfl | rfl | rfl | rfl | rfl | rfl | rfl | rfl | rfl | rfl | rfl | rfl | rfl | rfl | rfl | rfl | rfl | rfl | rfl
  · refine same ?_
    have m : ∀ i, i ∈ ([1, 2, 14, 15, 61, 83, 30, 32, 33, 34] : List Nat) → ad' i = ad i := hr
    show (Sum.inr (0, [Value.ref (ad' 1), Value.int (g 1), Value.ref (ad' 2), Value.ref (ad' 14), Value.ref (ad' 15), Value.ref (ad' 61), Value.ref (ad' 83), Value.ref (ad' 30), Value.ref (ad' 32), Value.ref (ad' 33), Value.ref (ad' 34), Value.long z]) : va_E) = (Sum.inr (0, [Value.ref (ad 1), Value.int (g 1), Value.ref (ad 2), Value.ref (ad 14), Value.ref (ad 15), Value.ref (ad 61), Value.ref (ad 83), Value.ref (ad 30), Value.ref (ad 32), Value.ref (ad 33), Value.ref (ad 34), Value.long z]) : va_E)
    rw [m 1 (by decide), m 2 (by decide), m 14 (by decide), m 15 (by decide), m 61 (by decide), m 83 (by decide), m 30 (by decide), m 32 (by decide), m 33 (by decide), m 34 (by decide)]
  · refine same ?_
    have m : ∀ i, i ∈ ([3] : List Nat) → ad' i = ad i := hr
    show (Sum.inr (1, [Value.ref (ad' 3), Value.int (g 1), Value.int (g 2), Value.int (g 3)]) : va_E) = (Sum.inr (1, [Value.ref (ad 3), Value.int (g 1), Value.int (g 2), Value.int (g 3)]) : va_E)
    rw [m 3 (by decide)]
  · refine same ?_
    have m : ∀ i, i ∈ ([k + 1, k + 2, k + 3, k + 4, k + 5] : List Nat) → ad' i = ad i := hr
    show (Sum.inr (2, [Value.int (g 0), Value.int (g 1), Value.int (g 2), Value.int (g 3), Value.int (g 4), Value.ref (ad' (k + 1)), Value.ref (ad' (k + 2)), Value.ref (ad' (k + 3)), Value.ref (ad' (k + 4)), Value.ref (ad' (k + 5))]) : va_E) = (Sum.inr (2, [Value.int (g 0), Value.int (g 1), Value.int (g 2), Value.int (g 3), Value.int (g 4), Value.ref (ad (k + 1)), Value.ref (ad (k + 2)), Value.ref (ad (k + 3)), Value.ref (ad (k + 4)), Value.ref (ad (k + 5))]) : va_E)
    rw [m (k + 1) (by simp), m (k + 2) (by simp), m (k + 3) (by simp), m (k + 4) (by simp), m (k + 5) (by simp)]
  · refine same ?_
    have m : ∀ i, i ∈ ([15, 26, 27, 28, 29] : List Nat) → ad' i = ad i := hr
    show (Sum.inr (3, [Value.ref (ad' 15), Value.ref (ad' 26), Value.ref (ad' 27), Value.ref (ad' 28), Value.ref (ad' 29)]) : va_E) = (Sum.inr (3, [Value.ref (ad 15), Value.ref (ad 26), Value.ref (ad 27), Value.ref (ad 28), Value.ref (ad 29)]) : va_E)
    rw [m 15 (by decide), m 26 (by decide), m 27 (by decide), m 28 (by decide), m 29 (by decide)]
  · refine same ?_
    have m : ∀ i, i ∈ ([k + 1] : List Nat) → ad' i = ad i := hr
    show (Sum.inr (4, [Value.int (g 0), Value.int (g 1), Value.ref (ad' (k + 1))]) : va_E) = (Sum.inr (4, [Value.int (g 0), Value.int (g 1), Value.ref (ad (k + 1))]) : va_E)
    rw [m (k + 1) (by simp)]
  · refine same ?_
    have m : ∀ i, i ∈ ([k + 1, k + 2, k + 3] : List Nat) → ad' i = ad i := hr
    show (Sum.inr (5, [Value.int (g 0), Value.int (g 1), Value.int (g 2), Value.int (g 3), Value.int (g 4), Value.int (g 5), Value.int (g 6), Value.ref (ad' (k + 1)), Value.ref (ad' (k + 2)), Value.ref (ad' (k + 3))]) : va_E) = (Sum.inr (5, [Value.int (g 0), Value.int (g 1), Value.int (g 2), Value.int (g 3), Value.int (g 4), Value.int (g 5), Value.int (g 6), Value.ref (ad (k + 1)), Value.ref (ad (k + 2)), Value.ref (ad (k + 3))]) : va_E)
    rw [m (k + 1) (by simp), m (k + 2) (by simp), m (k + 3) (by simp)]
  · refine same ?_
    have m : ∀ i, i ∈ ([31] : List Nat) → ad' i = ad i := hr
    show (Sum.inr (6, [Value.ref (ad' 31), Value.int (g 1), Value.int (g 2)]) : va_E) = (Sum.inr (6, [Value.ref (ad 31), Value.int (g 1), Value.int (g 2)]) : va_E)
    rw [m 31 (by decide)]
  · refine same ?_
    have m : ∀ i, i ∈ ([35, 36, 37] : List Nat) → ad' i = ad i := hr
    show (Sum.inr (7, [Value.ref (ad' 35), Value.ref (ad' 36), Value.ref (ad' 37), Value.int (g 3)]) : va_E) = (Sum.inr (7, [Value.ref (ad 35), Value.ref (ad 36), Value.ref (ad 37), Value.int (g 3)]) : va_E)
    rw [m 35 (by decide), m 36 (by decide), m 37 (by decide)]
  · refine same ?_
    have m : ∀ i, i ∈ ([39, 40, 41, 42, 43, 44, 45, 46, 47, 48, 49, 50, 51, 52, 53, 54, 55, 56, 57, 58, 59, 60] : List Nat) → ad' i = ad i := hr
    show (Sum.inr (8, [Value.ref (ad' 39), Value.int (g 1), Value.int (g 2), Value.int (g 3), Value.int (g 4), Value.int (g 5), Value.ref (ad' 40), Value.int (g 7), Value.ref (ad' 41), Value.ref (ad' 42), Value.ref (ad' 43), Value.ref (ad' 44), Value.ref (ad' 45), Value.int (g 13), Value.int (g 14), Value.ref (ad' 46), Value.ref (ad' 47), Value.ref (ad' 48), Value.ref (ad' 49), Value.ref (ad' 50), Value.int (g 20), Value.long z, Value.ref (ad' 51), Value.ref (ad' 52), Value.ref (ad' 53), Value.ref (ad' 54), Value.ref (ad' 55), Value.ref (ad' 56), Value.int (g 28), Value.int (g 29), Value.int (g 30), Value.int (g 31), Value.ref (ad' 57), Value.ref (ad' 58), Value.int (g 34), Value.ref (ad' 59), Value.ref (ad' 60), Value.int (g 37), Value.int (g 38)]) : va_E) = (Sum.inr (8, [Value.ref (ad 39), Value.int (g 1), Value.int (g 2), Value.int (g 3), Value.int (g 4), Value.int (g 5), Value.ref (ad 40), Value.int (g 7), Value.ref (ad 41), Value.ref (ad 42), Value.ref (ad 43), Value.ref (ad 44), Value.ref (ad 45), Value.int (g 13), Value.int (g 14), Value.ref (ad 46), Value.ref (ad 47), Value.ref (ad 48), Value.ref (ad 49), Value.ref (ad 50), Value.int (g 20), Value.long z, Value.ref (ad 51), Value.ref (ad 52), Value.ref (ad 53), Value.ref (ad 54), Value.ref (ad 55), Value.ref (ad 56), Value.int (g 28), Value.int (g 29), Value.int (g 30), Value.int (g 31), Value.ref (ad 57), Value.ref (ad 58), Value.int (g 34), Value.ref (ad 59), Value.ref (ad 60), Value.int (g 37), Value.int (g 38)]) : va_E)
    rw [m 39 (by decide), m 40 (by decide), m 41 (by decide), m 42 (by decide), m 43 (by decide), m 44 (by decide), m 45 (by decide), m 46 (by decide), m 47 (by decide), m 48 (by decide), m 49 (by decide), m 50 (by decide), m 51 (by decide), m 52 (by decide), m 53 (by decide), m 54 (by decide), m 55 (by decide), m 56 (by decide), m 57 (by decide), m 58 (by decide), m 59 (by decide), m 60 (by decide)]
  · exact same rfl
  · exact same rfl
  · exact same rfl
  · exact same rfl
  · exact same rfl
  · exact same rfl
  · exact same rfl
  · exact same rfl
  · exact same rfl
  · exact same rfl
  · exact same rfl
  · exact same rfl
  · refine at_q (fun j hj => ?_) hv
    obtain rfl | rfl : j = 0 ∨ j = 1 := by omega
    · exact congrArg some ((show ∀ i, i ∈ ([105, 127] : List Nat) → ad' i = ad i from hr) 105 (by decide)).symm
    · exact congrArg some ((show ∀ i, i ∈ ([105, 127] : List Nat) → ad' i = ad i from hr) 127 (by decide)).symm
  · refine at_q (fun j hj => ?_) hv
    exact congrArg some ((show ∀ i, i ∈ (List.range 14).map (fun j => 149 + 22 * j) → ad' i = ad i from hr) (149 + 22 * j) (List.mem_map.mpr ⟨j, List.mem_range.mpr hj, rfl⟩)).symm
  · refine at_q (fun j hj => ?_) hv
    exact congrArg some ((show ∀ i, i ∈ (List.range 5).map (fun j => k + 1 + 4 * j) → ad' i = ad i from hr) (k + 1 + 4 * j) (List.mem_map.mpr ⟨j, List.mem_range.mpr hj, rfl⟩)).symm
  · refine at_q (fun j hj => ?_) hv
    exact congrArg some ((show ∀ i, i ∈ (List.range 5).map (fun j => k + 1 + j) → ad' i = ad i from hr) (k + 1 + j) (List.mem_map.mpr ⟨j, List.mem_range.mpr hj, rfl⟩)).symm
  · exact same rfl
theorem Sm.bl {D : va_G} {E : Nat → ClassId} {ad ad' : Nat → Nat} {ks : List Nat} (h : ∀ k, k ∈ ks → ∀ i, i ∈ rfs k → ad' i = ad i) : Sm D (blk D E ad ks) (blk D E ad' ks) := by
  refine ⟨(List.length_map ..).trans (List.length_map ..).symm, fun i q hq => ?_⟩
  have hq' : (ks.map (cellOf (D, E, ad') w0))[i]? = some q := hq
  rw [List.getElem?_map] at hq'
  cases hk : ks[i]? with
  | none => rw [hk] at hq'; cases hq'
  | some k =>
    rw [hk] at hq'
    have e : cellOf (D, E, ad') w0 k = q := Option.some.inj hq'
    subst e
    have hm := List.mem_of_getElem? hk
    refine ⟨cellOf (D, E, ad) w0 k, ?_, h k hm k List.mem_cons_self, fun H hv => at_blk (h k hm) hv⟩
    show (ks.map (cellOf (D, E, ad) w0))[i]? = _
    rw [List.getElem?_map, hk]; rfl
theorem blk_app {D : va_G} {E : Nat → ClassId} {ad : Nat → Nat} {a b : List Nat} : blk D E ad (a ++ b) = blk D E ad a ++ blk D E ad b := List.map_append
section MK4
variable {X : XT} {D : va_G} {E : Nat → ClassId} {A : Nat → Prop} {Q : State → Prop} {nL pc : Nat} {lv : List (Nat × Value)} {st : List Value} {ws : va_W} {k n : Nat}
theorem k_sm {ws2 : va_W} (h : Sm D ws ws2) (kk : KJ X D A Q nL pc lv st ws2 k n) : KJ X D A Q nL pc lv st ws k n := k_same h.1 h.2 kk
theorem k_eq {ws2 : va_W} (h : ws = ws2) (kk : KJ X D A Q nL pc lv st ws2 k n) : KJ X D A Q nL pc lv st ws k n := by
  rw [h]; exact kk
theorem k_glue {W : va_W} {ad ad2 : Nat → Nat} {ks1 ks2 : List Nat} (p2 : Nat → Bool) (h1 : ∀ k, k ∈ ks1 → ∀ i, i ∈ rfs k → p2 i = false) (h2 : ∀ k, k ∈ ks2 → ∀ i, i ∈ rfs k → p2 i = true) (kk : ∀ ad' : Nat → Nat, (∀ i, p2 i = false → ad' i = ad i) → (∀ i, p2 i = true → ad' i = ad2 i) → KJ X D A Q nL pc lv st (W ++ blk D E ad' (ks1 ++ ks2)) k n) : KJ X D A Q nL pc lv st ((W ++ blk D E ad ks1) ++ blk D E ad2 ks2) k n := by
  have f1 : ∀ i, p2 i = false → (fun i => if p2 i = true then ad2 i else ad i) i = ad i := fun i hi => if_neg (by rw [hi]; decide)
  have f2 : ∀ i, p2 i = true → (fun i => if p2 i = true then ad2 i else ad i) i = ad2 i := fun i hi => if_pos hi
  refine k_sm ?_ (kk (fun i => if p2 i = true then ad2 i else ad i) f1 f2)
  rw [blk_app, ← List.append_assoc]
  exact (Sm.app Sm.rf (Sm.bl (fun k hk i hi => f1 i (h1 k hk i hi)))).app (Sm.bl (fun k hk i hi => f2 i (h2 k hk i hi)))
end MK4
