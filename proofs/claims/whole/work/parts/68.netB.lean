/-! THE NEW NETWORK, in the reference -/
theorem fsN_B {σ : MT} {i : Nat} {d : Int32} (f0 : σ.1 43 (19 * i) = 1) (f1 : σ.1 43 (19 * i + 1) = d) (f2 : σ.1 43 (19 * i + 2) = -9) (f3 : σ.1 43 (19 * i + 3) = 0) (f4 : σ.1 43 (19 * i + 4) = 0) (f5 : σ.1 43 (19 * i + 5) = 0) (f6 : σ.1 43 (19 * i + 6) = 0) : hB σ 43 (19 * i) (fsN d) := by
  refine ⟨lt6 ?_ ?_ ?_ ?_ ?_ ?_, by rw [f6]; rfl, by show 0 ≤ 4; omega, fun j s hs => (by cases hs)⟩
  · rw [Nat.add_zero, f0]; rfl
  · rw [f1]; rfl
  · rw [f2]; rfl
  · rw [f3]; rfl
  · rw [f4]; rfl
  · rw [f5]; rfl
def P4 : Nat → Prop := fun c => c = 43 ∨ c = 40
theorem B_net_nodes {K : Int32 → MT → Option (Int32 × MT)} {N : Nat} {dr st : Nat → Int32} (hN5 : N ≤ 5) : ∀ (d i fuel : Nat) (σ : MT), i + d = N → d < fuel → σ.1 38 5 = nI N → (∀ j, j < N → σ.1 57 j = dr j) → (∀ j, j < N → σ.1 58 j = st j) → (∀ j, j < i → hB σ 43 (19 * j) (fsN (dr j)) ∧ σ.1 40 j = st j) → ∃ τ, f_M_net_54 K fuel (nI i) σ = K 0 τ ∧ (∀ j, j < N → hB τ 43 (19 * j) (fsN (dr j)) ∧ τ.1 40 j = st j) ∧ EO P4 σ τ
  | 0, i, fuel, σ, hi, hf, h5, h57, h58, h => by
    obtain ⟨f, rfl⟩ : ∃ f, fuel = f + 1 := ⟨fuel - 1, by omega⟩
    have : i = N := by omega
    subst this
    refine ⟨σ, ?_, h, EO.rf⟩
    rw [f_M_net_54, h5, if_pos ((nIle (by omega) (by omega)).mpr (by omega))]
  | d + 1, i, fuel, σ, hi, hf, h5, h57, h58, h => by
    obtain ⟨f, rfl⟩ : ∃ f, fuel = f + 1 := ⟨fuel - 1, by omega⟩
    obtain ⟨τ1, q1, f0, f1, f2, f3, f4, f5, f6, fe⟩ := B_first (σ := σ) (c := 43) (i := i) (Or.inl rfl) (by omega)
    have e1 : EO P4 σ τ1 := ⟨fun c hc => fe.2.1 c (fun z => hc (by unfold P4; exact Or.inl z)) (fun z => z), fe.2.2⟩
    have d57 : τ1.1 57 i = dr i := by rw [e1.1 57 (by unfold P4; omega)]; exact h57 i (by omega)
    rw [f_M_net_54, h5, if_neg (fun z => absurd ((nIle (by omega) (by omega)).mp z) (by omega)), q1, Option.bind_some]
    unfold f_M_net_87
    simp (disch := omega) only [ad19, ad3, ad95, nIp_0, nIp_1, nIp_2, nIp_3, nIp_4, nIp_5, nIp_6, nIp_7, nI_add, nIc, inb_n, eq_self, if_true]
    rw [d57]
    have d58 : (sI τ1 43 (19 * i + 1) (dr i)).1 58 i = st i := by rw [sI_n (by omega), e1.1 58 (by unfold P4; omega)]; exact h58 i (by omega)
    rw [d58]
    have e2 : EO P4 σ (sI (sI τ1 43 (19 * i + 1) (dr i)) 40 i (st i)) := EO.i (P := P4) (EO.i (P := P4) e1 (Or.inl rfl)) (Or.inr rfl)
    have g : ∀ b, (sI (sI τ1 43 (19 * i + 1) (dr i)) 40 i (st i)).1 43 b = if b = 19 * i + 1 then dr i else τ1.1 43 b := fun b => by
      rw [sI_n (by omega), sI_r]
      by_cases z : b = 19 * i + 1
      · rw [if_pos ⟨rfl, z⟩, if_pos z]
      · rw [if_neg (fun w => z w.2), if_neg z]
    obtain ⟨τ, p1, p2, p3⟩ := B_net_nodes (K := K) (dr := dr) (st := st) hN5 d (i + 1) f _ (by omega) (by omega) (by rw [e2.1 38 (by unfold P4; omega)]; exact h5) (fun j hj => by rw [e2.1 57 (by unfold P4; omega)]; exact h57 j hj) (fun j hj => by rw [e2.1 58 (by unfold P4; omega)]; exact h58 j hj) (fun j hj => by
      by_cases z : j = i
      · subst z
        refine ⟨fsN_B ?_ ?_ ?_ ?_ ?_ ?_ ?_, by rw [sI_r, if_pos ⟨rfl, rfl⟩]⟩
        · rw [g, if_neg (by omega)]; exact f0
        · rw [g, if_pos rfl]
        · rw [g, if_neg (by omega)]; exact f2
        · rw [g, if_neg (by omega)]; exact f3
        · rw [g, if_neg (by omega)]; exact f4
        · rw [g, if_neg (by omega)]; exact f5
        · rw [g, if_neg (by omega)]; exact f6
      · obtain ⟨g1, g2⟩ := h j (by omega)
        refine ⟨g1.cp (fun b hb => ?_), ?_⟩
        · rw [g, if_neg (by omega)]
          exact fe.1 _ (by unfold PB; omega)
        · rw [sI_r, if_neg (by omega), sI_n (by omega), fe.2.1 40 (by omega) (fun z => z)]; exact g2)
    exact ⟨τ, p1, p2, e2.tr p3⟩
/-- what the reference's last loop leaves -/
def ntB (N L : Nat) (e : Nat → Nat × Nat) (σ τ : MT) : Prop := (∀ j, j < 7 → τ.1 43 (95 + j) = 0) ∧ τ.1 43 102 = 0 ∧ (∀ b, b < 95 → τ.1 43 b = σ.1 43 b) ∧ (∀ j, j < L → τ.1 41 j = nI (e j).1 ∧ τ.1 42 j = nI (e j).2) ∧ (τ.1 47 0 = 0 ∧ τ.1 47 1 = 0) ∧ τ.1 38 13 = 0 ∧ (∀ j, j ≠ 13 → τ.1 38 j = σ.1 38 j) ∧ (∀ c, c ≠ 38 → c ≠ 41 → c ≠ 42 → c ≠ 43 → c ≠ 47 → τ.1 c = σ.1 c) ∧ τ.2 = σ.2
theorem B_net_links {N L : Nat} {e : Nat → Nat × Nat} (hL7 : L ≤ 7) : ∀ (d l fuel : Nat) (σ : MT), l + d = 7 → d < fuel → σ.1 38 5 = nI N → σ.1 38 7 = nI L → (∀ j, j < L → σ.1 59 j = nI (e j).1 ∧ σ.1 60 j = nI (e j).2) → (∀ j, j < l → σ.1 43 (95 + j) = 0) → (∀ j, j < l → j < L → σ.1 41 j = nI (e j).1 ∧ σ.1 42 j = nI (e j).2) → ∃ τ, f_M_net_107 fuel (nI l) σ = some (nI N, τ) ∧ ntB N L e σ τ
  | 0, l, fuel, σ, hi, hf, h5, h7, h59, h43, h41 => by
    obtain ⟨f, rfl⟩ : ∃ f, fuel = f + 1 := ⟨fuel - 1, by omega⟩
    have : l = 7 := by omega
    subst this
    rw [f_M_net_107, if_pos ((nge_7 (by omega)).mpr (by omega)), if_pos i102, if_pos (by decide), if_pos (by decide), c102, show (0 : Int32).toNatClampNeg = 0 from rfl, show (1 : Int32).toNatClampNeg = 1 from rfl, nz0]
    have e5 : (sI (sI (sI (sI σ 43 102 0) 38 13 0) 47 0 0) 47 1 0).1 38 5 = nI N := by
      rw [sI_n (by omega), sI_n (by omega), sI_r, if_neg (by omega), sI_n (by omega)]; exact h5
    rw [e5]
    refine ⟨_, rfl, fun j hj => ?_, ?_, fun b hb => ?_, fun j hj => ?_, ⟨?_, ?_⟩, ?_, fun j hj => ?_, fun c h1 h2 h3 h4 h5 => ?_, rfl⟩
    · rw [sI_n (by omega), sI_n (by omega), sI_n (by omega), sI_r, if_neg (by omega)]; exact h43 j hj
    · rw [sI_n (by omega), sI_n (by omega), sI_n (by omega), sI_r, if_pos ⟨rfl, rfl⟩]
    · rw [sI_n (by omega), sI_n (by omega), sI_n (by omega), sI_r, if_neg (by omega)]
    · rw [sI_n (by omega), sI_n (by omega), sI_n (by omega), sI_n (by omega), sI_n (by omega), sI_n (by omega), sI_n (by omega), sI_n (by omega)]
      exact h41 j (by omega) hj
    · rw [sI_r, if_neg (by omega), sI_r, if_pos ⟨rfl, rfl⟩]
    · rw [sI_r, if_pos ⟨rfl, rfl⟩]
    · rw [sI_n (by omega), sI_n (by omega), sI_r, if_pos ⟨rfl, rfl⟩]
    · rw [sI_n (by omega), sI_n (by omega), sI_r, if_neg (fun z => hj z.2), sI_n (by omega)]
    · rw [sI_n (by omega), sI_n (by omega), sI_n (by omega), sI_n (by omega)]
  | d + 1, l, fuel, σ, hi, hf, h5, h7, h59, h43, h41 => by
    obtain ⟨f, rfl⟩ : ∃ f, fuel = f + 1 := ⟨fuel - 1, by omega⟩
    have k7 : ∀ v, (sI σ 43 (95 + l) v).1 38 7 = nI L := fun v => by rw [sI_n (by omega)]; exact h7
    have k7b : ∀ v w, (sI (sI σ 43 (95 + l) v) 41 l w).1 38 7 = nI L := fun v w => by rw [sI_n (by omega)]; exact k7 v
    have step : ∀ x y : Int32, (l < L → x = nI (e l).1 ∧ y = nI (e l).2) → ∃ τ, f_M_net_107 f (nI (l + 1)) (sI (sI (sI σ 43 (95 + l) 0) 41 l x) 42 l y) = some (nI N, τ) ∧ ntB N L e σ τ := fun x y hxy => by
      have r41 : ∀ j, (sI (sI (sI σ 43 (95 + l) 0) 41 l x) 42 l y).1 41 j = if j = l then x else σ.1 41 j := fun j => by
        rw [sI_n (by omega), sI_r]
        by_cases z : j = l
        · rw [if_pos ⟨rfl, z⟩, if_pos z]
        · rw [if_neg (fun w => z w.2), if_neg z, sI_n (by omega)]
      have r42 : ∀ j, (sI (sI (sI σ 43 (95 + l) 0) 41 l x) 42 l y).1 42 j = if j = l then y else σ.1 42 j := fun j => by
        rw [sI_r]
        by_cases z : j = l
        · rw [if_pos ⟨rfl, z⟩, if_pos z]
        · rw [if_neg (fun w => z w.2), if_neg z, sI_n (by omega), sI_n (by omega)]
      obtain ⟨τ, p1, p2, p3, p4, p5, p6, p7, p8, p9, p10⟩ := B_net_links (e := e) (N := N) hL7 d (l + 1) f (sI (sI (sI σ 43 (95 + l) 0) 41 l x) 42 l y) (by omega) (by omega) (by rw [sI_n (by omega), sI_n (by omega), sI_n (by omega)]; exact h5) (by rw [sI_n (by omega)]; exact k7b _ _) (fun j hj => by rw [sI_n (by omega), sI_n (by omega), sI_n (by omega), sI_n (by omega), sI_n (by omega), sI_n (by omega)]; exact h59 j hj) (fun j hj => by
        rw [sI_n (by omega), sI_n (by omega), sI_r]
        by_cases z : j = l
        · rw [if_pos ⟨rfl, by omega⟩]
        · rw [if_neg (fun w => z (by omega))]; exact h43 j (by omega)) (fun j hj hjL => by
        rw [r41, r42]
        by_cases z : j = l
        · subst z
          rw [if_pos rfl, if_pos rfl]
          exact hxy hjL
        · rw [if_neg z, if_neg z]
          exact h41 j (by omega) hjL)
      refine ⟨τ, p1, p2, p3, fun b hb => ?_, p5, p6, p7, fun j hj => ?_, fun c h1 h2 h3 h4 h5 => ?_, p10⟩
      · rw [p4 b hb, sI_n (by omega), sI_n (by omega), sI_r, if_neg (by omega)]
      · rw [p8 j hj, sI_n (by omega), sI_n (by omega), sI_n (by omega)]
      · rw [p9 c h1 h2 h3 h4 h5, sI_n h3, sI_n h2, sI_n h4]
    rw [f_M_net_107, if_neg (fun z => absurd ((nge_7 (by omega)).mp z) (by omega)), ad95, if_pos (inb_n (by omega) (by decide)), nIc (by omega), k7]
    unfold f_M_net_146 f_M_net_170
    by_cases g : L ≤ l
    · rw [if_pos ((nIle (by omega) (by omega)).mpr g), if_pos (inb_n (by omega) (by decide)), nIc (by omega), k7b, if_pos ((nIle (by omega) (by omega)).mpr g), if_pos (inb_n (by omega) (by decide)), nIs]
      exact step 0 0 (fun z => absurd z (by omega))
    · have a59 : (sI σ 43 (95 + l) 0).1 59 l = nI (e l).1 := by rw [sI_n (by omega)]; exact (h59 l (by omega)).1
      have a60 : ∀ v, (sI (sI σ 43 (95 + l) 0) 41 l v).1 60 l = nI (e l).2 := fun v => by rw [sI_n (by omega), sI_n (by omega)]; exact (h59 l (by omega)).2
      have g' : ¬ nI L ≤ nI l := fun z => g ((nIle (by omega) (by omega)).mp z)
      have il := inb_n (m := l) (N := 7) (by omega) (by decide)
      rw [if_neg g', if_pos il, if_pos il, nIc (by omega), a59, k7b, if_neg g', if_pos il, if_pos il, a60, nIs]
      exact step _ _ (fun _ => ⟨rfl, rfl⟩)
