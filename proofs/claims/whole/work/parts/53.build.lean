/-! BUILDING a plan, in the class: clear, addNode, addLink -/
/-- a plan whose table of links is in order to its end, also beyond its nodes -/
def pF (σ : MT) (c : Nat) (p : PLN) : Prop := (σ.1 c 0 = p.1 0 ∧ σ.1 c 1 = p.1 1 ∧ σ.1 c 2 = p.1 2) ∧ σ.1 c 3 = nI (pN p) ∧ σ.1 c 4 = nI (pL p) ∧ (∀ i, i < pN p → σ.1 (c + 2) i = pS p i) ∧ (∀ l, l < pL p → σ.1 (c + 3) l = nI (min (pE p l).1 (pE p l).2) ∧ σ.1 (c + 4) l = nI (max (pE p l).1 (pE p l).2)) ∧ ∀ a, a < 5 → ∀ b, b < 5 → (∀ l, l < pL p → isP (pE p l) a b = true → σ.1 (c + 5 + 1 + a) b = nI l) ∧ ((∀ l, l < pL p → isP (pE p l) a b = false) → σ.1 (c + 5 + 1 + a) b = -9)
theorem pF.a {σ : MT} {c : Nat} {p : PLN} (h : pF σ c p) : pA σ c p := ⟨h.1, h.2.1, h.2.2.1, h.2.2.2.1, h.2.2.2.2.1, fun a ha _ b hb _ => h.2.2.2.2.2 a ha b hb⟩
theorem pF.eo {P : Nat → Prop} {σ τ : MT} {c : Nat} {p : PLN} (h : pF σ c p) (e : EO P σ τ) (hp : ∀ a, c ≤ a → a < c + 11 → ¬ P a) : pF τ c p := by
  obtain ⟨h1, h2, h3, h4, h5, h6⟩ := h
  have g : ∀ a, c ≤ a → a < c + 11 → τ.1 a = σ.1 a := fun a h1 h2 => e.1 a (hp a h1 h2)
  refine ⟨by rw [g c (by omega) (by omega)]; exact h1, by rw [g c (by omega) (by omega)]; exact h2, by rw [g c (by omega) (by omega)]; exact h3, fun i hi => by rw [g (c + 2) (by omega) (by omega)]; exact h4 i hi, fun l hl => by rw [g (c + 3) (by omega) (by omega), g (c + 4) (by omega) (by omega)]; exact h5 l hl, fun a ha b hb => ?_⟩
  rw [g (c + 5 + 1 + a) (by omega) (by omega)]
  exact h6 a ha b hb
def PR (c : Nat) : Nat → Prop := fun a => c + 6 ≤ a ∧ a < c + 11
theorem clear_in {K : Nat → Int32 → MT → Option MT} {c a : Nat} (ha : a < 5) : ∀ (d i fuel : Nat) (σ : MT), i + d = 5 → d < fuel → (∀ j, j < i → σ.1 (c + 5 + 1 + a) j = -9) → ∃ τ, f_Pl_clear_19 K fuel c (nI a) (nI i) σ = K c (nI (a + 1)) τ ∧ (∀ j, j < 5 → τ.1 (c + 5 + 1 + a) j = -9) ∧ EO (fun k => k = c + 5 + 1 + a) σ τ
  | 0, i, fuel, σ, hi, hf, h => by
    obtain ⟨f, rfl⟩ : ∃ f, fuel = f + 1 := ⟨fuel - 1, by omega⟩
    have : i = 5 := by omega
    subst this
    refine ⟨σ, ?_, h, EO.rf⟩
    rw [f_Pl_clear_19, if_pos ((nge_5 (by omega)).mpr (by omega)), nIs]
  | d + 1, i, fuel, σ, hi, hf, h => by
    obtain ⟨f, rfl⟩ : ∃ f, fuel = f + 1 := ⟨fuel - 1, by omega⟩
    rw [f_Pl_clear_19, if_neg (fun q => absurd ((nge_5 (by omega)).mp q) (by omega)), if_pos (inb_n (by omega) (by decide)), if_pos (inb_n (by omega) (by decide)), nIs, nIc (n := a) (by omega), nIc (n := i) (by omega)]
    have e : EO (fun k => k = c + 5 + 1 + a) σ (sI σ (c + 5 + 1 + a) i (-9)) := EO.i (P := fun k => k = c + 5 + 1 + a) EO.rf rfl
    obtain ⟨τ, q1, q2, q3⟩ := clear_in (K := K) (c := c) ha d (i + 1) f (sI σ (c + 5 + 1 + a) i (-9)) (by omega) (by omega) (fun j hj => by
      rw [sI_r]
      by_cases q : j = i
      · rw [if_pos ⟨rfl, q⟩]
      · rw [if_neg (fun z => q z.2)]; exact h j (by omega))
    exact ⟨τ, q1, q2, e.tr q3⟩
theorem clear_out {c : Nat} : ∀ (d a fuel : Nat) (σ : MT), a + d = 5 → d < fuel → (∀ b, b < a → ∀ j, j < 5 → σ.1 (c + 5 + 1 + b) j = -9) → ∃ τ, f_Pl_clear_12 fuel c (nI a) σ = some τ ∧ (∀ b, b < 5 → ∀ j, j < 5 → τ.1 (c + 5 + 1 + b) j = -9) ∧ EO (PR c) σ τ
  | 0, a, fuel, σ, hi, hf, h => by
    obtain ⟨f, rfl⟩ : ∃ f, fuel = f + 1 := ⟨fuel - 1, by omega⟩
    have : a = 5 := by omega
    subst this
    refine ⟨σ, ?_, h, EO.rf⟩
    rw [f_Pl_clear_12, if_pos ((nge_5 (by omega)).mpr (by omega))]
  | d + 1, a, fuel, σ, hi, hf, h => by
    obtain ⟨f, rfl⟩ : ∃ f, fuel = f + 1 := ⟨fuel - 1, by omega⟩
    rw [f_Pl_clear_12, if_neg (fun q => absurd ((nge_5 (by omega)).mp q) (by omega))]
    obtain ⟨τ, q1, q2, q3⟩ := clear_in (K := f_Pl_clear_12 f) (c := c) (a := a) (by omega) 5 0 1100 σ (by omega) (by omega) (fun j hj => absurd hj (by omega))
    rw [show nI 0 = (0 : Int32) from rfl] at q1
    rw [q1]
    obtain ⟨τ2, p1, p2, p3⟩ := clear_out (c := c) d (a + 1) f τ (by omega) (by omega) (fun b hb j hj => by
      by_cases q : b = a
      · subst q; exact q2 j hj
      · rw [q3.1 _ (by omega)]; exact h b (by omega) j hj)
    exact ⟨τ2, p1, p2, (q3.mo (fun k hk => by unfold PR; omega)).tr p3⟩
def PC (c : Nat) : Nat → Prop := fun a => c ≤ a ∧ a < c + 11
theorem v_clear {σ : MT} {c : Nat} : ∃ τ, f_Pl_clear c σ = some τ ∧ (∀ b, b < 5 → ∀ j, j < 5 → τ.1 (c + 5 + 1 + b) j = -9) ∧ τ.1 c 3 = nI 0 ∧ τ.1 c 4 = nI 0 ∧ (∀ j, j < 3 → τ.1 c j = σ.1 c j) ∧ EO (PC c) σ τ := by
  unfold f_Pl_clear
  obtain ⟨τ, q1, q2, q3⟩ := clear_out (c := c) 5 0 1100 (sI (sI σ c 3 0) c 4 0) (by omega) (by omega) (fun b hb => absurd hb (by omega))
  have e : τ.1 c = (sI (sI σ c 3 0) c 4 0).1 c := q3.1 c (by unfold PR; omega)
  refine ⟨τ, q1, q2, ?_, ?_, fun j hj => ?_, ?_⟩
  · rw [e]; simp [sI_r]; rfl
  · rw [e]; simp [sI_r]; rfl
  · rw [e, sI_r, if_neg (by omega), sI_r, if_neg (by omega)]
  · exact (EO.i (P := PC c) (EO.i (P := PC c) EO.rf (by unfold PC; omega)) (by unfold PC; omega)).tr (q3.mo (fun k hk => by unfold PR at hk; unfold PC; omega))
/-- a plan with one node more -/
def adN (q : PLN) (s : Int32) : PLN := (q.1, pN q + 1, pL q, (fun i => if i = pN q then s else pS q i), pE q)
/-- a plan with one link more -/
def adL (q : PLN) (a b : Nat) : PLN := (q.1, pN q, pL q + 1, pS q, fun l => if l = pL q then (a, b) else pE q l)
theorem v_addNode {σ : MT} {c : Nat} {q : PLN} {d s : Int32} (h : pF σ c q) (hN : pN q < 5) : ∃ τ, f_Pl_addNode c d s σ = some τ ∧ pF τ c (adN q s) ∧ τ.1 (c + 1) (pN q) = d ∧ (∀ j, j ≠ pN q → τ.1 (c + 1) j = σ.1 (c + 1) j) ∧ EO (PC c) σ τ := by
  obtain ⟨⟨f0, f1, f2⟩, h3, h4, h5, h6, h7⟩ := h
  unfold f_Pl_addNode f_Pl_addNode_28
  have s1 : (sI σ (c + 1) (pN q) d).1 c 3 = nI (pN q) := by rw [sI_n (by omega)]; exact h3
  have s2 : (sI (sI σ (c + 1) (pN q) d) (c + 2) (pN q) s).1 c 3 = nI (pN q) := by rw [sI_n (by omega)]; exact s1
  rw [h3, if_neg (fun z => absurd ((nge_5 (by omega)).mp z) (by omega)), if_pos (inb_n hN (by decide)), nIc (by omega), s1, if_pos (inb_n hN (by decide)), nIc (by omega), s2, nIs]
  refine ⟨_, rfl, ⟨⟨?_, ?_, ?_⟩, ?_, ?_, fun i hi => ?_, fun l hl => ?_, fun a ha b hb => ?_⟩, ?_, fun j hj => ?_, ?_⟩
  · rw [sI_r, if_neg (by omega), sI_n (by omega), sI_n (by omega)]; exact f0
  · rw [sI_r, if_neg (by omega), sI_n (by omega), sI_n (by omega)]; exact f1
  · rw [sI_r, if_neg (by omega), sI_n (by omega), sI_n (by omega)]; exact f2
  · rw [sI_r, if_pos ⟨rfl, rfl⟩]; rfl
  · rw [sI_r, if_neg (by omega), sI_n (by omega), sI_n (by omega)]; exact h4
  · rw [sI_n (by omega), sI_r]
    show _ = (if i = pN q then s else pS q i)
    by_cases z : i = pN q
    · rw [if_pos ⟨rfl, z⟩, if_pos z]
    · rw [if_neg (fun w => z w.2), if_neg z, sI_n (by omega)]
      have hi' : i < pN q + 1 := hi
      exact h5 i (by omega)
  · rw [sI_n (by omega), sI_n (by omega), sI_n (by omega), sI_n (by omega), sI_n (by omega), sI_n (by omega)]
    exact h6 l hl
  · rw [sI_n (by omega), sI_n (by omega), sI_n (by omega)]
    exact h7 a ha b hb
  · rw [sI_n (by omega), sI_n (by omega), sI_r, if_pos ⟨rfl, rfl⟩]
  · rw [sI_n (by omega), sI_n (by omega), sI_r, if_neg (fun z => hj z.2)]
  · exact EO.i (P := PC c) (EO.i (P := PC c) (EO.i (P := PC c) EO.rf (by unfold PC; omega)) (by unfold PC; omega)) (by unfold PC; omega)
def lkM (q : PLN) (a b : Nat) : Bool := anyR (fun l => isP (pE q l) a b) (pL q) 0 false
theorem lkM_t {q : PLN} {a b : Nat} : lkM q a b = true ↔ ∃ l, l < pL q ∧ isP (pE q l) a b = true := by
  unfold lkM
  rw [anyR_t]
  constructor
  · intro h
    rcases h with h | ⟨j, _, h2, h3⟩
    · cases h
    · exact ⟨j, by omega, h3⟩
  · intro ⟨l, h1, h2⟩
    exact Or.inr ⟨l, by omega, by omega, h2⟩
theorem lkM_s (q : PLN) (a b : Nat) : lkM q a b = lkM q b a := by
  rw [Bool.eq_iff_iff, lkM_t, lkM_t]
  simp only [isP_s _ a b]
theorem v_canLink {σ : MT} {c : Nat} {q : PLN} {a b : Nat} (h : pF σ c q) (hN : pN q ≤ 5) (hL : pL q ≤ 7) (ha : a < 10) (hb : b < 10) : f_Pl_canLink c (nI a) (nI b) σ = some (bI (!decide (a = b) && (decide (a < pN q) && (decide (b < pN q) && !lkM q a b)))) := by
  unfold f_Pl_canLink
  rw [h.2.1]
  by_cases h1 : a = b
  · rw [if_pos (by rw [h1]), decide_eq_true h1]; rfl
  · rw [if_neg (fun z => h1 ((nIeq (by omega) (by omega)).mp z)), decide_eq_false h1]
    by_cases h2 : a < pN q
    · rw [if_neg (fun z => absurd ((nIle (by omega) (by omega)).mp z) (by omega)), decide_eq_true h2]
      by_cases h3 : b < pN q
      · rw [if_neg (fun z => absurd ((nIle (by omega) (by omega)).mp z) (by omega)), decide_eq_true h3, if_pos (inb_n (by omega) (by decide)), if_pos (inb_n (by omega) (by decide)), nIc (n := a) (by omega), nIc (n := b) (by omega)]
        obtain ⟨m1, m2⟩ := h.2.2.2.2.2 a (by omega) b (by omega)
        cases hl : lkM q a b with
        | true =>
          obtain ⟨l, l1, l2⟩ := lkM_t.mp hl
          rw [m1 l l1 l2, if_neg (fun z => nI_9 (i := l) (by omega) z.symm)]; rfl
        | false =>
          rw [m2 (fun l hl2 => by
            cases z : isP (pE q l) a b with
            | false => rfl
            | true => rw [lkM_t.mpr ⟨l, hl2, z⟩] at hl; cases hl), if_pos rfl]; rfl
      · rw [if_pos ((nIle (by omega) (by omega)).mpr (by omega)), decide_eq_false h3]; rfl
    · rw [if_pos ((nIle (by omega) (by omega)).mpr (by omega)), decide_eq_false h2]; rfl
