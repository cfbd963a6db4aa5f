/-! THE REFERENCE's PERIOD -/
def bI (b : Bool) : Int32 := if b = true then 1 else 0
theorem bI_0 (b : Bool) : bI b = 0 ↔ b = false := by cases b <;> decide
theorem bI_z (b : Bool) : zbb (bI b) = true := by cases b <;> decide
def anyR (p : Nat → Bool) : Nat → Nat → Bool → Bool
  | 0, _, a => a
  | d + 1, i, a => anyR p d (i + 1) (a || p i)
def bes (σ : MT) (c a b l : Nat) : Bool := (decide (σ.1 41 l = nI a) && decide (σ.1 42 l = nI b) || decide (σ.1 41 l = nI b) && decide (σ.1 42 l = nI a)) && decide (σ.1 c (95 + l) = 0)
theorem besB_loop {c L : Nat} {a b : Nat} (hL : L ≤ 7) {σ : MT} (h7 : σ.1 38 7 = nI L) : ∀ (d i fuel : Nat) (acc : Bool), i + d = L → d < fuel → f_M_areBeside_6 fuel c (nI a) (nI b) (bI acc) (nI i) σ = some (bI (anyR (bes σ c a b) d i acc))
  | 0, i, fuel, acc, hi, hf => by
    obtain ⟨f, rfl⟩ : ∃ f, fuel = f + 1 := ⟨fuel - 1, by omega⟩
    rw [f_M_areBeside_6, h7, if_pos ((nIle (by omega) (by omega)).mpr (by omega)), if_pos (bI_z acc)]
    rfl
  | d + 1, i, fuel, acc, hi, hf => by
    obtain ⟨f, rfl⟩ : ∃ f, fuel = f + 1 := ⟨fuel - 1, by omega⟩
    have ih := fun acc => besB_loop (c := c) (a := a) (b := b) hL h7 d (i + 1) f acc (by omega) (by omega)
    rw [f_M_areBeside_6, h7, if_neg (fun q => absurd ((nIle (by omega) (by omega)).mp q) (by omega))]
    have fin : ∀ x : Bool, x = (acc || bes σ c a b i) → f_M_areBeside_91 (f_M_areBeside_6 f) c (nI a) (nI b) (nI i) (bI x) σ = some (bI (anyR (bes σ c a b) (d + 1) i acc)) := by
      intro x hx
      unfold f_M_areBeside_91
      rw [nIs, ih, hx]
      rfl
    have k64 : ∀ y : Bool, y = (decide (σ.1 41 i = nI a) && decide (σ.1 42 i = nI b) || decide (σ.1 41 i = nI b) && decide (σ.1 42 i = nI a)) → f_M_areBeside_64 (f_M_areBeside_6 f) c (nI a) (nI b) (bI acc) (nI i) (bI y) σ = some (bI (anyR (bes σ c a b) (d + 1) i acc)) := by
      intro y hy
      have eb : bes σ c a b i = (y && decide (σ.1 c (95 + i) = 0)) := by unfold bes; rw [hy]
      unfold f_M_areBeside_64 f_M_areBeside_86 f_M_areBeside_90
      simp (disch := omega) only [ad19, ad3, ad95, nIp_0, nIp_1, nIp_2, nIp_3, nIp_4, nIp_5, nIp_6, nIp_7, nI_add, nIc, inb_n, eq_self, if_true]
      cases acc with
      | true =>
        rw [if_neg (by decide)]
        exact fin true (by simp)
      | false =>
        rw [if_pos (by decide)]
        cases y with
        | false =>
          rw [if_pos (by decide)]
          exact fin false (by rw [eb]; rfl)
        | true =>
          rw [if_neg (by decide)]
          by_cases h0 : σ.1 c (95 + i) = 0
          · rw [if_pos h0]
            exact fin true (by rw [eb]; simp [h0])
          · rw [if_neg h0]
            exact fin false (by rw [eb]; simp [h0])
    unfold f_M_areBeside_37 f_M_areBeside_59 f_M_areBeside_63
    simp (disch := omega) only [ad19, ad3, ad95, nIp_0, nIp_1, nIp_2, nIp_3, nIp_4, nIp_5, nIp_6, nIp_7, nI_add, nIc, inb_n, eq_self, if_true]
    by_cases p1 : σ.1 41 i = nI a
    · rw [if_pos p1]
      by_cases p2 : σ.1 42 i = nI b
      · rw [if_pos p2]
        exact k64 true (by simp [p1, p2])
      · rw [if_neg p2]
        by_cases p3 : σ.1 41 i = nI b
        · rw [if_pos p3]
          by_cases p4 : σ.1 42 i = nI a
          · rw [if_pos p4]; exact k64 true (by simp [p3, p4])
          · rw [if_neg p4]; exact k64 false (by simp [p2, p4])
        · rw [if_neg p3]; exact k64 false (by simp [p2, p3])
    · rw [if_neg p1]
      by_cases p3 : σ.1 41 i = nI b
      · rw [if_pos p3]
        by_cases p4 : σ.1 42 i = nI a
        · rw [if_pos p4]; exact k64 true (by simp [p3, p4])
        · rw [if_neg p4]; exact k64 false (by simp [p1, p4])
      · rw [if_neg p3]; exact k64 false (by simp [p1, p3])
/-- the links, as the reference sees them: from b to a -/
def adjB (σ : MT) (c L : Nat) (b a : Nat) : Bool := anyR (bes σ c a b) L 0 false
theorem v_beside {c L a b : Nat} (hL : L ≤ 7) {σ : MT} (h7 : σ.1 38 7 = nI L) : f_M_areBeside c (nI a) (nI b) σ = some (bI (adjB σ c L b a)) := besB_loop hL h7 L 0 1100 false (by omega) (by omega)
theorem anyR_c {p q : Nat → Bool} : ∀ (d i : Nat) (acc : Bool), (∀ j, i ≤ j → j < i + d → p j = q j) → anyR p d i acc = anyR q d i acc
  | 0, _, _, _ => rfl
  | d + 1, i, acc, h => by
    show anyR p d (i + 1) (acc || p i) = anyR q d (i + 1) (acc || q i)
    rw [h i (by omega) (by omega)]
    exact anyR_c d (i + 1) _ (fun j h1 h2 => h j (by omega) (by omega))
theorem adjB_c {σ τ : MT} {c L a b : Nat} (h1 : τ.1 41 = σ.1 41) (h2 : τ.1 42 = σ.1 42) (h3 : ∀ l, l < L → τ.1 c (95 + l) = σ.1 c (95 + l)) : adjB τ c L a b = adjB σ c L a b := by
  unfold adjB
  refine anyR_c L 0 false (fun j _ hj => ?_)
  unfold bes
  rw [h1, h2, h3 j (by omega)]
-- the messages
def S54 : Nat → Prop := fun c => 51 ≤ c ∧ c < 55
def hMsB (σ : MT) (i : Nat) (ms : MS) : Prop := ∀ j, j < i → (ms j = none → σ.1 51 j = 0) ∧ ∀ q, ms j = some q → σ.1 51 j ≠ 0 ∧ σ.1 52 j = q.1 ∧ σ.1 53 j = q.2.1 ∧ σ.1 54 j = q.2.2
theorem hMsB.e {σ τ : MT} {i : Nat} {ms : MS} (h : hMsB σ i ms) (e1 : τ.1 51 = σ.1 51) (e2 : τ.1 52 = σ.1 52) (e3 : τ.1 53 = σ.1 53) (e4 : τ.1 54 = σ.1 54) : hMsB τ i ms := by
  unfold hMsB
  rw [e1, e2, e3, e4]
  exact h
theorem on01 {N : Nat} {nd : ND} (h : wfN N nd) : nd.1 0 = 1 ↔ ¬ nd.1 0 = 0 := by
  rcases h.1 with q | q <;> rw [q] <;> decide
theorem layB_loop {c N : Nat} {t : Int32} {st : Nat → Int32} {nodes : Nat → ND} (hc : c = 43 ∨ c = 44) (hN5 : N ≤ 5) (ht : IR 0 100000000 t) (hst : ∀ i, i < N → IR 0 64 (st i)) (hw : ∀ i, i < N → wfN N (nodes i)) : ∀ (d i fuel : Nat) (σ : MT), i + d = N → d < fuel → σ.1 38 5 = nI N → σ.1 c 102 = t → (∀ j, j < N → σ.1 40 j = st j) → (∀ j, j < N → hB σ c (19 * j) (nodes j)) → hMsB σ i (msgs t st nodes) →
    ∃ τ, f_M_laySent_2 fuel c (nI i) σ = some τ ∧ hMsB τ N (msgs t st nodes) ∧ EO S54 σ τ
  | 0, i, fuel, σ, hi, hf, h5, _, _, _, hm => by
    obtain ⟨f, rfl⟩ : ∃ f, fuel = f + 1 := ⟨fuel - 1, by omega⟩
    have : i = N := by omega
    subst this
    refine ⟨σ, ?_, hm, EO.rf⟩
    rw [f_M_laySent_2, h5, if_pos ((nIle (by omega) (by omega)).mpr (Nat.le_refl _))]
  | d + 1, i, fuel, σ, hi, hf, h5, h102, h40, hb, hm => by
    obtain ⟨f, rfl⟩ : ∃ f, fuel = f + 1 := ⟨fuel - 1, by omega⟩
    have hiN : i < N := by omega
    have hbi := hb i hiN
    obtain ⟨f1, f2, f3, f4, f5, f6, f0⟩ := hbi.f
    have c51 : c ≠ 51 := by omega
    have c52 : c ≠ 52 := by omega
    have c53 : c ≠ 53 := by omega
    have c54 : c ≠ 54 := by omega
    rw [f_M_laySent_2, h5, if_neg (fun q => absurd ((nIle (by omega) (by omega)).mp q) (by omega))]
    have key : ∀ x : Bool, x = sendsN (nI i) (nodes i) → ∃ τ, f_M_laySent_53 (f_M_laySent_2 f) c (nI i) (nI (19 * i)) (bI x) (nI i) σ = some τ ∧ hMsB τ N (msgs t st nodes) ∧ EO S54 σ τ := by
      intro x hx
      have hnx : vp_nar .boolean (bI x) = bI x := by cases x <;> rfl
      unfold f_M_laySent_53 f_M_laySent_65
      simp (disch := omega) only [ad19, ad3, ad95, nIp_0, nIp_1, nIp_2, nIp_3, nIp_4, nIp_5, nIp_6, nIp_7, nI_add, nIc, inb_n, eq_self, if_true]
      rw [hnx]
      have e2 : (sI σ 51 i (bI x)).1 c (19 * i + 2) = (nodes i).1 2 := by rw [sI_n c51]; exact f2
      rw [e2]
      have e3 : (sI (sI σ 51 i (bI x)) 52 i ((nodes i).1 2)).1 c (19 * i + 3) = (nodes i).1 3 := by rw [sI_n c52, sI_n c51]; exact f3
      rw [e3]
      generalize hσ3 : sI (sI (sI σ 51 i (bI x)) 52 i ((nodes i).1 2)) 53 i ((nodes i).1 3) = σ3
      have eo : EO S54 σ σ3 := by rw [← hσ3]; exact ((EO.rf.i ⟨by omega, by omega⟩).i ⟨by omega, by omega⟩).i ⟨by omega, by omega⟩
      have nc : ¬ S54 c := by unfold S54; omega
      have n40 : ¬ S54 40 := by unfold S54; omega
      rw [v_estB (hbi.eq (eo.1 c nc)) (by omega) (by rw [eo.1 c nc, h102]; exact ht) (hw i hiN).2.1 (by rw [eo.1 40 n40, h40 i hiN]; exact hst i hiN), Option.bind_some, eo.1 c nc, eo.1 40 n40, h102, h40 i hiN]
      generalize hE : estN (nI i) (clk t ((nodes i).1 1) (st i)) (nodes i) = E
      unfold f_M_laySent_88
      rw [nIs]
      have eo2 : EO S54 σ (sI σ3 54 i E) := eo.i ⟨by omega, by omega⟩
      obtain ⟨τ, q1, q2, q3⟩ := layB_loop hc hN5 ht hst hw d (i + 1) f (sI σ3 54 i E) (by omega) (by omega) (by rw [eo2.1 38 (by unfold S54; omega)]; exact h5) (by rw [eo2.1 c nc]; exact h102) (fun j hj => by rw [eo2.1 40 n40]; exact h40 j hj) (fun j hj => (hb j hj).eq (eo2.1 c nc)) (fun j hj => by
        by_cases hji : j = i
        · subst hji
          have r1 : (sI σ3 54 j E).1 51 j = bI x := by rw [← hσ3]; simp [sI_r]
          have r2 : (sI σ3 54 j E).1 52 j = (nodes j).1 2 := by rw [← hσ3]; simp [sI_r]
          have r3 : (sI σ3 54 j E).1 53 j = (nodes j).1 3 := by rw [← hσ3]; simp [sI_r]
          have r4 : (sI σ3 54 j E).1 54 j = E := by simp [sI_r]
          rw [r1, r2, r3, r4, hx]
          unfold msgs msgN
          cases hsd : sendsN (nI j) (nodes j) with
          | true =>
            rw [if_pos rfl]
            refine ⟨fun q => (by cases q), fun q hq => ?_⟩
            cases hq
            exact ⟨by decide, rfl, rfl, hE.symm⟩
          | false =>
            rw [if_neg (by decide)]
            exact ⟨fun _ => rfl, fun q hq => by cases hq⟩
        · have e : ∀ k, (sI σ3 54 i E).1 k j = σ.1 k j := fun k => by
            rw [← hσ3, sI_r, if_neg (by omega), sI_r, if_neg (by omega), sI_r, if_neg (by omega), sI_r, if_neg (by omega)]
          rw [e, e, e, e]
          exact hm j (by omega))
      exact ⟨τ, q1, q2, eo2.tr q3⟩
    unfold f_M_laySent_48 f_M_laySent_52
    simp (disch := omega) only [ad19, ad3, ad95, nIp_0, nIp_1, nIp_2, nIp_3, nIp_4, nIp_5, nIp_6, nIp_7, nI_add, nIc, inb_n, eq_self, if_true]
    rw [f0, f2, f6]
    have hon := on01 (hw i hiN)
    by_cases h0 : (nodes i).1 0 = 1
    · rw [if_pos h0]
      by_cases h2 : (nodes i).1 2 = nI i
      · rw [if_pos h2]
        exact key true (by unfold sendsN; simp [h2, hon.mp h0])
      · rw [if_neg h2]
        have hl3 := hbi.2.2.1
        by_cases h6 : nI (nodes i).2.length ≤ (1 : Int32)
        · rw [if_pos h6]
          have := (nle_1 (by omega)).mp h6
          exact key false (by unfold sendsN; simp [h2, show (nodes i).2.length < 2 by omega])
        · rw [if_neg h6]
          have : ¬ (nodes i).2.length ≤ 1 := fun q => h6 ((nle_1 (by omega)).mpr q)
          exact key true (by unfold sendsN; simp [h2, hon.mp h0, show ¬ (nodes i).2.length < 2 by omega])
    · rw [if_neg h0]
      have : (nodes i).1 0 = 0 := Decidable.byContradiction fun q => h0 (hon.mpr q)
      exact key false (by unfold sendsN; simp [this])
