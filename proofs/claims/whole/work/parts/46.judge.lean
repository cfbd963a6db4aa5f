/-! judge -/
theorem dig {q : Nat} (hq : q < 1000) : nI q / 100 = nI (q / 100) ∧ nI q / 10 - nI q / 10 / 10 * 10 = nI (q / 10 % 10) ∧ nI q - nI q / 10 * 10 = nI (q % 10) := by
  have H : ∀ q, q < 1000 → nI q / 100 = nI (q / 100) ∧ nI q / 10 - nI q / 10 / 10 * 10 = nI (q / 10 % 10) ∧ nI q - nI q / 10 * 10 = nI (q % 10) := by decide +kernel
  exact H q hq
def jud (p : PLN) (F A D : Nat) (sv : SV) : Bool × SV :=
  match F with
  | 1 => (decide (0 < 10 * A + D), rep (pas p) (10 * A + D) sv)
  | 2 => if A = 0 ∧ D < pL p then (true, flS sv D) else (false, sv)
  | 3 => if A = 0 ∧ D < pN p then (true, updV2 sv D (powN (sv.2.2 D))) else (false, sv)
  | 4 => (decide (A < pN p) && (decide (D < pN p) && (onM sv A && decide ((sv.2.2 A).1 2 = nI D))), sv)
  | 5 => (decide (A = 0) && (decide (D < pN p) && inT p sv D), sv)
  | 6 => (decide (A < pN p) && (onM sv A && decide ((sv.2.2 A).2.length = D)), sv)
  | _ => (false, sv)
theorem ok_jud {p : PLN} {T F A D : Nat} {sv : SV} (hp : okP p) (ok : okS p T sv) (hA : A < 10) (hD : D < 10) (hT : T < 90000000) : okS p (T + 3200) (jud p F A D sv).2 := by
  unfold jud
  split
  · exact (ok_rep hp _ T sv ok (by omega)).le (by omega)
  · split
    · next h => exact (ok.fl hp h.2).le (by omega)
    · exact ok.le (by omega)
  · split
    · next h => exact (ok.upd (powN_w (ok.1 D h.2))).le (by omega)
    · exact ok.le (by omega)
  · exact ok.le (by omega)
  · exact ok.le (by omega)
  · exact ok.le (by omega)
  · exact ok.le (by omega)
theorem isI_nI {j n : Nat} (hj : j < 1000) : isI (nI j) n = decide (j < n) := by
  unfold isI
  rw [nIt (by omega), decide_eq_true (by omega), Bool.true_and]
  exact decide_eq_decide.mpr (by omega)
theorem ten {A D : Nat} : (10 : Int32) * nI A + nI D = nI (10 * A + D) := by
  rw [show (10 : Int32) * nI A = nI (10 * A) from pk_mul 10 A, nI_add]
theorem jud_1 (p : PLN) (A D : Nat) (sv : SV) : jud p 1 A D sv = (decide (0 < 10 * A + D), rep (pas p) (10 * A + D) sv) := rfl
theorem jud_2 (p : PLN) (A D : Nat) (sv : SV) : jud p 2 A D sv = if A = 0 ∧ D < pL p then (true, flS sv D) else (false, sv) := rfl
theorem jud_3 (p : PLN) (A D : Nat) (sv : SV) : jud p 3 A D sv = if A = 0 ∧ D < pN p then (true, updV2 sv D (powN (sv.2.2 D))) else (false, sv) := rfl
theorem jud_4 (p : PLN) (A D : Nat) (sv : SV) : jud p 4 A D sv = (decide (A < pN p) && (decide (D < pN p) && (onM sv A && decide ((sv.2.2 A).1 2 = nI D))), sv) := rfl
theorem jud_5 (p : PLN) (A D : Nat) (sv : SV) : jud p 5 A D sv = (decide (A = 0) && (decide (D < pN p) && inT p sv D), sv) := rfl
theorem jud_6 (p : PLN) (A D : Nat) (sv : SV) : jud p 6 A D sv = (decide (A < pN p) && (onM sv A && decide ((sv.2.2 A).2.length = D)), sv) := rfl
theorem A_jud {σ : MT} {p : PLN} {T F A D : Nat} {sv : SV} (hp : okP p) (hpA : pA σ 15 p) (h : hA σ 83 (pN p) sv) (ok : okS p T sv) (hF : F < 10) (hA10 : A < 10) (hD : D < 10) (hT : T < 80000000) : ∃ τ, f_TF_holdsOnTrial (nI F) (nI A) (nI D) σ = some (bI (jud p F A D sv).1, τ) ∧ hA τ 83 (pN p) (jud p F A D sv).2 ∧ EO PT σ τ := by
  have hN : pN p ≤ 5 := hp.1
  have hL : pL p ≤ 7 := hp.2.1
  have node : ∀ j, j < 10 → f_TF_hasNode (nI j) σ = some (bI (decide (j < pN p))) := fun j hj => by rw [A_hasNode _ hp hpA, isI_nI (by omega)]
  have link : ∀ j, j < 10 → f_TF_hasLink (nI j) σ = some (bI (decide (j < pL p))) := fun j hj => by rw [A_hasLink _ hp hpA, isI_nI (by omega)]
  unfold f_TF_holdsOnTrial
  obtain rfl | rfl | rfl | rfl | rfl | rfl | hx : F = 1 ∨ F = 2 ∨ F = 3 ∨ F = 4 ∨ F = 5 ∨ F = 6 ∨ (F = 0 ∨ 6 < F) := by omega
  · rw [if_pos (by decide), ten]
    obtain ⟨τ, q1, q2, q3⟩ := A_many (m := 10 * A + D) hp hpA h (by omega) ok (by omega) (by omega)
    rw [q1, Option.bind_some]
    refine ⟨τ, ?_, q2, q3.mo PP83⟩
    by_cases h0 : 0 < 10 * A + D
    · rw [if_neg (fun q => by have := (nle_0 (by omega)).mp q; omega)]
      rw [jud_1]; simp only [decide_eq_true h0]; rfl
    · rw [if_pos ((nle_0 (by omega)).mpr (by omega))]
      rw [jud_1]; simp only [decide_eq_false h0]; rfl
  · rw [if_neg (by decide), if_pos (by decide), link D hD, Option.bind_some]
    rw [jud_2]
    by_cases h0 : A = 0
    · rw [if_pos ((neq_0 (by omega)).mpr h0)]
      by_cases h1 : D < pL p
      · rw [decide_eq_true h1, if_neg (by decide), if_pos ⟨h0, h1⟩]
        obtain ⟨τ, q1, q2, q3⟩ := A_flip (l := D) h hN
        rw [q1, Option.bind_some]
        exact ⟨τ, rfl, q2, q3.mo (fun c hc => by unfold PT; omega)⟩
      · rw [decide_eq_false h1, if_pos (by decide), if_neg (fun q => h1 q.2)]
        exact ⟨σ, rfl, h, EO.rf⟩
    · rw [if_neg (fun q => h0 ((neq_0 (by omega)).mp q)), if_neg (fun q => h0 q.1)]
      exact ⟨σ, rfl, h, EO.rf⟩
  · rw [if_neg (by decide), if_neg (by decide), if_pos (by decide), node D hD, Option.bind_some]
    rw [jud_3]
    by_cases h0 : A = 0
    · rw [if_pos ((neq_0 (by omega)).mpr h0)]
      by_cases h1 : D < pN p
      · rw [decide_eq_true h1, if_neg (by decide), if_pos (c := A = 0 ∧ D < pN p) ⟨h0, h1⟩, if_pos (inb_n (by omega) (by decide)), nIc (by omega), show 84 + 1 + 4 * D = 83 + 1 + 1 + 4 * D by omega]
        obtain ⟨τ, q1, q2, q3⟩ := A_pow (h.2.2.1 D h1)
        rw [q1, Option.bind_some]
        exact ⟨τ, rfl, h.upd h1 q2 (q3.mo (fun c hc => by unfold PN; omega)), q3.mo (fun c hc => by unfold PT; omega)⟩
      · rw [decide_eq_false h1, if_pos (by decide), if_neg (fun q => h1 q.2)]
        exact ⟨σ, rfl, h, EO.rf⟩
    · rw [if_neg (fun q => h0 ((neq_0 (by omega)).mp q)), if_neg (fun q => h0 q.1)]
      exact ⟨σ, rfl, h, EO.rf⟩
  · rw [if_neg (by decide), if_neg (by decide), if_neg (by decide), if_pos (by decide), node A hA10, Option.bind_some, node D hD, Option.bind_some]
    refine ⟨σ, ?_, h, EO.rf⟩
    rw [jud_4]
    by_cases h1 : A < pN p
    · by_cases h2 : D < pN p
      · simp only [decide_eq_true h1, decide_eq_true h2, Bool.true_and]
        rw [if_neg (by decide), if_neg (by decide), v_shown h h1 hN, Option.bind_some]
        unfold onM
        by_cases h3 : (sv.2.2 A).1 0 = 0
        · rw [if_pos h3, if_neg (nI_9 (by omega))]
          simp only [decide_eq_true h3]; rfl
        · rw [if_neg h3]
          by_cases h4 : (sv.2.2 A).1 2 = nI D
          · rw [if_pos h4]; simp only [decide_eq_false h3, decide_eq_true h4]; rfl
          · rw [if_neg h4]; simp only [decide_eq_false h3, decide_eq_false h4]; rfl
      · simp only [decide_eq_true h1, decide_eq_false h2, Bool.true_and, Bool.false_and]
        rw [if_neg (by decide), if_pos (by decide)]; rfl
    · simp only [decide_eq_false h1, Bool.false_and]
      rw [if_pos (by decide)]; rfl
  · rw [if_neg (by decide), if_neg (by decide), if_neg (by decide), if_neg (by decide), if_pos (by decide), node D hD, Option.bind_some]
    refine ⟨σ, ?_, h, EO.rf⟩
    rw [jud_5]
    by_cases h0 : A = 0
    · rw [if_pos ((neq_0 (by omega)).mpr h0)]
      by_cases h2 : D < pN p
      · simp only [decide_eq_true h0, decide_eq_true h2, Bool.true_and]
        rw [if_neg (by decide), A_isInTime hp hpA h ok (by omega) h2, Option.bind_some]
        cases inT p sv D <;> rfl
      · simp only [decide_eq_true h0, decide_eq_false h2, Bool.true_and, Bool.false_and]
        rw [if_pos (by decide)]; rfl
    · rw [if_neg (fun q => h0 ((neq_0 (by omega)).mp q))]
      simp only [decide_eq_false h0, Bool.false_and]; rfl
  · rw [if_neg (by decide), if_neg (by decide), if_neg (by decide), if_neg (by decide), if_neg (by decide), if_pos (by decide), node A hA10, Option.bind_some]
    refine ⟨σ, ?_, h, EO.rf⟩
    rw [jud_6]
    by_cases h1 : A < pN p
    · have hn := h.2.2.1 A h1
      have hl := hn.2.2.1
      simp only [decide_eq_true h1, Bool.true_and]
      rw [if_neg (by decide), inb_n (m := A) (by omega) (by decide), if_pos rfl, if_pos rfl, nIc (n := A) (by omega), show 84 + 1 + 4 * A = 83 + 1 + 1 + 4 * A by omega, hn.1 0 (by decide), hn.2.1]
      unfold onM
      by_cases h3 : (sv.2.2 A).1 0 = 0
      · rw [if_pos h3]; simp only [decide_eq_true h3]; rfl
      · rw [if_neg h3]
        by_cases h4 : (sv.2.2 A).2.length = D
        · rw [if_pos ((nIeq (by omega) (by omega)).mpr h4)]; simp only [decide_eq_false h3, decide_eq_true h4]; rfl
        · rw [if_neg (fun q => h4 ((nIeq (by omega) (by omega)).mp q))]; simp only [decide_eq_false h3, decide_eq_false h4]; rfl
    · simp only [decide_eq_false h1, Bool.false_and]
      rw [if_pos (by decide)]; rfl
  · have ne : ∀ m : Nat, 0 < m → m < 7 → ¬ nI F = nI m := fun m h1 h2 q => by have := (nIeq (by omega) (by omega)).mp q; omega
    rw [if_neg (c := nI F = 1) (ne 1 (by omega) (by omega)), if_neg (c := nI F = 2) (ne 2 (by omega) (by omega)), if_neg (c := nI F = 3) (ne 3 (by omega) (by omega)), if_neg (c := nI F = 4) (ne 4 (by omega) (by omega)), if_neg (c := nI F = 5) (ne 5 (by omega) (by omega)), if_neg (c := nI F = 6) (ne 6 (by omega) (by omega))]
    have e : jud p F A D sv = (false, sv) := by
      unfold jud
      split <;> first | omega | rfl
    rw [e]
    exact ⟨σ, rfl, h, EO.rf⟩
theorem tb_set {L : Nat} (q : Nat → Bool) : ∀ n i, i < n → n ≤ 7 → Nat.testBit (setN q n) i = q i
  | 0, i, hi, _ => absurd hi (by omega)
  | n + 1, i, hi, hn => by
    have hb := setN_b q n
    by_cases hin : i = n
    · subst hin
      cases hq : q i with
      | false => rw [setN_0 hq]; exact Nat.testBit_lt_two_pow hb
      | true => rw [setN_1 hq, Nat.add_comm, Nat.testBit_two_pow_add_eq, Nat.testBit_lt_two_pow hb]; rfl
    · have ih := tb_set (L := L) q n i (by omega) (by omega)
      cases hq : q n with
      | false => rw [setN_0 hq]; exact ih
      | true => rw [setN_1 hq, Nat.add_comm, Nat.testBit_two_pow_add_gt (by omega)]; exact ih
theorem v_has {a i : Nat} (ha : a < 128) (hi : i < 10) : f_M_has (nI a) (nI i) = some (bI (decide (i < 7) && Nat.testBit a i)) := by
  have H : ∀ a, a < 128 → ∀ i, i < 10 → f_M_has (nI a) (nI i) = some (bI (decide (i < 7) && Nat.testBit a i)) := by decide +kernel
  exact H a ha i hi
theorem setN_t {q : Nat → Bool} {n i : Nat} (hn : n ≤ 7) : (decide (i < 7) && Nat.testBit (setN q n) i) = (decide (i < n) && q i) := by
  by_cases h : i < n
  · rw [tb_set (L := 0) q n i h hn, decide_eq_true h, decide_eq_true (by omega)]
  · rw [decide_eq_false h, Nat.testBit_lt_two_pow (Nat.lt_of_lt_of_le (setN_b q n) (Nat.pow_le_pow_right (by omega) (by omega)))]
    simp
theorem B_jud {σ : MT} {p : PLN} {T F A D : Nat} {sv : SV} (hp : okP p) (hpB : pB σ p) (h : hR σ 44 (pN p) sv) (ok : okS p T sv) (hF : F < 10) (hA10 : A < 10) (hD : D < 10) (hT : T < 80000000) : ∃ τ, f_M_judged (nI F) (nI A) (nI D) σ = some (bI (jud p F A D sv).1, τ) ∧ hR τ 44 (pN p) (jud p F A D sv).2 ∧ EO PU σ τ := by
  have hN : pN p ≤ 5 := hp.1
  have hL : pL p ≤ 7 := hp.2.1
  obtain ⟨dn, hd1, hd2⟩ := ok.2.2
  have node : ∀ j, j < 10 → f_M_isNode (nI j) σ = some (bI (decide (j < pN p))) := fun j hj => by rw [B_isNode _ hp hpB, isI_nI (by omega)]
  have link : ∀ j, j < 10 → f_M_isLink (nI j) σ = some (bI (decide (j < pL p))) := fun j hj => by rw [B_isLink _ hp hpB, isI_nI (by omega)]
  unfold f_M_judged f_M_judged_99
  obtain rfl | rfl | rfl | rfl | rfl | rfl | hx : F = 1 ∨ F = 2 ∨ F = 3 ∨ F = 4 ∨ F = 5 ∨ F = 6 ∨ (F = 0 ∨ 6 < F) := by omega
  · rw [if_pos (by decide), ten]
    obtain ⟨τ, q1, q2, q3⟩ := B_many (m := 10 * A + D) hp hpB h ok (by omega) (by omega)
    rw [q1, Option.bind_some]
    refine ⟨τ, ?_, q2, q3.mo SR44⟩
    by_cases h0 : 0 < 10 * A + D
    · rw [if_neg (fun q => by have := (nle_0 (by omega)).mp q; omega)]
      rw [jud_1]; simp only [decide_eq_true h0]; rfl
    · rw [if_pos ((nle_0 (by omega)).mpr (by omega))]
      rw [jud_1]; simp only [decide_eq_false h0]; rfl
  · rw [if_neg (by decide), if_pos (by decide), link D hD, Option.bind_some]
    rw [jud_2]
    by_cases h0 : A = 0
    · rw [if_pos ((neq_0 (by omega)).mpr h0)]
      by_cases h1 : D < pL p
      · rw [decide_eq_true h1, if_neg (by decide), if_pos (c := A = 0 ∧ D < pL p) ⟨h0, h1⟩, ad95, inb_n (m := 95 + D) (by omega) (by decide), if_pos rfl, if_pos rfl, nIc (by omega)]
        exact ⟨_, rfl, (B_flip (l := D) h hN (by omega) hd1 (lt_128 hd2 hL)).1, EO.i (P := PU) EO.rf (Or.inl rfl)⟩
      · rw [decide_eq_false h1, if_pos (by decide), if_neg (fun q => h1 q.2)]
        exact ⟨σ, rfl, h, EO.rf⟩
    · rw [if_neg (fun q => h0 ((neq_0 (by omega)).mp q)), if_neg (fun q => h0 q.1)]
      exact ⟨σ, rfl, h, EO.rf⟩
  · rw [if_neg (by decide), if_neg (by decide), if_pos (by decide), node D hD, Option.bind_some]
    rw [jud_3]
    by_cases h0 : A = 0
    · rw [if_pos ((neq_0 (by omega)).mpr h0)]
      by_cases h1 : D < pN p
      · rw [decide_eq_true h1, if_neg (by decide), if_pos ⟨h0, h1⟩]
        obtain ⟨τ, q1, q2, q3⟩ := B_pow h (Or.inr rfl) h1 hN ok.1
        rw [q1, Option.bind_some]
        exact ⟨τ, rfl, q2, q3.mo (fun c hc => Or.inl hc)⟩
      · rw [decide_eq_false h1, if_pos (by decide), if_neg (fun q => h1 q.2)]
        exact ⟨σ, rfl, h, EO.rf⟩
    · rw [if_neg (fun q => h0 ((neq_0 (by omega)).mp q)), if_neg (fun q => h0 q.1)]
      exact ⟨σ, rfl, h, EO.rf⟩
  · rw [if_neg (by decide), if_neg (by decide), if_neg (by decide), if_pos (by decide), node A hA10, Option.bind_some, node D hD, Option.bind_some]
    refine ⟨σ, ?_, h, EO.rf⟩
    rw [jud_4]
    by_cases h1 : A < pN p
    · by_cases h2 : D < pN p
      · obtain ⟨f1, f2, f3, f4, f5, f6, f0⟩ := (h.2.2 A h1).f
        simp only [decide_eq_true h1, decide_eq_true h2, Bool.true_and]
        rw [if_neg (by decide), if_neg (by decide), v_isOn h h1 hN ok.1, Option.bind_some, ad19, nIp_2, if_pos (inb_n (by omega) (by decide)), nIc (by omega), f2]
        unfold onM
        by_cases h3 : (sv.2.2 A).1 0 = 0
        · rw [if_pos h3, if_pos rfl]
          simp only [decide_eq_true h3]; rfl
        · rw [if_neg h3, if_neg (by decide)]
          by_cases h4 : (sv.2.2 A).1 2 = nI D
          · rw [if_pos h4]; simp only [decide_eq_false h3, decide_eq_true h4]; rfl
          · rw [if_neg h4]; simp only [decide_eq_false h3, decide_eq_false h4]; rfl
      · simp only [decide_eq_true h1, decide_eq_false h2, Bool.true_and, Bool.false_and]
        rw [if_neg (by decide), if_pos (by decide)]; rfl
    · simp only [decide_eq_false h1, Bool.false_and]
      rw [if_pos (by decide)]; rfl
  · rw [if_neg (by decide), if_neg (by decide), if_neg (by decide), if_neg (by decide), if_pos (by decide), node D hD, Option.bind_some]
    refine ⟨σ, ?_, h, EO.rf⟩
    rw [jud_5]
    by_cases h0 : A = 0
    · rw [if_pos ((neq_0 (by omega)).mpr h0)]
      by_cases h2 : D < pN p
      · simp only [decide_eq_true h0, decide_eq_true h2, Bool.true_and]
        rw [if_neg (by decide), B_inTime hp hpB h ok (by omega), Option.bind_some, v_has (lt_128 (setN_b _ _) (by omega)) (by omega), Option.bind_some, setN_t (by omega)]
        rw [decide_eq_true h2, Bool.true_and]
        cases inT p sv D <;> rfl
      · simp only [decide_eq_true h0, decide_eq_false h2, Bool.true_and, Bool.false_and]
        rw [if_pos (by decide)]; rfl
    · rw [if_neg (fun q => h0 ((neq_0 (by omega)).mp q))]
      simp only [decide_eq_false h0, Bool.false_and]; rfl
  · rw [if_neg (by decide), if_neg (by decide), if_neg (by decide), if_neg (by decide), if_neg (by decide), if_pos (by decide), node A hA10, Option.bind_some]
    refine ⟨σ, ?_, h, EO.rf⟩
    rw [jud_6]
    by_cases h1 : A < pN p
    · obtain ⟨f1, f2, f3, f4, f5, f6, f0⟩ := (h.2.2 A h1).f
      have hl := (h.2.2 A h1).2.2.1
      simp only [decide_eq_true h1, Bool.true_and]
      rw [if_neg (by decide), v_isOn h h1 hN ok.1, Option.bind_some, ad19, nIp_6, if_pos (inb_n (by omega) (by decide)), nIc (by omega), f6]
      unfold onM
      by_cases h3 : (sv.2.2 A).1 0 = 0
      · rw [if_pos h3, if_pos rfl]; simp only [decide_eq_true h3]; rfl
      · rw [if_neg h3, if_neg (by decide)]
        by_cases h4 : (sv.2.2 A).2.length = D
        · rw [if_pos ((nIeq (by omega) (by omega)).mpr h4)]; simp only [decide_eq_false h3, decide_eq_true h4]; rfl
        · rw [if_neg (fun q => h4 ((nIeq (by omega) (by omega)).mp q))]; simp only [decide_eq_false h3, decide_eq_false h4]; rfl
    · simp only [decide_eq_false h1, Bool.false_and]
      rw [if_pos (by decide)]; rfl
  · have ne : ∀ m : Nat, 0 < m → m < 7 → ¬ nI F = nI m := fun m h1 h2 q => by have := (nIeq (by omega) (by omega)).mp q; omega
    rw [if_neg (c := nI F = 1) (ne 1 (by omega) (by omega)), if_neg (c := nI F = 2) (ne 2 (by omega) (by omega)), if_neg (c := nI F = 3) (ne 3 (by omega) (by omega)), if_neg (c := nI F = 4) (ne 4 (by omega) (by omega)), if_neg (c := nI F = 5) (ne 5 (by omega) (by omega)), if_neg (c := nI F = 6) (ne 6 (by omega) (by omega))]
    have e : jud p F A D sv = (false, sv) := by
      unfold jud
      split <;> first | omega | rfl
    rw [e]
    exact ⟨σ, rfl, h, EO.rf⟩

-- the row of statements
theorem thV_p {k : Nat} (hk : k < 5) : 0 < (thV k).toInt ∧ f_M_thousands (nI k) = some (thV k) ∧ ¬ thV k = 0 ∧ (thV k - 1).toInt = (thV k).toInt - 1 := by
  have H : ∀ k, k < 5 → 0 < (thV k).toInt ∧ f_M_thousands (nI k) = some (thV k) ∧ ¬ thV k = 0 ∧ (thV k - 1).toInt = (thV k).toInt - 1 := by decide +kernel
  exact H k hk
def qdE (y : Int64) (k : Nat) : Int32 := ((y / thV k) - (y / thV k) / 1000 * 1000).toInt32
def qd (y : Int64) (k : Nat) : Nat := (qdE y k).toNatClampNeg
theorem qd_n {y : Int64} {k : Nat} (hy : 0 ≤ y.toInt) (hk : k < 5) : qdE y k = nI (qd y k) ∧ qd y k < 1000 := by
  obtain ⟨t1, -⟩ := thV_p hk
  obtain ⟨a1, a2, a3⟩ := z_divL (x := y) t1
  obtain ⟨b1, b2, b3⟩ := z_divL (x := y / thV k) (y := 1000) (by decide)
  rw [show (1000 : Int64).toInt = 1000 from rfl] at b3
  have h0 : 0 ≤ (y / thV k).toInt := by
    rw [a1]
    exact Int.tdiv_nonneg hy (by omega)
  rw [Int.tdiv_eq_ediv_of_nonneg h0] at b3
  obtain ⟨j, hj, e⟩ := IR_n (x := qdE y k) (n := 1000) (by
    unfold IR qdE
    rw [Int64.toInt_toInt32, b3, Int.bmod_eq_of_le (by omega) (by omega)]
    omega) (by omega)
  unfold qd
  rw [e, nIc (by omega)]
  exact ⟨rfl, hj⟩
def jdg (p : PLN) (y : Int64) (n : Nat) : Nat → Nat → SV → Int32
  | 0, _, _ => -9
  | d + 1, i, sv => if (jud p (qd y (n - 1 - i) / 100) (qd y (n - 1 - i) / 10 % 10) (qd y (n - 1 - i) % 10) sv).1 = true then jdg p y n d (i + 1) (jud p (qd y (n - 1 - i) / 100) (qd y (n - 1 - i) / 10 % 10) (qd y (n - 1 - i) % 10) sv).2 else nI i
theorem A_jdg_loop {p : PLN} {y : Int64} {n : Nat} (hp : okP p) (hy : 0 ≤ y.toInt) (hn : n < 5) : ∀ (d i T fuel : Nat) (σ : MT) (sv : SV), i + d = n → d < fuel → pA σ 15 p → hA σ 83 (pN p) sv → okS p T sv → T + 3200 * d < 80000000 → ∃ τ, f_TF_judge_46 fuel (nI n) y (nI i) σ = some (jdg p y n d i sv, τ) ∧ EO PT σ τ
  | 0, i, T, fuel, σ, sv, hi, hf, hpA, h, ok, hT => by
    obtain ⟨f, rfl⟩ : ∃ f, fuel = f + 1 := ⟨fuel - 1, by omega⟩
    refine ⟨σ, ?_, EO.rf⟩
    rw [f_TF_judge_46, if_pos ((nIle (by omega) (by omega)).mpr (by omega))]
    rfl
  | d + 1, i, T, fuel, σ, sv, hi, hf, hpA, h, ok, hT => by
    obtain ⟨f, rfl⟩ : ∃ f, fuel = f + 1 := ⟨fuel - 1, by omega⟩
    have e1 : nI n - 1 - nI i = nI (n - 1 - i) := by rw [nIm_1 (by omega), pk_sub (by omega)]
    obtain ⟨t1, t2, t3, t4⟩ := thV_p (k := n - 1 - i) (by omega)
    obtain ⟨q1, q2⟩ := qd_n (k := n - 1 - i) hy (by omega)
    rw [f_TF_judge_46, if_neg (fun q => absurd ((nIle (by omega) (by omega)).mp q) (by omega)), e1, if_pos (inb_n (by omega) (by decide)), nIc (by omega), if_pos t3]
    unfold f_TF_judge_71
    rw [show ((y / thV (n - 1 - i) - y / thV (n - 1 - i) / 1000 * 1000).toInt32) = qdE y (n - 1 - i) from rfl, q1]
    obtain ⟨d1, d2, d3⟩ := dig q2
    rw [d1, d2, d3]
    obtain ⟨τ, r1, r2, r3⟩ := A_jud (F := qd y (n - 1 - i) / 100) (A := qd y (n - 1 - i) / 10 % 10) (D := qd y (n - 1 - i) % 10) hp hpA h ok (by omega) (by omega) (by omega) (by omega)
    rw [r1, Option.bind_some]
    unfold jdg
    have okj := ok_jud (F := qd y (n - 1 - i) / 100) (A := qd y (n - 1 - i) / 10 % 10) (D := qd y (n - 1 - i) % 10) hp ok (by omega) (by omega) (by omega)
    generalize jud p (qd y (n - 1 - i) / 100) (qd y (n - 1 - i) / 10 % 10) (qd y (n - 1 - i) % 10) sv = w at r2 okj
    obtain ⟨b, sw⟩ := w
    cases b with
    | false =>
      rw [if_pos bI_f, if_neg Bool.false_ne_true]
      exact ⟨τ, rfl, r3⟩
    | true =>
      rw [if_neg (by show ¬ bI true = 0; decide), if_pos rfl, nIs]
      obtain ⟨τ2, p1, p2⟩ := A_jdg_loop hp hy hn d (i + 1) (T + 3200) f τ sw (by omega) (by omega) (hpA.pt r3) r2 okj (by omega)
      exact ⟨τ2, p1, r3.tr p2⟩
theorem B_jdg_loop {p : PLN} {y : Int64} {n : Nat} (hp : okP p) (hy : 0 ≤ y.toInt) (hn : n < 5) : ∀ (d i T fuel : Nat) (σ : MT) (sv : SV), i + d = n → d < fuel → pB σ p → hR σ 44 (pN p) sv → okS p T sv → T + 3200 * d < 80000000 → ∃ τ, f_M_judge_43 fuel (nI n) y (nI i) σ = some (jdg p y n d i sv, τ) ∧ EO PU σ τ
  | 0, i, T, fuel, σ, sv, hi, hf, hpB, h, ok, hT => by
    obtain ⟨f, rfl⟩ : ∃ f, fuel = f + 1 := ⟨fuel - 1, by omega⟩
    refine ⟨σ, ?_, EO.rf⟩
    rw [f_M_judge_43, if_pos ((nIle (by omega) (by omega)).mpr (by omega))]
    rfl
  | d + 1, i, T, fuel, σ, sv, hi, hf, hpB, h, ok, hT => by
    obtain ⟨f, rfl⟩ : ∃ f, fuel = f + 1 := ⟨fuel - 1, by omega⟩
    have e1 : nI n - 1 - nI i = nI (n - 1 - i) := by rw [nIm_1 (by omega), pk_sub (by omega)]
    obtain ⟨t1, t2, t3, t4⟩ := thV_p (k := n - 1 - i) (by omega)
    obtain ⟨q1, q2⟩ := qd_n (k := n - 1 - i) hy (by omega)
    rw [f_M_judge_43, if_neg (fun q => absurd ((nIle (by omega) (by omega)).mp q) (by omega)), e1, t2, Option.bind_some, if_pos t3]
    rw [show ((y / thV (n - 1 - i) - y / thV (n - 1 - i) / 1000 * 1000).toInt32) = qdE y (n - 1 - i) from rfl, q1]
    obtain ⟨d1, d2, d3⟩ := dig q2
    rw [d1, d2, d3]
    obtain ⟨τ, r1, r2, r3⟩ := B_jud (F := qd y (n - 1 - i) / 100) (A := qd y (n - 1 - i) / 10 % 10) (D := qd y (n - 1 - i) % 10) hp hpB h ok (by omega) (by omega) (by omega) (by omega)
    rw [r1, Option.bind_some]
    unfold jdg
    have okj := ok_jud (F := qd y (n - 1 - i) / 100) (A := qd y (n - 1 - i) / 10 % 10) (D := qd y (n - 1 - i) % 10) hp ok (by omega) (by omega) (by omega)
    generalize jud p (qd y (n - 1 - i) / 100) (qd y (n - 1 - i) / 10 % 10) (qd y (n - 1 - i) % 10) sv = w at r2 okj
    obtain ⟨b, sw⟩ := w
    cases b with
    | false =>
      rw [if_pos bI_f, if_neg Bool.false_ne_true]
      exact ⟨τ, rfl, r3⟩
    | true =>
      rw [if_neg (by show ¬ bI true = 0; decide), if_pos rfl, nIs]
      obtain ⟨τ2, p1, p2⟩ := B_jdg_loop hp hy hn d (i + 1) (T + 3200) f τ sw (by omega) (by omega) (hpB.pu r3) r2 okj (by omega)
      exact ⟨τ2, p1, r3.tr p2⟩
theorem op_judge {S : AS} {B : Nat} (ok : okA S B) (hB : B < 70000000) (x : Int32) (y : Int64) : op (f_TF_judge x y) (f_M_judge x y) S B := by
  have hp := ok.1
  have hN5 : pN (aP S) ≤ 5 := ok.1.1
  have hx0 : x < (1 : Int32) ↔ x.toInt < 1 := Int32.lt_iff_toInt_lt
  have hx1 : x ≤ (4 : Int32) ↔ x.toInt ≤ 4 := Int32.le_iff_toInt_le
  have z0 : (0 : Int64).toInt = 0 := rfl
  have z1 : (1 : Int64).toInt = 1 := rfl
  have z4 : (4 : Int64).toInt = 4 := rfl
  have hl0 : lg_cmp y 0 < 0 ↔ y.toInt < 0 := by rw [lgc_lt]; exact Iff.rfl
  by_cases hx : 1 ≤ x.toInt ∧ x.toInt ≤ 4
  · obtain ⟨n, hn, rfl⟩ := IR_n (x := x) (n := 5) ⟨by omega, by show x.toInt < 5; omega⟩ (by omega)
    obtain ⟨t1, t2, t3, t4⟩ := thV_p hn
    have hl1 : lg_cmp y (thV n) < 0 ↔ y.toInt < (thV n).toInt := lgc_lt y (thV n)
    by_cases hy : 0 ≤ y.toInt ∧ y.toInt < (thV n).toInt
    · refine ⟨S, ok.le (by omega), jdg (aP S) y n n 0 (aV S), fun σ h => ?_, fun σ h => ?_⟩
      · unfold f_TF_judge
        rw [if_neg (fun q => by have := hx0.mp q; omega), if_pos (hx1.mpr hx.2), if_neg (fun q => by have := hl0.mp q; omega), if_pos (inb_n hn (by decide)), nIc (by omega), if_pos (hl1.mpr hy.2)]
        obtain ⟨τ1, q1, q2, q3⟩ := A_trial h ok
        obtain ⟨τ2, r1, r2⟩ := A_jdg_loop hp hy.1 hn n 0 B 1100 τ1 _ (by omega) (by omega) (h.2.1.pt q3) q2 ok.2.1 (by omega)
        rw [show nI 0 = (0 : Int32) from rfl] at r1
        rw [q1, Option.bind_some, r1]
        exact ⟨τ2, rfl, h.tr hN5 (q3.tr r2)⟩
      · unfold f_M_judge
        rw [v_in, Option.bind_some, Int32.toInt_toInt64, z1, z4, if_pos hx, if_neg (by decide), t2, Option.bind_some, v_in, Option.bind_some, z0, t4, if_pos (c := 0 ≤ y.toInt ∧ y.toInt ≤ (thV n).toInt - 1) (by omega), if_neg (by decide)]
        obtain ⟨τ1, q1, q2, q3⟩ := B_trial h ok
        obtain ⟨τ2, r1, r2⟩ := B_jdg_loop hp hy.1 hn n 0 B 1100 τ1 _ (by omega) (by omega) (h.2.1.pu q3) q2 ok.2.1 (by omega)
        rw [show nI 0 = (0 : Int32) from rfl] at r1
        rw [q1, Option.bind_some, r1]
        exact ⟨τ2, rfl, h.tr hN5 (q3.tr r2)⟩
    · refine op_rf ok (-2) (fun σ h => ?_) (fun σ h => ?_)
      · unfold f_TF_judge
        rw [if_neg (fun q => by have := hx0.mp q; omega), if_pos (hx1.mpr hx.2)]
        by_cases q : y.toInt < 0
        · rw [if_pos (hl0.mpr q)]
        · rw [if_neg (fun z => q (hl0.mp z)), if_pos (inb_n hn (by decide)), nIc (by omega), if_neg (fun z => hy ⟨by omega, hl1.mp z⟩)]
      · unfold f_M_judge
        rw [v_in, Option.bind_some, Int32.toInt_toInt64, z1, z4, if_pos hx, if_neg (by decide), t2, Option.bind_some, v_in, Option.bind_some, z0, t4, if_neg (c := 0 ≤ y.toInt ∧ y.toInt ≤ (thV n).toInt - 1) (by omega), if_pos rfl]
  · refine op_rf ok (-2) (fun σ h => ?_) (fun σ h => ?_)
    · unfold f_TF_judge
      by_cases q : x.toInt < 1
      · rw [if_pos (hx0.mpr q)]
      · rw [if_neg (fun z => q (hx0.mp z)), if_neg (fun z => hx ⟨by omega, hx1.mp z⟩)]
    · unfold f_M_judge
      rw [v_in, Option.bind_some, Int32.toInt_toInt64, z1, z4, if_neg hx, if_pos rfl]
