/-! which -/
def shw (sv : SV) (j : Nat) : Int32 := if (sv.2.2 j).1 0 = 0 then -9 else (sv.2.2 j).1 2
def gn (G : SG) (j : Nat) : Nat := (G.1 j).1.toNatClampNeg
def gp (G : SG) (j : Nat) : Nat := (G.1 j).2.1.toNatClampNeg
def okG (G : SG) : Prop := G.2 ≤ 6 ∧ ∀ j, j < G.2 → IR 0 5 (G.1 j).1 ∧ IR 0 21 (G.1 j).2.1
theorem okG.n {G : SG} (h : okG G) {j : Nat} (hj : j < G.2) : (G.1 j).1 = nI (gn G j) ∧ gn G j < 5 ∧ (G.1 j).2.1 = nI (gp G j) ∧ gp G j < 21 := by
  obtain ⟨a, b⟩ := h.2 j hj
  obtain ⟨n, hn, e⟩ := IR_n (n := 5) a (by omega)
  obtain ⟨m, hm, f⟩ := IR_n (n := 21) b (by omega)
  unfold gn gp
  rw [e, f, nIc (by omega), nIc (by omega)]
  exact ⟨rfl, hn, rfl, hm⟩
def conR (p : PLN) (G : SG) (n : Nat) (sv : SV) : Nat → Nat → Bool
  | 0, _ => false
  | d + 1, i => if gp G i = n ∧ gn G i < pN p ∧ ¬ shw sv (gn G i) = (G.1 i).2.2 then true else conR p G n sv d (i + 1)
theorem conR_f {p : PLN} {G : SG} {n : Nat} {sv : SV} : ∀ (d i : Nat), conR p G n sv d i = false ↔ ∀ j, i ≤ j → j < i + d → ¬ (gp G j = n ∧ gn G j < pN p ∧ ¬ shw sv (gn G j) = (G.1 j).2.2)
  | 0, i => ⟨fun _ j h1 h2 => absurd h2 (by omega), fun _ => rfl⟩
  | d + 1, i => by
    unfold conR
    by_cases h : gp G i = n ∧ gn G i < pN p ∧ ¬ shw sv (gn G i) = (G.1 i).2.2
    · rw [if_pos h]
      exact ⟨fun q => (by cases q), fun q => absurd h (q i (by omega) (by omega))⟩
    · rw [if_neg h, conR_f d (i + 1)]
      constructor
      · intro q j h1 h2
        by_cases hj : j = i
        · subst hj; exact h
        · exact q j (by omega) (by omega)
      · intro q j h1 h2
        exact q j (by omega) (by omega)
theorem A_con_loop {p : PLN} {G : SG} {n : Nat} {sv : SV} {σ : MT} (hp : okP p) (hG : okG G) (hg : gA σ G) (h : hA σ 83 (pN p) sv) (hn : n < 1000) : ∀ (d i fuel : Nat), i + d = G.2 → d < fuel → f_Sg_contradict_3 fuel 83 (nI n) (nI (pN p)) (nI i) σ = some (bI (conR p G n sv d i))
  | 0, i, fuel, hi, hf => by
    obtain ⟨f, rfl⟩ : ∃ f, fuel = f + 1 := ⟨fuel - 1, by omega⟩
    have := hG.1
    rw [f_Sg_contradict_3, hg.1, if_pos ((nIle (by omega) (by omega)).mpr (by omega))]
    rfl
  | d + 1, i, fuel, hi, hf => by
    obtain ⟨f, rfl⟩ : ∃ f, fuel = f + 1 := ⟨fuel - 1, by omega⟩
    have h6 := hG.1
    have hN : pN p ≤ 5 := hp.1
    have ih := A_con_loop hp hG hg h hn d (i + 1) f (by omega) (by omega)
    obtain ⟨g1, g2, g3⟩ := hg.2 i (by omega)
    obtain ⟨e1, e2, e3, e4⟩ := hG.n (j := i) (by omega)
    rw [e1] at g1
    rw [e3] at g2
    rw [f_Sg_contradict_3, hg.1, if_neg (fun q => absurd ((nIle (by omega) (by omega)).mp q) (by omega)), inb_n (m := i) (by omega) (by decide), if_pos rfl, if_pos rfl, nIc (by omega), g1, g2]
    unfold f_Sg_contradict_38 f_Sg_contradict_39 f_Sg_contradict_69 conR
    rw [nIs, ih, if_pos rfl, inb_n (m := i) (by omega) (by decide), if_pos rfl, nIc (by omega), g1]
    by_cases h1 : gp G i = n
    · rw [if_pos ((nIeq (by omega) (by omega)).mpr h1)]
      by_cases h2 : gn G i < pN p
      · rw [if_neg (fun q => absurd ((nIle (by omega) (by omega)).mp q) (by omega)), if_neg (by decide), v_shown h h2 hN, Option.bind_some, if_pos rfl, g3]
        unfold shw
        by_cases h3 : (if (sv.2.2 (gn G i)).1 0 = 0 then (-9 : Int32) else (sv.2.2 (gn G i)).1 2) = (G.1 i).2.2
        · rw [if_pos h3, if_neg (fun q => q.2.2 h3)]
        · rw [if_neg h3, if_pos ⟨h1, h2, h3⟩]; rfl
      · rw [if_pos ((nIle (by omega) (by omega)).mpr (by omega)), if_neg (fun q => h2 q.2.1)]
    · rw [if_neg (fun q => h1 ((nIeq (by omega) (by omega)).mp q)), if_neg (fun q => h1 q.1)]
def expR (p : PLN) (G : SG) : Nat → Nat → SV → Bool
  | 0, _, _ => true
  | d + 1, n, sv => if conR p G n sv G.2 0 = true then false else expR p G d (n + 1) (pas p sv)
theorem rep_s {α : Type} (f : α → α) : ∀ (n : Nat) (a : α), rep f n (f a) = rep f (n + 1) a := fun _ _ => rfl
theorem expR_t {p : PLN} {G : SG} : ∀ (d n : Nat) (sv : SV), expR p G d n sv = true ↔ ∀ m, m < d → conR p G (n + m) (rep (pas p) m sv) G.2 0 = false
  | 0, n, sv => ⟨fun _ m hm => absurd hm (by omega), fun _ => rfl⟩
  | d + 1, n, sv => by
    unfold expR
    cases hc : conR p G n sv G.2 0 with
    | true =>
      rw [if_pos rfl]
      exact ⟨fun q => (by cases q), fun q => by have := q 0 (by omega); rw [show conR p G (n + 0) (rep (pas p) 0 sv) G.2 0 = conR p G n sv G.2 0 from rfl, hc] at this; cases this⟩
    | false =>
      rw [if_neg Bool.false_ne_true, expR_t d (n + 1)]
      constructor
      · intro q m hm
        cases m with
        | zero => exact hc
        | succ m =>
          have := q m (by omega)
          rw [show n + 1 + m = n + (m + 1) by omega] at this
          exact this
      · intro q m hm
        have := q (m + 1) (by omega)
        rw [show n + (m + 1) = n + 1 + m by omega] at this
        exact this
theorem ngt_20a {b : Nat} (h : b < 2147483648) : (20 : Int32) < nI b ↔ 20 < b := nIlt (a := 20) (by omega) h
theorem gA.pt {σ τ : MT} {G : SG} (h : gA σ G) (e : EO PT σ τ) : gA τ G := h.e (e.1 _ (by unfold PT; omega)) (e.1 _ (by unfold PT; omega)) (e.1 _ (by unfold PT; omega)) (e.1 _ (by unfold PT; omega))
theorem A_exp_loop {p : PLN} {G : SG} (hp : okP p) (hG : okG G) : ∀ (d n T fuel : Nat) (σ : MT) (sv : SV), n + d = 21 → d < fuel → pA σ 15 p → gA σ G → hA σ 83 (pN p) sv → okS p T sv → T + 32 * d < 90000000 → ∃ τ, f_TF_failureExplains_26 fuel (nI n) σ = some (bI (expR p G d n sv), τ) ∧ EO PT σ τ
  | 0, n, T, fuel, σ, sv, hi, hf, hpA, hg, h, ok, hT => by
    obtain ⟨f, rfl⟩ : ∃ f, fuel = f + 1 := ⟨fuel - 1, by omega⟩
    refine ⟨σ, ?_, EO.rf⟩
    rw [f_TF_failureExplains_26, if_pos ((ngt_20a (by omega)).mpr (by omega))]
    rfl
  | d + 1, n, T, fuel, σ, sv, hi, hf, hpA, hg, h, ok, hT => by
    obtain ⟨f, rfl⟩ : ∃ f, fuel = f + 1 := ⟨fuel - 1, by omega⟩
    have hcon : f_Sg_contradict 83 (nI n) (nI (pN p)) σ = some (bI (conR p G n sv G.2 0)) := A_con_loop hp hG hg h (by omega) G.2 0 1100 (by omega) (by have := hG.1; omega)
    rw [f_TF_failureExplains_26, if_neg (fun q => absurd ((ngt_20a (by omega)).mp q) (by omega)), hpA.2.1, hcon, Option.bind_some]
    unfold expR
    cases hc : conR p G n sv G.2 0 with
    | true =>
      rw [if_neg (by decide), if_pos rfl]
      exact ⟨σ, rfl, EO.rf⟩
    | false =>
      rw [if_pos bI_f, if_neg Bool.false_ne_true]
      obtain ⟨τ, q1, q2, q3⟩ := A_pass hp hpA h (by omega) ok (by omega)
      rw [q1, Option.bind_some, nIs]
      have e := q3.mo PP83
      obtain ⟨τ2, p1, p2⟩ := A_exp_loop hp hG d (n + 1) (T + 32) f τ _ (by omega) (by omega) (hpA.pt e) (hg.pt e) q2 (ok_pas hp ok (by omega)) (by omega)
      exact ⟨τ2, p1, e.tr p2⟩
def offN (nd : ND) : ND := (fun j => if j = 0 then 0 else nd.1 j, nd.2)
theorem offN_w {N : Nat} {nd : ND} (h : wfN N nd) : wfN N (offN nd) := by
  obtain ⟨h0, h1, h2, h3, h5, h6⟩ := h
  exact ⟨Or.inl rfl, by simpa [offN] using h1, by simpa [offN] using h2, by simpa [offN] using h3, by simpa [offN] using h5, h6⟩
theorem A_off {σ : MT} {n : Nat} {nd : ND} (h : hN σ n nd) : hN (sI σ n 0 0) n (offN nd) := by
  obtain ⟨h1, h2, h3, h4⟩ := h
  refine ⟨fun j hj => ?_, ?_, h3, fun j s hs => ?_⟩
  · rw [sI_r]
    by_cases hj0 : j = 0
    · subst hj0; simp [offN]
    · rw [if_neg (fun z => hj0 z.2)]
      show _ = (if j = 0 then 0 else nd.1 j)
      rw [if_neg hj0]; exact h1 j hj
  · rw [sI_r, if_neg (by omega)]; exact h2
  · rw [sI_n (by omega), sI_n (by omega), sI_n (by omega)]; exact h4 j s hs
theorem B_off {σ : MT} {c o : Nat} {nd : ND} (h : hB σ c o nd) : hB (sI σ c o 0) c o (offN nd) := by
  obtain ⟨h1, h2, h3, h4⟩ := h
  refine ⟨fun j hj => ?_, ?_, h3, fun j s hs => ?_⟩
  · rw [sI_r]
    by_cases hj0 : j = 0
    · subst hj0; simp [offN]
    · rw [if_neg (fun z => hj0 (by omega))]
      show _ = (if j = 0 then 0 else nd.1 j)
      rw [if_neg hj0]; exact h1 j hj
  · rw [sI_r, if_neg (by omega)]; exact h2
  · rw [sI_r, if_neg (by omega), sI_r, if_neg (by omega), sI_r, if_neg (by omega)]; exact h4 j s hs
def offS (sv : SV) (i : Nat) : SV := updV2 sv i (offN (sv.2.2 i))
def whiA (p : PLN) (G : SG) (sv : SV) (i : Nat) : Bool := onM sv i && expR p G 21 0 (offS sv i)
theorem A_fail {σ : MT} {S : AS} {B i : Nat} (h : RA σ S) (ok : okA S B) (hB : B < 70000000) (hi : i < pN (aP S)) : ∃ τ, f_TF_failureExplains (nI i) σ = some (bI (expR (aP S) (aG S) 21 0 (offS (aV S) i)), τ) ∧ EO PT σ τ := by
  have hN : pN (aP S) ≤ 5 := ok.1.1
  obtain ⟨τ1, q1, q2, q3⟩ := A_trial h ok
  have e3 : EO (fun c => c = 83 + 1 + 1 + 4 * i) τ1 (sI τ1 (83 + 1 + 1 + 4 * i) 0 0) := EO.i (P := fun c => c = 83 + 1 + 1 + 4 * i) EO.rf rfl
  have r2 := q2.upd hi (A_off (q2.2.2.1 i hi)) (e3.mo (fun c hc => by unfold PN; omega))
  have e4 := q3.tr (e3.mo (fun c hc => by unfold PT; omega))
  have ho : okS (aP S) B (offS (aV S) i) := ok.2.1.upd (offN_w (ok.2.1.1 i hi))
  obtain ⟨τ2, p1, p2⟩ := A_exp_loop ok.1 ⟨ok.2.2.2.2.2.2.1, ok.2.2.2.2.2.2.2⟩ 21 0 B 1100 _ _ (by omega) (by omega) (h.2.1.pt e4) (h.2.2.2.2.2.1.pt e4) r2 ho (by omega)
  rw [show nI 0 = (0 : Int32) from rfl] at p1
  unfold f_TF_failureExplains
  rw [q1, Option.bind_some, if_pos (inb_n (by omega) (by decide)), nIc (by omega), show 84 + 1 + 4 * i = 83 + 1 + 1 + 4 * i by omega, p1]
  exact ⟨τ2, rfl, e4.tr p2⟩
theorem A_which_loop {S : AS} {B : Nat} (ok : okA S B) (hB : B < 70000000) : ∀ (d i fuel : Nat) (σ : MT), i + d = pN (aP S) → d < fuel → RA σ S → ∃ τ, f_TF_which_4 fuel (nI (setN (whiA (aP S) (aG S) (aV S)) i)) (nI i) σ = some (nI (setN (whiA (aP S) (aG S) (aV S)) (pN (aP S))), τ) ∧ EO PT σ τ
  | 0, i, fuel, σ, hi, hf, h => by
    obtain ⟨f, rfl⟩ : ∃ f, fuel = f + 1 := ⟨fuel - 1, by omega⟩
    have hN : pN (aP S) ≤ 5 := ok.1.1
    have : i = pN (aP S) := by omega
    subst this
    refine ⟨σ, ?_, EO.rf⟩
    rw [f_TF_which_4, h.2.1.2.1, if_pos ((nIle (by omega) (by omega)).mpr (Nat.le_refl _))]
  | d + 1, i, fuel, σ, hi, hf, h => by
    obtain ⟨f, rfl⟩ : ∃ f, fuel = f + 1 := ⟨fuel - 1, by omega⟩
    have hN : pN (aP S) ≤ 5 := ok.1.1
    have hiN : i < pN (aP S) := by omega
    have hn := h.2.2.1.2.2.1 i hiN
    rw [f_TF_which_4, h.2.1.2.1, if_neg (fun q => absurd ((nIle (by omega) (by omega)).mp q) (by omega)), if_pos (inb_n (by omega) (by decide)), nIc (n := i) (by omega), show 62 + 1 + 4 * i = 61 + 1 + 1 + 4 * i by omega, hn.1 0 (by decide)]
    unfold f_TF_which_44
    rw [nIs]
    have hs := setN_b (whiA (aP S) (aG S) (aV S)) i
    by_cases h0 : ((aV S).2.2 i).1 0 = 0
    · rw [if_pos h0]
      have hq : whiA (aP S) (aG S) (aV S) i = false := by unfold whiA onM; rw [decide_eq_true h0]; rfl
      have ih := A_which_loop ok hB d (i + 1) f σ (by omega) (by omega) h
      rw [setN_0 hq] at ih
      exact ih
    · rw [if_neg h0]
      obtain ⟨τ, q1, q2⟩ := A_fail h ok hB hiN
      rw [q1, Option.bind_some]
      obtain ⟨τ2, p1, p2⟩ := A_which_loop ok hB d (i + 1) f τ (by omega) (by omega) (h.tr hN q2).1
      have hq : whiA (aP S) (aG S) (aV S) i = expR (aP S) (aG S) 21 0 (offS (aV S) i) := by unfold whiA onM; rw [decide_eq_false h0]; rfl
      cases he : expR (aP S) (aG S) 21 0 (offS (aV S) i) with
      | false =>
        rw [he] at hq
        rw [setN_0 hq] at p1
        rw [if_pos bI_f]
        exact ⟨τ2, p1, q2.tr p2⟩
      | true =>
        rw [he] at hq
        rw [setN_1 hq] at p1
        rw [if_neg (by show ¬ bI true = 0; decide), or_bit (by omega) hs]
        exact ⟨τ2, p1, q2.tr p2⟩
-- the reference's
def soM (p : PLN) (G : SG) (sv : SV) (k : Nat) : Bool := !decide (gn G k < pN p) || decide (shw (rep (pas p) (gp G k) sv) (gn G k) = (G.1 k).2.2)
theorem B_so {σ : MT} {S : AS} {B i k : Nat} (h : RB σ S) (ok : okA S B) (hB : B < 70000000) (hi : i < pN (aP S)) (hk : k < (aG S).2) : ∃ τ, f_M_isSoBy (nI i) (nI k) σ = some (bI (soM (aP S) (aG S) (offS (aV S) i) k), τ) ∧ EO PU σ τ := by
  have hp := ok.1
  have hN : pN (aP S) ≤ 5 := ok.1.1
  have hG : okG (aG S) := ⟨ok.2.2.2.2.2.2.1, ok.2.2.2.2.2.2.2⟩
  have h6 := hG.1
  obtain ⟨g1, g2, g3⟩ := h.2.2.2.2.2.1.2 k hk
  obtain ⟨e1, e2, e3, e4⟩ := hG.n hk
  rw [e1] at g1
  rw [e3] at g2
  unfold f_M_isSoBy
  rw [if_pos (inb_n (by omega) (by decide)), nIc (n := k) (by omega), g1, B_isNode _ hp h.2.1, Option.bind_some, isI_nI (by omega)]
  unfold soM
  by_cases hn : gn (aG S) k < pN (aP S)
  · rw [decide_eq_true hn, if_neg (by decide)]
    obtain ⟨τ1, q1, q2, q3⟩ := B_trial h ok
    have eb : EB 44 (PB (19 * i)) S0 τ1 (sI τ1 44 (19 * i) 0) := EB.rf.i ⟨by omega, by omega⟩
    have r2 := q2.upd hi hN (B_off (q2.2.2 i hi)) eb
    have e3' : EO PU τ1 (sI τ1 44 (19 * i) 0) := EO.i (P := PU) EO.rf (Or.inl rfl)
    have e4' := q3.tr e3'
    have ho : okS (aP S) B (offS (aV S) i) := ok.2.1.upd (offN_w (ok.2.1.1 i hi))
    obtain ⟨τ2, p1, p2, p3⟩ := B_many (m := gp (aG S) k) hp (h.2.1.pu e4') r2 ho (by omega) (by omega)
    have okr := ok_rep hp (gp (aG S) k) B _ ho (by omega)
    have e5 := e4'.tr (p3.mo SR44)
    obtain ⟨f1, f2, f3, f4, f5, f6, f0⟩ := (p2.2.2 _ hn).f
    have e49 : (sI τ1 44 (19 * i) 0).1 49 = σ.1 49 := e4'.1 49 (by unfold PU; omega)
    have e50 : τ2.1 50 = σ.1 50 := e5.1 50 (by unfold PU; omega)
    rw [q1, Option.bind_some, ad19, nIp_0, if_pos (inb_n (by omega) (by decide)), nIc (n := 19 * i) (by omega)]
    unfold f_M_isSoBy_40 f_M_isSoBy_77
    rw [if_pos (inb_n (by omega) (by decide)), nIc (n := k) (by omega), e49, g2, p1, Option.bind_some, v_isOn p2 hn hN okr.1, Option.bind_some, ad19, nIp_2, if_pos (inb_n (by omega) (by decide)), nIc (by omega), f2, if_pos (inb_n (by omega) (by decide)), if_pos (inb_n (by omega) (by decide)), e50, g3]
    refine ⟨τ2, ?_, e5⟩
    unfold shw offS
    by_cases h0 : ((rep (pas (aP S)) (gp (aG S) k) (updV2 (aV S) i (offN ((aV S).2.2 i)))).2.2 (gn (aG S) k)).1 0 = 0
    · rw [if_pos h0, if_pos rfl, if_pos h0]
      by_cases h3 : (-9 : Int32) = ((aG S).1 k).2.2
      · rw [if_pos h3, decide_eq_true h3]; rfl
      · rw [if_neg h3, decide_eq_false h3]; rfl
    · rw [if_neg h0, if_neg (by decide), if_neg h0]
      by_cases h3 : ((rep (pas (aP S)) (gp (aG S) k) (updV2 (aV S) i (offN ((aV S).2.2 i)))).2.2 (gn (aG S) k)).1 2 = ((aG S).1 k).2.2
      · rw [if_pos h3, decide_eq_true h3]; rfl
      · rw [if_neg h3, decide_eq_false h3]; rfl
  · rw [decide_eq_false hn, if_pos bI_f]
    exact ⟨σ, rfl, EO.rf⟩
def allR (q : Nat → Bool) : Nat → Nat → Bool → Bool
  | 0, _, b => b
  | d + 1, k, b => allR q d (k + 1) (b && q k)
theorem allR_t {q : Nat → Bool} : ∀ (d k : Nat) (b : Bool), allR q d k b = true ↔ b = true ∧ ∀ j, k ≤ j → j < k + d → q j = true
  | 0, k, b => ⟨fun h => ⟨h, fun j h1 h2 => absurd h2 (by omega)⟩, fun h => h.1⟩
  | d + 1, k, b => by
    unfold allR
    rw [allR_t d (k + 1), Bool.and_eq_true]
    constructor
    · intro h
      refine ⟨h.1.1, fun j h1 h2 => ?_⟩
      by_cases hj : j = k
      · subst hj; exact h.1.2
      · exact h.2 j (by omega) (by omega)
    · intro h
      exact ⟨⟨h.1, h.2 k (by omega) (by omega)⟩, fun j h1 h2 => h.2 j (by omega) (by omega)⟩
def whiB (p : PLN) (G : SG) (sv : SV) (i : Nat) : Bool := allR (soM p G (offS sv i)) G.2 0 (onM sv i)
theorem whi_eq {p : PLN} {G : SG} {sv : SV} {i : Nat} (hG : okG G) : whiA p G sv i = whiB p G sv i := by
  rw [Bool.eq_iff_iff]
  unfold whiA whiB
  rw [allR_t, Bool.and_eq_true, expR_t]
  refine and_congr_right fun _ => ?_
  constructor
  · intro h j _ hj
    obtain ⟨e1, e2, e3, e4⟩ := hG.n (j := j) (by omega)
    have := (conR_f _ _).mp (h (gp G j) e4) j (by omega) (by omega)
    rw [Nat.zero_add] at this
    unfold soM
    by_cases hn : gn G j < pN p
    · have h3 : shw (rep (pas p) (gp G j) (offS sv i)) (gn G j) = (G.1 j).2.2 := Decidable.byContradiction fun q => this ⟨rfl, hn, q⟩
      rw [decide_eq_true h3]; exact Bool.or_true _
    · rw [decide_eq_false hn]; rfl
  · intro h m hm
    rw [conR_f]
    intro j h1 h2 ⟨q1, q2, q3⟩
    have := h j (by omega) (by omega)
    unfold soM at this
    rw [decide_eq_true q2, q1, Nat.zero_add, decide_eq_false q3] at this
    cases this
theorem B_all_loop {K : Int32 → Int32 → Int32 → MT → Option (Int32 × MT)} {S : AS} {B i : Nat} {x1 : Int32} (ok : okA S B) (hB : B < 70000000) (hi : i < pN (aP S)) : ∀ (d k fuel : Nat) (b : Bool) (σ : MT), k + d = (aG S).2 → d < fuel → RB σ S → ∃ τ, f_M_which_24 K fuel x1 (nI i) (bI b) (nI k) σ = K (nI i) (if allR (soM (aP S) (aG S) (offS (aV S) i)) d k b = true then (1 : Int32) <<< (nI i &&& 31) else 0) x1 τ ∧ EO PU σ τ
  | 0, k, fuel, b, σ, hk, hf, h => by
    obtain ⟨f, rfl⟩ : ∃ f, fuel = f + 1 := ⟨fuel - 1, by omega⟩
    have h6 : (aG S).2 ≤ 6 := ok.2.2.2.2.2.2.1
    refine ⟨σ, ?_, EO.rf⟩
    rw [f_M_which_24, h.2.2.2.2.2.1.1, if_pos ((nIle (by omega) (by omega)).mpr (by omega))]
    unfold allR
    cases b <;> rfl
  | d + 1, k, fuel, b, σ, hk, hf, h => by
    obtain ⟨f, rfl⟩ : ∃ f, fuel = f + 1 := ⟨fuel - 1, by omega⟩
    have h6 : (aG S).2 ≤ 6 := ok.2.2.2.2.2.2.1
    have hN : pN (aP S) ≤ 5 := ok.1.1
    rw [f_M_which_24, h.2.2.2.2.2.1.1, if_neg (fun q => absurd ((nIle (by omega) (by omega)).mp q) (by omega))]
    unfold f_M_which_51 f_M_which_52
    rw [nIs]
    cases b with
    | false =>
      rw [if_pos bI_f]
      exact B_all_loop (K := K) ok hB hi d (k + 1) f false σ (by omega) (by omega) h
    | true =>
      rw [if_neg (by decide)]
      obtain ⟨τ, q1, q2⟩ := B_so h ok hB hi (k := k) (by omega)
      rw [q1, Option.bind_some]
      obtain ⟨τ2, p1, p2⟩ := B_all_loop (K := K) (x1 := x1) ok hB hi d (k + 1) f (soM (aP S) (aG S) (offS (aV S) i) k) τ (by omega) (by omega) (h.tr hN q2).1
      refine ⟨τ2, ?_, q2.tr p2⟩
      have e : allR (soM (aP S) (aG S) (offS (aV S) i)) (d + 1) k true = allR (soM (aP S) (aG S) (offS (aV S) i)) d (k + 1) (soM (aP S) (aG S) (offS (aV S) i) k) := by
        show allR _ d (k + 1) (true && _) = _
        rw [Bool.true_and]
      rw [e, ← p1]
      cases soM (aP S) (aG S) (offS (aV S) i) k
      · rw [if_pos bI_f]; rfl
      · rw [if_neg (by show ¬ bI true = 0; decide)]; rfl
theorem B_which_loop {S : AS} {B : Nat} (ok : okA S B) (hB : B < 70000000) : ∀ (d i fuel : Nat) (σ : MT), i + d = pN (aP S) → d < fuel → RB σ S → ∃ τ, f_M_which_4 fuel (nI (setN (whiB (aP S) (aG S) (aV S)) i)) (nI i) σ = some (nI (setN (whiB (aP S) (aG S) (aV S)) (pN (aP S))), τ) ∧ EO PU σ τ
  | 0, i, fuel, σ, hi, hf, h => by
    obtain ⟨f, rfl⟩ : ∃ f, fuel = f + 1 := ⟨fuel - 1, by omega⟩
    have hN : pN (aP S) ≤ 5 := ok.1.1
    have : i = pN (aP S) := by omega
    subst this
    refine ⟨σ, ?_, EO.rf⟩
    rw [f_M_which_4, h.2.1.2.1, if_pos ((nIle (by omega) (by omega)).mpr (Nat.le_refl _))]
  | d + 1, i, fuel, σ, hi, hf, h => by
    obtain ⟨f, rfl⟩ : ∃ f, fuel = f + 1 := ⟨fuel - 1, by omega⟩
    have hN : pN (aP S) ≤ 5 := ok.1.1
    have h6 : (aG S).2 ≤ 6 := ok.2.2.2.2.2.2.1
    have hiN : i < pN (aP S) := by omega
    have hs := setN_b (whiB (aP S) (aG S) (aV S)) i
    rw [f_M_which_4, h.2.1.2.1, if_neg (fun q => absurd ((nIle (by omega) (by omega)).mp q) (by omega)), v_isOn h.2.2.1 hiN hN ok.2.1.1, Option.bind_some]
    have eo : (if ((aV S).2.2 i).1 0 = 0 then (0 : Int32) else 1) = bI (onM (aV S) i) := by
      unfold onM
      by_cases h0 : ((aV S).2.2 i).1 0 = 0
      · rw [if_pos h0, decide_eq_true h0]; rfl
      · rw [if_neg h0, decide_eq_false h0]; rfl
    rw [eo]
    obtain ⟨τ, q1, q2⟩ := B_all_loop (K := f_M_which_71 (f_M_which_4 f)) (x1 := nI (setN (whiB (aP S) (aG S) (aV S)) i)) ok hB hiN (aG S).2 0 1100 (onM (aV S) i) σ (by omega) (by omega) h
    rw [show nI 0 = (0 : Int32) from rfl] at q1
    rw [q1]
    unfold f_M_which_71
    rw [nIs]
    obtain ⟨τ2, p1, p2⟩ := B_which_loop ok hB d (i + 1) f τ (by omega) (by omega) (h.tr hN q2).1
    refine ⟨τ2, ?_, q2.tr p2⟩
    rw [← p1]
    cases hq : whiB (aP S) (aG S) (aV S) i with
    | false =>
      rw [setN_0 hq]
      unfold whiB at hq
      rw [hq, if_neg Bool.false_ne_true, or_0 (lt_128 hs (by omega))]
    | true =>
      rw [setN_1 hq]
      unfold whiB at hq
      rw [hq, if_pos rfl, or_bit (by omega) hs]
theorem op_which {S : AS} {B : Nat} (ok : okA S B) (hB : B < 70000000) : op f_TF_which f_M_which S B := by
  have hN : pN (aP S) ≤ 5 := ok.1.1
  have hG : okG (aG S) := ⟨ok.2.2.2.2.2.2.1, ok.2.2.2.2.2.2.2⟩
  refine ⟨S, ok.le (by omega), nI (setN (whiA (aP S) (aG S) (aV S)) (pN (aP S))), fun σ h => ?_, fun σ h => ?_⟩
  · obtain ⟨τ, q1, q2⟩ := A_which_loop ok hB (pN (aP S)) 0 1100 σ (by omega) (by omega) h
    exact ⟨τ, q1, h.tr hN q2⟩
  · obtain ⟨τ, q1, q2⟩ := B_which_loop ok hB (pN (aP S)) 0 1100 σ (by omega) (by omega) h
    rw [setN_c (q := whiA (aP S) (aG S) (aV S)) (r := whiB (aP S) (aG S) (aV S)) _ (fun i _ => whi_eq hG)]
    exact ⟨τ, q1, h.tr hN q2⟩
