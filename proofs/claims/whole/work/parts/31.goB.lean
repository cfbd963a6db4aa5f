/-! THE REFERENCE's PERIOD, put together -/
def P95 : Nat → Prop := fun b => b < 95
def S5 : Nat → Prop := fun a => 51 ≤ a ∧ a < 56
/-- a row of the reference's for a state: nodes below N, the time, the links -/
def hR (σ : MT) (c N : Nat) (sv : SV) : Prop := σ.1 c 102 = sv.1 ∧ (∀ l, l < 7 → σ.1 c (95 + l) = ((sv.2.1 >>> nI l) &&& 1)) ∧ ∀ i, i < N → hB σ c (19 * i) (sv.2.2 i)
theorem go13_loop {K : Nat → Int32 → MT → Option MT} {c N : Nat} {pat shy : Int32} {nodes : Nat → ND} (hc : c = 43 ∨ c = 44) (hN5 : N ≤ 5) (hw : ∀ i, i < N → wfN N (nodes i)) : ∀ (d i fuel : Nat) (σ : MT), i + d = N → d < fuel → σ.1 38 5 = nI N → σ.1 38 3 = pat → σ.1 38 4 = shy → (∀ j, j < N → hB σ c (19 * j) (if j < i then nodes1 pat shy nodes j else nodes j)) →
    ∃ τ, f_M_goOn_13 K fuel c (nI i) σ = (f_M_laySent c τ).bind (fun r => K c 0 r) ∧ (∀ j, j < N → hB τ c (19 * j) (nodes1 pat shy nodes j)) ∧ EB c P95 S55 σ τ
  | 0, i, fuel, σ, hi, hf, h5, _, _, hb => by
    obtain ⟨f, rfl⟩ : ∃ f, fuel = f + 1 := ⟨fuel - 1, by omega⟩
    have : i = N := by omega
    subst this
    refine ⟨σ, ?_, fun j hj => by have := hb j hj; rwa [if_pos hj] at this, EB.rf⟩
    rw [f_M_goOn_13, h5, if_pos ((nIle (by omega) (by omega)).mpr (Nat.le_refl _))]
  | d + 1, i, fuel, σ, hi, hf, h5, h3, h4, hb => by
    obtain ⟨f, rfl⟩ : ∃ f, fuel = f + 1 := ⟨fuel - 1, by omega⟩
    have hiN : i < N := by omega
    have hbi := hb i hiN
    rw [if_neg (Nat.lt_irrefl i)] at hbi
    obtain ⟨f1, f2, f3, f4, f5, f6, f0⟩ := hbi.f
    rw [f_M_goOn_13, h5, if_neg (fun q => absurd ((nIle (by omega) (by omega)).mp q) (by omega))]
    unfold f_M_goOn_39
    simp (disch := omega) only [ad19, ad3, ad95, nIp_0, nIp_1, nIp_2, nIp_3, nIp_4, nIp_5, nIp_6, nIp_7, nI_add, nIc, inb_n, eq_self, if_true]
    rw [f0]
    have hon := on01 (hw i hiN)
    have nx : ∀ σ2, hB σ2 c (19 * i) (nodes1 pat shy nodes i) → EB c (PB (19 * i)) S55 σ σ2 → ∃ τ, f_M_goOn_13 K f c (nI (i + 1)) σ2 = (f_M_laySent c τ).bind (fun r => K c 0 r) ∧ (∀ j, j < N → hB τ c (19 * j) (nodes1 pat shy nodes j)) ∧ EB c P95 S55 σ τ := by
      intro σ2 g1 g2
      have e38 : σ2.1 38 = σ.1 38 := g2.2.1 38 (by omega) (by unfold S55; omega)
      obtain ⟨τ, q1, q2, q3⟩ := go13_loop (K := K) (pat := pat) (shy := shy) hc hN5 hw d (i + 1) f σ2 (by omega) (by omega) (by rw [e38]; exact h5) (by rw [e38]; exact h3) (by rw [e38]; exact h4) (fun j hj => by
        by_cases hji : j = i
        · subst hji; rw [if_pos (by omega)]; exact g1
        · have := (hb j hj).eb g2 (fun b hb1 hb2 => by unfold PB; omega)
          by_cases hlt : j < i
          · rw [if_pos hlt] at this; rw [if_pos (by omega)]; exact this
          · rw [if_neg hlt] at this; rw [if_neg (by omega)]; exact this)
      exact ⟨τ, q1, q2, (g2.mo (fun b hb => by unfold PB at hb; unfold P95; omega) (fun _ z => z)).tr q3⟩
    by_cases h0 : (nodes i).1 0 = 1
    · rw [if_pos h0]
      obtain ⟨τ, q1, q2, q3⟩ := v_goOne hbi hc (by omega) (hw i hiN).2.2.2.2.2
      rw [q1, Option.bind_some]
      rw [h3, h4] at q2
      have e : nodes1 pat shy nodes i = leadN (nI i) pat shy (growN (nodes i)) := by unfold nodes1 node1; rw [if_neg (hon.mp h0)]
      exact nx τ (by rw [e]; exact q2) q3
    · rw [if_neg h0]
      have hz : (nodes i).1 0 = 0 := Decidable.byContradiction fun q => h0 (hon.mpr q)
      have e : nodes1 pat shy nodes i = nodes i := by unfold nodes1 node1; rw [if_pos hz]
      exact nx σ (by rw [e]; exact hbi) EB.rf
theorem go62_loop {K : Nat → Int32 → MT → Option MT} {c N L to : Nat} {t s : Int32} {ms : MS} {adj : Nat → Nat → Bool} (hc : c = 43 ∨ c = 44) (hN5 : N ≤ 5) (hL : L ≤ 7) (hto : to < N) (ht : IR 0 100000000 t) (hs : IR 0 64 s) (hq : ∀ f, f < N → ∀ q, ms f = some q → wfQ N q) : ∀ (d i fuel : Nat) (σ : MT) (nd : ND), i + d = N → d < fuel → σ.1 38 5 = nI N → σ.1 38 7 = nI L → σ.1 c 102 = t → σ.1 40 to = s → hB σ c (19 * to) nd → wfN N nd → nd.1 0 = 1 → hMsB σ N ms → (∀ a, a < N → adj a to = adjB σ c L a to) →
    ∃ τ, f_M_goOn_62 K fuel c (nI to) (nI i) σ = K c (nI to) τ ∧ hB τ c (19 * to) (itr (hStep t s to ms adj) d i nd) ∧ EB c (PB (19 * to)) S0 σ τ
  | 0, i, fuel, σ, nd, hi, hf, h5, _, _, _, hb, _, _, _, _ => by
    obtain ⟨f, rfl⟩ : ∃ f, fuel = f + 1 := ⟨fuel - 1, by omega⟩
    have : i = N := by omega
    subst this
    refine ⟨σ, ?_, hb, EB.rf⟩
    rw [f_M_goOn_62, h5, if_pos ((nIle (by omega) (by omega)).mpr (Nat.le_refl _))]
  | d + 1, i, fuel, σ, nd, hi, hf, h5, h7, h102, h40, hb, hw, h0, hms, had => by
    obtain ⟨f, rfl⟩ : ∃ f, fuel = f + 1 := ⟨fuel - 1, by omega⟩
    have hiN : i < N := by omega
    obtain ⟨f1, f2, f3, f4, f5, f6, f0⟩ := hb.f
    rw [f_M_goOn_62, h5, if_neg (fun q => absurd ((nIle (by omega) (by omega)).mp q) (by omega))]
    unfold f_M_goOn_108
    simp (disch := omega) only [ad19, ad3, ad95, nIp_0, nIp_1, nIp_2, nIp_3, nIp_4, nIp_5, nIp_6, nIp_7, nI_add, nIc, inb_n, eq_self, if_true]
    rw [f0, if_pos h0]
    obtain ⟨hm0, hm1⟩ := hms i hiN
    have skip : hStep t s to ms adj i nd = nd → ∃ τ, f_M_goOn_62 K f c (nI to) (nI (i + 1)) σ = K c (nI to) τ ∧ hB τ c (19 * to) (itr (hStep t s to ms adj) (d + 1) i nd) ∧ EB c (PB (19 * to)) S0 σ τ := by
      intro he
      show ∃ τ, _ ∧ hB τ c (19 * to) (itr (hStep t s to ms adj) d (i + 1) (hStep t s to ms adj i nd)) ∧ _
      rw [he]
      exact go62_loop hc hN5 hL hto ht hs hq d (i + 1) f σ nd (by omega) (by omega) h5 h7 h102 h40 hb hw h0 hms had
    cases hmi : ms i with
    | none =>
      rw [if_pos (hm0 hmi)]
      exact skip (by unfold hStep; rw [hmi])
    | some q =>
      obtain ⟨b1, b2, b3, b4⟩ := hm1 q hmi
      rw [if_neg b1, v_beside hL h7, Option.bind_some]
      have hai := had i hiN
      cases hx : adjB σ c L i to with
      | false =>
        rw [hx] at hai
        rw [if_pos (by decide)]
        exact skip (by unfold hStep; rw [hmi]; simp [hai])
      | true =>
        rw [hx] at hai
        rw [if_neg (by decide)]
        have hqi := hq i hiN q hmi
        obtain ⟨τ, q1, q2, q3⟩ := v_hearB (f := i) hb hc (by omega) (by omega) hw.2.2.2.2.1 hw.2.2.2.1 (by rw [b3]; exact hqi.2) (by rw [h102]; exact ht) hw.2.1 (by rw [h40]; exact hs)
        rw [q1, Option.bind_some]
        rw [b2, b3, b4, h102, h40] at q2
        have he : hStep t s to ms adj i nd = hearN (nI to) q.1 q.2.1 q.2.2 (clk t (nd.1 1) s) nd := by
          unfold hStep; rw [hmi]; simp [hai]
        have eo : ∀ k, k ≠ c → τ.1 k = σ.1 k := fun k hk => q3.2.1 k hk (fun z => z)
        have ec : ∀ b, 95 ≤ b → τ.1 c b = σ.1 c b := fun b hb => q3.1 b (by unfold PB; omega)
        obtain ⟨τ2, p1, p2, p3⟩ := go62_loop (K := K) (ms := ms) (adj := adj) (t := t) (s := s) hc hN5 hL hto ht hs hq d (i + 1) f τ (hStep t s to ms adj i nd) (by omega) (by omega) (by rw [eo 38 (by omega)]; exact h5) (by rw [eo 38 (by omega)]; exact h7) (by rw [ec 102 (by omega)]; exact h102) (by rw [eo 40 (by omega)]; exact h40) (by rw [he]; exact q2) (hw.step (hq i hiN)) (by rw [hStep_0]; exact h0) (hms.e (eo 51 (by omega)) (eo 52 (by omega)) (eo 53 (by omega)) (eo 54 (by omega))) (fun a ha => by
          rw [had a ha]
          exact (adjB_c (eo 41 (by omega)) (eo 42 (by omega)) (fun l hl => ec _ (by omega))).symm)
        exact ⟨τ2, p1, p2, q3.tr p3⟩
theorem go52_loop {c N L : Nat} {st : Nat → Int32} {t : Int32} {ms : MS} {adj : Nat → Nat → Bool} {nodes : Nat → ND} (hc : c = 43 ∨ c = 44) (hN5 : N ≤ 5) (hL : L ≤ 7) (ht : IR 0 100000000 t) (hst : ∀ i, i < N → IR 0 64 (st i)) (hw : ∀ i, i < N → wfN N (nodes i)) (hq : ∀ f, f < N → ∀ q, ms f = some q → wfQ N q) :
    ∀ (d i fuel : Nat) (σ : MT), i + d = N → d < fuel → σ.1 38 5 = nI N → σ.1 38 7 = nI L → σ.1 c 102 = t → (∀ j, j < N → σ.1 40 j = st j) → (∀ j, j < N → hB σ c (19 * j) (if j < i then node2 t st N ms adj j (nodes j) else nodes j)) → hMsB σ N ms → (∀ a b, a < N → b < N → adj a b = adjB σ c L a b) →
    ∃ τ, f_M_goOn_52 fuel c (nI i) σ = some τ ∧ (∀ j, j < N → hB τ c (19 * j) (node2 t st N ms adj j (nodes j))) ∧ EB c P95 S0 σ τ
  | 0, i, fuel, σ, hi, hf, h5, _, _, _, hb, _, _ => by
    obtain ⟨f, rfl⟩ : ∃ f, fuel = f + 1 := ⟨fuel - 1, by omega⟩
    have : i = N := by omega
    subst this
    refine ⟨σ, ?_, fun j hj => by have := hb j hj; rwa [if_pos hj] at this, EB.rf⟩
    rw [f_M_goOn_52, h5, if_pos ((nIle (by omega) (by omega)).mpr (Nat.le_refl _))]
  | d + 1, i, fuel, σ, hi, hf, h5, h7, h102, h40, hb, hms, had => by
    obtain ⟨f, rfl⟩ : ∃ f, fuel = f + 1 := ⟨fuel - 1, by omega⟩
    have hiN : i < N := by omega
    have hbi := hb i hiN
    rw [if_neg (Nat.lt_irrefl i)] at hbi
    rw [f_M_goOn_52, h5, if_neg (fun q => absurd ((nIle (by omega) (by omega)).mp q) (by omega))]
    have hon := on01 (hw i hiN)
    have nx : ∀ σ2, hB σ2 c (19 * i) (node2 t st N ms adj i (nodes i)) → EB c (PB (19 * i)) S0 σ σ2 → ∃ τ, f_M_goOn_114 (f_M_goOn_52 f) c (nI i) σ2 = some τ ∧ (∀ j, j < N → hB τ c (19 * j) (node2 t st N ms adj j (nodes j))) ∧ EB c P95 S0 σ τ := by
      intro σ2 g1 g2
      have eo : ∀ k, k ≠ c → σ2.1 k = σ.1 k := fun k hk => g2.2.1 k hk (fun z => z)
      have ec : ∀ b, 95 ≤ b → σ2.1 c b = σ.1 c b := fun b hb => g2.1 b (by unfold PB; omega)
      unfold f_M_goOn_114
      rw [nIs]
      obtain ⟨τ, q1, q2, q3⟩ := go52_loop (adj := adj) hc hN5 hL ht hst hw hq d (i + 1) f σ2 (by omega) (by omega) (by rw [eo 38 (by omega)]; exact h5) (by rw [eo 38 (by omega)]; exact h7) (by rw [ec 102 (by omega)]; exact h102) (fun j hj => by rw [eo 40 (by omega)]; exact h40 j hj) (fun j hj => by
        by_cases hji : j = i
        · subst hji; rw [if_pos (by omega)]; exact g1
        · have := (hb j hj).eb g2 (fun b hb1 hb2 => by unfold PB; omega)
          by_cases hlt : j < i
          · rw [if_pos hlt] at this; rw [if_pos (by omega)]; exact this
          · rw [if_neg hlt] at this; rw [if_neg (by omega)]; exact this) (hms.e (eo 51 (by omega)) (eo 52 (by omega)) (eo 53 (by omega)) (eo 54 (by omega))) (fun a b ha hb => by
          rw [had a b ha hb]
          exact (adjB_c (eo 41 (by omega)) (eo 42 (by omega)) (fun l hl => ec _ (by omega))).symm)
      exact ⟨τ, q1, q2, (g2.mo (fun b hb => by unfold PB at hb; unfold P95; omega) (fun _ z => z)).tr q3⟩
    by_cases h0 : (nodes i).1 0 = 1
    · obtain ⟨τ, q1, q2, q3⟩ := go62_loop (K := f_M_goOn_114 (f_M_goOn_52 f)) (adj := adj) hc hN5 hL hiN ht (hst i hiN) hq N 0 1100 σ (nodes i) (by omega) (by omega) h5 h7 h102 (h40 i hiN) hbi (hw i hiN) h0 hms (fun a ha => had a i ha hiN)
      rw [show nI 0 = (0 : Int32) from rfl] at q1
      rw [q1]
      refine nx τ ?_ q3
      unfold node2
      rw [if_neg (hon.mp h0)]
      exact q2
    · have hz : (nodes i).1 0 = 0 := Decidable.byContradiction fun q => h0 (hon.mpr q)
      obtain ⟨f1, f2, f3, f4, f5, f6, f0⟩ := hbi.f
      rw [show (0 : Int32) = nI 0 from rfl, f_M_goOn_62, h5, if_neg (fun q => absurd ((nIle (by omega) (by omega)).mp q) (by omega))]
      simp (disch := omega) only [ad19, ad3, ad95, nIp_0, nIp_1, nIp_2, nIp_3, nIp_4, nIp_5, nIp_6, nIp_7, nI_add, nIc, inb_n, eq_self, if_true]
      rw [f0, if_neg h0]
      refine nx σ ?_ EB.rf
      unfold node2
      rw [if_pos hz]
      exact hbi
theorem v_goOnB {σ : MT} {c N L : Nat} {sv : SV} {unit pat shy : Int32} {st : Nat → Int32} {adj : Nat → Nat → Bool} (h : hR σ c N sv) (hw : wfS N sv) (hc : c = 43 ∨ c = 44) (hN5 : N ≤ 5) (hL : L ≤ 7) (ht : IR 0 100000000 (sv.1 + unit)) (hst : ∀ i, i < N → IR 0 64 (st i)) (hshy : IR 0 10 shy) (h2 : σ.1 38 2 = unit) (h3 : σ.1 38 3 = pat) (h4 : σ.1 38 4 = shy) (h5 : σ.1 38 5 = nI N) (h7 : σ.1 38 7 = nI L) (h40 : ∀ j, j < N → σ.1 40 j = st j) (had : ∀ a b, a < N → b < N → adj a b = adjB σ c L a b) :
    ∃ τ, f_M_goOn c σ = some τ ∧ hR τ c N (passM unit pat shy N st adj sv) ∧ EB c (fun b => b < 95 ∨ b = 102) S5 σ τ := by
  obtain ⟨ht0, hdn, hnb⟩ := h
  unfold f_M_goOn f_M_goOn_11
  rw [c102, i102, if_pos rfl, if_pos rfl, ht0, h2]
  generalize hσ1 : sI σ c 102 (sv.1 + unit) = σ1
  have e1 : EB c (fun b => b < 95 ∨ b = 102) S5 σ σ1 := by rw [← hσ1]; exact EB.rf.i (Or.inr rfl)
  have eo1 : ∀ k, k ≠ c → σ1.1 k = σ.1 k := fun k hk => by rw [← hσ1]; exact sI_n hk
  have ec1 : ∀ b, b ≠ 102 → σ1.1 c b = σ.1 c b := fun b hb => by rw [← hσ1, sI_r, if_neg (by omega)]
  have et1 : σ1.1 c 102 = sv.1 + unit := by rw [← hσ1, sI_r, if_pos ⟨rfl, rfl⟩]
  have hb1 : ∀ i, i < N → hB σ1 c (19 * i) (sv.2.2 i) := fun i hi => (hnb i hi).eb (EB.mo (P' := fun b => b = 102) (S' := S0) (by rw [← hσ1]; exact EB.i (P := fun b => b = 102) (S := S0) EB.rf rfl) (fun _ z => z) (fun _ z => z)) (fun b h1 h2 => by show ¬ b = 102; omega)
  obtain ⟨σ2, q1, q2, q3⟩ := go13_loop (K := f_M_goOn_52 1100) (pat := pat) (shy := shy) (nodes := sv.2.2) hc hN5 hw N 0 1100 σ1 (by omega) (by omega) (by rw [eo1 38 (by omega)]; exact h5) (by rw [eo1 38 (by omega)]; exact h3) (by rw [eo1 38 (by omega)]; exact h4) (fun j hj => by rw [if_neg (by omega)]; exact hb1 j hj)
  rw [show nI 0 = (0 : Int32) from rfl] at q1
  rw [q1]
  have eo2 : ∀ k, k ≠ c → k ≠ 55 → σ2.1 k = σ1.1 k := fun k hk h55 => q3.2.1 k hk h55
  have ec2 : ∀ b, 95 ≤ b → σ2.1 c b = σ1.1 c b := fun b hb => q3.1 b (by unfold P95; omega)
  have hw1 : ∀ i, i < N → wfN N (nodes1 pat shy sv.2.2 i) := fun i hi => wfN_node1 (hw i hi) hi hshy
  obtain ⟨σ3, p1, p2, p3⟩ := layB_loop (t := sv.1 + unit) (st := st) (nodes := nodes1 pat shy sv.2.2) hc hN5 ht hst hw1 N 0 1100 σ2 (by omega) (by omega) (by rw [eo2 38 (by omega) (by omega), eo1 38 (by omega)]; exact h5) (by rw [ec2 102 (by omega)]; exact et1) (fun j hj => by rw [eo2 40 (by omega) (by omega), eo1 40 (by omega)]; exact h40 j hj) q2 (fun j hj => absurd hj (by omega))
  unfold f_M_laySent
  rw [show nI 0 = (0 : Int32) from rfl] at p1
  rw [p1, Option.bind_some]
  have eo3 : ∀ k, ¬ S54 k → σ3.1 k = σ2.1 k := p3.1
  have nc : ¬ S54 c := by unfold S54; omega
  obtain ⟨τ, r1, r2, r3⟩ := go52_loop (t := sv.1 + unit) (st := st) (ms := msgs (sv.1 + unit) st (nodes1 pat shy sv.2.2)) (adj := adj) (nodes := nodes1 pat shy sv.2.2) hc hN5 hL ht hst hw1 (wfS_msgs hw hshy) N 0 1100 σ3 (by omega) (by omega) (by rw [eo3 38 (by unfold S54; omega), eo2 38 (by omega) (by omega), eo1 38 (by omega)]; exact h5) (by rw [eo3 38 (by unfold S54; omega), eo2 38 (by omega) (by omega), eo1 38 (by omega)]; exact h7) (by rw [eo3 c nc, ec2 102 (by omega)]; exact et1) (fun j hj => by rw [eo3 40 (by unfold S54; omega), eo2 40 (by omega) (by omega), eo1 40 (by omega)]; exact h40 j hj) (fun j hj => by rw [if_neg (by omega)]; exact (q2 j hj).eq (eo3 c nc)) p2 (fun a b ha hb => by
    rw [had a b ha hb]
    exact (adjB_c (by rw [eo3 41 (by unfold S54; omega), eo2 41 (by omega) (by omega), eo1 41 (by omega)]) (by rw [eo3 42 (by unfold S54; omega), eo2 42 (by omega) (by omega), eo1 42 (by omega)]) (fun l hl => by rw [eo3 c nc, ec2 _ (by omega), ec1 _ (by omega)])).symm)
  rw [show nI 0 = (0 : Int32) from rfl] at r1
  rw [r1]
  have ecb : ∀ b, 95 ≤ b → τ.1 c b = σ1.1 c b := fun b hb => by rw [r3.1 b (by unfold P95; omega), eo3 c nc, ec2 b hb]
  refine ⟨τ, rfl, ⟨?_, fun l hl => ?_, fun i hi => r2 i hi⟩, ?_⟩
  · rw [ecb 102 (by omega)]; exact et1
  · rw [ecb _ (by omega), ec1 _ (by omega)]; exact hdn l hl
  · refine ⟨fun b hb => ?_, fun k hk hs => ?_, ?_⟩
    · have h95 : 95 ≤ b := by omega
      rw [ecb b h95, ec1 b (fun q => hb (Or.inr q))]
    · unfold S5 at hs
      rw [r3.2.1 k hk (fun z => z), eo3 k (by unfold S54; omega), eo2 k hk (by omega), eo1 k hk]
    · rw [r3.2.2, p3.2, q3.2.2, ← hσ1]
      rfl
