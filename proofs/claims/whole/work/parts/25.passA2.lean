abbrev MS : Type := Nat → Option (Int32 × Int32 × Int32)
def PM : Nat → Prop := fun c => 26 ≤ c ∧ c < 30
def PP (k : Nat) : Nat → Prop := fun c => (k ≤ c ∧ c < k + 22) ∨ (26 ≤ c ∧ c < 30)
/-- the messages of the nodes below i -/
def hMs (σ : MT) (i : Nat) (ms : MS) : Prop := ∀ j, j < i → (ms j = none → σ.1 26 j = 0) ∧ ∀ q, ms j = some q → σ.1 26 j ≠ 0 ∧ σ.1 27 j = q.1 ∧ σ.1 28 j = q.2.1 ∧ σ.1 29 j = q.2.2
theorem hMs.eo {P : Nat → Prop} {σ τ : MT} {i : Nat} {ms : MS} (h : hMs σ i ms) (e : EO P σ τ) (h6 : ¬ P 26) (h7 : ¬ P 27) (h8 : ¬ P 28) (h9 : ¬ P 29) : hMs τ i ms := by
  unfold hMs
  rw [e.1 _ h6, e.1 _ h7, e.1 _ h8, e.1 _ h9]
  exact h
def adjA (σ : MT) (k a b : Nat) : Bool := !decide (σ.1 (20 + 1 + a) b = -9) && !decide (((σ.1 k 1) >>> ((σ.1 (20 + 1 + a) b) &&& 31)) &&& 1 = 1)
def hStep (t s : Int32) (to : Nat) (ms : MS) (adj : Nat → Nat → Bool) (f : Nat) (nd : ND) : ND := match ms f with
  | none => nd
  | some q => if adj f to = true then hearN (nI to) q.1 q.2.1 q.2.2 (clk t (nd.1 1) s) nd else nd
theorem hearN_1 (self r m g c : Int32) (nd : ND) : (hearN self r m g c nd).1 1 = nd.1 1 := by
  unfold hearN storeN
  split
  · simp
  · split
    · simp
    · rfl
theorem hStep_1 (t s : Int32) (to : Nat) (ms : MS) (adj : Nat → Nat → Bool) (f : Nat) (nd : ND) : (hStep t s to ms adj f nd).1 1 = nd.1 1 := by
  unfold hStep
  split
  · rfl
  · split
    · exact hearN_1 _ _ _ _ _ _
    · rfl
theorem recvA_loop {k N to : Nat} {ms : MS} {adj : Nat → Nat → Bool} {t s : Int32} (hk : 61 ≤ k) (hN5 : N ≤ 5) (hto : to < N) (ht : IR 0 100000000 t) (hs : IR 0 64 s) : ∀ (d i fuel : Nat) (σ : MT) (sv : SV), i + d = N → d < fuel → hA σ k N sv → sv.1 = t → IR (-4) 6 ((sv.2.2 to).1 1) → σ.1 15 3 = nI N → σ.1 17 to = s → hMs σ N ms → (∀ a, a < N → adj a to = adjA σ k a to) →
    ∃ τ, f_Fl_receive_2 fuel k (nI to) (nI i) σ = some τ ∧ hN τ (k + 1 + 1 + 4 * to) (itr (hStep t s to ms adj) d i (sv.2.2 to)) ∧ EO (PN (k + 1 + 1 + 4 * to)) σ τ
  | 0, i, fuel, σ, sv, hi, hf, h, _, _, h15, _, _, _ => by
    obtain ⟨f, rfl⟩ : ∃ f, fuel = f + 1 := ⟨fuel - 1, by omega⟩
    have : i = N := by omega
    subst this
    refine ⟨σ, ?_, h.2.2.1 to hto, EO.rf⟩
    rw [f_Fl_receive_2, h15, if_pos ((nIle (by omega) (by omega)).mpr (Nat.le_refl _))]
  | d + 1, i, fuel, σ, sv, hi, hf, h, hst, hdr, h15, h17, hms, had => by
    obtain ⟨f, rfl⟩ : ∃ f, fuel = f + 1 := ⟨fuel - 1, by omega⟩
    have hiN : i < N := by omega
    rw [f_Fl_receive_2, h15, if_neg (fun q => absurd ((nIle (by omega) (by omega)).mp q) (by omega)), if_pos (inb_n (by omega) (by decide)), nIc (by omega)]
    obtain ⟨hm0, hm1⟩ := hms i hiN
    have skip : hStep t s to ms adj i (sv.2.2 to) = sv.2.2 to → ∃ τ, f_Fl_receive_58 (f_Fl_receive_2 f) k (nI to) (nI i) σ = some τ ∧ hN τ (k + 1 + 1 + 4 * to) (itr (hStep t s to ms adj) (d + 1) i (sv.2.2 to)) ∧ EO (PN (k + 1 + 1 + 4 * to)) σ τ := by
      intro he
      unfold f_Fl_receive_58
      rw [nIs]
      show ∃ τ, _ ∧ hN τ _ (itr (hStep t s to ms adj) d (i + 1) (hStep t s to ms adj i (sv.2.2 to))) ∧ _
      rw [he]
      exact recvA_loop hk hN5 hto ht hs d (i + 1) f σ sv (by omega) (by omega) h hst hdr h15 h17 hms had
    cases hmi : ms i with
    | none =>
      rw [if_pos (hm0 hmi)]
      exact skip (by unfold hStep; rw [hmi])
    | some q =>
      obtain ⟨b1, b2, b3, b4⟩ := hm1 q hmi
      rw [if_neg b1, if_pos (inb_n (by omega) (by decide)), if_pos (inb_n (by omega) (by decide)), nIc (by omega)]
      have hai := had i hiN
      unfold adjA at hai
      by_cases hl : σ.1 (20 + 1 + i) to = -9
      · rw [if_pos hl]
        exact skip (by unfold hStep; rw [hmi]; simp [hai, hl])
      · rw [if_neg hl]
        unfold f_St_isDown
        by_cases hd : ((σ.1 k 1) >>> ((σ.1 (20 + 1 + i) to) &&& 31)) &&& 1 = 1
        · rw [if_pos hd, Option.bind_some, if_neg (by decide)]
          exact skip (by unfold hStep; rw [hmi]; simp [hai, hd])
        · rw [if_neg hd, Option.bind_some, if_pos rfl]
          obtain ⟨τ, q1, q2, q3⟩ := v_hearA h hk hN5 hto hiN (by rw [hst]; exact ht) hdr (by rw [h17]; exact hs) b2 b3 b4
          rw [q1, Option.bind_some]
          unfold f_Fl_receive_58
          rw [nIs]
          have he : hStep t s to ms adj i (sv.2.2 to) = hearN (nI to) q.1 q.2.1 q.2.2 (clk sv.1 ((sv.2.2 to).1 1) (σ.1 17 to)) (sv.2.2 to) := by
            unfold hStep; rw [hmi]; simp [hai, hl, hd, hst, h17]
          have hU := h.upd hto q2 q3
          have np : ∀ c, c < 61 → ¬ PN (k + 1 + 1 + 4 * to) c := fun c hc => by unfold PN; omega
          obtain ⟨τ2, p1, p2, p3⟩ := recvA_loop (ms := ms) (adj := adj) hk hN5 hto ht hs d (i + 1) f τ _ (by omega) (by omega) hU hst (by
            show IR (-4) 6 ((if to = to then _ else _ : ND).1 1)
            rw [if_pos rfl, hearN_1]; exact hdr) (by rw [q3.1 15 (np _ (by omega))]; exact h15) (by rw [q3.1 17 (np _ (by omega))]; exact h17) (hms.eo q3 (np _ (by omega)) (np _ (by omega)) (np _ (by omega)) (np _ (by omega))) (fun a ha => by
              rw [had a ha]
              unfold adjA
              rw [q3.1 (20 + 1 + a) (np _ (by omega)), q3.1 k (by unfold PN; omega)])
          refine ⟨τ2, p1, ?_, q3.tr p3⟩
          show hN τ2 _ (itr (hStep t s to ms adj) d (i + 1) (hStep t s to ms adj i (sv.2.2 to)))
          rw [he]
          have e2 : (updV2 sv to (hearN (nI to) q.1 q.2.1 q.2.2 (clk sv.1 ((sv.2.2 to).1 1) (σ.1 17 to)) (sv.2.2 to))).2.2 to = hearN (nI to) q.1 q.2.1 q.2.2 (clk sv.1 ((sv.2.2 to).1 1) (σ.1 17 to)) (sv.2.2 to) := by
            show (if to = to then _ else _ : ND) = _
            rw [if_pos rfl]
          rw [e2] at p2
          exact p2
-- a period, as a function of values
def node1 (i : Nat) (pat shy : Int32) (nd : ND) : ND := if nd.1 0 = 0 then nd else leadN (nI i) pat shy (growN nd)
def msgN (i : Nat) (t s : Int32) (nd : ND) : Option (Int32 × Int32 × Int32) := if sendsN (nI i) nd = true then some (nd.1 2, nd.1 3, estN (nI i) (clk t (nd.1 1) s) nd) else none
def nodes1 (pat shy : Int32) (nodes : Nat → ND) : Nat → ND := fun i => node1 i pat shy (nodes i)
def msgs (t : Int32) (st : Nat → Int32) (nodes : Nat → ND) : MS := fun i => msgN i t (st i) (nodes i)
def node2 (t : Int32) (st : Nat → Int32) (N : Nat) (ms : MS) (adj : Nat → Nat → Bool) (to : Nat) (nd : ND) : ND := if nd.1 0 = 0 then nd else itr (hStep t (st to) to ms adj) N 0 nd
def passM (unit pat shy : Int32) (N : Nat) (st : Nat → Int32) (adj : Nat → Nat → Bool) (sv : SV) : SV :=
  (sv.1 + unit, sv.2.1, fun i => node2 (sv.1 + unit) st N (msgs (sv.1 + unit) st (nodes1 pat shy sv.2.2)) adj i (nodes1 pat shy sv.2.2 i))
theorem growN_1 (nd : ND) : (growN nd).1 1 = nd.1 1 := by simp [growN]
theorem leadN_1 (self pat shy : Int32) (nd : ND) : (leadN self pat shy nd).1 1 = nd.1 1 := by
  unfold leadN
  split
  · simp
  · split
    · rfl
    · simp
theorem node1_1 (i : Nat) (pat shy : Int32) (nd : ND) : (node1 i pat shy nd).1 1 = nd.1 1 := by
  unfold node1
  split
  · rfl
  · rw [leadN_1, growN_1]
theorem growN_0 (nd : ND) : (growN nd).1 0 = nd.1 0 := by simp [growN]
theorem leadN_0 (self pat shy : Int32) (nd : ND) : (leadN self pat shy nd).1 0 = nd.1 0 := by
  unfold leadN
  split
  · simp
  · split
    · rfl
    · simp
theorem node1_0 (i : Nat) (pat shy : Int32) (nd : ND) : (node1 i pat shy nd).1 0 = nd.1 0 := by
  unfold node1
  split
  · rfl
  · rw [leadN_0, growN_0]
theorem nz1 : vp_nar .boolean 1 = 1 := rfl
theorem nz0 : vp_nar .boolean 0 = 0 := rfl
/-- one round of the first loop, behind grow and lead -/
theorem pass56A {K : Nat → Int32 → MT → Option MT} {σ : MT} {k N i : Nat} {sv : SV} (h : hA σ k N sv) (hk : 61 ≤ k) (hN5 : N ≤ 5) (hi : i < N) (ht : IR 0 100000000 sv.1) (hdr : IR (-4) 6 ((sv.2.2 i).1 1)) (hs : IR 0 64 (σ.1 17 i)) {ms : MS} (hms : hMs σ i ms) (hmi : ms i = msgN i sv.1 (σ.1 17 i) (sv.2.2 i)) :
    ∃ τ, f_Fl_pass_56 K k (nI i) (k + 1 + 1 + 4 * i) σ = K k (nI (i + 1)) τ ∧ hMs τ (i + 1) ms ∧ EO PM σ τ := by
  have hn := h.2.2.1 i hi
  unfold f_Fl_pass_56
  rw [v_sendsA hn, Option.bind_some, if_pos (inb_n (by omega) (by decide)), if_pos (inb_n (by omega) (by decide)), nIc (by omega)]
  unfold msgN at hmi
  by_cases hsd : sendsN (nI i) (sv.2.2 i) = true
  · rw [if_pos hsd] at hmi
    rw [if_pos hsd, nz1, show (sI σ 26 i 1).1 26 i = 1 by simp [sI_r], if_neg (by decide), if_pos (inb_n (by omega) (by decide))]
    unfold f_Fl_pass_86
    rw [if_pos (inb_n (by omega) (by decide)), nIc (by omega)]
    have p6 : PM 26 := ⟨by omega, by omega⟩
    have p7 : PM 27 := ⟨by omega, by omega⟩
    have p8 : PM 28 := ⟨by omega, by omega⟩
    have p9 : PM 29 := ⟨by omega, by omega⟩
    have npn : ∀ c, 61 ≤ c → ¬ PM c := fun c hc => by unfold PM; omega
    have e1 : (sI σ 26 i 1).1 (k + 1 + 1 + 4 * i) 2 = (sv.2.2 i).1 2 := by rw [sI_n (by omega)]; exact hn.1 2 (by decide)
    rw [e1]
    have e2 : (sI (sI σ 26 i 1) 27 i ((sv.2.2 i).1 2)).1 (k + 1 + 1 + 4 * i) 3 = (sv.2.2 i).1 3 := by rw [sI_n (by omega), sI_n (by omega)]; exact hn.1 3 (by decide)
    rw [e2]
    generalize hσ3 : sI (sI (sI σ 26 i 1) 27 i ((sv.2.2 i).1 2)) 28 i ((sv.2.2 i).1 3) = σ3
    have eo : EO PM σ σ3 := by rw [← hσ3]; exact ((EO.rf.i p6).i p7).i p8
    have hn3 : hN σ3 (k + 1 + 1 + 4 * i) (sv.2.2 i) := hn.eo eo (npn _ (by omega)) (npn _ (by omega)) (npn _ (by omega)) (npn _ (by omega))
    have ek : σ3.1 k 0 = sv.1 := by rw [eo.1 k (npn _ hk)]; exact h.1
    have e17 : σ3.1 17 = σ.1 17 := eo.1 17 (by unfold PM; omega)
    have ed : σ3.1 (k + 1 + 1 + 4 * i) 1 = (sv.2.2 i).1 1 := hn3.1 1 (by decide)
    rw [v_clockA (i := i) (by omega) (by rw [ek]; exact ht) (by rw [ed]; exact hdr) (by rw [e17]; exact hs), Option.bind_some, v_estA hn3, Option.bind_some, if_pos (inb_n (by omega) (by decide)), ek, ed, e17]
    unfold f_Fl_pass_113
    rw [nIs]
    refine ⟨_, rfl, fun j hj => ?_, eo.i p9⟩
    by_cases hji : j = i
    · subst hji
      refine ⟨fun hz => (by rw [hmi] at hz; cases hz), fun q hq => ?_⟩
      rw [hmi] at hq
      cases hq
      rw [← hσ3]
      simp [sI_r]
    · obtain ⟨a1, a2⟩ := hms j (by omega)
      refine ⟨fun hz => ?_, fun q hq => ?_⟩
      · rw [← hσ3]; simp [sI_r, hji, a1 hz]
      · rw [← hσ3]; simp [sI_r, hji, a2 q hq]
  · rw [if_neg hsd] at hmi
    rw [if_neg hsd, nz0, show (sI σ 26 i 0).1 26 i = 0 by simp [sI_r], if_pos rfl]
    unfold f_Fl_pass_113
    rw [nIs]
    refine ⟨_, rfl, fun j hj => ?_, EO.rf.i ⟨by omega, by omega⟩⟩
    by_cases hji : j = i
    · subst hji
      refine ⟨fun _ => by simp [sI_r], fun q hq => by rw [hmi] at hq; cases hq⟩
    · obtain ⟨a1, a2⟩ := hms j (by omega)
      exact ⟨fun hz => by simp [sI_r, hji, a1 hz], fun q hq => by simp [sI_r, hji, a2 q hq]⟩
theorem pass18A {K : Nat → Int32 → MT → Option MT} {k N : Nat} {unit pat shy : Int32} {st : Nat → Int32} {t : Int32} {ms : MS} {nodes : Nat → ND} (hk : 61 ≤ k) (hN5 : N ≤ 5) (ht : IR 0 100000000 t) (hdr : ∀ i, i < N → IR (-4) 6 ((nodes i).1 1)) (hst : ∀ i, i < N → IR 0 64 (st i)) (hms : ms = msgs t st (nodes1 pat shy nodes)) :
    ∀ (d i fuel : Nat) (σ : MT) (sv : SV), i + d = N → d < fuel → hA σ k N sv → sv.1 = t → (∀ j, sv.2.2 j = if j < i then nodes1 pat shy nodes j else nodes j) → σ.1 15 3 = nI N → σ.1 15 1 = pat → σ.1 15 2 = shy → (∀ j, j < N → σ.1 17 j = st j) → hMs σ i ms →
    ∃ (τ : MT) (sv' : SV), f_Fl_pass_18 K fuel k (nI i) σ = K k 0 τ ∧ hA τ k N sv' ∧ sv'.1 = t ∧ sv'.2.1 = sv.2.1 ∧ (∀ j, j < N → sv'.2.2 j = nodes1 pat shy nodes j) ∧ hMs τ N ms ∧ EO (PP k) σ τ
  | 0, i, fuel, σ, sv, hi, hf, h, h1, h2, h3, _, _, _, h7 => by
    obtain ⟨f, rfl⟩ : ∃ f, fuel = f + 1 := ⟨fuel - 1, by omega⟩
    have : i = N := by omega
    subst this
    refine ⟨σ, sv, ?_, h, h1, rfl, fun j hj => by rw [h2, if_pos hj], h7, EO.rf⟩
    rw [f_Fl_pass_18, h3, if_pos ((nIle (by omega) (by omega)).mpr (Nat.le_refl _))]
  | d + 1, i, fuel, σ, sv, hi, hf, h, h1, h2, h3, h4, h5, h6, h7 => by
    obtain ⟨f, rfl⟩ : ∃ f, fuel = f + 1 := ⟨fuel - 1, by omega⟩
    have hiN : i < N := by omega
    have hn := h.2.2.1 i hiN
    have hni : sv.2.2 i = nodes i := by rw [h2, if_neg (by omega)]
    rw [f_Fl_pass_18, h3, if_neg (fun q => absurd ((nIle (by omega) (by omega)).mp q) (by omega)), if_pos (inb_n (by omega) (by decide)), nIc (by omega), hn.1 0 (by decide)]
    have key : ∀ (σ2 : MT) (sv2 : SV), hA σ2 k N sv2 → sv2.1 = t → sv2.2.1 = sv.2.1 → sv2.2.2 i = nodes1 pat shy nodes i → (∀ j, j ≠ i → sv2.2.2 j = sv.2.2 j) → EO (PN (k + 1 + 1 + 4 * i)) σ σ2 →
        ∃ (τ : MT) (sv' : SV), f_Fl_pass_56 (f_Fl_pass_18 K f) k (nI i) (k + 1 + 1 + 4 * i) σ2 = K k 0 τ ∧ hA τ k N sv' ∧ sv'.1 = t ∧ sv'.2.1 = sv.2.1 ∧ (∀ j, j < N → sv'.2.2 j = nodes1 pat shy nodes j) ∧ hMs τ N ms ∧ EO (PP k) σ τ := by
      intro σ2 sv2 g1 g2 g3 g4 g5 g6
      have np : ∀ c, c < 61 → ¬ PN (k + 1 + 1 + 4 * i) c := fun c hc => by unfold PN; omega
      have e15 : σ2.1 15 = σ.1 15 := g6.1 15 (np _ (by omega))
      have e17 : σ2.1 17 = σ.1 17 := g6.1 17 (np _ (by omega))
      obtain ⟨τ, p1, p2, p3⟩ := pass56A (K := f_Fl_pass_18 K f) g1 hk hN5 hiN (by rw [g2]; exact ht) (by rw [g4]; unfold nodes1; rw [node1_1]; exact hdr i hiN) (by rw [e17, h6 i hiN]; exact hst i hiN) (h7.eo g6 (np _ (by omega)) (np _ (by omega)) (np _ (by omega)) (np _ (by omega))) (by rw [hms, g2, g4, e17, h6 i hiN]; rfl)
      rw [p1]
      have npm : ∀ c, ¬ (26 ≤ c ∧ c < 30) → ¬ PM c := fun c hc => hc
      have hA2 : hA τ k N sv2 := g1.eo hN5 p3 (fun c hc _ => npm c (by omega))
      obtain ⟨τ3, sv3, r1, r2, r3, r4, r5, r6, r7⟩ := pass18A (K := K) (unit := unit) hk hN5 ht hdr hst hms d (i + 1) f τ sv2 (by omega) (by omega) hA2 g2 (fun j => by
        by_cases hji : j = i
        · subst hji; rw [g4, if_pos (by omega)]
        · rw [g5 j hji, h2]
          by_cases hlt : j < i
          · rw [if_pos hlt, if_pos (by omega)]
          · rw [if_neg hlt, if_neg (by omega)]) (by rw [p3.1 15 (npm _ (by omega)), e15]; exact h3) (by rw [p3.1 15 (npm _ (by omega)), e15]; exact h4) (by rw [p3.1 15 (npm _ (by omega)), e15]; exact h5) (fun j hj => by rw [p3.1 17 (npm _ (by omega)), e17]; exact h6 j hj) p2
      refine ⟨τ3, sv3, r1, r2, r3, r4.trans g3, r5, r6, ?_⟩
      refine ((g6.mo (fun c hc => ?_)).tr (p3.mo (fun c hc => Or.inr hc))).tr r7
      unfold PN at hc
      exact Or.inl (by omega)
    by_cases hon : (sv.2.2 i).1 0 = 0
    · rw [if_pos hon]
      exact key σ sv h h1 rfl (by rw [hni] at hon ⊢; unfold nodes1 node1; rw [if_pos hon]) (fun _ _ => rfl) EO.rf
    · rw [if_neg hon]
      obtain ⟨τ, q1, q2, q3⟩ := v_growA hn
      rw [q1, Option.bind_some]
      obtain ⟨τ2, q4, q5, q6⟩ := v_leadA (m := 15) q2 (nI i) (by omega)
      rw [q4, Option.bind_some]
      have np : ¬ PN (k + 1 + 1 + 4 * i) 15 := by unfold PN; omega
      rw [q3.1 15 np, h4, h5] at q5
      have hU := h.upd hiN q5 (q3.tr q6)
      refine key τ2 _ hU h1 rfl ?_ (fun j hj => ?_) (q3.tr q6)
      · show (if i = i then _ else _ : ND) = _
        rw [if_pos rfl]
        unfold nodes1 node1
        rw [hni] at hon ⊢
        rw [if_neg hon]
      · show (if j = i then _ else _ : ND) = _
        rw [if_neg hj]
theorem pass121A {k N : Nat} {st : Nat → Int32} {t : Int32} {ms : MS} {adj : Nat → Nat → Bool} {nodes : Nat → ND} (hk : 61 ≤ k) (hN5 : N ≤ 5) (ht : IR 0 100000000 t) (hdr : ∀ i, i < N → IR (-4) 6 ((nodes i).1 1)) (hst : ∀ i, i < N → IR 0 64 (st i)) :
    ∀ (d i fuel : Nat) (σ : MT) (sv : SV), i + d = N → d < fuel → hA σ k N sv → sv.1 = t → (∀ j, j < N → sv.2.2 j = if j < i then node2 t st N ms adj j (nodes j) else nodes j) → σ.1 15 3 = nI N → (∀ j, j < N → σ.1 17 j = st j) → hMs σ N ms → (∀ a b, a < N → b < N → adj a b = adjA σ k a b) →
    ∃ (τ : MT) (sv' : SV), f_Fl_pass_121 fuel k (nI i) σ = some τ ∧ hA τ k N sv' ∧ sv'.1 = t ∧ sv'.2.1 = sv.2.1 ∧ (∀ j, j < N → sv'.2.2 j = node2 t st N ms adj j (nodes j)) ∧ EO (PP k) σ τ
  | 0, i, fuel, σ, sv, hi, hf, h, h1, h2, h3, _, _, _ => by
    obtain ⟨f, rfl⟩ : ∃ f, fuel = f + 1 := ⟨fuel - 1, by omega⟩
    have : i = N := by omega
    subst this
    refine ⟨σ, sv, ?_, h, h1, rfl, fun j hj => by rw [h2 j hj, if_pos hj], EO.rf⟩
    rw [f_Fl_pass_121, h3, if_pos ((nIle (by omega) (by omega)).mpr (Nat.le_refl _))]
  | d + 1, i, fuel, σ, sv, hi, hf, h, h1, h2, h3, h4, h5, h6 => by
    obtain ⟨f, rfl⟩ : ∃ f, fuel = f + 1 := ⟨fuel - 1, by omega⟩
    have hiN : i < N := by omega
    have hn := h.2.2.1 i hiN
    have hni : sv.2.2 i = nodes i := by rw [h2 i hiN, if_neg (by omega)]
    rw [f_Fl_pass_121, h3, if_neg (fun q => absurd ((nIle (by omega) (by omega)).mp q) (by omega)), if_pos (inb_n (by omega) (by decide)), nIc (by omega), hn.1 0 (by decide)]
    by_cases hon : (sv.2.2 i).1 0 = 0
    · rw [if_pos hon]
      unfold f_Fl_pass_150
      rw [nIs]
      refine pass121A hk hN5 ht hdr hst d (i + 1) f σ sv (by omega) (by omega) h h1 (fun j hj => ?_) h3 h4 h5 h6
      by_cases hji : j = i
      · subst hji
        rw [if_pos (by omega), hni]
        rw [hni] at hon
        unfold node2
        rw [if_pos hon]
      · rw [h2 j hj]
        by_cases hlt : j < i
        · rw [if_pos hlt, if_pos (by omega)]
        · rw [if_neg hlt, if_neg (by omega)]
    · rw [if_neg hon]
      unfold f_Fl_receive
      obtain ⟨τ, q1, q2, q3⟩ := recvA_loop (t := t) (s := st i) hk hN5 hiN ht (hst i hiN) N 0 1100 σ sv (by omega) (by omega) h h1 (by rw [hni]; exact hdr i hiN) h3 (h4 i hiN) h5 (fun a ha => h6 a i ha hiN)
      rw [show nI 0 = (0 : Int32) from rfl] at q1
      rw [q1, Option.bind_some]
      unfold f_Fl_pass_150
      rw [nIs]
      have np : ∀ c, c < 61 → ¬ PN (k + 1 + 1 + 4 * i) c := fun c hc => by unfold PN; omega
      have hU := h.upd hiN q2 q3
      obtain ⟨τ2, sv2, p1, p2, p3, p4, p5, p6⟩ := pass121A (adj := adj) hk hN5 ht hdr hst d (i + 1) f τ _ (by omega) (by omega) hU h1 (fun j hj => by
        show (if j = i then _ else _ : ND) = _
        by_cases hji : j = i
        · subst hji
          rw [if_pos rfl, if_pos (by omega), hni]
          rw [hni] at hon
          unfold node2
          rw [if_neg hon]
        · rw [if_neg hji, h2 j hj]
          by_cases hlt : j < i
          · rw [if_pos hlt, if_pos (by omega)]
          · rw [if_neg hlt, if_neg (by omega)]) (by rw [q3.1 15 (np _ (by omega))]; exact h3) (fun j hj => by rw [q3.1 17 (np _ (by omega))]; exact h4 j hj) (h5.eo q3 (np _ (by omega)) (np _ (by omega)) (np _ (by omega)) (np _ (by omega))) (fun a b ha hb => by
          rw [h6 a b ha hb]
          unfold adjA
          rw [q3.1 (20 + 1 + a) (np _ (by omega)), q3.1 k (by unfold PN; omega)])
      exact ⟨τ2, sv2, p1, p2, p3, p4, p5, (q3.mo (fun c hc => by unfold PN at hc; exact Or.inl (by omega))).tr p6⟩
theorem v_passA {σ : MT} {k N : Nat} {sv : SV} {unit pat shy : Int32} {st : Nat → Int32} {adj : Nat → Nat → Bool} (h : hA σ k N sv) (hk : 61 ≤ k) (hN5 : N ≤ 5) (ht : IR 0 100000000 (sv.1 + unit)) (hdr : ∀ i, i < N → IR (-4) 6 ((sv.2.2 i).1 1)) (hst : ∀ i, i < N → IR 0 64 (st i)) (h0 : σ.1 15 0 = unit) (h1 : σ.1 15 1 = pat) (h2 : σ.1 15 2 = shy) (h3 : σ.1 15 3 = nI N) (h4 : ∀ j, j < N → σ.1 17 j = st j) (h5 : ∀ a b, a < N → b < N → adj a b = adjA σ k a b) :
    ∃ (τ : MT) (sv' : SV), f_Fl_pass k σ = some τ ∧ hA τ k N sv' ∧ sv'.1 = (passM unit pat shy N st adj sv).1 ∧ sv'.2.1 = sv.2.1 ∧ (∀ j, j < N → sv'.2.2 j = (passM unit pat shy N st adj sv).2.2 j) ∧ EO (PP k) σ τ := by
  unfold f_Fl_pass
  rw [h0, h.1]
  generalize hσ1 : sI σ k 0 (sv.1 + unit) = σ1
  have eo : EO (fun c => c = k) σ σ1 := by rw [← hσ1]; exact EO.rf.i rfl
  have np : ∀ c, c ≠ k → ¬ (fun c => c = k) c := fun c hc => hc
  have hA1 : hA σ1 k N (sv.1 + unit, sv.2.1, sv.2.2) := by
    obtain ⟨g1, g2, g3, g4⟩ := h
    refine ⟨by rw [← hσ1]; simp [sI_r], by rw [← hσ1]; simp [sI_r, g2], fun i hi => (g3 i hi).eo eo (np _ (by omega)) (np _ (by omega)) (np _ (by omega)) (np _ (by omega)), fun i hi hi5 => ?_⟩
    rw [eo.1 _ (np _ (by omega))]
    exact g4 i hi hi5
  have e15 : σ1.1 15 = σ.1 15 := eo.1 15 (np _ (by omega))
  have e17 : σ1.1 17 = σ.1 17 := eo.1 17 (np _ (by omega))
  obtain ⟨τ, sv1, q1, q2, q3, q4, q5, q6, q7⟩ := pass18A (K := f_Fl_pass_121 1100) (unit := unit) (pat := pat) (shy := shy) (st := st) (t := sv.1 + unit) (ms := msgs (sv.1 + unit) st (nodes1 pat shy sv.2.2)) (nodes := sv.2.2) hk hN5 ht hdr hst rfl N 0 1100 σ1 _ (by omega) (by omega) hA1 rfl (fun j => by rw [if_neg (by omega)]) (by rw [e15]; exact h3) (by rw [e15]; exact h1) (by rw [e15]; exact h2) (fun j hj => by rw [e17]; exact h4 j hj) (fun j hj => absurd hj (by omega))
  rw [show nI 0 = (0 : Int32) from rfl] at q1
  rw [q1]
  have npp : ∀ c, c < 26 → ¬ PP k c := fun c hc => by unfold PP; omega
  have hdn : ∀ a, σ1.1 a 1 = σ.1 a 1 := fun a => by
    by_cases ha : a = k
    · subst ha; rw [← hσ1]; simp [sI_r]
    · rw [eo.1 a ha]
  obtain ⟨τ2, sv2, p1, p2, p3, p4, p5, p6⟩ := pass121A (st := st) (t := sv.1 + unit) (ms := msgs (sv.1 + unit) st (nodes1 pat shy sv.2.2)) (adj := adj) (nodes := nodes1 pat shy sv.2.2) hk hN5 ht (fun i hi => by unfold nodes1; rw [node1_1]; exact hdr i hi) hst N 0 1100 τ sv1 (by omega) (by omega) q2 q3 (fun j hj => by rw [if_neg (by omega)]; exact q5 j hj) (by rw [q7.1 15 (npp _ (by omega)), e15]; exact h3) (fun j hj => by rw [q7.1 17 (npp _ (by omega)), e17]; exact h4 j hj) q6 (fun a b ha hb => by
    rw [h5 a b ha hb]
    unfold adjA
    rw [q7.1 (20 + 1 + a) (npp _ (by omega)), eo.1 (20 + 1 + a) (np _ (by omega))]
    have e1 : τ.1 k 1 = σ.1 k 1 := by rw [q2.2.1, q4]; exact h.2.1.symm
    rw [e1])
  rw [show nI 0 = (0 : Int32) from rfl] at p1
  exact ⟨τ2, sv2, p1, p2, p3, p4.trans q4, p5, ((eo.mo (fun c hc => Or.inl (by omega))).tr q7).tr p6⟩
