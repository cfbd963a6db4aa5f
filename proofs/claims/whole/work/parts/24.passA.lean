/-! THE CLASS's PERIOD -/
def itr {α : Type} (f : Nat → α → α) : Nat → Nat → α → α
  | 0, _, a => a
  | d + 1, i, a => itr f d (i + 1) (f i a)
def sendsN (self : Int32) (nd : ND) : Bool := !decide (nd.1 0 = 0) && (decide (nd.1 2 = self) || !decide (nd.2.length < 2))
def anewN (self r : Int32) (nd : ND) : Bool := !(decide (nd.1 2 = self) && !decide (nd.1 5 ≤ 0)) && (decide (nd.1 2 = -9) || !decide (nd.1 2 ≤ r))
def prg (m o : Int32) : Int32 := Int32.ofInt ((m - o).toInt % 64)
def newsN (self r m : Int32) (nd : ND) : Bool := decide (r = nd.1 2) && (!decide (nd.1 2 = self) && (!decide (prg m (nd.1 3) < 1) && !decide (31 < prg m (nd.1 3))))
def storeN (m c g : Int32) (nd : ND) : ND := (fun j => if j = 3 then m else if j = 4 then 0 else nd.1 j, (if nd.2.length < 4 then nd.2 else nd.2.drop 1) ++ [(c, g, 0)])
def hearN (self r m g c : Int32) (nd : ND) : ND := if anewN self r nd = true then storeN m c g (fun j => if j = 2 then r else nd.1 j, []) else if newsN self r m nd = true then storeN m c g nd else nd
theorem v_sendsA {σ : MT} {n : Nat} {nd : ND} (h : hN σ n nd) (self : Int32) : f_Nd_sends n self σ = some (if sendsN self nd = true then 1 else 0) := by
  unfold f_Nd_sends sendsN
  rw [h.1 0 (by decide), h.1 2 (by decide), h.2.1]
  have hl := h.2.2.1
  by_cases h0 : nd.1 0 = 0
  · simp [h0]
  · by_cases h2 : nd.1 2 = self
    · simp [h0, h2]
    · by_cases h3 : nd.2.length < 2
      · rw [if_neg h0, if_neg h2, if_pos ((nlt_2 (by omega)).mpr h3)]
        simp [h0, h2, h3]
      · rw [if_neg h0, if_neg h2, if_neg (fun q => h3 ((nlt_2 (by omega)).mp q))]
        simp [h0, h2, h3]
theorem v_anewA {σ : MT} {n : Nat} {nd : ND} (h : hN σ n nd) (self r : Int32) : f_Nd_takesAsNewRoot n self r σ = some (if anewN self r nd = true then 1 else 0) := by
  unfold f_Nd_takesAsNewRoot f_Nd_takesAsNewRoot_19 f_Nd_takesAsNewRoot_20 anewN
  rw [h.1 2 (by decide), h.1 5 (by decide)]
  by_cases h2 : nd.1 2 = self
  · by_cases h5 : nd.1 5 ≤ 0
    · by_cases h9 : nd.1 2 = -9
      · rw [if_pos h2, if_pos h5, if_pos rfl, if_pos h9]; simp [h5, h9]
      · by_cases hr : nd.1 2 ≤ r
        · rw [if_pos h2, if_pos h5, if_pos rfl, if_neg h9, if_pos hr]; simp [h9, hr]
        · rw [if_pos h2, if_pos h5, if_pos rfl, if_neg h9, if_neg hr]; simp [h5, h9, hr]
    · rw [if_pos h2, if_neg h5, if_neg (by decide)]; simp [h2, h5]
  · by_cases h9 : nd.1 2 = -9
    · rw [if_neg h2, if_pos rfl, if_pos h9]
      have hs : ¬ (-9 : Int32) = self := fun q => h2 (h9.trans q)
      simp [h9, hs]
    · by_cases hr : nd.1 2 ≤ r
      · rw [if_neg h2, if_pos rfl, if_neg h9, if_pos hr]; simp [h9, hr]
      · rw [if_neg h2, if_pos rfl, if_neg h9, if_neg hr]; simp [h2, hr]
theorem v_newsA {σ : MT} {n : Nat} {nd : ND} (h : hN σ n nd) (self r m : Int32) : f_Nd_takesAsNews n self r m σ = some (if newsN self r m nd = true then 1 else 0) := by
  unfold f_Nd_takesAsNews newsN
  rw [h.1 2 (by decide), h.1 3 (by decide), v_floorModI (y := 64) (by decide), Option.bind_some, show (64 : Int32).toInt = 64 from rfl]
  have e : Int32.ofInt ((m - nd.1 3).toInt % 64) = prg m (nd.1 3) := rfl
  rw [e]
  by_cases h1 : r = nd.1 2
  · by_cases h2 : nd.1 2 = self
    · rw [if_pos h1, if_pos h2]; simp [h2]
    · by_cases h3 : prg m (nd.1 3) < 1
      · rw [if_pos h1, if_neg h2, if_pos h3]; simp [h3]
      · by_cases h4 : 31 < prg m (nd.1 3)
        · rw [if_pos h1, if_neg h2, if_neg h3, if_pos h4]; simp [h4]
        · rw [if_pos h1, if_neg h2, if_neg h3, if_neg h4]; simp [h1, h2, h3, h4]
  · rw [if_neg h1]; simp [h1]
-- store
theorem storeA_end {σ : MT} {n : Nat} {nd : ND} {c g : Int32} (h1 : ∀ j, j < 6 → σ.1 n j = nd.1 j) {l : List SP} (h6 : σ.1 n 6 = nI l.length) (hl : l.length < 4) (ht : hT σ n 0 l) : ∃ τ, f_Nd_store_86 n c g σ = some τ ∧ hN τ n (nd.1, l ++ [(c, g, 0)]) ∧ EO (PN n) σ τ := by
  unfold f_Nd_store_86 f_Nd_store_106 f_Nd_store_126
  have e1 : (sI σ (n + 1) l.length c).1 n 6 = nI l.length := by rw [sI_n (by omega)]; exact h6
  have e2 : (sI (sI σ (n + 1) l.length c) (n + 2) l.length g).1 n 6 = nI l.length := by rw [sI_n (by omega), sI_n (by omega)]; exact h6
  have e3 : (sI (sI (sI σ (n + 1) l.length c) (n + 2) l.length g) (n + 3) l.length 0).1 n 6 = nI l.length := by rw [sI_n (by omega), sI_n (by omega), sI_n (by omega)]; exact h6
  rw [h6, if_pos (inb_n hl (by decide)), nIc (by omega), e1, if_pos (inb_n hl (by decide)), nIc (by omega), e2, if_pos (inb_n hl (by decide)), nIc (by omega), e3, nIs]
  have ew : sI (sI (sI σ (n + 1) l.length c) (n + 2) l.length g) (n + 3) l.length 0 = w3 σ n l.length (c, g, 0) := rfl
  rw [ew]
  have ha := ht.add (c, g, 0)
  refine ⟨_, rfl, hT.N (ha.eq (sI_n (by omega)) (sI_n (by omega)) (sI_n (by omega))) ?_ ?_ (by simp; omega), (w3_eo _ _ _ _).i ⟨by omega, by omega⟩⟩
  · intro j hj
    rw [sI_r, if_neg (by omega), w3_0]
    exact h1 j hj
  · rw [sI_r, if_pos ⟨rfl, rfl⟩]
    simp
theorem storeA_shift {K : Nat → Int32 → Int32 → MT → Option MT} {n : Nat} {c g : Int32} : ∀ (d i fuel : Nat) (σ : MT) (l : List SP), i + d = 4 → 1 ≤ i → d < fuel → l.length = 3 → (∀ (j : Nat) (s : SP), l[j]? = some s → (j + 1 < i → σ.1 (n + 1) j = s.1 ∧ σ.1 (n + 2) j = s.2.1 ∧ σ.1 (n + 3) j = s.2.2) ∧ (i ≤ j + 1 → σ.1 (n + 1) (j + 1) = s.1 ∧ σ.1 (n + 2) (j + 1) = s.2.1 ∧ σ.1 (n + 3) (j + 1) = s.2.2)) →
    ∃ τ, f_Nd_store_21 K fuel n c g (nI i) σ = K n c g (sI τ n 6 3) ∧ hT τ n 0 l ∧ τ.1 n = σ.1 n ∧ EO (PN n) σ τ
  | 0, i, fuel, σ, l, hi, h1, hf, hl, h => by
    obtain ⟨f, rfl⟩ : ∃ f, fuel = f + 1 := ⟨fuel - 1, by omega⟩
    have : i = 4 := by omega
    subst this
    refine ⟨σ, ?_, fun j s hs => ?_, rfl, EO.rf⟩
    · rw [f_Nd_store_21, if_pos ((nge_4 (by omega)).mpr (by omega))]
    · have hj := (List.getElem?_eq_some_iff.mp hs).1
      rw [Nat.zero_add]
      exact (h j s hs).1 (by omega)
  | d + 1, i, fuel, σ, l, hi, h1, hf, hl, h => by
    obtain ⟨f, rfl⟩ : ∃ f, fuel = f + 1 := ⟨fuel - 1, by omega⟩
    have e1 : nI i - 1 = nI (i - 1) := by
      obtain ⟨m, rfl⟩ : ∃ m, i = m + 1 := ⟨i - 1, by omega⟩
      rw [nI_pred]; rfl
    obtain ⟨s, hs⟩ : ∃ s, l[i - 1]? = some s := ⟨l[i - 1]'(by omega), List.getElem?_eq_getElem (by omega)⟩
    obtain ⟨r1, r2, r3⟩ := (h _ _ hs).2 (by omega)
    rw [show i - 1 + 1 = i by omega] at r1 r2 r3
    rw [f_Nd_store_21, if_neg (fun q => absurd ((nge_4 (by omega)).mp q) (by omega)), if_pos (inb_n (by omega) (by decide)), e1, if_pos (inb_n (by omega) (by decide))]
    unfold f_Nd_store_43
    rw [e1, if_pos (inb_n (by omega) (by decide)), if_pos (inb_n (by omega) (by decide))]
    unfold f_Nd_store_59
    rw [e1, if_pos (inb_n (by omega) (by decide)), if_pos (inb_n (by omega) (by decide))]
    unfold f_Nd_store_75
    rw [nIs, nIc (show i < 2147483648 by omega), nIc (show i - 1 < 2147483648 by omega)]
    have em : sI (sI (sI σ (n + 1) (i - 1) (σ.1 (n + 1) i)) (n + 2) (i - 1) ((sI σ (n + 1) (i - 1) (σ.1 (n + 1) i)).1 (n + 2) i)) (n + 3) (i - 1) ((sI (sI σ (n + 1) (i - 1) (σ.1 (n + 1) i)) (n + 2) (i - 1) ((sI σ (n + 1) (i - 1) (σ.1 (n + 1) i)).1 (n + 2) i)).1 (n + 3) i) = w3 σ n (i - 1) s := by
      unfold w3
      rw [sI_n (a := n + 3) (by omega), sI_n (a := n + 3) (by omega), sI_n (a := n + 2) (by omega), r1, r2, r3]
    rw [em]
    obtain ⟨τ, q1, q2, q3, q4⟩ := storeA_shift (K := K) (n := n) (c := c) (g := g) d (i + 1) f (w3 σ n (i - 1) s) l (by omega) (by omega) (by omega) hl (fun j t ht => by
      obtain ⟨a1, a2⟩ := h j t ht
      refine ⟨fun hj => ?_, fun hj => ?_⟩
      · rw [w3_1, w3_2, w3_3]
        by_cases hji : j = i - 1
        · subst hji
          rw [hs] at ht
          cases ht
          rw [if_pos rfl, if_pos rfl, if_pos rfl]
          exact ⟨rfl, rfl, rfl⟩
        · rw [if_neg hji, if_neg hji, if_neg hji]
          exact a1 (by omega)
      · rw [w3_1, w3_2, w3_3, if_neg (by omega), if_neg (by omega), if_neg (by omega)]
        exact a2 (by omega))
    exact ⟨τ, q1, q2, q3.trans (w3_0 _ _ _ _), (w3_eo _ _ _ _).tr q4⟩
theorem v_storeA {σ : MT} {n : Nat} {nd : ND} (h : hN σ n nd) (m c g : Int32) : ∃ τ, f_Nd_store n m c g σ = some τ ∧ hN τ n (storeN m c g nd) ∧ EO (PN n) σ τ := by
  obtain ⟨h1, h2, h3, h4⟩ := id h
  unfold f_Nd_store
  have e6 : (sI (sI σ n 3 m) n 4 0).1 n 6 = nI nd.2.length := by simp [sI_r, h2]
  have eo : EO (PN n) σ (sI (sI σ n 3 m) n 4 0) := (EO.rf.i ⟨by omega, by omega⟩).i ⟨by omega, by omega⟩
  have ef : ∀ j, j < 6 → (sI (sI σ n 3 m) n 4 0).1 n j = (storeN m c g nd).1 j := by
    refine lt6 ?_ ?_ ?_ ?_ ?_ ?_ <;> simp [sI_r, storeN, h1]
  have et : hT (sI (sI σ n 3 m) n 4 0) n 0 nd.2 := h.T.eq (by rw [sI_n (by omega), sI_n (by omega)]) (by rw [sI_n (by omega), sI_n (by omega)]) (by rw [sI_n (by omega), sI_n (by omega)])
  rw [e6]
  by_cases hl : nd.2.length < 4
  · rw [if_pos ((nlt_4 (by omega)).mpr hl)]
    obtain ⟨τ, q1, q2, q3⟩ := storeA_end (c := c) (g := g) ef e6 hl et
    refine ⟨τ, q1, ?_, eo.tr q3⟩
    have : storeN m c g nd = ((storeN m c g nd).1, nd.2 ++ [(c, g, 0)]) := by unfold storeN; rw [if_pos hl]
    rw [this]
    exact q2
  · rw [if_neg (fun q => hl ((nlt_4 (by omega)).mp q))]
    have hld : (nd.2.drop 1).length = 3 := by simp; omega
    obtain ⟨τ, q1, q2, q3, q4⟩ := storeA_shift (K := f_Nd_store_86) (n := n) (c := c) (g := g) 3 1 1100 (sI (sI σ n 3 m) n 4 0) (nd.2.drop 1) (by omega) (by omega) (by omega) hld (fun j s hs => ⟨fun hj => absurd hj (by omega), fun _ => by
      have := et (j + 1) s (by rw [List.getElem?_drop] at hs; rw [Nat.add_comm]; exact hs)
      rwa [Nat.zero_add] at this⟩)
    rw [show nI 1 = (1 : Int32) from rfl] at q1
    rw [q1]
    obtain ⟨τ2, p1, p2, p3⟩ := storeA_end (σ := sI τ n 6 3) (n := n) (nd := storeN m c g nd) (c := c) (g := g) (fun j hj => by rw [sI_r, if_neg (by omega), q3]; exact ef j hj) (l := nd.2.drop 1) (by rw [sI_r, if_pos ⟨rfl, rfl⟩, hld]; rfl) (by omega) (q2.eq (sI_n (by omega)) (sI_n (by omega)) (sI_n (by omega)))
    refine ⟨τ2, p1, ?_, ((eo.tr q4).i ⟨by omega, by omega⟩).tr p3⟩
    have : storeN m c g nd = ((storeN m c g nd).1, nd.2.drop 1 ++ [(c, g, 0)]) := by unfold storeN; rw [if_neg hl]
    rw [this]
    exact p2
-- a state of the class at cell k: time, links that are down, the nodes below N; the others are off
def hA (σ : MT) (k N : Nat) (sv : SV) : Prop := σ.1 k 0 = sv.1 ∧ σ.1 k 1 = sv.2.1 ∧ (∀ i, i < N → hN σ (k + 1 + 1 + 4 * i) (sv.2.2 i)) ∧ ∀ i, N ≤ i → i < 5 → σ.1 (k + 1 + 1 + 4 * i) 0 = 0
def updV2 (sv : SV) (i : Nat) (nd : ND) : SV := (sv.1, sv.2.1, fun j => if j = i then nd else sv.2.2 j)
theorem hA.upd {σ τ : MT} {k N i : Nat} {sv : SV} {nd : ND} (h : hA σ k N sv) (hi : i < N) (hn : hN τ (k + 1 + 1 + 4 * i) nd) (e : EO (PN (k + 1 + 1 + 4 * i)) σ τ) : hA τ k N (updV2 sv i nd) := by
  obtain ⟨h1, h2, h3, h4⟩ := h
  have ek : τ.1 k = σ.1 k := e.1 k (by unfold PN; omega)
  refine ⟨by rw [ek]; exact h1, by rw [ek]; exact h2, fun j hj => ?_, fun j hj hj5 => ?_⟩
  · show hN τ _ (if j = i then nd else sv.2.2 j)
    by_cases hji : j = i
    · subst hji; rw [if_pos rfl]; exact hn
    · rw [if_neg hji]
      exact (h3 j hj).eo e (by unfold PN; omega) (by unfold PN; omega) (by unfold PN; omega) (by unfold PN; omega)
  · rw [e.1 _ (by unfold PN; omega)]
    exact h4 j hj hj5
theorem hA.eo {P : Nat → Prop} {σ τ : MT} {k N : Nat} {sv : SV} (h : hA σ k N sv) (hN5 : N ≤ 5) (e : EO P σ τ) (hp : ∀ c, k ≤ c → c < k + 22 → ¬ P c) : hA τ k N sv := by
  obtain ⟨h1, h2, h3, h4⟩ := h
  have ek : τ.1 k = σ.1 k := e.1 k (hp k (by omega) (by omega))
  refine ⟨by rw [ek]; exact h1, by rw [ek]; exact h2, fun j hj => ?_, fun j hj hj5 => ?_⟩
  · exact (h3 j hj).eo e (hp _ (by omega) (by omega)) (hp _ (by omega) (by omega)) (hp _ (by omega) (by omega)) (hp _ (by omega) (by omega))
  · rw [e.1 _ (hp _ (by omega) (by omega))]
    exact h4 j hj hj5
-- a node that is well formed, in a network of N nodes
def wfN (N : Nat) (nd : ND) : Prop := (nd.1 0 = 0 ∨ nd.1 0 = 1) ∧ IR (-4) 6 (nd.1 1) ∧ (nd.1 2 = -9 ∨ ∃ r, r < N ∧ nd.1 2 = nI r) ∧ IR 0 64 (nd.1 3) ∧ IR 0 10 (nd.1 5) ∧ ∀ s, s ∈ nd.2 → IR 0 10 s.2.2
theorem v_hearA {σ : MT} {k N to fr : Nat} {sv : SV} {r m g : Int32} (h : hA σ k N sv) (hk : 61 ≤ k) (hN5 : N ≤ 5) (hto : to < N) (hfr : fr < N) (ht : IR 0 100000000 sv.1) (hw : IR (-4) 6 ((sv.2.2 to).1 1)) (hs : IR 0 64 (σ.1 17 to)) (m1 : σ.1 27 fr = r) (m2 : σ.1 28 fr = m) (m3 : σ.1 29 fr = g) :
    ∃ τ, f_Fl_hear k (nI to) (nI fr) σ = some τ ∧ hN τ (k + 1 + 1 + 4 * to) (hearN (nI to) r m g (clk sv.1 ((sv.2.2 to).1 1) (σ.1 17 to)) (sv.2.2 to)) ∧ EO (PN (k + 1 + 1 + 4 * to)) σ τ := by
  obtain ⟨h1, h2, h3, h4⟩ := h
  have hn := h3 to hto
  unfold f_Fl_hear
  rw [if_pos (inb_n (by omega) (by decide)), if_pos (inb_n (by omega) (by decide)), nIc (by omega), nIc (by omega), v_anewA hn, Option.bind_some, m1]
  unfold hearN
  by_cases ha : anewN (nI to) r (sv.2.2 to) = true
  · rw [if_pos ha, if_neg (by decide), if_pos (inb_n (by omega) (by decide)), if_pos ha]
    unfold f_Fl_hear_40
    rw [if_pos (inb_n (by omega) (by decide))]
    generalize hσ2 : sI (sI σ (k + 1 + 1 + 4 * to) 2 r) (k + 1 + 1 + 4 * to) 6 0 = σ2
    have hn2 : hN σ2 (k + 1 + 1 + 4 * to) (fun j => if j = 2 then r else (sv.2.2 to).1 j, []) := by
      rw [← hσ2]
      refine hT.N (nd := (_, [])) (fun j s hj => by simp at hj) ?_ ?_ (by simp)
      · refine lt6 ?_ ?_ ?_ ?_ ?_ ?_ <;> simp [sI_r, hn.1]
      · simp [sI_r]; rfl
    have eo : EO (PN (k + 1 + 1 + 4 * to)) σ σ2 := by
      rw [← hσ2]
      exact (EO.rf.i ⟨by omega, by omega⟩).i ⟨by omega, by omega⟩
    have e0 : σ2.1 k = σ.1 k := eo.1 k (by unfold PN; omega)
    have e17 : σ2.1 17 = σ.1 17 := eo.1 17 (by unfold PN; omega)
    have e28 : σ2.1 28 = σ.1 28 := eo.1 28 (by unfold PN; omega)
    have e29 : σ2.1 29 = σ.1 29 := eo.1 29 (by unfold PN; omega)
    have e1 : σ2.1 (k + 1 + 1 + 4 * to) 1 = (sv.2.2 to).1 1 := by rw [hn2.1 1 (by decide)]; simp
    rw [v_clockA (i := to) (by omega) (by rw [e0, h1]; exact ht) (by rw [e1]; exact hw) (by rw [e17]; exact hs), Option.bind_some, if_pos (inb_n (by omega) (by decide)), nIc (by omega), e0, h1, e1, e17, e28, e29, m2, m3]
    obtain ⟨τ, q1, q2, q3⟩ := v_storeA hn2 m (clk sv.1 ((sv.2.2 to).1 1) (σ.1 17 to)) g
    rw [q1, Option.bind_some]
    exact ⟨τ, rfl, q2, eo.tr q3⟩
  · rw [if_neg ha, if_pos rfl, if_pos (inb_n (by omega) (by decide)), if_pos (inb_n (by omega) (by decide)), v_newsA hn, Option.bind_some, m2, if_neg ha]
    by_cases hw2 : newsN (nI to) r m (sv.2.2 to) = true
    · rw [if_pos hw2, if_neg (by decide), if_pos (inb_n (by omega) (by decide)), if_pos hw2]
      have e1 : σ.1 (k + 1 + 1 + 4 * to) 1 = (sv.2.2 to).1 1 := hn.1 1 (by decide)
      rw [v_clockA (i := to) (by omega) (by rw [h1]; exact ht) (by rw [e1]; exact hw) hs, Option.bind_some, if_pos (inb_n (by omega) (by decide)), h1, e1, m3]
      obtain ⟨τ, q1, q2, q3⟩ := v_storeA hn m (clk sv.1 ((sv.2.2 to).1 1) (σ.1 17 to)) g
      rw [q1, Option.bind_some]
      exact ⟨τ, rfl, q2, q3⟩
    · rw [if_neg hw2, if_pos rfl, if_neg hw2]
      exact ⟨σ, rfl, hn, EO.rf⟩
