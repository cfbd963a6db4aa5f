/-! THE REFERENCE's dropOld, goOne, stampOn, hear -/
def hTB (σ : MT) (c o i : Nat) (l : List SP) : Prop := ∀ (j : Nat) (s : SP), l[j]? = some s → σ.1 c (o + 7 + 3 * (i + j)) = s.1 ∧ σ.1 c (o + 7 + 3 * (i + j) + 1) = s.2.1 ∧ σ.1 c (o + 7 + 3 * (i + j) + 2) = s.2.2
def v3 (σ : MT) (c o i : Nat) (s : SP) : MT := sI (sI (sI σ c (o + 7 + 3 * i) s.1) c (o + 7 + 3 * i + 1) s.2.1) c (o + 7 + 3 * i + 2) s.2.2
theorem v3_at (σ : MT) (c o i : Nat) (s : SP) (j : Nat) : (v3 σ c o i s).1 c (o + 7 + 3 * j) = (if j = i then s.1 else σ.1 c (o + 7 + 3 * j)) ∧ (v3 σ c o i s).1 c (o + 7 + 3 * j + 1) = (if j = i then s.2.1 else σ.1 c (o + 7 + 3 * j + 1)) ∧ (v3 σ c o i s).1 c (o + 7 + 3 * j + 2) = (if j = i then s.2.2 else σ.1 c (o + 7 + 3 * j + 2)) := by
  unfold v3
  by_cases h : j = i
  · subst h
    refine ⟨?_, ?_, ?_⟩ <;> simp [sI_r]
  · refine ⟨?_, ?_, ?_⟩
    · rw [if_neg h, sI_r, if_neg (by omega), sI_r, if_neg (by omega), sI_r, if_neg (by omega)]
    · rw [if_neg h, sI_r, if_neg (by omega), sI_r, if_neg (by omega), sI_r, if_neg (by omega)]
    · rw [if_neg h, sI_r, if_neg (by omega), sI_r, if_neg (by omega), sI_r, if_neg (by omega)]
theorem v3_lo (σ : MT) (c o i : Nat) (s : SP) (b : Nat) (hb : b < o + 7) : (v3 σ c o i s).1 c b = σ.1 c b := by
  unfold v3
  rw [sI_r, if_neg (by omega), sI_r, if_neg (by omega), sI_r, if_neg (by omega)]
theorem v3_eb (σ : MT) (c o i : Nat) (s : SP) (hi : i < 4) : EB c (PB o) S0 σ (v3 σ c o i s) := ((EB.rf.i ⟨by omega, by omega⟩).i ⟨by omega, by omega⟩).i ⟨by omega, by omega⟩
theorem hTB.w {σ : MT} {c o i k : Nat} {l : List SP} (h : hTB σ c o i l) (s : SP) (hk : k < i ∨ i + l.length ≤ k) : hTB (v3 σ c o k s) c o i l := by
  intro j t ht
  have hj := (List.getElem?_eq_some_iff.mp ht).1
  obtain ⟨a1, a2, a3⟩ := v3_at σ c o k s (i + j)
  rw [a1, a2, a3, if_neg (by omega), if_neg (by omega), if_neg (by omega)]
  exact h j t ht
theorem hTB.add {σ : MT} {c o : Nat} {l : List SP} (h : hTB σ c o 0 l) (s : SP) : hTB (v3 σ c o l.length s) c o 0 (l ++ [s]) := by
  intro j t ht
  obtain ⟨a1, a2, a3⟩ := v3_at σ c o l.length s (0 + j)
  rw [a1, a2, a3]
  rcases Nat.lt_or_ge j l.length with q | q
  · rw [List.getElem?_append_left q] at ht
    rw [if_neg (by omega), if_neg (by omega), if_neg (by omega)]
    exact h j t ht
  · have hj := (List.getElem?_eq_some_iff.mp ht).1
    simp at hj
    have : j = l.length := by omega
    subst this
    rw [List.getElem?_append_right (Nat.le_refl _), Nat.sub_self] at ht
    cases ht
    rw [if_pos (by omega), if_pos (by omega), if_pos (by omega)]
    exact ⟨rfl, rfl, rfl⟩
theorem hB.T {σ : MT} {c o : Nat} {nd : ND} (h : hB σ c o nd) : hTB σ c o 0 nd.2 := fun j s hs => by rw [Nat.zero_add]; exact h.2.2.2 j s hs
theorem hTB.B {σ : MT} {c o : Nat} {nd : ND} (h : hTB σ c o 0 nd.2) (h1 : ∀ j, j < 6 → σ.1 c (o + j) = nd.1 j) (h2 : σ.1 c (o + 6) = nI nd.2.length) (h3 : nd.2.length ≤ 4) : hB σ c o nd := ⟨h1, h2, h3, fun j s hs => by have := h j s hs; rwa [Nat.zero_add] at this⟩
theorem hTB.eq {σ τ : MT} {c o i : Nat} {l : List SP} (h : hTB σ c o i l) (e : ∀ b, o + 7 ≤ b → τ.1 c b = σ.1 c b) : hTB τ c o i l := fun j s hs => by
  rw [e _ (by omega), e _ (by omega), e _ (by omega)]
  exact h j s hs
theorem age9 {x : Int32} (h : IR 0 10 x) : ((9 : Int32) < x + 1) ↔ (9 : Int32) ≤ x := by
  obtain ⟨j, hj, rfl⟩ := IR_n (n := 10) h (by omega)
  rw [nIs, ngt_9 (by omega), nge_9 (by omega)]
  omega
theorem dropB_loop {c o len : Nat} (ho : o ≤ 76) (hl : len ≤ 4) : ∀ (rest ts : List SP) (i fuel : Nat) (σ : MT), σ.1 c (o + 6) = nI len → hTB σ c o 0 ts → hTB σ c o i rest → (∀ s, s ∈ rest → IR 0 10 s.2.2) → ts.length ≤ i → i + rest.length = len → rest.length < fuel →
    ∃ τ, f_M_dropOld_11 fuel c (nI o) (nI ts.length) (nI i) σ = some (sI τ c (o + 6) (nI (ts ++ rest.filterMap gS).length)) ∧ hTB τ c o 0 (ts ++ rest.filterMap gS) ∧ (∀ b, b < o + 7 → τ.1 c b = σ.1 c b) ∧ EB c (PB o) S0 σ τ
  | [], ts, i, fuel, σ, h6, h1, _, _, hti, hi, hf => by
    obtain ⟨f, rfl⟩ : ∃ f, fuel = f + 1 := ⟨fuel - 1, by simp at hf; omega⟩
    have hi' : i = len := by simpa using hi
    subst hi'
    refine ⟨σ, ?_, by simpa using h1, fun _ _ => rfl, EB.rf⟩
    rw [f_M_dropOld_11]
    simp (disch := omega) only [ad19, ad3, ad95, nIp_0, nIp_1, nIp_2, nIp_3, nIp_4, nIp_5, nIp_6, nIp_7, nI_add, nIc, inb_n, eq_self, if_true]
    rw [h6, if_pos ((nIle (by omega) (by omega)).mpr (Nat.le_refl i))]
    simp
  | s :: rest, ts, i, fuel, σ, h6, h1, h2, hag, hti, hi, hf => by
    obtain ⟨f, rfl⟩ : ∃ f, fuel = f + 1 := ⟨fuel - 1, by simp at hf; omega⟩
    have hi' : i < len := by simp at hi; omega
    obtain ⟨r1, r2, r3⟩ := h2 0 s rfl
    simp only [Nat.add_zero] at r1 r2 r3
    have h2' : hTB σ c o (i + 1) rest := fun j t ht => by
      have := h2 (j + 1) t (by simpa using ht)
      rw [show i + 1 + j = i + (j + 1) by omega]; exact this
    have hag' : ∀ s, s ∈ rest → IR 0 10 s.2.2 := fun s hs => hag s (List.mem_cons_of_mem _ hs)
    have h9 := age9 (hag s List.mem_cons_self)
    rw [f_M_dropOld_11]
    simp (disch := omega) only [ad19, ad3, ad95, nIp_0, nIp_1, nIp_2, nIp_3, nIp_4, nIp_5, nIp_6, nIp_7, nI_add, nIc, inb_n, eq_self, if_true]
    rw [h6, if_neg (fun q => absurd ((nIle (by omega) (by omega)).mp q) (by omega)), r3]
    unfold f_M_dropOld_39
    by_cases hg : (9 : Int32) ≤ s.2.2
    · rw [if_pos (h9.mpr hg)]
      unfold f_M_dropOld_112
      rw [nIs]
      have e : (s :: rest).filterMap gS = rest.filterMap gS := by simp [List.filterMap_cons, gS, hg]
      rw [e]
      exact dropB_loop ho hl rest ts (i + 1) f σ h6 h1 h2' hag' (by omega) (by simp at hi; omega) (by simp at hf; omega)
    · rw [if_neg (fun q => hg (h9.mp q))]
      unfold f_M_dropOld_68 f_M_dropOld_94 f_M_dropOld_109 f_M_dropOld_112
      simp (disch := omega) only [ad19, ad3, ad95, nIp_0, nIp_1, nIp_2, nIp_3, nIp_4, nIp_5, nIp_6, nIp_7, nI_add, nIc, inb_n, eq_self, if_true]
      have em : sI (sI (sI σ c (o + 7 + 3 * ts.length) (σ.1 c (o + 7 + 3 * i))) c (o + 7 + 3 * ts.length + 1) ((sI σ c (o + 7 + 3 * ts.length) (σ.1 c (o + 7 + 3 * i))).1 c (o + 7 + 3 * i + 1))) c (o + 7 + 3 * ts.length + 2) (s.2.2 + 1) = v3 σ c o ts.length (s.1, s.2.1, s.2.2 + 1) := by
        unfold v3
        rw [sI_r σ c (o + 7 + 3 * ts.length) _ c (o + 7 + 3 * i + 1), if_neg (by omega), r1, r2]
      rw [em]
      have e : ts ++ (s :: rest).filterMap gS = (ts ++ [(s.1, s.2.1, s.2.2 + 1)]) ++ rest.filterMap gS := by simp [List.filterMap_cons, gS, hg]
      rw [e]
      obtain ⟨τ, q1, q2, q3, q4⟩ := dropB_loop ho hl rest (ts ++ [(s.1, s.2.1, s.2.2 + 1)]) (i + 1) f (v3 σ c o ts.length (s.1, s.2.1, s.2.2 + 1)) (by rw [v3_lo _ _ _ _ _ _ (by omega)]; exact h6) (h1.add _) (h2'.w _ (Or.inl (by omega))) hag' (by simp; omega) (by simp at hi; omega) (by simp at hf; omega)
      refine ⟨τ, ?_, q2, fun b hb => (q3 b hb).trans (v3_lo _ _ _ _ _ _ hb), (v3_eb _ _ _ _ _ (by omega)).tr q4⟩
      rw [← q1]
      simp
def S55 : Nat → Prop := fun a => a = 55
theorem v_goOne {σ : MT} {c i : Nat} {nd : ND} (h : hB σ c (19 * i) nd) (hc : c = 43 ∨ c = 44) (hi : i < 5) (hag : ∀ s, s ∈ nd.2 → IR 0 10 s.2.2) : ∃ τ, f_M_goOne c (nI i) σ = some τ ∧ hB τ c (19 * i) (leadN (nI i) (σ.1 38 3) (σ.1 38 4) (growN nd)) ∧ EB c (PB (19 * i)) S55 σ τ := by
  have hc38 : (38 : Nat) ≠ c := by omega
  have hc55 : (55 : Nat) ≠ c := by omega
  obtain ⟨f1, f2, f3, f4, f5, f6, f0⟩ := h.f
  -- behind wasRoot and dropOld, heart and guard
  have key : ∀ fl : Int32, (fl = 0 ∨ fl = 1) → ∃ τ, f_M_goOne_24 c (nI i) (nI (19 * i)) fl (nI i) σ = (if fl = 0 then if (τ.1 c (19 * i + 4)) ≤ σ.1 38 3 then some τ else f_M_goOne_112 c (nI (19 * i)) (sI τ c (19 * i + 2) (nI i)) else f_M_goOne_85 c (nI (19 * i)) (sI τ c (19 * i + 3) (nxt (τ.1 c (19 * i + 3))))) ∧ hB τ c (19 * i) (growN nd) ∧ EB c (PB (19 * i)) S55 σ τ := by
    intro fl hfl
    have hnf : vp_nar .boolean fl = fl := by rcases hfl with rfl | rfl <;> rfl
    unfold f_M_goOne_24
    simp (disch := omega) only [ad19, ad3, ad95, nIp_0, nIp_1, nIp_2, nIp_3, nIp_4, nIp_5, nIp_6, nIp_7, nI_add, nIc, inb_n, eq_self, if_true]
    rw [hnf]
    generalize hσ1 : sI σ 55 i fl = σ1
    have e1 : EB c (PB (19 * i)) S55 σ σ1 := by rw [← hσ1]; exact EB.rf.s rfl hc55
    have h1 : hB σ1 c (19 * i) nd := h.eq (by rw [← hσ1]; exact sI_n (Ne.symm hc55))
    unfold f_M_dropOld
    rw [ad19, show (0 : Int32) = nI 0 from rfl]
    obtain ⟨τ, q1, q2, q3, q4⟩ := dropB_loop (c := c) (o := 19 * i) (by omega) h.2.2.1 nd.2 [] 0 1100 σ1 h1.2.1 (fun j s hs => by simp at hs) h1.T hag (by simp) (by omega) (by have := h.2.2.1; omega)
    rw [List.nil_append] at q1 q2
    have hlen : (nd.2.filterMap gS).length ≤ 4 := Nat.le_trans (List.length_filterMap_le _ _) h.2.2.1
    rw [show nI ([] : List SP).length = nI 0 from rfl] at q1
    rw [q1, Option.bind_some]
    generalize hτ1 : sI τ c (19 * i + 6) (nI (nd.2.filterMap gS).length) = τ1
    have lo : ∀ b, b < 19 * i + 6 → τ1.1 c b = σ1.1 c b := fun b hb => by
      rw [← hτ1, sI_r, if_neg (by omega), q3 b (by omega)]
    obtain ⟨g1, g2, g3, g4, g5, g6, g0⟩ := h1.f
    have k4 : τ1.1 c (19 * i + 4) = nd.1 4 := by rw [lo _ (by omega)]; exact g4
    rw [k4]
    unfold f_M_goOne_40
    simp (disch := omega) only [ad19, ad3, ad95, nIp_0, nIp_1, nIp_2, nIp_3, nIp_4, nIp_5, nIp_6, nIp_7, nI_add, nIc, inb_n, eq_self, if_true]
    have k5 : (sI τ1 c (19 * i + 4) (nd.1 4 + 1)).1 c (19 * i + 5) = nd.1 5 := by rw [sI_r, if_neg (by omega), lo _ (by omega)]; exact g5
    rw [k5]
    have e55 : τ1.1 55 i = fl := by
      rw [← hτ1, sI_n hc55, q4.2.1 55 hc55 (fun z => z), ← hσ1, sI_r, if_pos ⟨rfl, rfl⟩]
    have e38 : τ1.1 38 = σ.1 38 := by
      rw [← hτ1, sI_n hc38, q4.2.1 38 hc38 (fun z => z), ← hσ1, sI_n (by omega)]
    have ge : ∀ x0 : Int32, ((nd.1 5 ≤ 0 → x0 = 0) ∧ (¬ nd.1 5 ≤ 0 → x0 = 1)) → ∃ υ, f_M_goOne_59 c (nI i) (nI (19 * i)) x0 (nd.1 5) (nI (19 * i + 5)) c (sI τ1 c (19 * i + 4) (nd.1 4 + 1)) = (if fl = 0 then if (υ.1 c (19 * i + 4)) ≤ σ.1 38 3 then some υ else f_M_goOne_112 c (nI (19 * i)) (sI υ c (19 * i + 2) (nI i)) else f_M_goOne_85 c (nI (19 * i)) (sI υ c (19 * i + 3) (nxt (υ.1 c (19 * i + 3))))) ∧ hB υ c (19 * i) (growN nd) ∧ EB c (PB (19 * i)) S55 σ υ := by
      intro x0 hx0
      unfold f_M_goOne_59
      simp (disch := omega) only [ad19, ad3, ad95, nIp_0, nIp_1, nIp_2, nIp_3, nIp_4, nIp_5, nIp_6, nIp_7, nI_add, nIc, inb_n, eq_self, if_true]
      generalize hυ : sI (sI τ1 c (19 * i + 4) (nd.1 4 + 1)) c (19 * i + 5) (nd.1 5 - x0) = υ
      have u55 : υ.1 55 i = fl := by rw [← hυ, sI_n hc55, sI_n hc55]; exact e55
      have u38 : υ.1 38 = σ.1 38 := by rw [← hυ, sI_n hc38, sI_n hc38]; exact e38
      rw [u55, u38]
      refine ⟨υ, rfl, ?_, ?_⟩
      · refine hTB.B (nd := growN nd) (q2.eq fun b hb => by rw [← hυ, sI_r, if_neg (by omega), sI_r, if_neg (by omega), ← hτ1, sI_r, if_neg (by omega)]) ?_ ?_ hlen
        · refine lt6 ?_ ?_ ?_ ?_ ?_ ?_
          · rw [← hυ, sI_r, if_neg (by omega), sI_r, if_neg (by omega), Nat.add_zero, lo _ (by omega)]; simp [growN, g0]
          · rw [← hυ, sI_r, if_neg (by omega), sI_r, if_neg (by omega), lo _ (by omega)]; simp [growN, g1]
          · rw [← hυ, sI_r, if_neg (by omega), sI_r, if_neg (by omega), lo _ (by omega)]; simp [growN, g2]
          · rw [← hυ, sI_r, if_neg (by omega), sI_r, if_neg (by omega), lo _ (by omega)]; simp [growN, g3]
          · rw [← hυ, sI_r, if_neg (by omega), sI_r, if_pos ⟨rfl, rfl⟩]; simp [growN]
          · rw [← hυ, sI_r, if_pos ⟨rfl, rfl⟩]
            by_cases hg : nd.1 5 ≤ 0
            · rw [hx0.1 hg]; simp [growN, hg]
            · rw [hx0.2 hg]; simp [growN, hg]
        · rw [← hυ, sI_r, if_neg (by omega), sI_r, if_neg (by omega), ← hτ1, sI_r, if_pos ⟨rfl, rfl⟩]
          simp [growN]
      · rw [← hυ, ← hτ1]
        exact ((((e1.tr (q4.mo (fun _ z => z) (fun _ z => z.elim))).i ⟨by omega, by omega⟩).i ⟨by omega, by omega⟩).i ⟨by omega, by omega⟩)
    by_cases hg : nd.1 5 ≤ 0
    · rw [if_pos hg]
      exact ge 0 ⟨fun _ => rfl, fun q => absurd hg q⟩
    · rw [if_neg hg]
      exact ge 1 ⟨fun q => absurd q hg, fun _ => rfl⟩
  unfold f_M_goOne
  simp (disch := omega) only [ad19, ad3, ad95, nIp_0, nIp_1, nIp_2, nIp_3, nIp_4, nIp_5, nIp_6, nIp_7, nI_add, nIc, inb_n, eq_self, if_true]
  rw [f2]
  by_cases hself : nd.1 2 = nI i
  · rw [if_pos hself]
    obtain ⟨τ, q1, q2, q3⟩ := key 1 (Or.inr rfl)
    rw [q1, if_neg (by decide)]
    obtain ⟨g1, g2, g3, g4, g5, g6, g0⟩ := q2.f
    unfold f_M_goOne_85
    simp (disch := omega) only [ad19, ad3, ad95, nIp_0, nIp_1, nIp_2, nIp_3, nIp_4, nIp_5, nIp_6, nIp_7, nI_add, nIc, inb_n, eq_self, if_true]
    refine ⟨_, rfl, ?_, (q3.i ⟨by omega, by omega⟩).i ⟨by omega, by omega⟩⟩
    have hr : (growN nd).1 2 = nI i := by simp [growN, hself]
    unfold leadN
    rw [if_pos hr]
    refine hTB.B (q2.T.eq fun b hb => by rw [sI_r, if_neg (by omega), sI_r, if_neg (by omega)]) ?_ ?_ q2.2.2.1
    · refine lt6 ?_ ?_ ?_ ?_ ?_ ?_
      · rw [sI_r, if_neg (by omega), sI_r, if_neg (by omega), Nat.add_zero, g0]; simp
      · rw [sI_r, if_neg (by omega), sI_r, if_neg (by omega), g1]; simp
      · rw [sI_r, if_neg (by omega), sI_r, if_neg (by omega), g2]; simp
      · rw [sI_r, if_neg (by omega), sI_r, if_pos ⟨rfl, rfl⟩, g3]; simp
      · rw [sI_r, if_pos ⟨rfl, rfl⟩]; simp
      · rw [sI_r, if_neg (by omega), sI_r, if_neg (by omega), g5]; simp
    · rw [sI_r, if_neg (by omega), sI_r, if_neg (by omega)]; exact g6
  · rw [if_neg hself]
    obtain ⟨τ, q1, q2, q3⟩ := key 0 (Or.inl rfl)
    rw [q1, if_pos rfl]
    obtain ⟨g1, g2, g3, g4, g5, g6, g0⟩ := q2.f
    have hr : ¬ (growN nd).1 2 = nI i := by simp [growN, hself]
    rw [g4]
    unfold leadN
    rw [if_neg hr]
    by_cases hp : (growN nd).1 4 ≤ σ.1 38 3
    · rw [if_pos hp, if_pos hp]
      exact ⟨τ, rfl, q2, q3⟩
    · rw [if_neg hp, if_neg hp]
      unfold f_M_goOne_112
      simp (disch := omega) only [ad19, ad3, ad95, nIp_0, nIp_1, nIp_2, nIp_3, nIp_4, nIp_5, nIp_6, nIp_7, nI_add, nIc, inb_n, eq_self, if_true]
      have k3 : (sI τ c (19 * i + 2) (nI i)).1 c (19 * i + 3) = (growN nd).1 3 := by rw [sI_r, if_neg (by omega)]; exact g3
      rw [k3]
      unfold f_M_goOne_127 f_M_goOne_140
      simp (disch := omega) only [ad19, ad3, ad95, nIp_0, nIp_1, nIp_2, nIp_3, nIp_4, nIp_5, nIp_6, nIp_7, nI_add, nIc, inb_n, eq_self, if_true]
      have k38 : τ.1 38 = σ.1 38 := q3.2.1 38 hc38 (by unfold S55; omega)
      rw [sI_n hc38, sI_n hc38, sI_n hc38, sI_n hc38, k38]
      refine ⟨_, rfl, ?_, ((((q3.i ⟨by omega, by omega⟩).i ⟨by omega, by omega⟩).i ⟨by omega, by omega⟩).i ⟨by omega, by omega⟩).i ⟨by omega, by omega⟩⟩
      refine hTB.B (nd := (_, [])) (fun j s hj => by simp at hj) ?_ ?_ (by simp)
      · refine lt6 ?_ ?_ ?_ ?_ ?_ ?_
        · rw [sI_r, if_neg (by omega), sI_r, if_neg (by omega), sI_r, if_neg (by omega), sI_r, if_neg (by omega), sI_r, if_neg (by omega), Nat.add_zero, g0]; simp
        · rw [sI_r, if_neg (by omega), sI_r, if_neg (by omega), sI_r, if_neg (by omega), sI_r, if_neg (by omega), sI_r, if_neg (by omega), g1]; simp
        · rw [sI_r, if_neg (by omega), sI_r, if_neg (by omega), sI_r, if_neg (by omega), sI_r, if_neg (by omega), sI_r, if_pos ⟨rfl, rfl⟩]; simp
        · rw [sI_r, if_neg (by omega), sI_r, if_neg (by omega), sI_r, if_neg (by omega), sI_r, if_pos ⟨rfl, rfl⟩]; simp [nxt]
        · rw [sI_r, if_neg (by omega), sI_r, if_pos ⟨rfl, rfl⟩]; simp
        · rw [sI_r, if_pos ⟨rfl, rfl⟩]; simp
      · rw [sI_r, if_neg (by omega), sI_r, if_neg (by omega), sI_r, if_pos ⟨rfl, rfl⟩]
        rfl
