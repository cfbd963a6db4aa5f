/-! THE CLASS's NODES: estimate, grow, lead, store -/
theorem estA_loop {K : Int32 → Int32 → Int64 → MT → Option Int32} {σ : MT} {n : Nat} {c C O : Int32} {len : Nat} (hl : len ≤ 4) : ∀ (rest : List SP) (i fuel : Nat) (a : Int64 × Int64 × Int64 × Int64), (∀ (j : Nat) (s : SP), rest[j]? = some s → σ.1 (n + 1) (i + j) = s.1 ∧ σ.1 (n + 2) (i + j) = s.2.1) → i + rest.length = len → rest.length < fuel →
    f_Nd_estimate_65 K fuel n c (nI len) C O a.1 a.2.1 a.2.2.1 a.2.2.2 (nI i) σ = f_Nd_estimate_65 K 1 n c (nI len) C O (rest.foldl (eStep C O) a).1 (rest.foldl (eStep C O) a).2.1 (rest.foldl (eStep C O) a).2.2.1 (rest.foldl (eStep C O) a).2.2.2 (nI len) σ
  | [], i, fuel, a, _, hi, hf => by
    obtain ⟨f, rfl⟩ : ∃ f, fuel = f + 1 := ⟨fuel - 1, by simp at hf; omega⟩
    have hi' : i = len := by simpa using hi
    subst hi'
    rw [f_Nd_estimate_65, f_Nd_estimate_65]
    rw [if_pos ((nIle (by omega) (by omega)).mpr (Nat.le_refl i))]
    rw [if_pos ((nIle (by omega) (by omega)).mpr (Nat.le_refl i))]
    rfl
  | s :: rest, i, fuel, a, h, hi, hf => by
    obtain ⟨f, rfl⟩ : ∃ f, fuel = f + 1 := ⟨fuel - 1, by simp at hf; omega⟩
    have hi' : i < len := by simp at hi; omega
    obtain ⟨r1, r2⟩ := h 0 s rfl
    simp only [Nat.add_zero] at r1 r2
    rw [f_Nd_estimate_65, if_neg (fun q => absurd ((nIle (by omega) (by omega)).mp q) (by omega)), if_pos (inb_n (by omega) (by decide)), v_near, Option.bind_some, if_pos (inb_n (by omega) (by decide)), if_pos (inb_n (by omega) (by decide)), v_near, Option.bind_some, nIc (by omega), r1, r2, nIs]
    exact estA_loop hl rest (i + 1) f (eStep C O a s) (fun j t ht => by have := h (j + 1) t (by simpa using ht); rw [show i + 1 + j = i + (j + 1) by omega]; exact this) (by simp at hi ⊢; omega) (by simp at hf; omega)
theorem estF_last {c : Int32} {l : List SP} {s : SP} (h : l.getLast? = some s) : estF c l = Int32.ofInt ((((c + (s.2.1 - s.1)).toInt64 + eZ (nI l.length).toInt64 (nrF (c - s.1)).toInt64 (eSum s.1 (s.2.1 - s.1) l)).toInt) % 1024) := by
  unfold estF
  rw [h]
theorem last_at {l : List SP} {s : SP} (h : l.getLast? = some s) : 0 < l.length ∧ l[l.length - 1]? = some s := by
  rw [List.getLast?_eq_getElem?] at h
  exact ⟨by
    have := (List.getElem?_eq_some_iff.mp h).1
    omega, h⟩
theorem v_estA {σ : MT} {n : Nat} {nd : ND} (h : hN σ n nd) (self c : Int32) : f_Nd_estimate n self c σ = some (estN self c nd) := by
  obtain ⟨h1, h2, h3, h4⟩ := h
  unfold f_Nd_estimate estN
  rw [h1 2 (by decide)]
  by_cases hs : nd.1 2 = self
  · rw [if_pos hs, if_pos hs]
  · rw [if_neg hs, if_neg hs]
    have hmin : f_Mt_min (σ.1 n 6) 4 = some (nI nd.2.length) := by
      unfold f_Mt_min
      rw [h2]
      by_cases q : (4 : Int32) < nI nd.2.length
      · exact absurd ((ngt_4 (by omega)).mp q) (by omega)
      · rw [if_neg q]
    rw [hmin, Option.bind_some]
    cases hl : nd.2.getLast? with
    | none =>
      have he : nd.2 = [] := List.getLast?_eq_none_iff.mp hl
      rw [he]
      rfl
    | some s =>
      obtain ⟨hp, hla⟩ := last_at hl
      have e1 : nI nd.2.length - 1 = nI (nd.2.length - 1) := by
        obtain ⟨m, hm⟩ : ∃ m, nd.2.length = m + 1 := ⟨nd.2.length - 1, by omega⟩
        rw [hm, nI_pred]
        rfl
      obtain ⟨r1, r2, -⟩ := h4 _ _ hla
      rw [if_pos ((nge_1 (by omega)).mpr (by omega)), e1, if_pos (inb_n (by omega) (by decide)), if_pos (inb_n (by omega) (by decide)), nIc (by omega), r1, r2]
      unfold f_Nd_estimate_50
      have hloop := estA_loop (K := f_Nd_estimate_230) (σ := σ) (n := n) (c := c) (C := s.1) (O := s.2.1 - s.1) h3 nd.2 0 1100 (0, 0, 0, 0) (fun j t ht => by rw [Nat.zero_add]; exact ⟨(h4 j t ht).1, (h4 j t ht).2.1⟩) (by omega) (by omega)
      rw [show nI 0 = (0 : Int32) from rfl] at hloop
      rw [hloop]
      have hok := eSum_ok (C := s.1) (O := s.2.1 - s.1) h3
      have hfold : nd.2.foldl (eStep s.1 (s.2.1 - s.1)) (0, 0, 0, 0) = eSum s.1 (s.2.1 - s.1) nd.2 := rfl
      rw [hfold, f_Nd_estimate_65, if_pos ((nIle (by omega) (by omega)).mpr (Nat.le_refl _)), estF_last hl]
      have hfin : ∀ z : Int64, f_Nd_estimate_230 c (s.2.1 - s.1) z σ = some (Int32.ofInt (((c + (s.2.1 - s.1)).toInt64 + z).toInt % 1024)) := by
        intro z
        unfold f_Nd_estimate_230
        rw [v_floorModJ (y := 1024) (by decide), Option.bind_some]
        congr 1
        apply z_eqi
        have b1 := Int.emod_nonneg ((c + (s.2.1 - s.1)).toInt64 + z).toInt (show (1024 : Int) ≠ 0 by decide)
        have b2 := Int.emod_lt_of_pos ((c + (s.2.1 - s.1)).toInt64 + z).toInt (show (0 : Int) < 1024 by decide)
        rw [show (1024 : Int64).toInt = 1024 from rfl, Int64.toInt_toInt32, z_l (by omega) (by omega), z_bm (by omega) (by omega)]
      have hn : 0 < (nI nd.2.length).toInt64.toInt := by rw [Int32.toInt_toInt64, nIt (by omega)]; omega
      generalize eSum s.1 (s.2.1 - s.1) nd.2 = a at hok ⊢
      have hE : (nI nd.2.length).toInt64 * a.2.2.2 - a.1 * a.1 = eE (nI nd.2.length).toInt64 a := rfl
      rw [hE]
      by_cases hz : eE (nI nd.2.length).toInt64 a = 0
      · rw [if_pos ((z_cmp0 _ _).mpr hz), v_floorDivJ hn, Option.bind_some, hfin]
        unfold eZ
        rw [if_pos hz]
      · have hpos := eE_pos hp h3 hok hz
        rw [if_neg (fun q => hz ((z_cmp0 _ _).mp q)), v_near, Option.bind_some, v_floorDivJ hpos, Option.bind_some, hfin]
        unfold eZ
        rw [if_neg hz]
-- grow
def gS (s : SP) : Option SP := if (9 : Int32) ≤ s.2.2 then none else some (s.1, s.2.1, s.2.2 + 1)
def growN (nd : ND) : ND := (fun j => if j = 4 then nd.1 4 + 1 else if j = 5 then (if nd.1 5 ≤ 0 then nd.1 5 else nd.1 5 - 1) else nd.1 j, nd.2.filterMap gS)
def PN (n : Nat) : Nat → Prop := fun c => n ≤ c ∧ c < n + 4
/-- the three rows of stamps from place i on -/
def hT (σ : MT) (n i : Nat) (l : List SP) : Prop := ∀ (j : Nat) (s : SP), l[j]? = some s → σ.1 (n + 1) (i + j) = s.1 ∧ σ.1 (n + 2) (i + j) = s.2.1 ∧ σ.1 (n + 3) (i + j) = s.2.2
def w3 (σ : MT) (n i : Nat) (s : SP) : MT := sI (sI (sI σ (n + 1) i s.1) (n + 2) i s.2.1) (n + 3) i s.2.2
theorem w3_1 (σ : MT) (n i : Nat) (s : SP) (b : Nat) : (w3 σ n i s).1 (n + 1) b = if b = i then s.1 else σ.1 (n + 1) b := by
  unfold w3; simp [sI_r]
theorem w3_2 (σ : MT) (n i : Nat) (s : SP) (b : Nat) : (w3 σ n i s).1 (n + 2) b = if b = i then s.2.1 else σ.1 (n + 2) b := by
  unfold w3; simp [sI_r]
theorem w3_3 (σ : MT) (n i : Nat) (s : SP) (b : Nat) : (w3 σ n i s).1 (n + 3) b = if b = i then s.2.2 else σ.1 (n + 3) b := by
  unfold w3; simp [sI_r]
theorem w3_0 (σ : MT) (n i : Nat) (s : SP) : (w3 σ n i s).1 n = σ.1 n := by
  unfold w3
  rw [sI_n (by omega), sI_n (by omega), sI_n (by omega)]
theorem w3_eo (σ : MT) (n i : Nat) (s : SP) : EO (PN n) σ (w3 σ n i s) := ((EO.rf.i ⟨by omega, by omega⟩).i ⟨by omega, by omega⟩).i ⟨by omega, by omega⟩
theorem hT.w {σ : MT} {n i k : Nat} {l : List SP} (h : hT σ n i l) (s : SP) (hk : k < i ∨ i + l.length ≤ k) : hT (w3 σ n k s) n i l := by
  intro j t ht
  have hj := (List.getElem?_eq_some_iff.mp ht).1
  rw [w3_1, w3_2, w3_3, if_neg (by omega), if_neg (by omega), if_neg (by omega)]
  exact h j t ht
theorem hT.add {σ : MT} {n : Nat} {l : List SP} (h : hT σ n 0 l) (s : SP) : hT (w3 σ n l.length s) n 0 (l ++ [s]) := by
  intro j t ht
  rw [Nat.zero_add, w3_1, w3_2, w3_3]
  rcases Nat.lt_or_ge j l.length with q | q
  · rw [List.getElem?_append_left q] at ht
    rw [if_neg (by omega), if_neg (by omega), if_neg (by omega)]
    have := h j t ht
    rwa [Nat.zero_add] at this
  · have hj := (List.getElem?_eq_some_iff.mp ht).1
    simp at hj
    have : j = l.length := by omega
    subst this
    rw [List.getElem?_append_right (Nat.le_refl _), Nat.sub_self] at ht
    cases ht
    rw [if_pos rfl, if_pos rfl, if_pos rfl]
    exact ⟨rfl, rfl, rfl⟩
theorem growA_loop {K : Nat → Int32 → MT → Option MT} {n len : Nat} (hl : len ≤ 4) : ∀ (rest ts : List SP) (i fuel : Nat) (σ : MT), σ.1 n 6 = nI len → hT σ n 0 ts → hT σ n i rest → ts.length ≤ i → i + rest.length = len → rest.length < fuel →
    ∃ τ, f_Nd_grow_4 K fuel n (nI ts.length) (nI i) σ = K n (nI (ts ++ rest.filterMap gS).length) τ ∧ hT τ n 0 (ts ++ rest.filterMap gS) ∧ τ.1 n = σ.1 n ∧ EO (PN n) σ τ
  | [], ts, i, fuel, σ, h6, h1, _, hti, hi, hf => by
    obtain ⟨f, rfl⟩ : ∃ f, fuel = f + 1 := ⟨fuel - 1, by simp at hf; omega⟩
    have hi' : i = len := by simpa using hi
    subst hi'
    refine ⟨σ, ?_, by simpa using h1, rfl, EO.rf⟩
    rw [f_Nd_grow_4, h6, if_pos ((nIle (by omega) (by omega)).mpr (Nat.le_refl i))]
    simp
  | s :: rest, ts, i, fuel, σ, h6, h1, h2, hti, hi, hf => by
    obtain ⟨f, rfl⟩ : ∃ f, fuel = f + 1 := ⟨fuel - 1, by simp at hf; omega⟩
    have hi' : i < len := by simp at hi; omega
    obtain ⟨r1, r2, r3⟩ := h2 0 s rfl
    simp only [Nat.add_zero] at r1 r2 r3
    have h2' : hT σ n (i + 1) rest := fun j t ht => by
      have := h2 (j + 1) t (by simpa using ht)
      rw [show i + 1 + j = i + (j + 1) by omega]; exact this
    rw [f_Nd_grow_4, h6, if_neg (fun q => absurd ((nIle (by omega) (by omega)).mp q) (by omega)), if_neg (fun q => absurd ((nge_4 (by omega)).mp q) (by omega)), if_pos (inb_n (by omega) (by decide)), nIc (show i < 2147483648 by omega), r3]
    by_cases hg : (9 : Int32) ≤ s.2.2
    · rw [if_pos hg]
      unfold f_Nd_grow_69
      rw [nIs]
      have e : (s :: rest).filterMap gS = rest.filterMap gS := by simp [List.filterMap_cons, gS, hg]
      rw [e]
      exact growA_loop hl rest ts (i + 1) f σ h6 h1 h2' (by omega) (by simp at hi; omega) (by simp at hf; omega)
    · rw [if_neg hg, if_pos (inb_n (by omega) (by decide)), if_pos (inb_n (by omega) (by decide)), if_pos (inb_n (by omega) (by decide)), if_pos (inb_n (by omega) (by decide))]
      unfold f_Nd_grow_52
      rw [if_pos (inb_n (by omega) (by decide)), if_pos (inb_n (by omega) (by decide))]
      unfold f_Nd_grow_66 f_Nd_grow_69
      rw [nIs, nIs, nIc (show i < 2147483648 by omega), nIc (show ts.length < 2147483648 by omega)]
      have em : sI (sI (sI σ (n + 1) ts.length (σ.1 (n + 1) i)) (n + 2) ts.length ((sI σ (n + 1) ts.length (σ.1 (n + 1) i)).1 (n + 2) i)) (n + 3) ts.length (((sI (sI σ (n + 1) ts.length (σ.1 (n + 1) i)) (n + 2) ts.length ((sI σ (n + 1) ts.length (σ.1 (n + 1) i)).1 (n + 2) i)).1 (n + 3) i) + (1 : Int32)) = w3 σ n ts.length (s.1, s.2.1, s.2.2 + 1) := by
        unfold w3
        rw [sI_n (a := n + 3) (by omega), sI_n (a := n + 3) (by omega), sI_n (a := n + 2) (by omega), r1, r2, r3]
      rw [em]
      have e : ts ++ (s :: rest).filterMap gS = (ts ++ [(s.1, s.2.1, s.2.2 + 1)]) ++ rest.filterMap gS := by simp [List.filterMap_cons, gS, hg]
      rw [e]
      obtain ⟨τ, q1, q2, q3, q4⟩ := growA_loop (K := K) hl rest (ts ++ [(s.1, s.2.1, s.2.2 + 1)]) (i + 1) f (w3 σ n ts.length (s.1, s.2.1, s.2.2 + 1)) (by rw [w3_0]; exact h6) (h1.add _) (h2'.w _ (Or.inl (by omega))) (by simp; omega) (by simp at hi; omega) (by simp at hf; omega)
      refine ⟨τ, ?_, q2, q3.trans (w3_0 _ _ _ _), (w3_eo _ _ _ _).tr q4⟩
      rw [← q1]
      simp
theorem hN.T {σ : MT} {n : Nat} {nd : ND} (h : hN σ n nd) : hT σ n 0 nd.2 := fun j s hs => by rw [Nat.zero_add]; exact h.2.2.2 j s hs
theorem hT.N {σ : MT} {n : Nat} {nd : ND} (h : hT σ n 0 nd.2) (h1 : ∀ j, j < 6 → σ.1 n j = nd.1 j) (h2 : σ.1 n 6 = nI nd.2.length) (h3 : nd.2.length ≤ 4) : hN σ n nd := ⟨h1, h2, h3, fun j s hs => by have := h j s hs; rwa [Nat.zero_add] at this⟩
theorem hT.eq {σ τ : MT} {n i : Nat} {l : List SP} (h : hT σ n i l) (e1 : τ.1 (n + 1) = σ.1 (n + 1)) (e2 : τ.1 (n + 2) = σ.1 (n + 2)) (e3 : τ.1 (n + 3) = σ.1 (n + 3)) : hT τ n i l := by
  unfold hT
  rw [e1, e2, e3]
  exact h
theorem lt6 {P : Nat → Prop} (h0 : P 0) (h1 : P 1) (h2 : P 2) (h3 : P 3) (h4 : P 4) (h5 : P 5) : ∀ j, j < 6 → P j := fun j hj => by
  match j, hj with
  | 0, _ => exact h0
  | 1, _ => exact h1
  | 2, _ => exact h2
  | 3, _ => exact h3
  | 4, _ => exact h4
  | 5, _ => exact h5
theorem v_growA {σ : MT} {n : Nat} {nd : ND} (h : hN σ n nd) : ∃ τ, f_Nd_grow n σ = some τ ∧ hN τ n (growN nd) ∧ EO (PN n) σ τ := by
  obtain ⟨τ, q1, q2, q3, q4⟩ := growA_loop (K := f_Nd_grow_75) h.2.2.1 nd.2 [] 0 1100 σ h.2.1 (fun j s hs => by simp at hs) h.T (by simp) (by omega) (by have := h.2.2.1; omega)
  rw [List.nil_append] at q1 q2
  have hlen : (nd.2.filterMap gS).length ≤ 4 := Nat.le_trans (List.length_filterMap_le _ _) h.2.2.1
  unfold f_Nd_grow
  rw [show (0 : Int32) = nI 0 from rfl, show nI 0 = nI ([] : List SP).length from rfl]
  rw [show nI ([] : List SP).length = nI 0 from rfl] at q1 ⊢
  rw [q1]
  unfold f_Nd_grow_75 f_Nd_grow_107
  have e4 : (sI τ n 6 (nI (nd.2.filterMap gS).length)).1 n 4 = nd.1 4 := by rw [sI_r, if_neg (by omega), q3, h.1 4 (by decide)]
  have e5 : (sI (sI τ n 6 (nI (nd.2.filterMap gS).length)) n 4 (nd.1 4 + 1)).1 n 5 = nd.1 5 := by rw [sI_r, if_neg (by omega), sI_r, if_neg (by omega), q3, h.1 5 (by decide)]
  rw [e4, e5]
  by_cases hg : nd.1 5 ≤ 0
  · rw [if_pos hg]
    refine ⟨_, rfl, hT.N (nd := growN nd) ((q2.eq (by rw [sI_n (by omega), sI_n (by omega)]) (by rw [sI_n (by omega), sI_n (by omega)]) (by rw [sI_n (by omega), sI_n (by omega)]))) ?_ ?_ hlen, (q4.i ⟨by omega, by omega⟩).i ⟨by omega, by omega⟩⟩
    · refine lt6 ?_ ?_ ?_ ?_ ?_ ?_ <;> simp [sI_r, growN, q3, h.1, hg]
    · simp [sI_r, growN]
  · rw [if_neg hg]
    refine ⟨_, rfl, hT.N (nd := growN nd) ((q2.eq (by rw [sI_n (by omega), sI_n (by omega), sI_n (by omega)]) (by rw [sI_n (by omega), sI_n (by omega), sI_n (by omega)]) (by rw [sI_n (by omega), sI_n (by omega), sI_n (by omega)]))) ?_ ?_ hlen, ((q4.i ⟨by omega, by omega⟩).i ⟨by omega, by omega⟩).i ⟨by omega, by omega⟩⟩
    · refine lt6 ?_ ?_ ?_ ?_ ?_ ?_ <;> simp [sI_r, growN, q3, h.1, hg]
    · simp [sI_r, growN]
-- lead
def nxt (x : Int32) : Int32 := (x + 1) - (x + 1) / 64 * 64
def leadN (self pat shy : Int32) (nd : ND) : ND :=
  if nd.1 2 = self then (fun j => if j = 3 then nxt (nd.1 3) else if j = 4 then 0 else nd.1 j, nd.2)
  else if nd.1 4 ≤ pat then nd
  else (fun j => if j = 2 then self else if j = 3 then nxt (nd.1 3) else if j = 4 then 0 else if j = 5 then shy else nd.1 j, [])
theorem v_leadA {σ : MT} {n m : Nat} {nd : ND} (h : hN σ n nd) (self : Int32) (hm : m ≠ n) : ∃ τ, f_Nd_lead n self m σ = some τ ∧ hN τ n (leadN self (σ.1 m 1) (σ.1 m 2) nd) ∧ EO (PN n) σ τ := by
  unfold f_Nd_lead f_Nd_lead_23
  rw [h.1 2 (by decide)]
  by_cases hs : nd.1 2 = self
  · rw [if_pos hs]
    unfold f_Nd_lead_24
    rw [if_pos rfl]
    unfold f_Nd_lead_47
    rw [h.1 2 (by decide), if_pos hs, h.1 3 (by decide)]
    unfold f_Nd_lead_68
    refine ⟨_, rfl, ?_, (EO.rf.i ⟨by omega, by omega⟩).i ⟨by omega, by omega⟩⟩
    unfold leadN
    rw [if_pos hs]
    refine hT.N (h.T.eq (by rw [sI_n (by omega), sI_n (by omega)]) (by rw [sI_n (by omega), sI_n (by omega)]) (by rw [sI_n (by omega), sI_n (by omega)])) ?_ ?_ h.2.2.1
    · refine lt6 ?_ ?_ ?_ ?_ ?_ ?_ <;> simp [sI_r, h.1, nxt]
    · simp [sI_r, h.2.1]
  · rw [if_neg hs, h.1 4 (by decide)]
    by_cases hp : nd.1 4 ≤ σ.1 m 1
    · rw [if_pos hp]
      unfold f_Nd_lead_24
      rw [if_pos rfl]
      unfold f_Nd_lead_47
      rw [h.1 2 (by decide), if_neg hs]
      refine ⟨_, rfl, ?_, EO.rf⟩
      unfold leadN
      rw [if_neg hs, if_pos hp]
      exact h
    · rw [if_neg hp]
      unfold f_Nd_lead_24
      rw [if_neg (by decide)]
      unfold f_Nd_lead_47 f_Nd_lead_68
      rw [if_pos (by simp [sI_r])]
      refine ⟨_, rfl, ?_, ((((EO.rf.i ⟨by omega, by omega⟩).i ⟨by omega, by omega⟩).i ⟨by omega, by omega⟩).i ⟨by omega, by omega⟩).i ⟨by omega, by omega⟩⟩
      unfold leadN
      rw [if_neg hs, if_neg hp]
      refine hT.N (nd := (_, [])) (fun j s hj => by simp at hj) ?_ ?_ (by simp)
      · refine lt6 ?_ ?_ ?_ ?_ ?_ ?_ <;> simp [sI_r, h.1, nxt, hm]
      · simp [sI_r]
        rfl
