/-! WHO IS ON, who is a root, one root, the links, a property -/
def onM (sv : SV) (i : Nat) : Bool := !decide ((sv.2.2 i).1 0 = 0)
def ownM (sv : SV) (i : Nat) : Bool := onM sv i && decide ((sv.2.2 i).1 2 = nI i)
theorem setN_1 {q : Nat → Bool} {i : Nat} (h : q i = true) : setN q (i + 1) = setN q i + 2 ^ i := by
  show setN q i + (if q i = true then 2 ^ i else 0) = _
  rw [h]; rfl
theorem setN_0 {q : Nat → Bool} {i : Nat} (h : q i = false) : setN q (i + 1) = setN q i := by
  show setN q i + (if q i = true then 2 ^ i else 0) = _
  rw [h]; rfl
def cutN (N : Nat) (q : Nat → Bool) (i : Nat) : Bool := decide (i < N) && q i
theorem setN_cut {N : Nat} (q : Nat → Bool) (h : N ≤ 5) : setN (cutN N q) 5 = setN q N := by
  rw [show 5 = N + (5 - N) by omega, setN_x (5 - N) (fun i h1 _ => by unfold cutN; rw [decide_eq_false (by omega)]; rfl)]
  exact setN_c N (fun i hi => by unfold cutN; rw [decide_eq_true hi]; rfl)
theorem hA.on {σ : MT} {k N : Nat} {sv : SV} (h : hA σ k N sv) {i : Nat} (hi : i < 5) : σ.1 (k + 1 + 1 + 4 * i) 0 = 0 ↔ cutN N (onM sv) i = false := by
  unfold cutN onM
  by_cases hN : i < N
  · rw [(h.2.2.1 i hN).1 0 (by decide), decide_eq_true hN]
    simp
  · rw [h.2.2.2 i (by omega) hi, decide_eq_false hN]
    simp
theorem A_on_loop {σ : MT} {k N : Nat} {sv : SV} (h : hA σ k N sv) : ∀ (d i fuel : Nat), i + d = 5 → d < fuel → f_St_onSet_4 fuel k (nI (setN (cutN N (onM sv)) i)) (nI i) σ = some (nI (setN (cutN N (onM sv)) 5))
  | 0, i, fuel, hi, hf => by
    obtain ⟨f, rfl⟩ : ∃ f, fuel = f + 1 := ⟨fuel - 1, by omega⟩
    have : i = 5 := by omega
    subst this
    rw [f_St_onSet_4, if_pos ((nge_5 (by omega)).mpr (by omega))]
  | d + 1, i, fuel, hi, hf => by
    obtain ⟨f, rfl⟩ : ∃ f, fuel = f + 1 := ⟨fuel - 1, by omega⟩
    have ih := A_on_loop h d (i + 1) f (by omega) (by omega)
    rw [f_St_onSet_4, if_neg (fun q => absurd ((nge_5 (by omega)).mp q) (by omega)), if_pos (inb_n (by omega) (by decide)), nIc (by omega)]
    unfold f_St_onSet_27
    rw [nIs]
    have ho := h.on (i := i) (by omega)
    cases hq : cutN N (onM sv) i with
    | false =>
      rw [if_pos (ho.mpr hq)]
      rw [setN_0 hq] at ih
      exact ih
    | true =>
      rw [if_neg (fun q => by rw [ho.mp q] at hq; cases hq), or_bit (by omega) (setN_b _ _)]
      rw [setN_1 hq] at ih
      exact ih
theorem A_onSet {σ : MT} {k N : Nat} {sv : SV} (h : hA σ k N sv) (hN : N ≤ 5) : f_St_onSet k σ = some (nI (setN (onM sv) N)) := by
  rw [← setN_cut (onM sv) hN]
  exact A_on_loop h 5 0 1100 (by omega) (by omega)
theorem v_shown5 {σ : MT} {k N i : Nat} {sv : SV} (h : hA σ k N sv) (hi : i < 5) (hN : N ≤ 5) : ∃ r, f_St_shownRoot k (nI i) σ = some r ∧ (r = nI i ↔ cutN N (ownM sv) i = true) := by
  by_cases hiN : i < N
  · refine ⟨_, v_shown h hiN hN, ?_⟩
    unfold cutN ownM onM
    rw [decide_eq_true hiN]
    by_cases h0 : (sv.2.2 i).1 0 = 0
    · rw [if_pos h0, h0]
      have := nI_9 (i := i) (by omega)
      simp [this]
    · rw [if_neg h0]
      simp [h0]
  · refine ⟨-9, ?_, ?_⟩
    · unfold f_St_shownRoot
      rw [if_pos (inb_n (by omega) (by decide)), nIc (by omega), if_pos (h.2.2.2 i (by omega) hi)]
    · unfold cutN
      rw [decide_eq_false hiN]
      have := nI_9 (i := i) (by omega)
      simp [this]
theorem A_own_loop {σ : MT} {k N : Nat} {sv : SV} (h : hA σ k N sv) (hN : N ≤ 5) : ∀ (d i fuel : Nat), i + d = 5 → d < fuel → f_St_ownRootSet_4 fuel k (nI (setN (cutN N (ownM sv)) i)) (nI i) σ = some (nI (setN (cutN N (ownM sv)) 5))
  | 0, i, fuel, hi, hf => by
    obtain ⟨f, rfl⟩ : ∃ f, fuel = f + 1 := ⟨fuel - 1, by omega⟩
    have : i = 5 := by omega
    subst this
    rw [f_St_ownRootSet_4, if_pos ((nge_5 (by omega)).mpr (by omega))]
  | d + 1, i, fuel, hi, hf => by
    obtain ⟨f, rfl⟩ : ∃ f, fuel = f + 1 := ⟨fuel - 1, by omega⟩
    have ih := A_own_loop h hN d (i + 1) f (by omega) (by omega)
    obtain ⟨r, q1, q2⟩ := v_shown5 h (i := i) (by omega) hN
    rw [f_St_ownRootSet_4, if_neg (fun q => absurd ((nge_5 (by omega)).mp q) (by omega)), q1, Option.bind_some]
    unfold f_St_ownRootSet_24
    rw [nIs]
    cases hq : cutN N (ownM sv) i with
    | false =>
      rw [if_neg (fun q => by rw [q2.mp q] at hq; cases hq)]
      rw [setN_0 hq] at ih
      exact ih
    | true =>
      rw [if_pos (q2.mpr hq), or_bit (by omega) (setN_b _ _)]
      rw [setN_1 hq] at ih
      exact ih
theorem A_ownSet {σ : MT} {k N : Nat} {sv : SV} (h : hA σ k N sv) (hN : N ≤ 5) : f_St_ownRootSet k σ = some (nI (setN (ownM sv) N)) := by
  rw [← setN_cut (ownM sv) hN]
  exact A_own_loop h hN 5 0 1100 (by omega) (by omega)
def thoM (sv : SV) (roots : Bool) (i : Nat) : Bool := if roots = true then ownM sv i else onM sv i
theorem B_tho_loop {σ : MT} {N : Nat} {sv : SV} {b : Bool} (h : hR σ 43 N sv) (hN : N ≤ 5) (hw : wfS N sv) (h5 : σ.1 38 5 = nI N) : ∀ (d i fuel : Nat), i + d = N → d < fuel → f_M_those_4 fuel (bI b) (nI (setN (thoM sv b) i)) (nI i) σ = some (nI (setN (thoM sv b) N))
  | 0, i, fuel, hi, hf => by
    obtain ⟨f, rfl⟩ : ∃ f, fuel = f + 1 := ⟨fuel - 1, by omega⟩
    have : i = N := by omega
    subst this
    rw [f_M_those_4, h5, if_pos ((nIle (by omega) (by omega)).mpr (Nat.le_refl _))]
  | d + 1, i, fuel, hi, hf => by
    obtain ⟨f, rfl⟩ : ∃ f, fuel = f + 1 := ⟨fuel - 1, by omega⟩
    have ih := B_tho_loop (b := b) h hN hw h5 d (i + 1) f (by omega) (by omega)
    have hs := setN_b (thoM sv b) i
    obtain ⟨f1, f2, f3, f4, f5, f6, f0⟩ := (h.2.2 i (by omega)).f
    rw [f_M_those_4, h5, if_neg (fun q => absurd ((nIle (by omega) (by omega)).mp q) (by omega)), v_isOn h (by omega) hN hw, Option.bind_some]
    unfold f_M_those_49 f_M_those_43 f_M_those_50
    rw [or_0 (lt_128 hs (by omega)), or_bit (by omega) hs, nIs]
    have no : thoM sv b i = false → f_M_those_4 f (bI b) (nI (setN (thoM sv b) i)) (nI (i + 1)) σ = some (nI (setN (thoM sv b) N)) := fun hq => by
      rw [setN_0 hq] at ih
      exact ih
    have yes : thoM sv b i = true → f_M_those_4 f (bI b) (nI (setN (thoM sv b) i + 2 ^ i)) (nI (i + 1)) σ = some (nI (setN (thoM sv b) N)) := fun hq => by
      rw [setN_1 hq] at ih
      exact ih
    by_cases h0 : (sv.2.2 i).1 0 = 0
    · rw [if_pos h0, if_pos rfl]
      refine no ?_
      unfold thoM ownM onM
      simp [h0]
    · rw [if_neg h0, if_neg (by decide)]
      cases b with
      | false =>
        rw [if_pos (by decide)]
        refine yes ?_
        unfold thoM onM
        simp [h0]
      | true =>
        rw [if_neg (by decide)]
        simp (disch := omega) only [ad19, ad3, ad95, nIp_0, nIp_1, nIp_2, nIp_3, nIp_4, nIp_5, nIp_6, nIp_7, nI_add, nIc, inb_n, eq_self, if_true]
        rw [f2]
        by_cases h2 : (sv.2.2 i).1 2 = nI i
        · rw [if_pos h2]
          refine yes ?_
          unfold thoM ownM onM
          simp [h0, h2]
        · rw [if_neg h2]
          refine no ?_
          unfold thoM ownM onM
          simp [h0, h2]
theorem B_on {σ : MT} {N : Nat} {sv : SV} (h : hR σ 43 N sv) (hN : N ≤ 5) (hw : wfS N sv) (h5 : σ.1 38 5 = nI N) : f_M_those 0 σ = some (nI (setN (onM sv) N)) := B_tho_loop (b := false) h hN hw h5 N 0 1100 (by omega) (by omega)
theorem B_own {σ : MT} {N : Nat} {sv : SV} (h : hR σ 43 N sv) (hN : N ≤ 5) (hw : wfS N sv) (h5 : σ.1 38 5 = nI N) : f_M_those 1 σ = some (nI (setN (ownM sv) N)) := B_tho_loop (b := true) h hN hw h5 N 0 1100 (by omega) (by omega)
-- one root
def uniR (sv : SV) : Nat → Nat → Int32 → Bool
  | 0, _, _ => true
  | d + 1, i, c => if (sv.2.2 i).1 0 = 0 then uniR sv d (i + 1) c else if (sv.2.2 i).1 2 = -9 then false else if c = -9 ∨ (sv.2.2 i).1 2 = c then uniR sv d (i + 1) ((sv.2.2 i).1 2) else false
def uniM (N : Nat) (sv : SV) : Bool := uniR sv N 0 (-9)
theorem A_uni_off {σ : MT} {k N : Nat} {sv : SV} (h : hA σ k N sv) : ∀ (d i fuel : Nat) (c : Int32), i + d = 5 → N ≤ i → d < fuel → f_St_isUnited_5 fuel k c (nI i) σ = some 1
  | 0, i, fuel, c, hi, _, hf => by
    obtain ⟨f, rfl⟩ : ∃ f, fuel = f + 1 := ⟨fuel - 1, by omega⟩
    rw [f_St_isUnited_5, if_pos ((nge_5 (by omega)).mpr (by omega))]
  | d + 1, i, fuel, c, hi, hN, hf => by
    obtain ⟨f, rfl⟩ : ∃ f, fuel = f + 1 := ⟨fuel - 1, by omega⟩
    rw [f_St_isUnited_5, if_neg (fun q => absurd ((nge_5 (by omega)).mp q) (by omega)), if_pos (inb_n (by omega) (by decide)), nIc (by omega), if_pos (h.2.2.2 i hN (by omega))]
    unfold f_St_isUnited_53
    rw [nIs]
    exact A_uni_off h d (i + 1) f c (by omega) (by omega) (by omega)
theorem A_uni_loop {σ : MT} {k N : Nat} {sv : SV} (h : hA σ k N sv) (hN : N ≤ 5) : ∀ (d i fuel : Nat) (c : Int32), i + d = N → d + 6 < fuel → f_St_isUnited_5 fuel k c (nI i) σ = some (bI (uniR sv d i c))
  | 0, i, fuel, c, hi, hf => A_uni_off h (5 - i) i fuel c (by omega) (by omega) (by omega)
  | d + 1, i, fuel, c, hi, hf => by
    obtain ⟨f, rfl⟩ : ∃ f, fuel = f + 1 := ⟨fuel - 1, by omega⟩
    have hn := h.2.2.1 i (by omega)
    have ih := fun c => A_uni_loop h hN d (i + 1) f c (by omega) (by omega)
    rw [f_St_isUnited_5, if_neg (fun q => absurd ((nge_5 (by omega)).mp q) (by omega)), if_pos (inb_n (by omega) (by decide)), nIc (by omega), hn.1 0 (by decide), hn.1 2 (by decide)]
    unfold f_St_isUnited_51 f_St_isUnited_53 uniR
    rw [nIs, ih, ih]
    by_cases h0 : (sv.2.2 i).1 0 = 0
    · rw [if_pos h0, if_pos h0]
    · rw [if_neg h0, if_neg h0, if_pos (inb_n (by omega) (by decide))]
      by_cases h9 : (sv.2.2 i).1 2 = -9
      · rw [if_pos h9, if_pos h9]; rfl
      · rw [if_neg h9, if_neg h9]
        by_cases hc : c = -9
        · rw [if_pos hc, if_pos (Or.inl hc)]
        · rw [if_neg hc]
          by_cases hr : (sv.2.2 i).1 2 = c
          · rw [if_pos hr, if_pos (Or.inr hr)]
          · rw [if_neg hr, if_neg (fun q => q.elim hc hr)]; rfl
theorem A_united {σ : MT} {k N : Nat} {sv : SV} (h : hA σ k N sv) (hN : N ≤ 5) : f_St_isUnited k σ = some (bI (uniM N sv)) := A_uni_loop h hN N 0 1100 (-9) (by omega) (by omega)
theorem B_uni_loop {σ : MT} {c N : Nat} {sv : SV} (h : hR σ c N sv) (hN : N ≤ 5) (hw : wfS N sv) (h5 : σ.1 38 5 = nI N) : ∀ (d i fuel : Nat) (r : Int32) (one any : Bool), i + d = N → d < fuel → (one = true → any = true → ¬ r = -9) → f_M_isOne_11 fuel c r (bI one) (bI any) (nI i) σ = some (bI (one && uniR sv d i (if any = true then r else -9)))
  | 0, i, fuel, r, one, any, hi, hf, _ => by
    obtain ⟨f, rfl⟩ : ∃ f, fuel = f + 1 := ⟨fuel - 1, by omega⟩
    rw [f_M_isOne_11, h5, if_pos ((nIle (by omega) (by omega)).mpr (by omega)), if_pos (bI_z one)]
    unfold uniR
    rw [Bool.and_true]
  | d + 1, i, fuel, r, one, any, hi, hf, hr => by
    obtain ⟨f, rfl⟩ : ∃ f, fuel = f + 1 := ⟨fuel - 1, by omega⟩
    obtain ⟨f1, f2, f3, f4, f5, f6, f0⟩ := (h.2.2 i (by omega)).f
    have ih := fun r one any => B_uni_loop h hN hw h5 d (i + 1) f r one any (by omega) (by omega)
    rw [f_M_isOne_11, h5, if_neg (fun q => absurd ((nIle (by omega) (by omega)).mp q) (by omega)), v_isOn h (by omega) hN hw, Option.bind_some]
    unfold f_M_isOne_62 f_M_isOne_66 f_M_isOne_67 f_M_isOne_74 uniR
    simp (disch := omega) only [ad19, ad3, ad95, nIp_0, nIp_1, nIp_2, nIp_3, nIp_4, nIp_5, nIp_6, nIp_7, nI_add, nIc, inb_n, eq_self, if_true]
    rw [f2]
    by_cases h0 : (sv.2.2 i).1 0 = 0
    · rw [if_pos h0, if_pos h0, if_pos rfl]
      exact ih r one any hr
    · rw [if_neg h0, if_neg h0, if_neg (by decide)]
      have yes : f_M_isOne_11 f c ((sv.2.2 i).1 2) 1 1 (nI (i + 1)) σ = some (bI (uniR sv d (i + 1) ((sv.2.2 i).1 2))) ∨ (sv.2.2 i).1 2 = -9 := by
        by_cases h9 : (sv.2.2 i).1 2 = -9
        · exact Or.inr h9
        · exact Or.inl (ih ((sv.2.2 i).1 2) true true (fun _ _ => h9))
      have no : f_M_isOne_11 f c ((sv.2.2 i).1 2) 0 1 (nI (i + 1)) σ = some (bI false) := ih ((sv.2.2 i).1 2) false true (fun q => by cases q)
      cases one with
      | false =>
        rw [if_pos (by decide), Bool.false_and]
        exact no
      | true =>
        rw [if_neg (by decide), Bool.true_and]
        by_cases h9 : (sv.2.2 i).1 2 = -9
        · rw [if_pos h9, if_pos h9]
          exact no
        · rw [if_neg h9, if_neg h9]
          replace yes := yes.resolve_right h9
          cases any with
          | false =>
            rw [if_pos (by decide)]
            have e : (if false = true then r else (-9 : Int32)) = -9 := rfl
            rw [e, if_pos (Or.inl rfl)]
            exact yes
          | true =>
            rw [if_neg (by decide)]
            have e : (if true = true then r else (-9 : Int32)) = r := rfl
            rw [e]
            have hr9 := hr rfl rfl
            by_cases hq : (sv.2.2 i).1 2 = r
            · rw [if_pos hq, if_pos (Or.inr hq)]
              exact yes
            · rw [if_neg hq, if_neg (fun q => q.elim hr9 hq)]
              exact no
theorem B_united {σ : MT} {c N : Nat} {sv : SV} (h : hR σ c N sv) (hN : N ≤ 5) (hw : wfS N sv) (h5 : σ.1 38 5 = nI N) : f_M_isOne c σ = some (bI (uniM N sv)) := by
  exact B_uni_loop h hN hw h5 N 0 1100 (-9) true false (by omega) (by omega) (fun _ q => by cases q)
-- links that are down
theorem setN_dn {L dn : Nat} (hL : L ≤ 7) (h : dn < 2 ^ L) : setN (fun l => decide (bit (nI dn) l = 1)) L = dn := by
  have H : ∀ L, L ≤ 7 → ∀ dn, dn < 128 → dn < 2 ^ L → setN (fun l => decide (bit (nI dn) l = 1)) L = dn := by decide +kernel
  exact H L hL dn (lt_128 h hL) h
theorem or_bit2 {i a : Nat} {b : Int32} (hi : i < 7) (ha : a < 2 ^ i) (hb : b = 0 ∨ b = 1) : nI a ||| (b <<< (nI i &&& 31)) = nI (a + (if b = 1 then 2 ^ i else 0)) := by
  rcases hb with rfl | rfl
  · rw [if_neg (by decide)]
    have H : ∀ i, i < 7 → (0 : Int32) <<< (nI i &&& 31) = 0 := by decide +kernel
    rw [H i hi, or_0 (lt_128 ha (by omega))]
    rfl
  · rw [if_pos rfl]; exact or_bit hi ha
theorem B_dn_loop {σ : MT} {L dn : Nat} (hL : L ≤ 7) (hd : dn < 128) (hr : ∀ l, l < 7 → σ.1 43 (95 + l) = bit (nI dn) l) (h7 : σ.1 38 7 = nI L) : ∀ (d i fuel : Nat), i + d = L → d < fuel → f_M_downs_4 fuel (nI (setN (fun l => decide (bit (nI dn) l = 1)) i)) (nI i) σ = some (nI (setN (fun l => decide (bit (nI dn) l = 1)) L))
  | 0, i, fuel, hi, hf => by
    obtain ⟨f, rfl⟩ : ∃ f, fuel = f + 1 := ⟨fuel - 1, by omega⟩
    have : i = L := by omega
    subst this
    rw [f_M_downs_4, h7, if_pos ((nIle (by omega) (by omega)).mpr (Nat.le_refl _))]
  | d + 1, i, fuel, hi, hf => by
    obtain ⟨f, rfl⟩ : ∃ f, fuel = f + 1 := ⟨fuel - 1, by omega⟩
    have ih := B_dn_loop hL hd hr h7 d (i + 1) f (by omega) (by omega)
    rw [f_M_downs_4, h7, if_neg (fun q => absurd ((nIle (by omega) (by omega)).mp q) (by omega))]
    simp (disch := omega) only [ad19, ad3, ad95, nIp_0, nIp_1, nIp_2, nIp_3, nIp_4, nIp_5, nIp_6, nIp_7, nI_add, nIc, inb_n, eq_self, if_true]
    rw [hr i (by omega), or_bit2 (by omega) (setN_b _ _) (bit01 hd (by omega))]
    by_cases hb : bit (nI dn) i = 1
    · rw [if_pos hb]
      rw [setN_1 (by simpa using hb)] at ih
      exact ih
    · rw [if_neg hb, Nat.add_zero]
      rw [setN_0 (by simpa using hb)] at ih
      exact ih
theorem B_downs {σ : MT} {L dn : Nat} (hL : L ≤ 7) (hd : dn < 2 ^ L) (hr : ∀ l, l < 7 → σ.1 43 (95 + l) = bit (nI dn) l) (h7 : σ.1 38 7 = nI L) : f_M_downs σ = some (nI dn) := by
  have := B_dn_loop hL (lt_128 hd hL) hr h7 L 0 1100 (by omega) (by omega)
  rw [setN_dn hL hd] at this
  exact this
theorem v_isDown {σ : MT} {k l dn : Nat} (h : σ.1 k 1 = nI dn) (hl : l < 7) (hd : dn < 128) : f_St_isDown k (nI l) σ = some (bit (nI dn) l) := by
  unfold f_St_isDown
  rw [h, l7 hl]
  have hb := bit01 hd hl
  unfold bit at hb ⊢
  rcases hb with hb | hb
  · rw [hb, if_neg (by decide)]
  · rw [hb, if_pos rfl]
