/-! CHANGES of a state by hand: power, drift, a link -/
theorem hR.upd {σ τ : MT} {c N i : Nat} {S : Nat → Prop} {sv : SV} {nd : ND} (h : hR σ c N sv) (hi : i < N) (hN : N ≤ 5) (hb : hB τ c (19 * i) nd) (e : EB c (PB (19 * i)) S σ τ) : hR τ c N (updV2 sv i nd) := by
  obtain ⟨h1, h2, h3⟩ := h
  refine ⟨(e.1 102 (by unfold PB; omega)).trans h1, fun l hl => (e.1 (95 + l) (by unfold PB; omega)).trans (h2 l hl), fun j hj => ?_⟩
  by_cases hji : j = i
  · subst hji
    have e1 : (updV2 sv j nd).2.2 j = nd := by unfold updV2; simp
    rw [e1]; exact hb
  · have e1 : (updV2 sv i nd).2.2 j = sv.2.2 j := by unfold updV2; simp [hji]
    rw [e1]
    exact (h3 j hj).eb e (fun b h1 h2 => by unfold PB; omega)
theorem okS.upd {p : PLN} {T i : Nat} {sv : SV} {nd : ND} (h : okS p T sv) (hw : wfN (pN p) nd) : okS p T (updV2 sv i nd) := by
  obtain ⟨a, b, c⟩ := h
  refine ⟨fun j hj => ?_, b, c⟩
  by_cases hji : j = i
  · subst hji
    have e1 : (updV2 sv j nd).2.2 j = nd := by unfold updV2; simp
    rw [e1]; exact hw
  · have e1 : (updV2 sv i nd).2.2 j = sv.2.2 j := by unfold updV2; simp [hji]
    rw [e1]; exact a j hj
def powN (nd : ND) : ND := if nd.1 0 = 0 then (fun j => if j = 0 then 1 else if j = 1 then nd.1 1 else if j = 2 then -9 else 0, []) else (fun j => if j = 0 then 0 else nd.1 j, nd.2)
def drN (nd : ND) (d : Int32) : ND := (fun j => if j = 1 then d else nd.1 j, nd.2)
theorem powN_w {N : Nat} {nd : ND} (h : wfN N nd) : wfN N (powN nd) := by
  obtain ⟨h0, h1, h2, h3, h5, h6⟩ := h
  unfold powN
  by_cases q : nd.1 0 = 0
  · rw [if_pos q]
    exact ⟨Or.inr rfl, by simpa using h1, Or.inl rfl, (⟨by decide, by decide⟩ : IR 0 64 (0 : Int32)), (⟨by decide, by decide⟩ : IR 0 10 (0 : Int32)), fun s hs => by simp at hs⟩
  · rw [if_neg q]
    exact ⟨Or.inl rfl, by simpa using h1, by simpa using h2, by simpa using h3, by simpa using h5, h6⟩
theorem drN_w {N : Nat} {nd : ND} {d : Int32} (h : wfN N nd) (hd : IR (-4) 6 d) : wfN N (drN nd d) := by
  obtain ⟨h0, h1, h2, h3, h5, h6⟩ := h
  exact ⟨by simpa [drN] using h0, by simpa [drN] using hd, by simpa [drN] using h2, by simpa [drN] using h3, by simpa [drN] using h5, h6⟩
theorem A_pow {σ : MT} {n : Nat} {nd : ND} (h : hN σ n nd) : ∃ τ, f_Nd_flipPower n σ = some τ ∧ hN τ n (powN nd) ∧ EO (fun c => c = n) σ τ := by
  have a0 := h.1 0 (by decide)
  unfold f_Nd_flipPower f_Nd_flipPower_13 f_Nd_forget f_Nd_forget_21 powN
  rw [a0]
  by_cases q : nd.1 0 = 0
  · rw [if_pos q, if_pos q, if_pos (by decide), show (sI σ n 0 1).1 n 0 = 1 by simp [sI_r], if_neg (by decide), Option.bind_some]
    refine ⟨_, rfl, ⟨?_, ?_, by simp, fun j s hs => by simp at hs⟩, ((((((EO.rf (P := fun c => c = n)).i rfl).i rfl).i rfl).i rfl).i rfl).i rfl⟩
    · have a1 := h.1 1 (by decide)
      refine lt6 ?_ ?_ ?_ ?_ ?_ ?_ <;> simp [sI_r, a1]
    · simp [sI_r]; rfl
  · rw [if_neg q, if_neg q, if_pos (by decide), show (sI σ n 0 0).1 n 0 = 0 by simp [sI_r], if_pos rfl]
    obtain ⟨h1, h2, h3, h4⟩ := h
    refine ⟨_, rfl, ⟨fun j hj => ?_, ?_, h3, fun j s hs => ?_⟩, EO.rf.i rfl⟩
    · rw [sI_r]
      by_cases hj0 : j = 0
      · subst hj0; simp
      · rw [if_neg (fun z => hj0 z.2)]
        show _ = (if j = 0 then 0 else nd.1 j)
        rw [if_neg hj0]; exact h1 j hj
    · rw [sI_r, if_neg (by omega)]; exact h2
    · rw [sI_n (by omega), sI_n (by omega), sI_n (by omega)]; exact h4 j s hs
theorem B_first {σ : MT} {c i : Nat} (hc : c = 43 ∨ c = 44) (hi : i < 5) : ∃ τ, f_M_first c (nI i) σ = some τ ∧ τ.1 c (19 * i) = 1 ∧ τ.1 c (19 * i + 1) = σ.1 c (19 * i + 1) ∧ τ.1 c (19 * i + 2) = -9 ∧ τ.1 c (19 * i + 3) = 0 ∧ τ.1 c (19 * i + 4) = 0 ∧ τ.1 c (19 * i + 5) = 0 ∧ τ.1 c (19 * i + 6) = 0 ∧ EB c (PB (19 * i)) S0 σ τ := by
  unfold f_M_first f_M_first_18 f_M_first_30 f_M_first_43
  simp (disch := omega) only [ad19, ad3, ad95, nIp_0, nIp_1, nIp_2, nIp_3, nIp_4, nIp_5, nIp_6, nIp_7, nI_add, nIc, inb_n, eq_self, if_true]
  refine ⟨_, rfl, by simp [sI_r], by simp [sI_r], by simp [sI_r], by simp [sI_r], by simp [sI_r], by simp [sI_r], by simp [sI_r], ?_⟩
  exact (((((EB.rf.i ⟨by omega, by omega⟩).i ⟨by omega, by omega⟩).i ⟨by omega, by omega⟩).i ⟨by omega, by omega⟩).i ⟨by omega, by omega⟩).i ⟨by omega, by omega⟩
theorem B_pow {σ : MT} {c N i : Nat} {sv : SV} (h : hR σ c N sv) (hc : c = 43 ∨ c = 44) (hi : i < N) (hN : N ≤ 5) (hw : wfS N sv) : ∃ τ, f_M_powerOn c (nI i) σ = some τ ∧ hR τ c N (updV2 sv i (powN (sv.2.2 i))) ∧ EO (fun a => a = c) σ τ := by
  have hb := h.2.2 i hi
  obtain ⟨f1, f2, f3, f4, f5, f6, f0⟩ := hb.f
  have key : ∀ τ, hB τ c (19 * i) (powN (sv.2.2 i)) → EB c (PB (19 * i)) S0 σ τ → hR τ c N (updV2 sv i (powN (sv.2.2 i))) ∧ EO (fun a => a = c) σ τ := fun τ g1 g2 => ⟨h.upd hi hN g1 g2, fun a ha => g2.2.1 a ha (fun z => z), g2.2.2⟩
  unfold f_M_powerOn
  rw [v_isOn h hi hN hw, Option.bind_some]
  by_cases q : (sv.2.2 i).1 0 = 0
  · rw [if_pos q, if_pos rfl]
    obtain ⟨τ, q1, g0, g1, g2, g3, g4, g5, g6, ge⟩ := B_first (σ := σ) (c := c) (i := i) hc (by omega)
    rw [q1, Option.bind_some]
    refine ⟨τ, rfl, key τ ?_ ge⟩
    unfold powN
    rw [if_pos q]
    refine ⟨?_, by rw [g6]; rfl, by simp, fun j s hs => by simp at hs⟩
    refine lt6 ?_ ?_ ?_ ?_ ?_ ?_
    · rw [Nat.add_zero, g0]; simp
    · rw [g1, f1]; simp
    · rw [g2]; simp
    · rw [g3]; simp
    · rw [g4]; simp
    · rw [g5]; simp
  · rw [if_neg q, if_neg (by decide)]
    simp (disch := omega) only [ad19, ad3, ad95, nIp_0, nIp_1, nIp_2, nIp_3, nIp_4, nIp_5, nIp_6, nIp_7, nI_add, nIc, inb_n, eq_self, if_true]
    refine ⟨_, rfl, key _ ?_ (EB.rf.i ⟨by omega, by omega⟩)⟩
    unfold powN
    rw [if_neg q]
    obtain ⟨h1, h2, h3, h4⟩ := hb
    refine ⟨fun j hj => ?_, ?_, h3, fun j s hs => ?_⟩
    · rw [sI_r]
      by_cases hj0 : j = 0
      · subst hj0; simp
      · rw [if_neg (fun z => hj0 (by omega))]
        show _ = (if j = 0 then 0 else (sv.2.2 i).1 j)
        rw [if_neg hj0]; exact h1 j hj
    · rw [sI_r, if_neg (by omega)]; exact h2
    · rw [sI_r, if_neg (by omega), sI_r, if_neg (by omega), sI_r, if_neg (by omega)]; exact h4 j s hs
theorem A_dr {σ : MT} {n : Nat} {nd : ND} (h : hN σ n nd) (d : Int32) : hN (sI σ n 1 d) n (drN nd d) := by
  obtain ⟨h1, h2, h3, h4⟩ := h
  refine ⟨fun j hj => ?_, ?_, h3, fun j s hs => ?_⟩
  · rw [sI_r]
    by_cases hj0 : j = 1
    · subst hj0; simp [drN]
    · rw [if_neg (fun z => hj0 z.2)]
      show _ = (if j = 1 then d else nd.1 j)
      rw [if_neg hj0]; exact h1 j hj
  · rw [sI_r, if_neg (by omega)]; exact h2
  · rw [sI_n (by omega), sI_n (by omega), sI_n (by omega)]; exact h4 j s hs
theorem B_dr {σ : MT} {c o : Nat} {nd : ND} (h : hB σ c o nd) (d : Int32) : hB (sI σ c (o + 1) d) c o (drN nd d) := by
  obtain ⟨h1, h2, h3, h4⟩ := h
  refine ⟨fun j hj => ?_, ?_, h3, fun j s hs => ?_⟩
  · rw [sI_r]
    by_cases hj0 : j = 1
    · subst hj0; simp [drN]
    · rw [if_neg (fun z => hj0 (by omega))]
      show _ = (if j = 1 then d else nd.1 j)
      rw [if_neg hj0]; exact h1 j hj
  · rw [sI_r, if_neg (by omega)]; exact h2
  · rw [sI_r, if_neg (by omega), sI_r, if_neg (by omega), sI_r, if_neg (by omega)]; exact h4 j s hs
-- a link
def flS (sv : SV) (l : Nat) : SV := (sv.1, sv.2.1 ^^^ ((1 : Int32) <<< (nI l &&& 31)), sv.2.2)
theorem okS.fl {p : PLN} {T l : Nat} {sv : SV} (hp : okP p) (h : okS p T sv) (hl : l < pL p) : okS p T (flS sv l) := by
  have hL : pL p ≤ 7 := hp.2.1
  obtain ⟨a, b, dn, c, d⟩ := h
  refine ⟨a, b, dn ^^^ 2 ^ l, ?_, ?_⟩
  · show sv.2.1 ^^^ ((1 : Int32) <<< (nI l &&& 31)) = _
    rw [c, (bit_flip (m := 0) (lt_128 d hL) (show l < 7 by omega) (by omega)).1]
  · exact Nat.xor_lt_two_pow d (Nat.pow_lt_pow_right (by omega) hl)
theorem A_flip {σ : MT} {k N l : Nat} {sv : SV} (h : hA σ k N sv) (hN : N ≤ 5) : ∃ τ, f_St_flipLink k (nI l) σ = some τ ∧ hA τ k N (flS sv l) ∧ EO (fun c => c = k) σ τ := by
  unfold f_St_flipLink
  obtain ⟨a, b, c, d⟩ := h
  rw [b]
  refine ⟨_, rfl, ⟨by rw [sI_r, if_neg (by omega)]; exact a, by simp [sI_r, flS], fun i hi => (c i hi).eo (P := fun c => c = k) (EO.rf.i rfl) (by omega) (by omega) (by omega) (by omega), fun i h1 h2 => by rw [sI_n (by omega)]; exact d i h1 h2⟩, EO.rf.i rfl⟩
theorem B_flip {σ : MT} {c N l dn : Nat} {sv : SV} (h : hR σ c N sv) (hN : N ≤ 5) (hl : l < 7) (hd : sv.2.1 = nI dn) (hd2 : dn < 128) : hR (sI σ c (95 + l) (1 - σ.1 c (95 + l))) c N (flS sv l) ∧ (sI σ c (95 + l) (1 - σ.1 c (95 + l))).1 c (95 + l) = bit (flS sv l).2.1 l := by
  obtain ⟨a, b, d⟩ := h
  have b' : ∀ l, l < 7 → σ.1 c (95 + l) = bit sv.2.1 l := b
  have e : ∀ m, m < 7 → bit (flS sv l).2.1 m = if m = l then 1 - bit (nI dn) l else bit (nI dn) m := fun m hm => by
    obtain ⟨q1, q2⟩ := bit_flip (d := dn) (l := l) (m := m) hd2 hl hm
    show bit (sv.2.1 ^^^ ((1 : Int32) <<< (nI l &&& 31))) m = _
    rw [hd, q1, q2]
  have hall : ∀ m, m < 7 → (sI σ c (95 + l) (1 - σ.1 c (95 + l))).1 c (95 + m) = bit (flS sv l).2.1 m := fun m hm => by
    rw [e m hm, sI_r]
    by_cases q : m = l
    · subst q; rw [if_pos ⟨rfl, rfl⟩, if_pos rfl, b' m hm, hd]
    · rw [if_neg (fun z => q (by omega)), if_neg q, b' m hm, hd]
  refine ⟨⟨by rw [sI_r, if_neg (by omega)]; exact a, hall, fun i hi => ?_⟩, hall l hl⟩
  exact (d i hi).eb (P := fun b => b = 95 + l) (S := S0) (EB.rf.i rfl) (fun b h1 h2 => by omega)
