/-! WELL-FORMED NODES stay so -/
theorem IR_nxt {x : Int32} (h : IR 0 64 x) : IR 0 64 (nxt x) := by
  obtain ⟨h1, h2⟩ := h
  have e2 : (x + 1).toInt = x.toInt + 1 := by
    rw [Int32.toInt_add]; exact z_bm (by show _ ≤ x.toInt + 1; omega) (by show x.toInt + 1 < _; omega)
  obtain ⟨d1, d2, d3⟩ := z_divI (x := x + 1) (y := 64) (by decide)
  unfold nxt IR
  rw [d3, e2, show (64 : Int32).toInt = 64 from rfl, Int.tdiv_eq_ediv_of_nonneg (by omega)]
  omega
theorem wfN.grow {N : Nat} {nd : ND} (h : wfN N nd) : wfN N (growN nd) := by
  obtain ⟨h0, h1, h2, h3, h5, h6⟩ := h
  refine ⟨by simpa [growN] using h0, by simpa [growN] using h1, by simpa [growN] using h2, by simpa [growN] using h3, ?_, fun s hs => ?_⟩
  · show IR 0 10 (if nd.1 5 ≤ 0 then nd.1 5 else nd.1 5 - 1)
    by_cases hg : nd.1 5 ≤ 0
    · rw [if_pos hg]; exact h5
    · rw [if_neg hg]
      obtain ⟨a, b⟩ := h5
      have : ¬ (nd.1 5).toInt ≤ 0 := fun q => hg (Int32.le_iff_toInt_le.mpr (by rw [Int32.toInt_zero]; exact q))
      have e : (nd.1 5 - 1).toInt = (nd.1 5).toInt - 1 := by
        rw [Int32.toInt_sub]; exact z_bm (by show _ ≤ (nd.1 5).toInt - 1; omega) (by show (nd.1 5).toInt - 1 < _; omega)
      unfold IR
      rw [e]; omega
  · have hs' : s ∈ nd.2.filterMap gS := hs
    rw [List.mem_filterMap] at hs'
    obtain ⟨t, ht, hg⟩ := hs'
    obtain ⟨a, b⟩ := h6 t ht
    unfold gS at hg
    by_cases h9 : (9 : Int32) ≤ t.2.2
    · rw [if_pos h9] at hg; cases hg
    · rw [if_neg h9] at hg
      cases hg
      have : ¬ 9 ≤ t.2.2.toInt := fun q => h9 (Int32.le_iff_toInt_le.mpr q)
      have e : (t.2.2 + 1).toInt = t.2.2.toInt + 1 := by
        rw [Int32.toInt_add]; exact z_bm (by show _ ≤ t.2.2.toInt + 1; omega) (by show t.2.2.toInt + 1 < _; omega)
      show IR 0 10 (t.2.2 + 1)
      unfold IR
      rw [e]; omega
theorem wfN.lead {N i : Nat} {pat shy : Int32} {nd : ND} (h : wfN N nd) (hi : i < N) (hs : IR 0 10 shy) : wfN N (leadN (nI i) pat shy nd) := by
  obtain ⟨h0, h1, h2, h3, h5, h6⟩ := h
  unfold leadN
  by_cases hr : nd.1 2 = nI i
  · rw [if_pos hr]
    exact ⟨by simpa using h0, by simpa using h1, by simpa using h2, by simpa using IR_nxt h3, by simpa using h5, h6⟩
  · rw [if_neg hr]
    by_cases hp : nd.1 4 ≤ pat
    · rw [if_pos hp]; exact ⟨h0, h1, h2, h3, h5, h6⟩
    · rw [if_neg hp]
      exact ⟨by simpa using h0, by simpa using h1, Or.inr ⟨i, hi, by simp⟩, by simpa using IR_nxt h3, by simpa using hs, fun s hs => by simp at hs⟩
theorem wfN.store {N : Nat} {m c g : Int32} {nd : ND} (h : wfN N nd) (hm : IR 0 64 m) : wfN N (storeN m c g nd) := by
  obtain ⟨h0, h1, h2, h3, h5, h6⟩ := h
  refine ⟨by simpa [storeN] using h0, by simpa [storeN] using h1, by simpa [storeN] using h2, by simpa [storeN] using hm, by simpa [storeN] using h5, fun s hs => ?_⟩
  have hs' : s ∈ (if nd.2.length < 4 then nd.2 else nd.2.drop 1) ++ [(c, g, 0)] := hs
  rw [List.mem_append] at hs'
  rcases hs' with q | q
  · apply h6
    split at q
    · exact q
    · exact List.mem_of_mem_drop q
  · simp at q
    rw [q]
    exact (⟨by decide, by decide⟩ : IR 0 10 (0 : Int32))
def wfQ (N : Nat) (q : Int32 × Int32 × Int32) : Prop := (q.1 = -9 ∨ ∃ r, r < N ∧ q.1 = nI r) ∧ IR 0 64 q.2.1
theorem wfN.hear {N i : Nat} {q : Int32 × Int32 × Int32} {c : Int32} {nd : ND} (h : wfN N nd) (hq : wfQ N q) : wfN N (hearN (nI i) q.1 q.2.1 q.2.2 c nd) := by
  unfold hearN
  split
  · refine wfN.store ?_ hq.2
    obtain ⟨h0, h1, h2, h3, h5, h6⟩ := h
    exact ⟨by simpa using h0, by simpa using h1, by simpa using hq.1, by simpa using h3, by simpa using h5, fun s hs => by simp at hs⟩
  · split
    · exact h.store hq.2
    · exact h
theorem wfN.msg {N i : Nat} {t s : Int32} {nd : ND} (h : wfN N nd) {q : Int32 × Int32 × Int32} (hq : msgN i t s nd = some q) : wfQ N q := by
  unfold msgN at hq
  split at hq
  · cases hq
    exact ⟨h.2.2.1, h.2.2.2.1⟩
  · cases hq
theorem wfN_node1 {N i : Nat} {pat shy : Int32} {nd : ND} (h : wfN N nd) (hi : i < N) (hs : IR 0 10 shy) : wfN N (node1 i pat shy nd) := by
  unfold node1
  split
  · exact h
  · exact h.grow.lead hi hs
theorem wfN.step {N to f : Nat} {t s : Int32} {ms : MS} {adj : Nat → Nat → Bool} {nd : ND} (h : wfN N nd) (hm : ∀ q, ms f = some q → wfQ N q) : wfN N (hStep t s to ms adj f nd) := by
  unfold hStep
  split
  · exact h
  · next q hq =>
    split
    · exact h.hear (hm q hq)
    · exact h
theorem hearN_0 (self r m g c : Int32) (nd : ND) : (hearN self r m g c nd).1 0 = nd.1 0 := by
  unfold hearN storeN
  split
  · simp
  · split
    · simp
    · rfl
theorem hStep_0 (t s : Int32) (to : Nat) (ms : MS) (adj : Nat → Nat → Bool) (f : Nat) (nd : ND) : (hStep t s to ms adj f nd).1 0 = nd.1 0 := by
  unfold hStep
  split
  · rfl
  · split
    · exact hearN_0 _ _ _ _ _ _
    · rfl
theorem wfN_itr {N to : Nat} {t s : Int32} {ms : MS} {adj : Nat → Nat → Bool} (hm : ∀ f, f < N → ∀ q, ms f = some q → wfQ N q) : ∀ (d i : Nat) (nd : ND), i + d = N → wfN N nd → wfN N (itr (hStep t s to ms adj) d i nd)
  | 0, _, _, _, h => h
  | d + 1, i, nd, hi, h => wfN_itr (t := t) (s := s) (adj := adj) hm d (i + 1) _ (by omega) (h.step (hm i (by omega)))
theorem wfN_node2 {N to : Nat} {t : Int32} {st : Nat → Int32} {ms : MS} {adj : Nat → Nat → Bool} {nd : ND} (h : wfN N nd) (hm : ∀ f, f < N → ∀ q, ms f = some q → wfQ N q) : wfN N (node2 t st N ms adj to nd) := by
  unfold node2
  split
  · exact h
  · exact wfN_itr hm N 0 nd (by omega) h
/-- a state whose nodes are well formed -/
def wfS (N : Nat) (sv : SV) : Prop := ∀ i, i < N → wfN N (sv.2.2 i)
theorem wfS_msgs {N : Nat} {t pat shy : Int32} {st : Nat → Int32} {nodes : Nat → ND} (h : ∀ i, i < N → wfN N (nodes i)) (hs : IR 0 10 shy) : ∀ f, f < N → ∀ q, msgs t st (nodes1 pat shy nodes) f = some q → wfQ N q := fun f hf q hq => wfN.msg (wfN_node1 (pat := pat) (h f hf) hf hs) hq
theorem wfS.pass {N : Nat} {unit pat shy : Int32} {st : Nat → Int32} {adj : Nat → Nat → Bool} {sv : SV} (h : wfS N sv) (hs : IR 0 10 shy) : wfS N (passM unit pat shy N st adj sv) := fun i hi => wfN_node2 (wfN_node1 (pat := pat) (h i hi) hi hs) (wfS_msgs h hs)
