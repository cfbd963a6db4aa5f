/-! THE PLAN, on both sides -/
abbrev PLN : Type := (Nat → Int32) × Nat × Nat × (Nat → Int32) × (Nat → Nat × Nat)
abbrev pN (p : PLN) : Nat := p.2.1
abbrev pL (p : PLN) : Nat := p.2.2.1
abbrev pS (p : PLN) : Nat → Int32 := p.2.2.2.1
abbrev pE (p : PLN) : Nat → Nat × Nat := p.2.2.2.2
def isP (e : Nat × Nat) (a b : Nat) : Bool := decide (e.1 = a) && decide (e.2 = b) || decide (e.1 = b) && decide (e.2 = a)
theorem isP_s (e : Nat × Nat) (a b : Nat) : isP e a b = isP e b a := Bool.or_comm _ _
theorem isP_t {e : Nat × Nat} {a b : Nat} : isP e a b = true ↔ (e.1 = a ∧ e.2 = b) ∨ (e.1 = b ∧ e.2 = a) := by
  unfold isP
  simp
def okP (p : PLN) : Prop := pN p ≤ 5 ∧ pL p ≤ 7 ∧ IR 8 33 (p.1 0) ∧ IR 1 10 (p.1 1) ∧ IR 0 10 (p.1 2) ∧ (∀ i, i < pN p → IR 0 64 (pS p i)) ∧ (∀ l, l < pL p → (pE p l).1 < pN p ∧ (pE p l).2 < pN p ∧ (pE p l).1 ≠ (pE p l).2) ∧ ∀ l, l < pL p → ∀ m, m < pL p → ∀ a b, isP (pE p l) a b = true → isP (pE p m) a b = true → l = m
def pA (σ : MT) (c : Nat) (p : PLN) : Prop := (σ.1 c 0 = p.1 0 ∧ σ.1 c 1 = p.1 1 ∧ σ.1 c 2 = p.1 2) ∧ σ.1 c 3 = nI (pN p) ∧ σ.1 c 4 = nI (pL p) ∧ (∀ i, i < pN p → σ.1 (c + 2) i = pS p i) ∧ (∀ l, l < pL p → σ.1 (c + 3) l = nI (min (pE p l).1 (pE p l).2) ∧ σ.1 (c + 4) l = nI (max (pE p l).1 (pE p l).2)) ∧ ∀ a, a < 5 → a < pN p → ∀ b, b < 5 → b < pN p → (∀ l, l < pL p → isP (pE p l) a b = true → σ.1 (c + 5 + 1 + a) b = nI l) ∧ ((∀ l, l < pL p → isP (pE p l) a b = false) → σ.1 (c + 5 + 1 + a) b = -9)
def pB (σ : MT) (p : PLN) : Prop := (σ.1 38 2 = p.1 0 ∧ σ.1 38 3 = p.1 1 ∧ σ.1 38 4 = p.1 2) ∧ σ.1 38 5 = nI (pN p) ∧ σ.1 38 7 = nI (pL p) ∧ (∀ i, i < pN p → σ.1 40 i = pS p i) ∧ ∀ l, l < pL p → σ.1 41 l = nI (pE p l).1 ∧ σ.1 42 l = nI (pE p l).2
theorem pA.eo {P : Nat → Prop} {σ τ : MT} {c : Nat} {p : PLN} (h : pA σ c p) (e : EO P σ τ) (hp : ∀ a, c ≤ a → a < c + 11 → ¬ P a) : pA τ c p := by
  obtain ⟨h1, h2, h3, h4, h5, h6⟩ := h
  have g : ∀ a, c ≤ a → a < c + 11 → τ.1 a = σ.1 a := fun a h1 h2 => e.1 a (hp a h1 h2)
  refine ⟨by rw [g c (by omega) (by omega)]; exact h1, by rw [g c (by omega) (by omega)]; exact h2, by rw [g c (by omega) (by omega)]; exact h3, fun i hi => by rw [g (c + 2) (by omega) (by omega)]; exact h4 i hi, fun l hl => by rw [g (c + 3) (by omega) (by omega), g (c + 4) (by omega) (by omega)]; exact h5 l hl, fun a ha han b hb hbn => ?_⟩
  rw [g (c + 5 + 1 + a) (by omega) (by omega)]
  exact h6 a ha han b hb hbn
theorem pB.e {σ τ : MT} {p : PLN} (h : pB σ p) (e : ∀ j, 2 ≤ j → j < 8 → τ.1 38 j = σ.1 38 j) (e1 : τ.1 40 = σ.1 40) (e2 : τ.1 41 = σ.1 41) (e3 : τ.1 42 = σ.1 42) : pB τ p := by
  unfold pB
  rw [e 2 (by omega) (by omega), e 3 (by omega) (by omega), e 4 (by omega) (by omega), e 5 (by omega) (by omega), e 7 (by omega) (by omega), e1, e2, e3]
  exact h
theorem pB.eo {P : Nat → Prop} {σ τ : MT} {p : PLN} (h : pB σ p) (e : EO P σ τ) (h38 : ¬ P 38) (h40 : ¬ P 40) (h41 : ¬ P 41) (h42 : ¬ P 42) : pB τ p := h.e (fun j _ _ => by rw [e.1 38 h38]) (e.1 40 h40) (e.1 41 h41) (e.1 42 h42)
-- bits of a set of links
def bit (d : Int32) (l : Nat) : Int32 := (d >>> nI l) &&& 1
theorem l7 {l : Nat} (h : l < 7) : nI l &&& 31 = nI l := by
  have H : ∀ l, l < 7 → nI l &&& 31 = nI l := by decide +kernel
  exact H l h
theorem bit01 {d l : Nat} (hd : d < 128) (hl : l < 7) : bit (nI d) l = 0 ∨ bit (nI d) l = 1 := by
  have H : ∀ d, d < 128 → ∀ l, l < 7 → bit (nI d) l = 0 ∨ bit (nI d) l = 1 := by decide +kernel
  exact H d hd l hl
theorem bit_flip {d l m : Nat} (hd : d < 128) (hl : l < 7) (hm : m < 7) : (nI d) ^^^ ((1 : Int32) <<< (nI l &&& 31)) = nI (d ^^^ (2 ^ l)) ∧ bit (nI (d ^^^ (2 ^ l))) m = if m = l then 1 - bit (nI d) l else bit (nI d) m := by
  have H : ∀ d, d < 128 → ∀ l, l < 7 → ∀ m, m < 7 → (nI d) ^^^ ((1 : Int32) <<< (nI l &&& 31)) = nI (d ^^^ (2 ^ l)) ∧ bit (nI (d ^^^ (2 ^ l))) m = if m = l then 1 - bit (nI d) l else bit (nI d) m := by decide +kernel
  exact H d hd l hl m hm
theorem anyR_t {p : Nat → Bool} : ∀ (d i : Nat) (acc : Bool), anyR p d i acc = true ↔ acc = true ∨ ∃ j, i ≤ j ∧ j < i + d ∧ p j = true
  | 0, i, acc => by
    show acc = true ↔ _
    exact ⟨Or.inl, fun h => h.elim id (fun ⟨j, h1, h2, _⟩ => absurd h2 (by omega))⟩
  | d + 1, i, acc => by
    show anyR p d (i + 1) (acc || p i) = true ↔ _
    rw [anyR_t d (i + 1)]
    constructor
    · intro h
      rcases h with h | ⟨j, h1, h2, h3⟩
      · rw [Bool.or_eq_true] at h
        rcases h with h | h
        · exact Or.inl h
        · exact Or.inr ⟨i, by omega, by omega, h⟩
      · exact Or.inr ⟨j, by omega, by omega, h3⟩
    · intro h
      rcases h with h | ⟨j, h1, h2, h3⟩
      · exact Or.inl (by rw [h]; rfl)
      · by_cases hj : j = i
        · subst hj; exact Or.inl (by rw [h3]; cases acc <;> rfl)
        · exact Or.inr ⟨j, by omega, by omega, h3⟩
/-- whether a message from f comes to t -/
def adjP (p : PLN) (d : Int32) (f t : Nat) : Bool := anyR (fun l => isP (pE p l) t f && decide (bit d l = 0)) (pL p) 0 false
theorem adjA_P {σ : MT} {k f t dn : Nat} {p : PLN} (hp : okP p) (h : pA σ 15 p) (hf : f < 5) (ht : t < 5) (hfN : f < pN p) (htN : t < pN p) (hk : σ.1 k 1 = nI dn) (hd : dn < 128) : adjA σ k f t = adjP p (nI dn) f t := by
  obtain ⟨-, -, -, -, -, h6⟩ := h
  obtain ⟨m1, m2⟩ := h6 f hf hfN t ht htN
  obtain ⟨-, hL, -, -, -, -, -, hu⟩ := hp
  unfold adjA adjP
  rw [hk]
  by_cases hx : ∃ l, l < pL p ∧ isP (pE p l) f t = true
  · obtain ⟨l, hl, hi⟩ := hx
    rw [show 20 + 1 + f = 15 + 5 + 1 + f by omega, m1 l hl hi, l7 (by omega)]
    have n9 : ¬ nI l = -9 := fun q => nI_9 (i := l) (by omega) q.symm
    have hb := bit01 (d := dn) (l := l) hd (by omega)
    unfold bit at hb
    rw [Bool.eq_iff_iff, anyR_t]
    constructor
    · intro q
      refine Or.inr ⟨l, by omega, by omega, ?_⟩
      rw [isP_s, hi]
      simp only [n9, decide_false, Bool.not_false, Bool.true_and, Bool.not_eq_true', decide_eq_false_iff_not] at q
      rcases hb with hb | hb
      · simp only [Bool.true_and, decide_eq_true_eq]; exact hb
      · exact absurd hb q
    · intro q
      rcases q with q | ⟨j, -, hj, hj2⟩
      · cases q
      · rw [Bool.and_eq_true, isP_s] at hj2
        have := hu l hl j (by omega) f t hi hj2.1
        subst this
        have q2 := of_decide_eq_true hj2.2
        unfold bit at q2
        simp only [n9, decide_false, Bool.not_false, Bool.true_and, Bool.not_eq_true', decide_eq_false_iff_not]
        rw [q2]
        decide
  · have hn : ∀ l, l < pL p → isP (pE p l) f t = false := fun l hl => by
      cases hq : isP (pE p l) f t with
      | false => rfl
      | true => exact absurd ⟨l, hl, hq⟩ hx
    rw [show 20 + 1 + f = 15 + 5 + 1 + f by omega, m2 hn, Bool.eq_iff_iff, anyR_t]
    constructor
    · intro q; simp at q
    · intro q
      rcases q with q | ⟨j, -, hj, hj2⟩
      · cases q
      · rw [Bool.and_eq_true, isP_s, hn j (by omega)] at hj2
        cases hj2.1
theorem adjB_P {σ : MT} {c f t : Nat} {d : Int32} {p : PLN} (hp : okP p) (h : pB σ p) (hf : f < 5) (ht : t < 5) (hr : ∀ l, l < 7 → σ.1 c (95 + l) = bit d l) : adjB σ c (pL p) f t = adjP p d f t := by
  obtain ⟨-, -, -, -, h5⟩ := h
  obtain ⟨hN, hL, -, -, -, -, he, -⟩ := hp
  unfold adjB adjP
  refine anyR_c (pL p) 0 false (fun l _ hl => ?_)
  obtain ⟨e1, e2⟩ := h5 l (by omega)
  obtain ⟨b1, b2, -⟩ := he l (by omega)
  have hN' : p.2.1 ≤ 5 := hN
  have b1' : (pE p l).1 < 5 := Nat.lt_of_lt_of_le b1 hN
  have b2' : (pE p l).2 < 5 := Nat.lt_of_lt_of_le b2 hN
  unfold bes isP
  rw [e1, e2, hr l (by omega)]
  simp only [nIeq (a := (pE p l).1) (b := t) (by omega) (by omega), nIeq (a := (pE p l).1) (b := f) (by omega) (by omega), nIeq (a := (pE p l).2) (b := t) (by omega) (by omega), nIeq (a := (pE p l).2) (b := f) (by omega) (by omega)]
-- a state in order; a period
def okS (p : PLN) (T : Nat) (sv : SV) : Prop := wfS (pN p) sv ∧ IR 0 (T + 1) sv.1 ∧ ∃ dn : Nat, sv.2.1 = nI dn ∧ dn < 2 ^ pL p
def pas (p : PLN) (sv : SV) : SV := passM (p.1 0) (p.1 1) (p.1 2) (pN p) (pS p) (adjP p sv.2.1) sv
theorem p128 {p : PLN} (hp : okP p) {dn : Nat} (h : dn < 2 ^ pL p) : dn < 128 := Nat.lt_of_lt_of_le h (Nat.pow_le_pow_right (n := 2) (by omega) hp.2.1)
theorem okS.t {p : PLN} {T : Nat} {sv : SV} (hp : okP p) (h : okS p T sv) (hT : T < 1000000000) : (sv.1 + p.1 0).toInt = sv.1.toInt + (p.1 0).toInt := by
  obtain ⟨-, ⟨a, b⟩, -⟩ := h
  obtain ⟨-, -, ⟨c, d⟩, -⟩ := hp
  rw [Int32.toInt_add]; exact z_bm (by omega) (by omega)
theorem ok_pas {p : PLN} {T : Nat} {sv : SV} (hp : okP p) (h : okS p T sv) (hT : T < 1000000000) : okS p (T + 32) (pas p sv) := by
  have e := h.t hp hT
  refine ⟨wfS.pass h.1 hp.2.2.2.2.1, ?_, h.2.2⟩
  obtain ⟨-, ⟨a, b⟩, -⟩ := h
  obtain ⟨-, -, ⟨c, d⟩, -⟩ := hp
  show IR 0 _ (sv.1 + p.1 0)
  unfold IR
  rw [e]
  constructor <;> omega
theorem hA.cg {σ : MT} {k N : Nat} {sv sw : SV} (h : hA σ k N sv) (h1 : sv.1 = sw.1) (h2 : sv.2.1 = sw.2.1) (h3 : ∀ i, i < N → sv.2.2 i = sw.2.2 i) : hA σ k N sw := by
  obtain ⟨a, b, c, d⟩ := h
  exact ⟨a.trans h1, b.trans h2, fun i hi => by rw [← h3 i hi]; exact c i hi, d⟩
theorem A_pass {σ : MT} {k T : Nat} {p : PLN} {sv : SV} (hp : okP p) (hpA : pA σ 15 p) (h : hA σ k (pN p) sv) (hk : 61 ≤ k) (ok : okS p T sv) (hT : T < 90000000) : ∃ τ, f_Fl_pass k σ = some τ ∧ hA τ k (pN p) (pas p sv) ∧ EO (PP k) σ τ := by
  obtain ⟨dn, hd1, hd2⟩ := ok.2.2
  have hN : pN p ≤ 5 := hp.1
  have e := ok.t hp (by omega)
  obtain ⟨τ, sv', q1, q2, q3, q4, q5, q6⟩ := v_passA (unit := p.1 0) (pat := p.1 1) (shy := p.1 2) (st := pS p) (adj := adjP p sv.2.1) h hk hN (by
    obtain ⟨-, ⟨a, b⟩, -⟩ := ok
    obtain ⟨-, -, ⟨c, d⟩, -⟩ := hp
    unfold IR; rw [e]; constructor <;> omega) (fun i hi => (ok.1 i hi).2.1) hp.2.2.2.2.2.1 hpA.1.1 hpA.1.2.1 hpA.1.2.2 hpA.2.1 hpA.2.2.2.1 (fun a b ha hb => by
      rw [hd1]
      exact (adjA_P hp hpA (by omega) (by omega) ha hb (by rw [h.2.1, hd1]) (p128 hp hd2)).symm)
  exact ⟨τ, q1, q2.cg q3 q4 q5, q6⟩
def SR (c : Nat) : Nat → Prop := fun a => a = c ∨ (51 ≤ a ∧ a < 56)
theorem B_pass {σ : MT} {c T : Nat} {p : PLN} {sv : SV} (hp : okP p) (hpB : pB σ p) (h : hR σ c (pN p) sv) (hc : c = 43 ∨ c = 44) (ok : okS p T sv) (hT : T < 90000000) : ∃ τ, f_M_goOn c σ = some τ ∧ hR τ c (pN p) (pas p sv) ∧ EO (SR c) σ τ := by
  have hN : pN p ≤ 5 := hp.1
  have e := ok.t hp (by omega)
  obtain ⟨τ, q1, q2, q3⟩ := v_goOnB (unit := p.1 0) (pat := p.1 1) (shy := p.1 2) (st := pS p) (adj := adjP p sv.2.1) h ok.1 hc hN hp.2.1 (by
    obtain ⟨-, ⟨a, b⟩, -⟩ := ok
    obtain ⟨-, -, ⟨c, d⟩, -⟩ := hp
    unfold IR; rw [e]; constructor <;> omega) hp.2.2.2.2.2.1 hp.2.2.2.2.1 hpB.1.1 hpB.1.2.1 hpB.1.2.2 hpB.2.1 hpB.2.2.1 hpB.2.2.2.1 (fun a b ha hb => (adjB_P hp hpB (by omega) (by omega) h.2.1).symm)
  exact ⟨τ, q1, q2, fun a ha => q3.2.1 a (fun q => ha (Or.inl q)) (fun q => ha (Or.inr q)), q3.2.2⟩
-- many periods
def rep {α : Type} (f : α → α) : Nat → α → α
  | 0, a => a
  | n + 1, a => rep f n (f a)
theorem ok_rep {p : PLN} (hp : okP p) : ∀ (n T : Nat) (sv : SV), okS p T sv → T + 32 * n < 1000000000 → okS p (T + 32 * n) (rep (pas p) n sv)
  | 0, T, sv, h, _ => by
    show okS p (T + 32 * 0) sv
    simpa using h
  | n + 1, T, sv, h, hT => by
    have := ok_rep hp n (T + 32) _ (ok_pas hp h (by omega)) (by omega)
    rw [show T + 32 * (n + 1) = T + 32 + 32 * n by omega]
    exact this
theorem A_many_loop {k m : Nat} {p : PLN} (hp : okP p) (hk : 61 ≤ k) (hm : m < 1000000) : ∀ (d i T fuel : Nat) (σ : MT) (sv : SV), i + d = m → d < fuel → pA σ 15 p → hA σ k (pN p) sv → okS p T sv → T + 32 * d < 90000000 → ∃ τ, f_Fl_passMany_2 fuel k (nI m) (nI i) σ = some τ ∧ hA τ k (pN p) (rep (pas p) d sv) ∧ EO (PP k) σ τ
  | 0, i, T, fuel, σ, sv, hi, hf, hpA, h, ok, hT => by
    obtain ⟨f, rfl⟩ : ∃ f, fuel = f + 1 := ⟨fuel - 1, by omega⟩
    refine ⟨σ, ?_, h, EO.rf⟩
    rw [f_Fl_passMany_2, if_pos ((nIle (by omega) (by omega)).mpr (by omega))]
  | d + 1, i, T, fuel, σ, sv, hi, hf, hpA, h, ok, hT => by
    obtain ⟨f, rfl⟩ : ∃ f, fuel = f + 1 := ⟨fuel - 1, by omega⟩
    rw [f_Fl_passMany_2, if_neg (fun q => absurd ((nIle (by omega) (by omega)).mp q) (by omega))]
    obtain ⟨τ, q1, q2, q3⟩ := A_pass hp hpA h hk ok (by omega)
    rw [q1, Option.bind_some, nIs]
    obtain ⟨τ2, p1, p2, p3⟩ := A_many_loop hp hk hm d (i + 1) (T + 32) f τ _ (by omega) (by omega) (hpA.eo q3 (fun a h1 h2 => by unfold PP; omega)) q2 (ok_pas hp ok (by omega)) (by omega)
    exact ⟨τ2, p1, p2, q3.tr p3⟩
theorem A_many {σ : MT} {k m T : Nat} {p : PLN} {sv : SV} (hp : okP p) (hpA : pA σ 15 p) (h : hA σ k (pN p) sv) (hk : 61 ≤ k) (ok : okS p T sv) (hm : m < 1000) (hT : T < 80000000) : ∃ τ, f_Fl_passMany k (nI m) σ = some τ ∧ hA τ k (pN p) (rep (pas p) m sv) ∧ EO (PP k) σ τ := A_many_loop hp hk (by omega) m 0 T 1100 σ sv (by omega) (by omega) hpA h ok (by omega)
theorem B_many_loop {m : Nat} {p : PLN} (hp : okP p) (hm : m < 1000000) : ∀ (d i T fuel : Nat) (σ : MT) (sv : SV), i + d = m → d < fuel → pB σ p → hR σ 44 (pN p) sv → okS p T sv → T + 32 * d < 90000000 → ∃ τ, f_M_tryPeriods_2 fuel (nI m) (nI i) σ = some τ ∧ hR τ 44 (pN p) (rep (pas p) d sv) ∧ EO (SR 44) σ τ
  | 0, i, T, fuel, σ, sv, hi, hf, hpA, h, ok, hT => by
    obtain ⟨f, rfl⟩ : ∃ f, fuel = f + 1 := ⟨fuel - 1, by omega⟩
    refine ⟨σ, ?_, h, EO.rf⟩
    rw [f_M_tryPeriods_2, if_pos ((nIle (by omega) (by omega)).mpr (by omega))]
  | d + 1, i, T, fuel, σ, sv, hi, hf, hpA, h, ok, hT => by
    obtain ⟨f, rfl⟩ : ∃ f, fuel = f + 1 := ⟨fuel - 1, by omega⟩
    rw [f_M_tryPeriods_2, if_neg (fun q => absurd ((nIle (by omega) (by omega)).mp q) (by omega))]
    obtain ⟨τ, q1, q2, q3⟩ := B_pass hp hpA h (Or.inr rfl) ok (by omega)
    rw [q1, Option.bind_some, nIs]
    obtain ⟨τ2, p1, p2, p3⟩ := B_many_loop hp hm d (i + 1) (T + 32) f τ _ (by omega) (by omega) (hpA.eo q3 (by unfold SR; omega) (by unfold SR; omega) (by unfold SR; omega) (by unfold SR; omega)) q2 (ok_pas hp ok (by omega)) (by omega)
    exact ⟨τ2, p1, p2, q3.tr p3⟩
theorem B_many {σ : MT} {m T : Nat} {p : PLN} {sv : SV} (hp : okP p) (hpB : pB σ p) (h : hR σ 44 (pN p) sv) (ok : okS p T sv) (hm : m < 1000) (hT : T < 80000000) : ∃ τ, f_M_tryPeriods (nI m) σ = some τ ∧ hR τ 44 (pN p) (rep (pas p) m sv) ∧ EO (SR 44) σ τ := B_many_loop hp (by omega) m 0 T 1100 σ sv (by omega) (by omega) hpB h ok (by omega)
