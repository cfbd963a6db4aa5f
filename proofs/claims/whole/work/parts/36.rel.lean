/-! THE WHOLE STATE, and what each half keeps of it -/
abbrev TX : Type := (Nat → Int32) × Nat
abbrev JR : Type := (Nat → SV) × Nat × Nat
abbrev SG : Type := (Nat → Int32 × Int32 × Int32) × Nat
abbrev AS : Type := TX × PLN × SV × (Nat → SV × Bool) × JR × SG × Int64
abbrev aT (S : AS) : TX := S.1
abbrev aP (S : AS) : PLN := S.2.1
abbrev aV (S : AS) : SV := S.2.2.1
abbrev aK (S : AS) : Nat → SV × Bool := S.2.2.2.1
abbrev aJ (S : AS) : JR := S.2.2.2.2.1
abbrev aG (S : AS) : SG := S.2.2.2.2.2.1
abbrev aD (S : AS) : Int64 := S.2.2.2.2.2.2
/-- entries of the ring that still count -/
def vR (j : JR) (e : Nat) : Prop := e < 14 ∧ (j.2.1 + 13 - e) % 14 < j.2.2
def hRo (σ : MT) (c o N : Nat) (sv : SV) : Prop := σ.1 c (o + 102) = sv.1 ∧ (∀ l, l < 7 → σ.1 c (o + (95 + l)) = bit sv.2.1 l) ∧ ∀ i, i < N → hB σ c (o + 19 * i) (sv.2.2 i)
theorem hR_o {σ : MT} {c N : Nat} {sv : SV} : hR σ c N sv ↔ hRo σ c 0 N sv := by
  unfold hR hRo bit
  simp only [Nat.zero_add]
theorem hB.cp {σ τ : MT} {c c' o o' : Nat} {nd : ND} (e : ∀ j, j < 19 → τ.1 c' (o' + j) = σ.1 c (o + j)) (h : hB σ c o nd) : hB τ c' o' nd := by
  obtain ⟨h1, h2, h3, h4⟩ := h
  refine ⟨fun j hj => (e j (by omega)).trans (h1 j hj), (e 6 (by omega)).trans h2, h3, fun j s hs => ?_⟩
  have hj := (List.getElem?_eq_some_iff.mp hs).1
  have := h4 j s hs
  have g1 := e (7 + 3 * j) (by omega)
  have g2 := e (7 + 3 * j + 1) (by omega)
  have g3 := e (7 + 3 * j + 2) (by omega)
  rw [show o' + 7 + 3 * j = o' + (7 + 3 * j) by omega, show o' + (7 + 3 * j) + 1 = o' + (7 + 3 * j + 1) by omega, show o' + (7 + 3 * j) + 2 = o' + (7 + 3 * j + 2) by omega, g1, g2, g3, show o + (7 + 3 * j) = o + 7 + 3 * j by omega, show o + (7 + 3 * j + 1) = o + 7 + 3 * j + 1 by omega, show o + (7 + 3 * j + 2) = o + 7 + 3 * j + 2 by omega]
  exact this
theorem hRo.cp {σ τ : MT} {c c' o o' N : Nat} {sv : SV} (hN : N ≤ 5) (e : ∀ j, j < 103 → τ.1 c' (o' + j) = σ.1 c (o + j)) (h : hRo σ c o N sv) : hRo τ c' o' N sv := by
  obtain ⟨h1, h2, h3⟩ := h
  refine ⟨(e 102 (by omega)).trans h1, fun l hl => (e (95 + l) (by omega)).trans (h2 l hl), fun i hi => (h3 i hi).cp (fun j hj => ?_)⟩
  rw [Nat.add_assoc, Nat.add_assoc]
  exact e (19 * i + j) (by omega)
theorem hRo.e {σ τ : MT} {c o N : Nat} {sv : SV} (hN : N ≤ 5) (e : τ.1 c = σ.1 c) (h : hRo σ c o N sv) : hRo τ c o N sv := h.cp hN (fun j _ => by rw [e])
theorem hR.e {σ τ : MT} {c N : Nat} {sv : SV} (hN : N ≤ 5) (e : τ.1 c = σ.1 c) (h : hR σ c N sv) : hR τ c N sv := hR_o.mpr ((hR_o.mp h).e hN e)
-- the pieces
def tA (σ : MT) (t : TX) : Prop := σ.1 0 1 = nI t.2 ∧ ∀ j, j < t.2 → σ.1 1 j = t.1 j
def tB (σ : MT) (t : TX) : Prop := σ.1 38 1 = nI t.2 ∧ ∀ j, j < t.2 → σ.1 39 j = t.1 j
def kA (σ : MT) (N : Nat) (K : Nat → SV × Bool) : Prop := ∀ s, s < 2 → σ.1 33 s = bI (K s).2 ∧ ((K s).2 = true → hA σ (105 + 22 * s) N (K s).1)
def kB (σ : MT) (N : Nat) (K : Nat → SV × Bool) : Prop := ∀ s, s < 2 → σ.1 47 s = bI (K s).2 ∧ ((K s).2 = true → hRo σ 46 (103 * s) N (K s).1)
def jA (σ : MT) (N : Nat) (J : JR) : Prop := σ.1 30 1 = nI J.2.1 ∧ σ.1 30 2 = nI J.2.2 ∧ ∀ e, vR J e → hA σ (149 + 22 * e) N (J.1 e)
def jB (σ : MT) (N : Nat) (J : JR) : Prop := σ.1 38 14 = nI J.2.1 ∧ σ.1 38 13 = nI J.2.2 ∧ ∀ e, vR J e → hRo σ 45 (103 * e) N (J.1 e)
def gA (σ : MT) (G : SG) : Prop := σ.1 34 3 = nI G.2 ∧ ∀ j, j < G.2 → σ.1 35 j = (G.1 j).1 ∧ σ.1 36 j = (G.1 j).2.1 ∧ σ.1 37 j = (G.1 j).2.2
def gB (σ : MT) (G : SG) : Prop := σ.1 38 20 = nI G.2 ∧ ∀ j, j < G.2 → σ.1 48 j = (G.1 j).1 ∧ σ.1 49 j = (G.1 j).2.1 ∧ σ.1 50 j = (G.1 j).2.2
def RA (σ : MT) (S : AS) : Prop := tA σ (aT S) ∧ pA σ 15 (aP S) ∧ hA σ 61 (pN (aP S)) (aV S) ∧ kA σ (pN (aP S)) (aK S) ∧ jA σ (pN (aP S)) (aJ S) ∧ gA σ (aG S) ∧ σ.2 0 = aD S
def RB (σ : MT) (S : AS) : Prop := tB σ (aT S) ∧ pB σ (aP S) ∧ hR σ 43 (pN (aP S)) (aV S) ∧ kB σ (pN (aP S)) (aK S) ∧ jB σ (pN (aP S)) (aJ S) ∧ gB σ (aG S) ∧ σ.2 38 = aD S
def okA (S : AS) (B : Nat) : Prop := okP (aP S) ∧ okS (aP S) B (aV S) ∧ (∀ s, s < 2 → (aK S s).2 = true → okS (aP S) B (aK S s).1) ∧ (∀ e, vR (aJ S) e → okS (aP S) B ((aJ S).1 e)) ∧ ((aT S).2 ≤ 60 ∧ ∀ j, j < (aT S).2 → IR 0 256 ((aT S).1 j)) ∧ ((aJ S).2.1 < 14 ∧ (aJ S).2.2 ≤ 14) ∧ (aG S).2 ≤ 6 ∧ ∀ j, j < (aG S).2 → IR 0 5 ((aG S).1 j).1 ∧ IR 0 21 ((aG S).1 j).2.1
-- frames of the pieces
theorem tA.e {σ τ : MT} {t : TX} (h : tA σ t) (e0 : τ.1 0 = σ.1 0) (e1 : τ.1 1 = σ.1 1) : tA τ t := by
  unfold tA; rw [e0, e1]; exact h
theorem kA.e {σ τ : MT} {N : Nat} {K : Nat → SV × Bool} (h : kA σ N K) (hN : N ≤ 5) (e0 : τ.1 33 = σ.1 33) (e1 : ∀ c, 105 ≤ c → c < 149 → τ.1 c = σ.1 c) : kA τ N K := fun s hs => by
  obtain ⟨a, b⟩ := h s hs
  rw [e0]
  exact ⟨a, fun q => (b q).eo (P := fun c => ¬ (105 ≤ c ∧ c < 149)) (τ := (τ.1, σ.2)) hN ⟨fun c hc => e1 c (Decidable.byContradiction fun z => hc (fun y => z y.1)) (Decidable.byContradiction fun z => hc (fun y => z y.2)), rfl⟩ (fun c h1 h2 => fun z => z ⟨by omega, by omega⟩)⟩
theorem hA.e {σ τ : MT} {k N : Nat} {sv : SV} (h : hA σ k N sv) (hN : N ≤ 5) (e : ∀ c, k ≤ c → c < k + 22 → τ.1 c = σ.1 c) : hA τ k N sv := by
  have h2 := h.eo (P := fun c => ¬ (k ≤ c ∧ c < k + 22)) (τ := (τ.1, σ.2)) hN ⟨fun c hc => e c (Decidable.byContradiction fun z => hc (fun y => z y.1)) (Decidable.byContradiction fun z => hc (fun y => z y.2)), rfl⟩ (fun c h1 h2 => fun z => z ⟨by omega, by omega⟩)
  exact h2
theorem pA.e {σ τ : MT} {c : Nat} {p : PLN} (h : pA σ c p) (e : ∀ a, c ≤ a → a < c + 11 → τ.1 a = σ.1 a) : pA τ c p := by
  have h2 := h.eo (P := fun a => ¬ (c ≤ a ∧ a < c + 11)) (τ := (τ.1, σ.2)) ⟨fun a ha => e a (Decidable.byContradiction fun z => ha (fun y => z y.1)) (Decidable.byContradiction fun z => ha (fun y => z y.2)), rfl⟩ (fun c h1 h2 => fun z => z ⟨by omega, by omega⟩)
  exact h2
theorem jA.e {σ τ : MT} {N : Nat} {J : JR} (h : jA σ N J) (hN : N ≤ 5) (e0 : τ.1 30 = σ.1 30) (e1 : ∀ c, 149 ≤ c → τ.1 c = σ.1 c) : jA τ N J := by
  obtain ⟨a, b, d⟩ := h
  unfold jA
  rw [e0]
  exact ⟨a, b, fun e he => (d e he).e hN (fun c h1 _ => e1 c (by omega))⟩
theorem gA.e {σ τ : MT} {G : SG} (h : gA σ G) (e0 : τ.1 34 = σ.1 34) (e1 : τ.1 35 = σ.1 35) (e2 : τ.1 36 = σ.1 36) (e3 : τ.1 37 = σ.1 37) : gA τ G := by
  unfold gA; rw [e0, e1, e2, e3]; exact h
theorem tB.e {σ τ : MT} {t : TX} (h : tB σ t) (e0 : τ.1 38 1 = σ.1 38 1) (e1 : τ.1 39 = σ.1 39) : tB τ t := by
  unfold tB; rw [e0, e1]; exact h
theorem kB.e {σ τ : MT} {N : Nat} {K : Nat → SV × Bool} (h : kB σ N K) (hN : N ≤ 5) (e0 : τ.1 47 = σ.1 47) (e1 : τ.1 46 = σ.1 46) : kB τ N K := fun s hs => by
  obtain ⟨a, b⟩ := h s hs
  rw [e0]
  exact ⟨a, fun q => (b q).e hN e1⟩
theorem jB.e {σ τ : MT} {N : Nat} {J : JR} (h : jB σ N J) (hN : N ≤ 5) (e0 : τ.1 38 14 = σ.1 38 14) (e1 : τ.1 38 13 = σ.1 38 13) (e2 : τ.1 45 = σ.1 45) : jB τ N J := by
  obtain ⟨a, b, d⟩ := h
  unfold jB
  rw [e0, e1]
  exact ⟨a, b, fun e he => (d e he).e hN e2⟩
theorem gB.e {σ τ : MT} {G : SG} (h : gB σ G) (e0 : τ.1 38 20 = σ.1 38 20) (e1 : τ.1 48 = σ.1 48) (e2 : τ.1 49 = σ.1 49) (e3 : τ.1 50 = σ.1 50) : gB τ G := by
  unfold gB; rw [e0, e1, e2, e3]; exact h
/-- the class's cells that hold the state -/
def keA (c : Nat) : Prop := c < 2 ∨ (15 ≤ c ∧ c < 26) ∨ (30 ≤ c ∧ c < 38) ∨ (61 ≤ c ∧ c < 83) ∨ 105 ≤ c
def FA (σ τ : MT) : Prop := (∀ c, keA c → τ.1 c = σ.1 c) ∧ τ.2 0 = σ.2 0
def keB (c : Nat) : Prop := 39 ≤ c ∧ c < 51 ∧ c ≠ 44
def FB (σ τ : MT) : Prop := (∀ c, keB c → τ.1 c = σ.1 c) ∧ (∀ j, j < 28 → τ.1 38 j = σ.1 38 j) ∧ τ.2 38 = σ.2 38
theorem RA.fr {σ τ : MT} {S : AS} (h : RA σ S) (hN : pN (aP S) ≤ 5) (f : FA σ τ) : RA τ S := by
  obtain ⟨h1, h2, h3, h4, h5, h6, h7⟩ := h
  obtain ⟨f1, f2⟩ := f
  exact ⟨h1.e (f1 _ (by unfold keA; omega)) (f1 _ (by unfold keA; omega)), h2.e (fun a _ _ => f1 a (by unfold keA; omega)), h3.e hN (fun a _ _ => f1 a (by unfold keA; omega)), h4.e hN (f1 _ (by unfold keA; omega)) (fun a _ _ => f1 a (by unfold keA; omega)), h5.e hN (f1 _ (by unfold keA; omega)) (fun a _ => f1 a (by unfold keA; omega)), h6.e (f1 _ (by unfold keA; omega)) (f1 _ (by unfold keA; omega)) (f1 _ (by unfold keA; omega)) (f1 _ (by unfold keA; omega)), f2.trans h7⟩
theorem RB.fr {σ τ : MT} {S : AS} (h : RB σ S) (hN : pN (aP S) ≤ 5) (f : FB σ τ) : RB τ S := by
  obtain ⟨h1, h2, h3, h4, h5, h6, h7⟩ := h
  obtain ⟨f1, f2, f3⟩ := f
  have k : ∀ c, 39 ≤ c → c < 51 → c ≠ 44 → τ.1 c = σ.1 c := fun c a b d => f1 c ⟨a, b, d⟩
  exact ⟨h1.e (f2 1 (by omega)) (k 39 (by omega) (by omega) (by omega)), h2.e (fun j _ _ => f2 j (by omega)) (k 40 (by omega) (by omega) (by omega)) (k 41 (by omega) (by omega) (by omega)) (k 42 (by omega) (by omega) (by omega)), h3.e hN (k 43 (by omega) (by omega) (by omega)), h4.e hN (k 47 (by omega) (by omega) (by omega)) (k 46 (by omega) (by omega) (by omega)), h5.e hN (f2 14 (by omega)) (f2 13 (by omega)) (k 45 (by omega) (by omega) (by omega)), h6.e (f2 20 (by omega)) (k 48 (by omega) (by omega) (by omega)) (k 49 (by omega) (by omega) (by omega)) (k 50 (by omega) (by omega) (by omega)), f3.trans h7⟩
/-- a call of the class's touches nothing of the reference's; and the other way -/
def CA (σ τ : MT) : Prop := (∀ c, 38 ≤ c → c < 61 → τ.1 c = σ.1 c) ∧ τ.2 38 = σ.2 38
def CB (σ τ : MT) : Prop := (∀ c, c < 38 ∨ 61 ≤ c → τ.1 c = σ.1 c) ∧ τ.2 0 = σ.2 0
theorem CA.fb {σ τ : MT} (h : CA σ τ) : FB σ τ := ⟨fun c hc => h.1 c (by unfold keB at hc; omega) (by unfold keB at hc; omega), fun j _ => by rw [h.1 38 (by omega) (by omega)], h.2⟩
theorem CB.fa {σ τ : MT} (h : CB σ τ) : FA σ τ := ⟨fun c hc => h.1 c (by unfold keA at hc; omega), h.2⟩
theorem CA.rf {σ : MT} : CA σ σ := ⟨fun _ _ _ => rfl, rfl⟩
theorem CB.rf {σ : MT} : CB σ σ := ⟨fun _ _ => rfl, rfl⟩
theorem CA.tr {a b c : MT} (h1 : CA a b) (h2 : CA b c) : CA a c := ⟨fun k x y => (h2.1 k x y).trans (h1.1 k x y), h2.2.trans h1.2⟩
theorem CB.tr {a b c : MT} (h1 : CB a b) (h2 : CB b c) : CB a c := ⟨fun k x => (h2.1 k x).trans (h1.1 k x), h2.2.trans h1.2⟩
theorem FA.tr {a b c : MT} (h1 : FA a b) (h2 : FA b c) : FA a c := ⟨fun k x => (h2.1 k x).trans (h1.1 k x), h2.2.trans h1.2⟩
theorem FB.tr {a b c : MT} (h1 : FB a b) (h2 : FB b c) : FB a c := ⟨fun k x => (h2.1 k x).trans (h1.1 k x), fun j x => (h2.2.1 j x).trans (h1.2.1 j x), h2.2.2.trans h1.2.2⟩
theorem EO.ca {P : Nat → Prop} {σ τ : MT} (h : EO P σ τ) (hp : ∀ c, 38 ≤ c → c < 61 → ¬ P c) : CA σ τ := ⟨fun c a b => h.1 c (hp c a b), by rw [h.2]⟩
theorem EO.cb {P : Nat → Prop} {σ τ : MT} (h : EO P σ τ) (hp : ∀ c, c < 38 ∨ 61 ≤ c → ¬ P c) : CB σ τ := ⟨fun c a => h.1 c (hp c a), by rw [h.2]⟩
theorem EO.fa {P : Nat → Prop} {σ τ : MT} (h : EO P σ τ) (hp : ∀ c, keA c → ¬ P c) : FA σ τ := ⟨fun c a => h.1 c (hp c a), by rw [h.2]⟩
theorem EO.fb {P : Nat → Prop} {σ τ : MT} (h : EO P σ τ) (hp : ∀ c, keB c ∨ c = 38 → ¬ P c) : FB σ τ := ⟨fun c a => h.1 c (hp c (Or.inl a)), fun j _ => by rw [h.1 38 (hp 38 (Or.inr rfl))], by rw [h.2]⟩
/-- the two calls f and g give one answer, and lead from S to S' -/
def same {α : Type} (f g : MT → Option (α × MT)) (S S' : AS) : Prop := ∃ a, (∀ σ, RA σ S → ∃ τ, f σ = some (a, τ) ∧ RA τ S' ∧ CA σ τ) ∧ (∀ σ, RB σ S → ∃ τ, g σ = some (a, τ) ∧ RB τ S' ∧ CB σ τ)
theorem okS.le {p : PLN} {T T' : Nat} {sv : SV} (h : okS p T sv) (hT : T ≤ T') : okS p T' sv := by
  obtain ⟨a, ⟨b, c⟩, d⟩ := h
  exact ⟨a, ⟨b, by omega⟩, d⟩
theorem okA.le {S : AS} {B B' : Nat} (h : okA S B) (hB : B ≤ B') : okA S B' := by
  obtain ⟨a, b, c, d, e⟩ := h
  exact ⟨a, b.le hB, fun s hs q => (c s hs q).le hB, fun s q => (d s q).le hB, e⟩
