/-! chance, put together -/
def adS (sv : SV) (c : Nat) : SV := (sv.1, sv.2.1 ||| nI c, sv.2.2)
theorem okS.ad {p : PLN} {T c : Nat} {sv : SV} (hp : okP p) (h : okS p T sv) (hc : c < 2 ^ pL p) : okS p T (adS sv c) := by
  obtain ⟨a, b, dn, d1, d2⟩ := h
  refine ⟨a, b, dn ||| c, ?_, Nat.or_lt_two_pow d2 hc⟩
  show sv.2.1 ||| nI c = _
  rw [d1, or_nI (lt_128 d2 hp.2.1) (lt_128 hc hp.2.1)]
theorem adS_b {sv : SV} {L dn c l : Nat} (hL : L ≤ 7) (h : sv.2.1 = nI dn) (hd : dn < 2 ^ L) (hc : c < 2 ^ L) (hl : l < 7) : bit (adS sv c).2.1 l = if Nat.testBit c l = true then 1 else bit sv.2.1 l := by
  have d128 := lt_128 hd hL
  have c128 := lt_128 hc hL
  show bit (sv.2.1 ||| nI c) l = _
  have o128 : dn ||| c < 128 := Nat.or_lt_two_pow (n := 7) d128 c128
  rw [h, or_nI d128 c128, bit_t o128 hl, bit_t d128 hl, Nat.testBit_or]
  cases Nat.testBit c l <;> cases Nat.testBit dn l <;> rfl
def uniC (p : PLN) (sv : SV) (n c : Nat) : Bool := uniM (pN p) (rep (pas p) n (adS sv c))
theorem A_unites {σ : MT} {S : AS} {B n c : Nat} (h : RA σ S) (ok : okA S B) (hB : B < 70000000) (hn : n < 1000) (hc : c < 2 ^ pL (aP S)) : ∃ τ, f_TF_unitesWithout (nI c) (nI n) σ = some (bI (uniC (aP S) (aV S) n c), τ) ∧ EO PT σ τ := by
  have hp := ok.1
  have hN : pN (aP S) ≤ 5 := ok.1.1
  obtain ⟨τ1, q1, q2, q3⟩ := A_trial h ok
  have e3 : EO (fun a => a = 83) τ1 (sI τ1 83 1 ((τ1.1 83 1) ||| nI c)) := EO.i (P := fun a => a = 83) EO.rf rfl
  have r2 : hA (sI τ1 83 1 ((τ1.1 83 1) ||| nI c)) 83 (pN (aP S)) (adS (aV S) c) := by
    obtain ⟨a, b, g, k⟩ := q2
    rw [b]
    exact ⟨by rw [sI_r, if_neg (by omega)]; exact a, by simp [sI_r, adS], fun i hi => (g i hi).eo (P := fun a => a = 83) (EO.i (P := fun a => a = 83) EO.rf rfl) (by omega) (by omega) (by omega) (by omega), fun i h1 h2 => by rw [sI_n (by omega)]; exact k i h1 h2⟩
  have e4 := q3.tr (e3.mo (fun a ha => by unfold PT; omega))
  have oka := ok.2.1.ad hp hc
  obtain ⟨τ2, r1, r3, r4⟩ := A_many (m := n) hp (h.2.1.pt e4) r2 (by omega) oka hn (by omega)
  unfold f_TF_unitesWithout
  rw [q1, Option.bind_some, r1, Option.bind_some, A_united r3 hN, Option.bind_some, if_pos (bI_z _)]
  exact ⟨τ2, rfl, e4.tr (r4.mo PP83)⟩
/-- the sum over the sets of links from c on -/
def chS (p : PLN) (sv : SV) (dn n x : Nat) : Nat → Nat → Nat → Nat
  | 0, _, z => z
  | d + 1, c, z => chS p sv dn n x d (c + 1) (if c &&& dn = 0 then z + (if uniC p sv n c = true then wgt x (pL p) dn c else 0) else z)
theorem lI_add {a b : Nat} (ha : a < 2147483648) (hb : b < 2147483648) : lI a + lI b = lI (a + b) := by
  refine lI_e ?_
  rw [Int64.toInt_add, lI_t ha, lI_t hb]
  exact z_bl (by omega) (by omega)
theorem A_ch_loop {S : AS} {B dn n x : Nat} {u : Bool} (ok : okA S B) (hB : B < 70000000) (hd1 : (aV S).2.1 = nI dn) (hd2 : dn < 2 ^ pL (aP S)) (hn : n < 1000) (hx : x ≤ 10) : ∀ (d c fuel z : Nat) (σ : MT), c + d = 2 ^ pL (aP S) → d < fuel → RA σ S → z ≤ 10000000 * c → ∃ τ, f_TF_chance_29 fuel (nI n) (nI x) (bI u) (lI z) (nI c) σ = some (frR (chS (aP S) (aV S) dn n x d c z : Nat) (10 ^ pop (upN (pL (aP S)) dn)) u, τ) ∧ EO PT σ τ
  | 0, c, fuel, z, σ, hc, hf, h, hz => by
    obtain ⟨f, rfl⟩ : ∃ f, fuel = f + 1 := ⟨fuel - 1, by omega⟩
    have hL : pL (aP S) ≤ 7 := ok.1.2.1
    have h128 : 2 ^ pL (aP S) ≤ 128 := Nat.pow_le_pow_right (n := 2) (by omega) hL
    have u7 := cnt_b (fun l => !Nat.testBit dn l) (pL (aP S))
    rw [(up_e hL hd2).2.2] at u7
    have t1 := (raise (a := 10) (n := pop (upN (pL (aP S)) dn)) (by omega) (by omega)).2
    have t0 : 0 < 10 ^ pop (upN (pL (aP S)) dn) := Nat.pow_pos (by omega)
    rw [f_TF_chance_29, h.2.1.2.2.1, one_L hL, if_pos ((nIle (by omega) (by omega)).mpr (by omega)), A_ten hL hd2 h.2.1.2.2.1 (by rw [h.2.2.1.2.1]; exact hd1), Option.bind_some]
    refine ⟨σ, ?_, EO.rf⟩
    show _ = some (frR (z : Nat) _ u, σ)
    rw [A_frac (A := (z : Int)) (D := 10 ^ pop (upN (pL (aP S)) dn)) ⟨by omega, by omega⟩ t0 (by omega) (lI_t (by omega)) (lI_t (by omega)), Option.bind_some]
  | d + 1, c, fuel, z, σ, hc, hf, h, hz => by
    obtain ⟨f, rfl⟩ : ∃ f, fuel = f + 1 := ⟨fuel - 1, by omega⟩
    have hN : pN (aP S) ≤ 5 := ok.1.1
    have hL : pL (aP S) ≤ 7 := ok.1.2.1
    have h128 : 2 ^ pL (aP S) ≤ 128 := Nat.pow_le_pow_right (n := 2) (by omega) hL
    have hcl : c < 2 ^ pL (aP S) := by omega
    have e61 : σ.1 61 1 = nI dn := by rw [h.2.2.1.2.1]; exact hd1
    rw [f_TF_chance_29, h.2.1.2.2.1, one_L hL, if_neg (fun q => absurd ((nIle (by omega) (by omega)).mp q) (by omega)), e61]
    unfold f_TF_chance_89 chS
    rw [nIs]
    by_cases hdis : c &&& dn = 0
    · obtain ⟨w1, w2, w3, w4⟩ := wgt_e hL hx hd2 hcl hdis
      rw [if_pos ((and_nI (by omega) (lt_128 hd2 hL)).mpr hdis), A_wgt hL hx hd2 hcl hdis h.2.1.2.2.1 e61, Option.bind_some, if_pos hdis]
      by_cases hw0 : wgt x (pL (aP S)) dn c = 0
      · rw [if_pos ((lI_0 (by omega)).mpr hw0)]
        have e : z + (if uniC (aP S) (aV S) n c = true then wgt x (pL (aP S)) dn c else 0) = z := by split <;> omega
        rw [e]
        exact A_ch_loop ok hB hd1 hd2 hn hx d (c + 1) f z σ (by omega) (by omega) h (by omega)
      · obtain ⟨τ1, q1, q2⟩ := A_unites h ok hB hn hcl
        rw [if_neg (fun q => hw0 ((lI_0 (by omega)).mp q)), q1, Option.bind_some]
        cases hu : uniC (aP S) (aV S) n c with
        | false =>
          rw [if_pos bI_f, if_neg Bool.false_ne_true, Nat.add_zero]
          obtain ⟨τ, t1, t2⟩ := A_ch_loop (u := u) ok hB hd1 hd2 hn hx d (c + 1) f z τ1 (by omega) (by omega) (h.tr hN q2).1 (by omega)
          exact ⟨τ, t1, q2.tr t2⟩
        | true =>
          rw [if_neg (by show ¬ bI true = 0; decide), if_pos rfl, lI_add (by omega) (by omega)]
          obtain ⟨τ, t1, t2⟩ := A_ch_loop (u := u) ok hB hd1 hd2 hn hx d (c + 1) f (z + wgt x (pL (aP S)) dn c) τ1 (by omega) (by omega) (h.tr hN q2).1 (by omega)
          exact ⟨τ, t1, q2.tr t2⟩
    · rw [if_neg (fun q => hdis ((and_nI (by omega) (lt_128 hd2 hL)).mp q)), if_neg hdis]
      exact A_ch_loop ok hB hd1 hd2 hn hx d (c + 1) f z σ (by omega) (by omega) h (by omega)
theorem B_down_loop {K : Int32 → Int32 → Int32 → Int32 → Int32 → Int32 → Int32 → Int32 → MT → Option (Int32 × MT)} {p : PLN} {n c x dn T : Nat} {sv : SV} {x3 x4 x6 : Int32} (hp : okP p) (ok : okS p T sv) (hT : T < 70000000) (hn : n < 1000) (hx : x ≤ 10) (hd1 : sv.2.1 = nI dn) (hd2 : dn < 2 ^ pL p) (hc : c < 2 ^ pL p) (hdis : c &&& dn = 0) : ∀ (d i fuel : Nat) (σ : MT), i + d = pL p → d < fuel → pB σ p → σ.1 44 102 = sv.1 → (∀ j, j < pN p → hB σ 44 (19 * j) (sv.2.2 j)) → (∀ l, l < 7 → σ.1 44 (95 + l) = if l < i ∧ Nat.testBit c l = true then 1 else bit sv.2.1 l) → ∃ τ, f_M_chance_92 K fuel (nI n) (nI x) x3 x4 (nI (pop (upN (pL p) dn))) x6 (nI c) (nI i) σ = K (nI n) (nI x) x3 x4 (nI (pop (upN (pL p) dn))) (nI c) (nI (if uniC p sv n c = true then wgt x (pL p) dn c else 0)) x6 τ ∧ EO PU σ τ
  | 0, i, fuel, σ, hi, hf, hpB, h1, h2, h3 => by
    obtain ⟨f, rfl⟩ : ∃ f, fuel = f + 1 := ⟨fuel - 1, by omega⟩
    have hN : pN p ≤ 5 := hp.1
    have hL : pL p ≤ 7 := hp.2.1
    obtain ⟨w1, w2, w3, w4⟩ := wgt_e hL hx hd2 hc hdis
    have hr : hR σ 44 (pN p) (adS sv c) := ⟨h1, fun l hl => by
      have e := adS_b (sv := sv) (l := l) hL hd1 hd2 hc hl
      unfold bit at e h3
      rw [h3 l hl, e]
      by_cases hq : Nat.testBit c l = true
      · have : l < i := by
          rcases Nat.lt_or_ge l i with q | q
          · exact q
          · rw [Nat.testBit_lt_two_pow (Nat.lt_of_lt_of_le hc (Nat.pow_le_pow_right (by omega) (by omega)))] at hq
            cases hq
        rw [if_pos ⟨this, hq⟩, if_pos hq]
      · rw [if_neg (fun z => hq z.2), if_neg hq], h2⟩
    have oka := ok.ad hp hc
    obtain ⟨τ, q1, q2, q3⟩ := B_many (m := n) hp hpB hr oka hn (by omega)
    have e := q3.mo SR44
    have okr := ok_rep hp n T _ oka (by omega)
    rw [f_M_chance_92, hpB.2.2.1, if_pos ((nIle (by omega) (by omega)).mpr (by omega)), q1, Option.bind_some, B_united q2 hN okr.1 (hpB.pu e).2.1, Option.bind_some, v_ones (lt_128 hc hL), Option.bind_some, (raise (a := x) (n := pop c) hx (by omega)).1, Option.bind_some, Option.bind_some, show (10 : Int32) - nI x = nI (10 - x) from pk_sub (a := 10) hx, pk_sub (a := pop (upN (pL p) dn)) (b := pop c) w1, (raise (a := 10 - x) (n := pop (upN (pL p) dn) - pop c) (by omega) (by omega)).1, Option.bind_some]
    refine ⟨τ, ?_, e⟩
    have eu : uniM (pN p) (rep (pas p) n (adS sv c)) = uniC p sv n c := rfl
    rw [eu]
    cases uniC p sv n c with
    | false => rw [if_pos bI_f, if_neg Bool.false_ne_true]; rfl
    | true =>
      rw [if_neg (by decide), if_pos rfl, w3]
      rw [show nI (x ^ pop c) * nI ((10 - x) ^ (pop (upN (pL p) dn) - pop c)) = nI (x ^ pop c * (10 - x) ^ (pop (upN (pL p) dn) - pop c)) from pk_mul _ _]
  | d + 1, i, fuel, σ, hi, hf, hpB, h1, h2, h3 => by
    obtain ⟨f, rfl⟩ : ∃ f, fuel = f + 1 := ⟨fuel - 1, by omega⟩
    have hL : pL p ≤ 7 := hp.2.1
    have hN : pN p ≤ 5 := hp.1
    rw [f_M_chance_92, hpB.2.2.1, if_neg (fun q => absurd ((nIle (by omega) (by omega)).mp q) (by omega)), v_has (lt_128 hc hL) (by omega), Option.bind_some, decide_eq_true (show i < 7 by omega), Bool.true_and, ad95, inb_n (m := 95 + i) (by omega) (by decide), if_pos rfl, nIc (n := 95 + i) (by omega)]
    unfold f_M_chance_134
    rw [inb_n (m := 95 + i) (by omega) (by decide), if_pos rfl, if_pos rfl, nIs, nIc (n := 95 + i) (by omega)]
    have next : ∀ v, v = (if Nat.testBit c i = true then 1 else bit sv.2.1 i) → ∃ τ, f_M_chance_92 K f (nI n) (nI x) x3 x4 (nI (pop (upN (pL p) dn))) x6 (nI c) (nI (i + 1)) (sI σ 44 (95 + i) v) = K (nI n) (nI x) x3 x4 (nI (pop (upN (pL p) dn))) (nI c) (nI (if uniC p sv n c = true then wgt x (pL p) dn c else 0)) x6 τ ∧ EO PU σ τ := fun v hv => by
      have e4 : EO PU σ (sI σ 44 (95 + i) v) := EO.i (P := PU) EO.rf (Or.inl rfl)
      obtain ⟨τ, t1, t2⟩ := B_down_loop (K := K) (x3 := x3) (x4 := x4) (x6 := x6) hp ok hT hn hx hd1 hd2 hc hdis d (i + 1) f (sI σ 44 (95 + i) v) (by omega) (by omega) (hpB.pu e4) (by rw [sI_r, if_neg (by omega)]; exact h1) (fun j hj => (h2 j hj).eb (P := fun b => b = 95 + i) (S := S0) (EB.rf.i rfl) (fun b h1 h2 => by omega)) (fun l hl => by
        rw [sI_r]
        by_cases q : l = i
        · subst q
          rw [if_pos ⟨rfl, rfl⟩, hv]
          by_cases hb : Nat.testBit c l = true
          · rw [if_pos hb, if_pos ⟨by omega, hb⟩]
          · rw [if_neg hb, if_neg (fun z => hb z.2)]
        · rw [if_neg (fun z => q (by omega)), h3 l hl]
          by_cases hq : l < i ∧ Nat.testBit c l = true
          · rw [if_pos hq, if_pos ⟨by omega, hq.2⟩]
          · rw [if_neg hq, if_neg (fun z => hq ⟨by omega, z.2⟩)])
      exact ⟨τ, t1, e4.tr t2⟩
    cases hb : Nat.testBit c i with
    | false =>
      rw [if_pos bI_f]
      refine next _ ?_
      rw [h3 i (by omega), if_neg (fun z => absurd z.1 (Nat.lt_irrefl i)), hb, if_neg Bool.false_ne_true]
    | true =>
      rw [if_neg (by decide)]
      exact next 1 (by rw [hb, if_pos rfl])
theorem B_ch_loop {S : AS} {B dn n x : Nat} {u : Bool} (ok : okA S B) (hB : B < 70000000) (hd1 : (aV S).2.1 = nI dn) (hd2 : dn < 2 ^ pL (aP S)) (hn : n < 1000) (hx : x ≤ 10) : ∀ (d c fuel z : Nat) (σ : MT), c + d = 2 ^ pL (aP S) → d < fuel → RB σ S → z ≤ 10000000 * c → ∃ τ, f_M_chance_57 fuel (nI n) (nI x) (bI u) (nI (upN (pL (aP S)) dn)) (nI (pop (upN (pL (aP S)) dn))) (nI z) (nI c) σ = some (frR (chS (aP S) (aV S) dn n x d c z : Nat) (10 ^ pop (upN (pL (aP S)) dn)) u, τ) ∧ EO PU σ τ
  | 0, c, fuel, z, σ, hc, hf, h, hz => by
    obtain ⟨f, rfl⟩ : ∃ f, fuel = f + 1 := ⟨fuel - 1, by omega⟩
    have hL : pL (aP S) ≤ 7 := ok.1.2.1
    have h128 : 2 ^ pL (aP S) ≤ 128 := Nat.pow_le_pow_right (n := 2) (by omega) hL
    have u7 := cnt_b (fun l => !Nat.testBit dn l) (pL (aP S))
    rw [(up_e hL hd2).2.2] at u7
    have t1 := raise (a := 10) (n := pop (upN (pL (aP S)) dn)) (by omega) (by omega)
    have t0 : 0 < 10 ^ pop (upN (pL (aP S)) dn) := Nat.pow_pos (by omega)
    rw [f_M_chance_57, h.2.1.2.2.1, one_L hL, if_pos ((nIle (by omega) (by omega)).mpr (by omega)), show (10 : Int32) = nI 10 from rfl, t1.1, Option.bind_some]
    refine ⟨σ, ?_, EO.rf⟩
    show _ = some (frR (z : Nat) _ u, σ)
    rw [B_frac (A := (z : Int)) (D := 10 ^ pop (upN (pL (aP S)) dn)) ⟨by omega, by omega⟩ t0 (by omega) (nIt (by omega)) rfl, Option.bind_some]
  | d + 1, c, fuel, z, σ, hc, hf, h, hz => by
    obtain ⟨f, rfl⟩ : ∃ f, fuel = f + 1 := ⟨fuel - 1, by omega⟩
    have hN : pN (aP S) ≤ 5 := ok.1.1
    have hL : pL (aP S) ≤ 7 := ok.1.2.1
    have h128 : 2 ^ pL (aP S) ≤ 128 := Nat.pow_le_pow_right (n := 2) (by omega) hL
    have hcl : c < 2 ^ pL (aP S) := by omega
    have u2 := (up_e hL hd2).2.1
    have hcond := (and_ni (a := c) (b := upN (pL (aP S)) dn) (by omega) (by omega)).trans (up_c hL hd2 hcl)
    rw [f_M_chance_57, h.2.1.2.2.1, one_L hL, if_neg (fun q => absurd ((nIle (by omega) (by omega)).mp q) (by omega))]
    unfold f_M_chance_191 chS
    rw [nIs]
    by_cases hdis : c &&& dn = 0
    · obtain ⟨w1, w2, w3, w4⟩ := wgt_e hL hx hd2 hcl hdis
      rw [if_pos (hcond.mpr hdis), if_pos hdis]
      obtain ⟨τ1, q1, q2, q3⟩ := B_trial h ok
      have R1 := (h.tr hN q3).1
      obtain ⟨τ2, r1, r2⟩ := B_down_loop (K := f_M_chance_188 (f_M_chance_57 f)) (x3 := bI u) (x4 := nI (upN (pL (aP S)) dn)) (x6 := nI z) ok.1 ok.2.1 hB hn hx hd1 hd2 hcl hdis (pL (aP S)) 0 1100 τ1 (by omega) (by omega) R1.2.1 q2.1 q2.2.2 (fun l hl => by rw [if_neg (fun z => absurd z.1 (by omega))]; exact q2.2.1 l hl)
      rw [show nI 0 = (0 : Int32) from rfl] at r1
      rw [q1, Option.bind_some, r1]
      unfold f_M_chance_188 f_M_chance_191
      rw [nI_add, nIs]
      have hb : (if uniC (aP S) (aV S) n c = true then wgt x (pL (aP S)) dn c else 0) ≤ 10000000 := by split <;> omega
      obtain ⟨τ, t1, t2⟩ := B_ch_loop (u := u) ok hB hd1 hd2 hn hx d (c + 1) f _ τ2 (by omega) (by omega) (R1.tr hN r2).1 (show z + (if uniC (aP S) (aV S) n c = true then wgt x (pL (aP S)) dn c else 0) ≤ _ by omega)
      exact ⟨τ, t1, (q3.tr r2).tr t2⟩
    · rw [if_neg (fun q => hdis (hcond.mp q)), if_neg hdis]
      exact B_ch_loop ok hB hd1 hd2 hn hx d (c + 1) f z σ (by omega) (by omega) h (by omega)
theorem op_chance {S : AS} {B : Nat} (ok : okA S B) (hB : B < 70000000) (x y : Int32) (u : Bool) : op (f_TF_chance x y (bI u)) (f_M_chance x y (bI u)) S B := by
  have hp := ok.1
  have hN5 : pN (aP S) ≤ 5 := ok.1.1
  have hL : pL (aP S) ≤ 7 := ok.1.2.1
  have h128 : 2 ^ pL (aP S) ≤ 128 := Nat.pow_le_pow_right (n := 2) (by omega) hL
  obtain ⟨dn, hd1, hd2⟩ := ok.2.1.2.2
  have hx0 : x < 0 ↔ x.toInt < 0 := by rw [Int32.lt_iff_toInt_lt, Int32.toInt_zero]
  have hx1 : 20 < x ↔ 20 < x.toInt := Int32.lt_iff_toInt_lt
  have hy0 : y < 0 ↔ y.toInt < 0 := by rw [Int32.lt_iff_toInt_lt, Int32.toInt_zero]
  have hy1 : y ≤ 10 ↔ y.toInt ≤ 10 := Int32.le_iff_toInt_le
  have z0 : (0 : Int64).toInt = 0 := rfl
  have z20 : (20 : Int64).toInt = 20 := rfl
  have z10 : (10 : Int64).toInt = 10 := rfl
  by_cases hx : 0 ≤ x.toInt ∧ x.toInt ≤ 20
  · by_cases hy : 0 ≤ y.toInt ∧ y.toInt ≤ 10
    · obtain ⟨n, hn, rfl⟩ := IR_n (x := x) (n := 21) ⟨by omega, by show x.toInt < 21; omega⟩ (by omega)
      obtain ⟨m, hm, rfl⟩ := IR_n (x := y) (n := 11) ⟨by omega, by show y.toInt < 11; omega⟩ (by omega)
      refine ⟨S, ok.le (by omega), frR (chS (aP S) (aV S) dn n m (2 ^ pL (aP S)) 0 0 : Nat) (10 ^ pop (upN (pL (aP S)) dn)) u, fun σ h => ?_, fun σ h => ?_⟩
      · unfold f_TF_chance
        obtain ⟨τ, q1, q2⟩ := A_ch_loop (u := u) ok hB hd1 hd2 (n := n) (x := m) (by omega) (by omega) (2 ^ pL (aP S)) 0 1100 0 σ (by omega) (by omega) h (by omega)
        rw [show nI 0 = (0 : Int32) from rfl, show lI 0 = (0 : Int64) from rfl] at q1
        rw [if_neg (fun q => by have := hx0.mp q; omega), if_neg (fun q => by have := hx1.mp q; omega), if_neg (fun q => by have := hy0.mp q; omega), if_pos (hy1.mpr hy.2), q1]
        exact ⟨τ, rfl, h.tr hN5 q2⟩
      · unfold f_M_chance
        obtain ⟨u1, u2, u3⟩ := up_e hL hd2
        obtain ⟨τ, q1, q2⟩ := B_ch_loop (u := u) ok hB hd1 hd2 (n := n) (x := m) (by omega) (by omega) (2 ^ pL (aP S)) 0 1100 0 σ (by omega) (by omega) h (by omega)
        rw [show nI 0 = (0 : Int32) from rfl] at q1
        have hdn : f_M_downs σ = some (nI dn) := B_downs hL hd2 (by have := h.2.2.1.2.1; rw [hd1] at this; exact this) h.2.1.2.2.1
        rw [v_in, Option.bind_some, Int32.toInt_toInt64, z0, z20, if_pos hx, if_neg (by decide), v_in, Option.bind_some, Int32.toInt_toInt64, z0, z10, if_pos hy, if_neg (by decide), hdn, Option.bind_some, h.2.1.2.2.1, u1, v_ones (by omega), Option.bind_some, q1]
        exact ⟨τ, rfl, h.tr hN5 q2⟩
    · refine op_rf ok (-2) (fun σ h => ?_) (fun σ h => ?_)
      · unfold f_TF_chance
        rw [if_neg (fun q => by have := hx0.mp q; omega), if_neg (fun q => by have := hx1.mp q; omega)]
        by_cases q : y.toInt < 0
        · rw [if_pos (hy0.mpr q)]
        · rw [if_neg (fun w => q (hy0.mp w)), if_neg (fun w => hy ⟨by omega, hy1.mp w⟩)]
      · unfold f_M_chance
        rw [v_in, Option.bind_some, Int32.toInt_toInt64, z0, z20, if_pos hx, if_neg (by decide), v_in, Option.bind_some, Int32.toInt_toInt64, z0, z10, if_neg hy, if_pos rfl]
  · refine op_rf ok (-2) (fun σ h => ?_) (fun σ h => ?_)
    · unfold f_TF_chance
      by_cases q : x.toInt < 0
      · rw [if_pos (hx0.mpr q)]
      · rw [if_neg (fun w => q (hx0.mp w)), if_pos (hx1.mpr (by omega))]
    · unfold f_M_chance
      rw [v_in, Option.bind_some, Int32.toInt_toInt64, z0, z20, if_neg hx, if_pos rfl]
