theorem shiftB {K : Nat → Int32 → Int32 → Int32 → MT → Option MT} {c o : Nat} {n mk : Int32} {g : Nat → Int32} (ho : o ≤ 76) : ∀ (d i fuel : Nat) (σ : MT), i + d = 9 → d < fuel → (∀ b, b < i → σ.1 c (o + 7 + b) = g (b + 3)) → (∀ b, i ≤ b → b < 12 → σ.1 c (o + 7 + b) = g b) → σ.1 c (o + 6) = nI 4 →
    ∃ τ, f_M_stampOn_20 K fuel c n mk (nI o) (nI i) σ = K c n mk (nI o) (sI τ c (o + 6) (nI 3)) ∧ (∀ b, b < 9 → τ.1 c (o + 7 + b) = g (b + 3)) ∧ (∀ b, b < o + 7 → τ.1 c b = σ.1 c b) ∧ EB c (PB o) S0 σ τ
  | 0, i, fuel, σ, hi, hf, h1, _, h6 => by
    obtain ⟨f, rfl⟩ : ∃ f, fuel = f + 1 := ⟨fuel - 1, by omega⟩
    have : i = 9 := by omega
    subst this
    refine ⟨σ, ?_, fun b hb => h1 b hb, fun _ _ => rfl, EB.rf⟩
    rw [f_M_stampOn_20, if_pos ((nge_9 (by omega)).mpr (by omega))]
    simp (disch := omega) only [ad19, ad3, ad95, nIp_0, nIp_1, nIp_2, nIp_3, nIp_4, nIp_5, nIp_6, nIp_7, nI_add, nIc, inb_n, eq_self, if_true]
    rw [h6]
    rfl
  | d + 1, i, fuel, σ, hi, hf, h1, h2, h6 => by
    obtain ⟨f, rfl⟩ : ∃ f, fuel = f + 1 := ⟨fuel - 1, by omega⟩
    rw [f_M_stampOn_20, if_neg (fun q => absurd ((nge_9 (by omega)).mp q) (by omega))]
    unfold f_M_stampOn_49
    simp (disch := omega) only [ad19, ad3, ad95, nIp_0, nIp_1, nIp_2, nIp_3, nIp_4, nIp_5, nIp_6, nIp_7, nI_add, nIc, inb_n, eq_self, if_true]
    have e : σ.1 c (o + 7 + i + 3) = g (i + 3) := h2 (i + 3) (by omega) (by omega)
    rw [e]
    obtain ⟨τ, q1, q2, q3, q4⟩ := shiftB (K := K) (n := n) (mk := mk) (g := g) ho d (i + 1) f (sI σ c (o + 7 + i) (g (i + 3))) (by omega) (by omega) (fun b hb => by
      rw [sI_r]
      by_cases hbi : b = i
      · rw [if_pos ⟨rfl, by omega⟩, hbi]
      · rw [if_neg (by omega)]; exact h1 b (by omega)) (fun b hb hb2 => by rw [sI_r, if_neg (by omega)]; exact h2 b (by omega) hb2) (by rw [sI_r, if_neg (by omega)]; exact h6)
    exact ⟨τ, q1, q2, fun b hb => by rw [q3 b hb, sI_r, if_neg (by omega)], (EB.rf.i ⟨by omega, by omega⟩).tr q4⟩
theorem stampB_end {σ : MT} {c i : Nat} {fs : Nat → Int32} {l : List SP} {mk : Int32} (hc : c = 43 ∨ c = 44) (hi : i < 5) (h1 : ∀ j, j < 6 → σ.1 c (19 * i + j) = fs j) (h6 : σ.1 c (19 * i + 6) = nI l.length) (hl : l.length < 4) (ht : hTB σ c (19 * i) 0 l) (hti : IR 0 100000000 (σ.1 c 102)) (hd : IR (-4) 6 (fs 1)) (hs : IR 0 64 (σ.1 40 i)) :
    ∃ τ, f_M_stampOn_66 c (nI i) mk (nI (19 * i)) σ = some τ ∧ hB τ c (19 * i) (fs, l ++ [(clk (σ.1 c 102) (fs 1) (σ.1 40 i), mk, 0)]) ∧ EB c (PB (19 * i)) S0 σ τ := by
  unfold f_M_stampOn_66
  simp (disch := omega) only [ad19, ad3, ad95, nIp_0, nIp_1, nIp_2, nIp_3, nIp_4, nIp_5, nIp_6, nIp_7, nI_add, nIc, inb_n, eq_self, if_true]
  rw [h6, v_clockB hi hti (by rw [h1 1 (by decide)]; exact hd) hs, Option.bind_some, h1 1 (by decide)]
  generalize clk (σ.1 c 102) (fs 1) (σ.1 40 i) = ck
  simp (disch := omega) only [ad19, ad3, ad95, nIp_0, nIp_1, nIp_2, nIp_3, nIp_4, nIp_5, nIp_6, nIp_7, nI_add, nIc, inb_n, eq_self, if_true]
  unfold f_M_stampOn_93
  simp (disch := omega) only [ad19, ad3, ad95, nIp_0, nIp_1, nIp_2, nIp_3, nIp_4, nIp_5, nIp_6, nIp_7, nI_add, nIc, inb_n, eq_self, if_true]
  unfold f_M_stampOn_107 f_M_stampOn_118
  simp (disch := omega) only [ad19, ad3, ad95, nIp_0, nIp_1, nIp_2, nIp_3, nIp_4, nIp_5, nIp_6, nIp_7, nI_add, nIc, inb_n, eq_self, if_true]
  have ev : sI (sI (sI σ c (19 * i + 7 + 3 * l.length) ck) c (19 * i + 7 + 3 * l.length + 1) mk) c (19 * i + 7 + 3 * l.length + 2) 0 = v3 σ c (19 * i) l.length (ck, mk, 0) := rfl
  rw [ev]
  have e6 : (v3 σ c (19 * i) l.length (ck, mk, 0)).1 c (19 * i + 6) = nI l.length := by rw [v3_lo _ _ _ _ _ _ (by omega)]; exact h6
  rw [e6, nIs]
  refine ⟨_, rfl, hTB.B (nd := (fs, _)) ((ht.add (ck, mk, 0)).eq fun b hb => by rw [sI_r, if_neg (by omega)]) (fun j hj => ?_) ?_ (by simp; omega), (v3_eb _ _ _ _ _ (by omega)).i ⟨by omega, by omega⟩⟩
  · rw [sI_r, if_neg (by omega), v3_lo _ _ _ _ _ _ (by omega)]
    exact h1 j hj
  · rw [sI_r, if_pos ⟨rfl, rfl⟩]
    simp
theorem v_stampB {σ : MT} {c i : Nat} {nd : ND} {mk : Int32} (h : hB σ c (19 * i) nd) (hc : c = 43 ∨ c = 44) (hi : i < 5) (hti : IR 0 100000000 (σ.1 c 102)) (hd : IR (-4) 6 (nd.1 1)) (hs : IR 0 64 (σ.1 40 i)) :
    ∃ τ, f_M_stampOn c (nI i) mk σ = some τ ∧ hB τ c (19 * i) (nd.1, (if nd.2.length < 4 then nd.2 else nd.2.drop 1) ++ [(clk (σ.1 c 102) (nd.1 1) (σ.1 40 i), mk, 0)]) ∧ EB c (PB (19 * i)) S0 σ τ := by
  have h3 := h.2.2.1
  obtain ⟨f1, f2, f3, f4, f5, f6, f0⟩ := h.f
  unfold f_M_stampOn
  simp (disch := omega) only [ad19, ad3, ad95, nIp_0, nIp_1, nIp_2, nIp_3, nIp_4, nIp_5, nIp_6, nIp_7, nI_add, nIc, inb_n, eq_self, if_true]
  rw [f6]
  by_cases hl : nd.2.length < 4
  · rw [if_neg (fun q => absurd ((neq_4 (by omega)).mp q) (by omega)), if_pos hl]
    exact stampB_end hc hi h.1 f6 hl h.T hti hd hs
  · rw [if_pos ((neq_4 (by omega)).mpr (by omega)), if_neg hl]
    have hld : (nd.2.drop 1).length = 3 := by simp; omega
    obtain ⟨τ, q1, q2, q3, q4⟩ := shiftB (K := f_M_stampOn_66) (c := c) (o := 19 * i) (n := nI i) (mk := mk) (g := fun b => σ.1 c (19 * i + 7 + b)) (by omega) 9 0 1100 σ (by omega) (by omega) (fun b hb => absurd hb (by omega)) (fun b _ _ => rfl) (by rw [f6]; congr 1; omega)
    rw [show nI 0 = (0 : Int32) from rfl] at q1
    rw [q1]
    have e40 : (40 : Nat) ≠ c := by omega
    have k102 : (sI τ c (19 * i + 6) (nI 3)).1 c 102 = σ.1 c 102 := by rw [sI_r, if_neg (by omega)]; exact q4.1 102 (by unfold PB; omega)
    have k40 : (sI τ c (19 * i + 6) (nI 3)).1 40 i = σ.1 40 i := by rw [sI_n e40, q4.2.1 40 e40 (fun z => z)]
    obtain ⟨υ, p1, p2, p3⟩ := stampB_end (σ := sI τ c (19 * i + 6) (nI 3)) (c := c) (i := i) (fs := nd.1) (l := nd.2.drop 1) (mk := mk) hc hi (fun j hj => by rw [sI_r, if_neg (by omega), q3 _ (by omega)]; exact h.1 j hj) (by rw [sI_r, if_pos ⟨rfl, rfl⟩, hld]) (by omega) (fun j s hs => by
      have hj := (List.getElem?_eq_some_iff.mp hs).1
      rw [List.getElem?_drop] at hs
      have := h.2.2.2 (1 + j) s hs
      rw [Nat.zero_add]
      rw [sI_r, if_neg (by omega), sI_r, if_neg (by omega), sI_r, if_neg (by omega), q2 (3 * j) (by omega), show 19 * i + 7 + 3 * j + 1 = 19 * i + 7 + (3 * j + 1) by omega, q2 (3 * j + 1) (by omega), show 19 * i + 7 + 3 * j + 2 = 19 * i + 7 + (3 * j + 2) by omega, q2 (3 * j + 2) (by omega)]
      rw [show 19 * i + 7 + (3 * j + 3) = 19 * i + 7 + 3 * (1 + j) by omega, show 19 * i + 7 + (3 * j + 1 + 3) = 19 * i + 7 + 3 * (1 + j) + 1 by omega, show 19 * i + 7 + (3 * j + 2 + 3) = 19 * i + 7 + 3 * (1 + j) + 2 by omega]
      exact this) (by rw [k102]; exact hti) hd (by rw [k40]; exact hs)
    rw [k102, k40] at p2
    exact ⟨υ, p1, p2, (q4.i ⟨by omega, by omega⟩).tr p3⟩
-- in
theorem lgc_lt (x y : Int64) : lg_cmp x y < 0 ↔ x.toInt < y.toInt := by
  have h := lg_cmp_ge x y
  rw [Int64.le_iff_toInt_le] at h
  rw [Int32.lt_iff_toInt_lt, Int32.toInt_zero]
  rw [Int32.le_iff_toInt_le, Int32.toInt_zero] at h
  omega
theorem lgc_gt (x y : Int64) : 0 < lg_cmp x y ↔ y.toInt < x.toInt := by
  unfold lg_cmp
  by_cases h1 : x > y
  · rw [if_pos h1]
    exact ⟨fun _ => Int64.lt_iff_toInt_lt.mp h1, fun _ => by decide⟩
  · rw [if_neg h1]
    have : ¬ y.toInt < x.toInt := fun q => h1 (Int64.lt_iff_toInt_lt.mpr q)
    by_cases h2 : x = y
    · rw [if_pos h2]; exact ⟨fun q => absurd q (by decide), fun q => absurd q this⟩
    · rw [if_neg h2]; exact ⟨fun q => absurd q (by decide), fun q => absurd q this⟩
theorem v_in (y a b : Int64) : f_M_in y a b = some (if a.toInt ≤ y.toInt ∧ y.toInt ≤ b.toInt then 1 else 0) := by
  unfold f_M_in
  by_cases h1 : y.toInt < a.toInt
  · rw [if_pos ((lgc_lt _ _).mpr h1), if_neg (by omega)]
  · rw [if_neg (fun q => h1 ((lgc_lt _ _).mp q))]
    by_cases h2 : b.toInt < y.toInt
    · rw [if_pos ((lgc_gt _ _).mpr h2), if_neg (by omega)]
    · rw [if_neg (fun q => h2 ((lgc_gt _ _).mp q)), if_pos (by omega)]
theorem prgB {a b : Int32} (ha : IR 0 64 a) (hb : IR 0 64 b) : (a - b + 64) - (a - b + 64) / 64 * 64 = prg a b := by
  obtain ⟨a1, a2⟩ := ha
  obtain ⟨b1, b2⟩ := hb
  have e1 : (a - b).toInt = a.toInt - b.toInt := by rw [Int32.toInt_sub]; exact z_bm (by omega) (by omega)
  have e2 : (a - b + 64).toInt = a.toInt - b.toInt + 64 := by
    rw [Int32.toInt_add, e1]; exact z_bm (by show _ ≤ a.toInt - b.toInt + 64; omega) (by show a.toInt - b.toInt + 64 < _; omega)
  unfold prg
  rw [e1]
  apply z_eqi
  obtain ⟨d1, d2, d3⟩ := z_divI (x := a - b + 64) (y := 64) (by decide)
  rw [d3, e2, show (64 : Int32).toInt = 64 from rfl, Int.tdiv_eq_ediv_of_nonneg (by omega)]
  omega
theorem prg_b (a b : Int32) : IR 0 64 (prg a b) := by
  have h1 := Int.emod_nonneg (a - b).toInt (show (64 : Int) ≠ 0 by decide)
  have h2 := Int.emod_lt_of_pos (a - b).toInt (show (0 : Int) < 64 by decide)
  unfold prg IR
  rw [z_i (by omega) (by omega)]
  exact ⟨h1, h2⟩
theorem nI_9 {i : Nat} (hi : i < 2147483648) : ¬ (-9 : Int32) = nI i := fun q => by
  have := congrArg Int32.toInt q
  rw [nIt hi, show (-9 : Int32).toInt = -9 from rfl] at this
  omega
theorem v_hearB {σ : MT} {c i f : Nat} {nd : ND} (h : hB σ c (19 * i) nd) (hc : c = 43 ∨ c = 44) (hi : i < 5) (hf : f < 5) (hg : IR 0 10 (nd.1 5)) (hnum : IR 0 64 (nd.1 3)) (hm : IR 0 64 (σ.1 53 f)) (hti : IR 0 100000000 (σ.1 c 102)) (hd : IR (-4) 6 (nd.1 1)) (hs : IR 0 64 (σ.1 40 i)) :
    ∃ τ, f_M_hear c (nI i) (nI f) σ = some τ ∧ hB τ c (19 * i) (hearN (nI i) (σ.1 52 f) (σ.1 53 f) (σ.1 54 f) (clk (σ.1 c 102) (nd.1 1) (σ.1 40 i)) nd) ∧ EB c (PB (19 * i)) S0 σ τ := by
  obtain ⟨f1, f2, f3, f4, f5, f6, f0⟩ := h.f
  have c54 : (54 : Nat) ≠ c := by omega
  have c53 : (53 : Nat) ≠ c := by omega
  have c40 : (40 : Nat) ≠ c := by omega
  -- the end: number, heart, stamp
  have fin : ∀ (σ1 : MT) (nd1 : ND), hB σ1 c (19 * i) nd1 → nd1.1 1 = nd.1 1 → EB c (PB (19 * i)) S0 σ σ1 → ∃ τ, f_M_hear_144 c (nI i) (nI f) (nI (19 * i)) σ1 = some τ ∧ hB τ c (19 * i) (storeN (σ.1 53 f) (clk (σ.1 c 102) (nd.1 1) (σ.1 40 i)) (σ.1 54 f) nd1) ∧ EB c (PB (19 * i)) S0 σ τ := by
    intro σ1 nd1 h1 hdr e1
    unfold f_M_hear_144
    simp (disch := omega) only [ad19, ad3, ad95, nIp_0, nIp_1, nIp_2, nIp_3, nIp_4, nIp_5, nIp_6, nIp_7, nI_add, nIc, inb_n, eq_self, if_true]
    unfold f_M_hear_163
    simp (disch := omega) only [ad19, ad3, ad95, nIp_0, nIp_1, nIp_2, nIp_3, nIp_4, nIp_5, nIp_6, nIp_7, nI_add, nIc, inb_n, eq_self, if_true]
    rw [e1.2.1 53 c53 (fun z => z)]
    generalize hσ2 : sI (sI σ1 c (19 * i + 3) (σ.1 53 f)) c (19 * i + 4) 0 = σ2
    have e2 : EB c (PB (19 * i)) S0 σ σ2 := by rw [← hσ2]; exact (e1.i ⟨by omega, by omega⟩).i ⟨by omega, by omega⟩
    obtain ⟨g1, g2, g3, g4, g5, g6, g0⟩ := h1.f
    have h2 : hB σ2 c (19 * i) (fun j => if j = 3 then σ.1 53 f else if j = 4 then 0 else nd1.1 j, nd1.2) := by
      refine hTB.B (nd := (_, nd1.2)) (h1.T.eq fun b hb => by rw [← hσ2, sI_r, if_neg (by omega), sI_r, if_neg (by omega)]) ?_ ?_ h1.2.2.1
      · refine lt6 ?_ ?_ ?_ ?_ ?_ ?_
        · rw [← hσ2, sI_r, if_neg (by omega), sI_r, if_neg (by omega), Nat.add_zero, g0]; simp
        · rw [← hσ2, sI_r, if_neg (by omega), sI_r, if_neg (by omega), g1]; simp
        · rw [← hσ2, sI_r, if_neg (by omega), sI_r, if_neg (by omega), g2]; simp
        · rw [← hσ2, sI_r, if_neg (by omega), sI_r, if_pos ⟨rfl, rfl⟩]; simp
        · rw [← hσ2, sI_r, if_pos ⟨rfl, rfl⟩]; simp
        · rw [← hσ2, sI_r, if_neg (by omega), sI_r, if_neg (by omega), g5]; simp
      · rw [← hσ2, sI_r, if_neg (by omega), sI_r, if_neg (by omega)]; exact g6
    have k102 : σ2.1 c 102 = σ.1 c 102 := e2.1 102 (by unfold PB; omega)
    have k40 : σ2.1 40 i = σ.1 40 i := by rw [e2.2.1 40 c40 (fun z => z)]
    obtain ⟨τ, p1, p2, p3⟩ := v_stampB (mk := σ2.1 54 f) h2 hc hi (by rw [k102]; exact hti) (by show IR (-4) 6 (nd1.1 1); rw [hdr]; exact hd) (by rw [k40]; exact hs)
    rw [p1, Option.bind_some]
    refine ⟨τ, rfl, ?_, e2.tr p3⟩
    rw [k102, k40, e2.2.1 54 c54 (fun z => z)] at p2
    have hd1 : (if (1 : Nat) = 3 then σ.1 53 f else if (1 : Nat) = 4 then 0 else nd1.1 1) = nd.1 1 := by simp [hdr]
    unfold storeN
    simp only at p2
    rw [hd1] at p2
    exact p2
  -- behind the flag 'anew'
  have key : ∀ fl : Int32, (fl = 1 ∧ anewN (nI i) (σ.1 52 f) nd = true) ∨ (fl = 0 ∧ ¬ anewN (nI i) (σ.1 52 f) nd = true) → ∃ τ, f_M_hear_56 c (nI i) (nI f) (nI (19 * i)) (nd.1 2) (σ.1 52 f) fl σ = some τ ∧ hB τ c (19 * i) (hearN (nI i) (σ.1 52 f) (σ.1 53 f) (σ.1 54 f) (clk (σ.1 c 102) (nd.1 1) (σ.1 40 i)) nd) ∧ EB c (PB (19 * i)) S0 σ τ := by
    intro fl hfl
    have new : fl = 1 → anewN (nI i) (σ.1 52 f) nd = true → ∃ τ, f_M_hear_123 c (nI i) (nI f) (nI (19 * i)) (σ.1 52 f) fl σ = some τ ∧ hB τ c (19 * i) (hearN (nI i) (σ.1 52 f) (σ.1 53 f) (σ.1 54 f) (clk (σ.1 c 102) (nd.1 1) (σ.1 40 i)) nd) ∧ EB c (PB (19 * i)) S0 σ τ := by
      intro e1 ea
      unfold f_M_hear_123 hearN
      rw [e1, if_neg (by decide), if_pos ea]
      simp (disch := omega) only [ad19, ad3, ad95, nIp_0, nIp_1, nIp_2, nIp_3, nIp_4, nIp_5, nIp_6, nIp_7, nI_add, nIc, inb_n, eq_self, if_true]
      refine fin _ (fun j => if j = 2 then σ.1 52 f else nd.1 j, []) ?_ (by simp) ((EB.rf.i ⟨by omega, by omega⟩).i ⟨by omega, by omega⟩)
      refine hTB.B (nd := (_, [])) (fun j s hj => by simp at hj) ?_ ?_ (by simp)
      · refine lt6 ?_ ?_ ?_ ?_ ?_ ?_
        · rw [sI_r, if_neg (by omega), sI_r, if_neg (by omega), Nat.add_zero, f0]; simp
        · rw [sI_r, if_neg (by omega), sI_r, if_neg (by omega), f1]; simp
        · rw [sI_r, if_neg (by omega), sI_r, if_pos ⟨rfl, rfl⟩]; simp
        · rw [sI_r, if_neg (by omega), sI_r, if_neg (by omega), f3]; simp
        · rw [sI_r, if_neg (by omega), sI_r, if_neg (by omega), f4]; simp
        · rw [sI_r, if_neg (by omega), sI_r, if_neg (by omega), f5]; simp
      · rw [sI_r, if_pos ⟨rfl, rfl⟩]; rfl
    have l110 : ∀ mo : Int32, (mo = 1 ∧ newsN (nI i) (σ.1 52 f) (σ.1 53 f) nd = true) ∨ (mo = 0 ∧ ¬ newsN (nI i) (σ.1 52 f) (σ.1 53 f) nd = true) → ∃ τ, f_M_hear_110 c (nI i) (nI f) (nI (19 * i)) (σ.1 52 f) fl mo σ = some τ ∧ hB τ c (19 * i) (hearN (nI i) (σ.1 52 f) (σ.1 53 f) (σ.1 54 f) (clk (σ.1 c 102) (nd.1 1) (σ.1 40 i)) nd) ∧ EB c (PB (19 * i)) S0 σ τ := by
      intro mo hmo
      unfold f_M_hear_110
      rcases hfl with ⟨rfl, ea⟩ | ⟨rfl, ea⟩
      · rw [if_neg (by decide)]
        exact new rfl ea
      · rw [if_pos rfl]
        rcases hmo with ⟨rfl, em⟩ | ⟨rfl, em⟩
        · rw [if_neg (by decide)]
          unfold f_M_hear_123 hearN
          rw [if_pos rfl, if_neg ea, if_pos em]
          exact fin σ nd h rfl EB.rf
        · rw [if_pos rfl]
          unfold hearN
          rw [if_neg ea, if_neg em]
          exact ⟨σ, rfl, h, EB.rf⟩
    unfold f_M_hear_56
    simp (disch := omega) only [ad19, ad3, ad95, nIp_0, nIp_1, nIp_2, nIp_3, nIp_4, nIp_5, nIp_6, nIp_7, nI_add, nIc, inb_n, eq_self, if_true]
    rw [f3, prgB hm hnum]
    unfold f_M_hear_79 f_M_hear_109
    have hpb := prg_b (σ.1 53 f) (nd.1 3)
    by_cases h1 : σ.1 52 f = nd.1 2
    · rw [if_pos h1]
      by_cases h2 : σ.1 52 f = nI i
      · rw [if_pos h2]
        refine l110 0 (Or.inr ⟨rfl, ?_⟩)
        unfold newsN
        rw [← h1, h2]
        simp
      · rw [if_neg h2, v_in, Option.bind_some, Int32.toInt_toInt64, show (1 : Int64).toInt = 1 from rfl, show (31 : Int64).toInt = 31 from rfl]
        have h2' : ¬ nd.1 2 = nI i := by rw [← h1]; exact h2
        have l1 : (prg (σ.1 53 f) (nd.1 3) < 1) ↔ (prg (σ.1 53 f) (nd.1 3)).toInt < 1 := by rw [Int32.lt_iff_toInt_lt]; rfl
        have l2 : (31 < prg (σ.1 53 f) (nd.1 3)) ↔ 31 < (prg (σ.1 53 f) (nd.1 3)).toInt := by rw [Int32.lt_iff_toInt_lt]; rfl
        by_cases h3 : 1 ≤ (prg (σ.1 53 f) (nd.1 3)).toInt ∧ (prg (σ.1 53 f) (nd.1 3)).toInt ≤ 31
        · rw [if_pos h3, if_neg (by decide)]
          refine l110 1 (Or.inl ⟨rfl, ?_⟩)
          unfold newsN
          have n1 : ¬ prg (σ.1 53 f) (nd.1 3) < 1 := fun q => by have := l1.mp q; omega
          have n2 : ¬ 31 < prg (σ.1 53 f) (nd.1 3) := fun q => by have := l2.mp q; omega
          simp [h1, h2', n1, n2]
        · rw [if_neg h3, if_pos rfl]
          refine l110 0 (Or.inr ⟨rfl, ?_⟩)
          unfold newsN
          intro q
          simp only [Bool.and_eq_true, Bool.not_eq_true', decide_eq_true_eq, decide_eq_false_iff_not] at q
          obtain ⟨-, -, q3, q4⟩ := q
          rw [l1] at q3
          rw [l2] at q4
          omega
    · rw [if_neg h1]
      refine l110 0 (Or.inr ⟨rfl, ?_⟩)
      unfold newsN
      simp [h1]
  unfold f_M_hear f_M_hear_51 f_M_hear_55
  simp (disch := omega) only [ad19, ad3, ad95, nIp_0, nIp_1, nIp_2, nIp_3, nIp_4, nIp_5, nIp_6, nIp_7, nI_add, nIc, inb_n, eq_self, if_true]
  rw [f2, f5]
  have g0 : nd.1 5 = 0 ↔ nd.1 5 ≤ 0 := by
    rw [Int32.le_iff_toInt_le, Int32.toInt_zero]
    constructor
    · intro q; rw [q, Int32.toInt_zero]; omega
    · intro q
      have := hg.1
      exact Int32.toInt_inj.mp (by rw [Int32.toInt_zero]; omega)
  by_cases h9 : nd.1 2 = -9
  · rw [if_pos h9]
    refine key 1 (Or.inl ⟨rfl, ?_⟩)
    unfold anewN
    have := nI_9 (i := i) (by omega)
    simp [h9, this]
  · rw [if_neg h9]
    by_cases hr : nd.1 2 ≤ σ.1 52 f
    · rw [if_pos hr]
      refine key 0 (Or.inr ⟨rfl, ?_⟩)
      unfold anewN
      simp [h9, hr]
    · rw [if_neg hr]
      by_cases hself : nd.1 2 = nI i
      · rw [if_pos hself]
        by_cases hgu : nd.1 5 = 0
        · rw [if_pos hgu]
          refine key 1 (Or.inl ⟨rfl, ?_⟩)
          unfold anewN
          have := g0.mp hgu
          simp [hr, this]
        · rw [if_neg hgu]
          refine key 0 (Or.inr ⟨rfl, ?_⟩)
          unfold anewN
          have : ¬ nd.1 5 ≤ 0 := fun q => hgu (g0.mpr q)
          simp [hself, this]
      · rw [if_neg hself]
        refine key 1 (Or.inl ⟨rfl, ?_⟩)
        unfold anewN
        simp [hself, hr]
