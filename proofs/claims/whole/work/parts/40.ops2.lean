/-! stamp, link, see, unsee, turn, power, drift -/
theorem bI_t : bI true = 1 := rfl
theorem bI_f : bI false = 0 := rfl
theorem op_stamp {S : AS} {B : Nat} (ok : okA S B) (x i w : Int32) : opQ (f_TF_stamp x i w) (f_M_stamp x i w) S := by
  have hp := ok.1
  have hN5 : pN (aP S) ≤ 5 := ok.1.1
  have okv := ok.2.1
  have z0 : (0 : Int64).toInt = 0 := rfl
  have z2 : (2 : Int64).toInt = 2 := rfl
  cases hx : isI x (pN (aP S)) with
  | false =>
    refine ⟨-1, fun σ h => ?_, fun σ h => ?_⟩
    · unfold f_TF_stamp
      rw [A_hasNode x hp h.2.1, Option.bind_some, hx, if_pos bI_f]
    · unfold f_M_stamp
      rw [B_isNode x hp h.2.1, Option.bind_some, hx, if_pos bI_f]
  | true =>
    obtain ⟨n, hn, rfl⟩ := isI_t (by omega) hx
    rcases rngI w 3 (by omega) with ⟨m, hm, rfl⟩ | hw
    · have hb : ∀ σ, RB σ S → hB σ 43 (19 * n) ((aV S).2.2 n) := fun σ h => h.2.2.1.2.2 n hn
      have ha : ∀ σ, RA σ S → hN σ (61 + 1 + 1 + 4 * n) ((aV S).2.2 n) := fun σ h => h.2.2.1.2.2.1 n hn
      have m0 : ¬ nI m < 0 := fun q => absurd ((nlt_0 (by omega)).mp q) (by omega)
      have m2 : nI m ≤ 2 := (nle_2 (by omega)).mpr (by omega)
      have c2 : (0 : Int) ≤ (m : Int) ∧ (m : Int) ≤ 2 := by omega
      by_cases h0 : ((aV S).2.2 n).1 0 = 0
      · refine ⟨-9, fun σ h => ?_, fun σ h => ?_⟩
        · unfold f_TF_stamp
          rw [A_hasNode _ hp h.2.1, Option.bind_some, hx, if_neg (by decide), if_neg m0, if_pos m2, if_pos (inb_n (by omega) (by decide)), nIc (n := n) (by omega), show 62 + 1 + 4 * n = 61 + 1 + 1 + 4 * n by omega, (ha σ h).1 0 (by decide), if_pos h0]
        · unfold f_M_stamp
          rw [B_isNode _ hp h.2.1, Option.bind_some, hx, if_neg (by decide), v_in, Option.bind_some, Int32.toInt_toInt64, z0, z2, nIt (n := m) (by omega), if_pos c2, if_neg (by decide), v_isOn h.2.2.1 hn hN5 okv.1, Option.bind_some, if_pos h0, if_pos rfl]
      · have hl4 : ∀ σ, RA σ S → ((aV S).2.2 n).2.length ≤ 4 := fun σ h => (ha σ h).2.2.1
        by_cases hle : ¬ ((aV S).2.2 n).2.length ≤ 4
        · exact ⟨0, fun σ h => absurd (hl4 σ h) hle, fun σ h => absurd (hb σ h).2.2.1 hle⟩
        replace hle := Decidable.not_not.mp hle
        cases hi : isI i ((aV S).2.2 n).2.length with
        | false =>
          refine ⟨-9, fun σ h => ?_, fun σ h => ?_⟩
          · unfold f_TF_stamp f_Nd_stampPart
            have hq := A_has (x := i) (n := ((aV S).2.2 n).2.length) (by have := hl4 σ h; omega) rfl
            rw [hi] at hq
            rw [A_hasNode _ hp h.2.1, Option.bind_some, hx, if_neg (by decide), if_neg m0, if_pos m2, if_pos (inb_n (by omega) (by decide)), nIc (n := n) (by omega), show 62 + 1 + 4 * n = 61 + 1 + 1 + 4 * n by omega, (ha σ h).1 0 (by decide), if_neg h0, if_pos (inb_n (by omega) (by decide)), (ha σ h).2.1]
            by_cases q1 : i < 0
            · rw [if_pos q1, Option.bind_some]
            · rw [if_neg q1] at hq ⊢
              by_cases q2 : nI ((aV S).2.2 n).2.length ≤ i
              · rw [if_pos q2, Option.bind_some]
              · rw [if_neg q2] at hq
                cases hq
          · have hl := (hb σ h).2.2.1
            unfold f_M_stamp
            have f6 : σ.1 43 (19 * n + 6) = nI ((aV S).2.2 n).2.length := (hb σ h).2.1
            rw [B_isNode _ hp h.2.1, Option.bind_some, hx, if_neg (by decide), v_in, Option.bind_some, Int32.toInt_toInt64, z0, z2, nIt (n := m) (by omega), if_pos c2, if_neg (by decide), v_isOn h.2.2.1 hn hN5 okv.1, Option.bind_some, if_neg h0, if_neg (by decide), ad19, nIp_6, if_pos (inb_n (by omega) (by decide)), nIc (by omega), f6]
            have hq := B_is (x := i) (y := nI ((aV S).2.2 n).2.length) (n := ((aV S).2.2 n).2.length) (by omega) rfl
            rw [v_in, Option.bind_some, hi] at hq
            rw [v_in, Option.bind_some]
            split at hq
            · cases hq
            · next hc => rw [if_neg hc, if_pos rfl]
        | true =>
          obtain ⟨j, hj, rfl⟩ := isI_t (n := ((aV S).2.2 n).2.length) (by omega) hi
          obtain ⟨s, hs⟩ : ∃ s, ((aV S).2.2 n).2[j]? = some s := ⟨_, List.getElem?_eq_getElem hj⟩
          refine ⟨if m = 0 then s.1 else if m = 1 then s.2.1 else s.2.2, fun σ h => ?_, fun σ h => ?_⟩
          · have hl := hl4 σ h
            obtain ⟨r1, r2, r3⟩ := (ha σ h).2.2.2 j s hs
            unfold f_TF_stamp f_Nd_stampPart
            rw [A_hasNode _ hp h.2.1, Option.bind_some, hx, if_neg (by decide), if_neg m0, if_pos m2, if_pos (inb_n (by omega) (by decide)), nIc (n := n) (by omega), show 62 + 1 + 4 * n = 61 + 1 + 1 + 4 * n by omega, (ha σ h).1 0 (by decide), if_neg h0, if_pos (inb_n (by omega) (by decide)), (ha σ h).2.1, if_neg (fun q => absurd ((nlt_0 (by omega)).mp q) (by omega)), if_neg (fun q => absurd ((nIle (by omega) (by omega)).mp q) (by omega)), if_pos ((nlt_4 (by omega)).mpr (by omega)), inb_n (m := j) (by omega) (by decide), nIc (n := j) (by omega), if_pos rfl, if_pos rfl, if_pos rfl, r1, r2, r3]
            obtain rfl | rfl | rfl : m = 0 ∨ m = 1 ∨ m = 2 := by omega
            · rfl
            · rfl
            · rfl
          · have hl := (hb σ h).2.2.1
            obtain ⟨r1, r2, r3⟩ := (hb σ h).2.2.2 j s hs
            have f6 : σ.1 43 (19 * n + 6) = nI ((aV S).2.2 n).2.length := (hb σ h).2.1
            unfold f_M_stamp
            have hq := B_is (x := nI j) (y := nI ((aV S).2.2 n).2.length) (n := ((aV S).2.2 n).2.length) (by omega) rfl
            rw [v_in, Option.bind_some, hi] at hq
            rw [B_isNode _ hp h.2.1, Option.bind_some, hx, if_neg (by decide), v_in, Option.bind_some, Int32.toInt_toInt64, z0, z2, nIt (n := m) (by omega), if_pos c2, if_neg (by decide), v_isOn h.2.2.1 hn hN5 okv.1, Option.bind_some, if_neg h0, if_neg (by decide), ad19, nIp_6, if_pos (inb_n (by omega) (by decide)), nIc (by omega), f6, v_in, Option.bind_some]
            split at hq
            · next hc =>
              rw [if_pos hc, if_neg (by decide), ad3, nIp_7, nI_add, nI_add, if_pos (inb_n (by omega) (by decide)), nIc (by omega)]
              obtain rfl | rfl | rfl : m = 0 ∨ m = 1 ∨ m = 2 := by omega
              · rw [Nat.add_zero, r1]; rfl
              · rw [r2]; rfl
              · rw [r3]; rfl
            · cases hq
    · refine ⟨-2, fun σ h => ?_, fun σ h => ?_⟩
      · unfold f_TF_stamp
        rw [A_hasNode _ hp h.2.1, Option.bind_some, hx, if_neg (by decide)]
        by_cases q : w.toInt < 0
        · rw [if_pos (by rw [Int32.lt_iff_toInt_lt, Int32.toInt_zero]; exact q)]
        · rw [if_neg (by rw [Int32.lt_iff_toInt_lt, Int32.toInt_zero]; exact q), if_neg (by rw [Int32.le_iff_toInt_le]; show ¬ w.toInt ≤ 2; omega)]
      · unfold f_M_stamp
        rw [B_isNode _ hp h.2.1, Option.bind_some, hx, if_neg (by decide), v_in, Option.bind_some, Int32.toInt_toInt64, z0, z2, if_neg (c := 0 ≤ w.toInt ∧ w.toInt ≤ 2) (by omega), if_pos rfl]
theorem op_link {S : AS} {B : Nat} (ok : okA S B) (x w : Int32) : opQ (f_TF_link x w) (f_M_link x w) S := by
  have hp := ok.1
  have hN5 : pN (aP S) ≤ 5 := ok.1.1
  have hL : pL (aP S) ≤ 7 := ok.1.2.1
  have okv := ok.2.1
  obtain ⟨dn, hd1, hd2⟩ := okv.2.2
  cases hx : isI x (pL (aP S)) with
  | false =>
    refine ⟨-1, fun σ h => ?_, fun σ h => ?_⟩
    · unfold f_TF_link
      rw [A_hasLink x hp h.2.1, Option.bind_some, hx, if_pos bI_f]
    · unfold f_M_link
      rw [B_isLink x hp h.2.1, Option.bind_some, hx, if_pos bI_f]
  | true =>
    obtain ⟨l, hl, rfl⟩ := isI_t (by omega) hx
    obtain ⟨e1, e2, e3⟩ := hp.2.2.2.2.2.2.1 l hl
    have hb := bit01 (lt_128 hd2 hL) (show l < 7 by omega)
    refine ⟨if w = 0 then nI (min (pE (aP S) l).1 (pE (aP S) l).2) else if w = 1 then nI (max (pE (aP S) l).1 (pE (aP S) l).2) else if w = 2 then bit (nI dn) l else -2, fun σ h => ?_, fun σ h => ?_⟩
    · unfold f_TF_link
      obtain ⟨q1, q2⟩ := h.2.1.2.2.2.2.1 l hl
      rw [A_hasLink _ hp h.2.1, Option.bind_some, hx, if_neg (by decide), inb_n (m := l) (by omega) (by decide), nIc (n := l) (by omega), if_pos rfl, if_pos rfl, show σ.1 18 l = _ from q1, show σ.1 19 l = _ from q2, v_isDown (k := 61) (by rw [h.2.2.1.2.1]; exact hd1) (by omega) (lt_128 hd2 hL), Option.bind_some]
      refine ites rfl (ites rfl (ites ?_ rfl))
      rcases hb with q | q
      · rw [q, if_pos rfl]
      · rw [q, if_neg (by decide)]
    · unfold f_M_link f_M_link_30
      obtain ⟨q1, q2⟩ := h.2.1.2.2.2.2 l hl
      have hd : σ.1 43 (95 + l) = bit (nI dn) l := by
        have := h.2.2.1.2.1 l (by omega)
        rw [hd1] at this
        exact this
      rw [B_isLink _ hp h.2.1, Option.bind_some, hx, if_neg (by decide), inb_n (m := l) (by omega) (by decide), nIc (n := l) (by omega), if_pos rfl, if_pos rfl, q1, q2, ad95, if_pos (inb_n (by omega) (by decide)), nIc (by omega), hd, if_pos rfl, if_pos rfl, if_pos rfl, if_pos rfl]
      by_cases hlt : nI (pE (aP S) l).2 ≤ nI (pE (aP S) l).1
      · have := (nIle (a := (pE (aP S) l).2) (b := (pE (aP S) l).1) (by omega) (by omega)).mp hlt
        rw [if_pos hlt, Nat.min_eq_right this, Nat.max_eq_left this]
        exact ites rfl (ites rfl (ites rfl rfl))
      · have : (pE (aP S) l).1 ≤ (pE (aP S) l).2 := by
          rcases Nat.le_total (pE (aP S) l).2 (pE (aP S) l).1 with q | q
          · exact absurd ((nIle (by omega) (by omega)).mpr q) hlt
          · exact q
        rw [if_neg hlt, Nat.min_eq_left this, Nat.max_eq_right this]
        exact ites rfl (ites rfl (ites rfl rfl))
