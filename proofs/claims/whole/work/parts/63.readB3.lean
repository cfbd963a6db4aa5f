/-! THE REFERENCE as it reads: digits of a node, of a link; an item; a letter -/
theorem B_node {σ : MT} {ph hd f : Nat} {hdr : Int32} {q : PLN} {dr : Nat → Int32} (h : rdB σ (ph, hd, hdr, q, dr)) (ok : okR (ph, hd, hdr, q, dr)) (hf : f < 10) (h6 : 6 ≤ ph) (h8 : ph ≤ 8) : ∃ τ r, f_M_takeOfNode (nI f) σ = some (r, τ) ∧ FRB σ τ ∧ (dgt f (ph, hd, hdr, q, dr) = none → r = 0) ∧ ∀ w, dgt f (ph, hd, hdr, q, dr) = some w → r = 1 ∧ rdB τ w := by
  obtain ⟨b1, b2, b3⟩ := h
  obtain ⟨o0, o1, o2, o3, o4, o5, o6, o7, o8, o9, o10, o11, o12⟩ := ok
  simp only at b1 b2 o0 o1 o2 o3 o4 o5 o6 o7 o8 o9 o10 o11 o12
  have hN5 := o7 h6 h8
  have e31 : ∀ v, (sI σ 38 38 v).1 38 31 = nI (pN q) := fun v => by rw [pl_g (by omega)]; exact b1.1
  have fr : ∀ u c j v, 57 ≤ c → c ≤ 60 → FRB σ (sI (sI σ 38 38 u) c j v) := fun u c j v h1 h2 => (FRB.rf.f (by omega)).c h1 h2
  have bp : ∀ v, qB (sI σ 38 38 v) q := fun v => b1.g (by omega) (by omega)
  unfold f_M_takeOfNode
  obtain rfl | rfl | rfl : ph = 6 ∨ ph = 7 ∨ ph = 8 := by omega
  · obtain ⟨⟨g0, g1, g2⟩, p1, p2⟩ : (σ.1 38 28 = q.1 0 ∧ σ.1 38 29 = q.1 1 ∧ σ.1 38 30 = q.1 2) ∧ σ.1 38 37 = 110 ∧ σ.1 38 38 = nI 0 := b3
    have e : dgt f (6, hd, hdr, q, dr) = some (7, hd, nI f - 4, q, dr) := rfl
    rw [pl_t p2, if_pos (show nI (0 + 1) = 1 from rfl), e31, if_pos (inb_n (by omega) (by decide)), nIc (by omega)]
    unfold f_M_takeOfNode_52
    rw [vin_n (x := 0) (y := 9) (by omega) rfl rfl, decide_eq_true (show 0 ≤ f ∧ f ≤ 9 by omega), Option.bind_some, if_pos (bI_z _)]
    refine ⟨_, _, rfl, fr _ _ _ _ (by omega) (by omega), fun z => (by rw [e] at z; cases z), fun w hw => ?_⟩
    rw [e] at hw
    cases hw
    refine ⟨rfl, (bp (σ.1 38 38 + 1)).fr (by rw [sI_n (by omega)]) (by rw [sI_n (by omega)]) (fun i _ => by rw [sI_n (by omega)]) (fun l _ => by rw [sI_n (by omega)]) (by rw [sI_n (by omega)]), fun i hi => ?_, ?_⟩
    · have hi' : i < pN q := hi
      rw [sI_r, if_neg (by omega), sI_n (by omega)]; exact b2 i hi
    · show ((sI (sI σ 38 38 _) 57 (pN q) _).1 38 28 = q.1 0 ∧ (sI (sI σ 38 38 _) 57 (pN q) _).1 38 29 = q.1 1 ∧ (sI (sI σ 38 38 _) 57 (pN q) _).1 38 30 = q.1 2) ∧ (sI (sI σ 38 38 _) 57 (pN q) _).1 38 37 = 110 ∧ (sI (sI σ 38 38 _) 57 (pN q) _).1 38 38 = nI 1 ∧ (sI (sI σ 38 38 _) 57 (pN q) (nI f - 4)).1 57 (pN q) = nI f - 4
      exact ⟨⟨by rw [sI_n (by omega), pl_g (by omega)]; exact g0, by rw [sI_n (by omega), pl_g (by omega)]; exact g1, by rw [sI_n (by omega), pl_g (by omega)]; exact g2⟩, by rw [sI_n (by omega), pl_g (by omega)]; exact p1, by rw [sI_n (by omega), pl_t p2], by rw [sI_r, if_pos ⟨rfl, rfl⟩]⟩
  · obtain ⟨⟨g0, g1, g2⟩, p1, p2, p3⟩ : (σ.1 38 28 = q.1 0 ∧ σ.1 38 29 = q.1 1 ∧ σ.1 38 30 = q.1 2) ∧ σ.1 38 37 = 110 ∧ σ.1 38 38 = nI 1 ∧ σ.1 57 (pN q) = hdr := b3
    have e : dgt f (7, hd, hdr, q, dr) = if f ≤ 6 then some (8, f, hdr, q, dr) else none := rfl
    rw [pl_t p2, if_neg (show ¬ nI (1 + 1) = 1 by decide), if_pos (show nI (1 + 1) = 2 from rfl), e31, if_pos (inb_n (by omega) (by decide)), nIc (by omega)]
    unfold f_M_takeOfNode_72
    rw [vin_n (x := 0) (y := 6) (by omega) rfl rfl, Option.bind_some, if_pos (bI_z _)]
    refine ⟨_, _, rfl, fr _ _ _ _ (by omega) (by omega), fun z => ?_, fun w hw => ?_⟩
    · by_cases g : f ≤ 6
      · rw [e, if_pos g] at z; cases z
      · rw [decide_eq_false (by omega)]; rfl
    · by_cases g : f ≤ 6
      · rw [e, if_pos g] at hw
        cases hw
        refine ⟨by rw [decide_eq_true (by omega)]; rfl, (bp (σ.1 38 38 + 1)).fr (by rw [sI_n (by omega)]) (by rw [sI_n (by omega)]) (fun i hi => by rw [sI_r, if_neg (by omega)]) (fun l _ => by rw [sI_n (by omega)]) (by rw [sI_n (by omega)]), fun i hi => ?_, ?_⟩
        · rw [sI_n (by omega), sI_n (by omega)]; exact b2 i hi
        · show ((sI (sI σ 38 38 _) 58 (pN q) _).1 38 28 = q.1 0 ∧ (sI (sI σ 38 38 _) 58 (pN q) _).1 38 29 = q.1 1 ∧ (sI (sI σ 38 38 _) 58 (pN q) _).1 38 30 = q.1 2) ∧ (sI (sI σ 38 38 _) 58 (pN q) _).1 38 37 = 110 ∧ (sI (sI σ 38 38 _) 58 (pN q) _).1 38 38 = nI 2 ∧ (sI (sI σ 38 38 _) 58 (pN q) (nI f)).1 57 (pN q) = hdr ∧ (sI (sI σ 38 38 _) 58 (pN q) (nI f)).1 58 (pN q) = nI f
          exact ⟨⟨by rw [sI_n (by omega), pl_g (by omega)]; exact g0, by rw [sI_n (by omega), pl_g (by omega)]; exact g1, by rw [sI_n (by omega), pl_g (by omega)]; exact g2⟩, by rw [sI_n (by omega), pl_g (by omega)]; exact p1, by rw [sI_n (by omega), pl_t p2], by rw [sI_n (by omega), sI_n (by omega)]; exact p3, by rw [sI_r, if_pos ⟨rfl, rfl⟩]⟩
      · rw [e, if_neg g] at hw; cases hw
  · obtain ⟨⟨g0, g1, g2⟩, p1, p2, p3, p4⟩ : (σ.1 38 28 = q.1 0 ∧ σ.1 38 29 = q.1 1 ∧ σ.1 38 30 = q.1 2) ∧ σ.1 38 37 = 110 ∧ σ.1 38 38 = nI 2 ∧ σ.1 57 (pN q) = hdr ∧ σ.1 58 (pN q) = nI hd := b3
    have e : dgt f (8, hd, hdr, q, dr) = if 10 * hd + f ≤ 63 then some (5, hd, hdr, adN q (nI (10 * hd + f)), fun i => if i = pN q then hdr else dr i) else none := rfl
    have hd6 := o9 rfl
    have e58 : ∀ v, (sI σ 38 38 v).1 58 (pN q) = nI hd := fun v => by rw [sI_n (by omega)]; exact p4
    rw [pl_t p2, if_neg (show ¬ nI (2 + 1) = 1 by decide), if_neg (show ¬ nI (2 + 1) = 2 by decide), e31, if_pos (inb_n (by omega) (by decide)), if_pos (inb_n (by omega) (by decide)), nIc (by omega), e58, ten]
    unfold f_M_takeOfNode_105
    have r31 : ∀ v, (sI (sI σ 38 38 v) 58 (pN q) (nI (10 * hd + f))).1 38 31 = nI (pN q) := fun v => by rw [sI_n (by omega)]; exact e31 v
    have r58 : ∀ v, (sI (sI σ 38 38 v) 58 (pN q) (nI (10 * hd + f))).1 58 (pN q) = nI (10 * hd + f) := fun v => by rw [sI_r, if_pos ⟨rfl, rfl⟩]
    rw [vin_n (x := 0) (y := 9) (by omega) rfl rfl, decide_eq_true (show 0 ≤ f ∧ f ≤ 9 by omega), Option.bind_some, if_neg (by decide), r31, if_pos (inb_n (by omega) (by decide)), nIc (by omega), r58, nIs]
    by_cases g : 10 * hd + f ≤ 63
    · rw [if_pos ((nle_63 (by omega)).mpr g)]
      refine ⟨_, _, rfl, ((fr _ _ _ _ (by omega) (by omega)).f (by omega)).f (by omega), fun z => (by rw [e, if_pos g] at z; cases z), fun w hw => ?_⟩
      rw [e, if_pos g] at hw
      cases hw
      obtain ⟨c1, c2, c3, c4⟩ := b1
      refine ⟨rfl, ⟨?_, ?_, fun i hi => ?_, fun l hl => ?_⟩, fun i hi => ?_, ?_⟩
      · rw [sI_r, if_neg (by omega), sI_r, if_pos ⟨rfl, rfl⟩]; rfl
      · rw [sI_r, if_neg (by omega), sI_r, if_neg (by omega), sI_n (by omega), pl_g (by omega)]; exact c2
      · have hi' : i < pN q + 1 := hi
        show _ = (if i = pN q then nI (10 * hd + f) else pS q i)
        rw [sI_n (by omega), sI_n (by omega), sI_r]
        by_cases z : i = pN q
        · rw [if_pos ⟨rfl, z⟩, if_pos z]
        · rw [if_neg (fun w => z w.2), if_neg z, sI_n (by omega)]; exact c3 i (by omega)
      · rw [sI_n (by omega), sI_n (by omega), sI_n (by omega), sI_n (by omega), sI_n (by omega), sI_n (by omega), sI_n (by omega), sI_n (by omega)]; exact c4 l hl
      · have hi' : i < pN q + 1 := hi
        show _ = (if i = pN q then hdr else dr i)
        rw [sI_n (by omega), sI_n (by omega), sI_n (by omega), sI_n (by omega)]
        by_cases z : i = pN q
        · rw [if_pos z, z]; exact p3
        · rw [if_neg z]; exact b2 i (by omega)
      · have k : ∀ j, j ≠ 38 → j ≠ 31 → j ≠ 37 → ∀ v, (sI (sI (sI (sI σ 38 38 v) 58 (pN q) (nI (10 * hd + f))) 38 31 (nI (pN q + 1))) 38 37 0).1 38 j = σ.1 38 j := fun j h1 h2 h3 v => by
          rw [sI_r, if_neg (by omega), sI_r, if_neg (by omega), sI_n (by omega), pl_g h1]
        show (_ = q.1 0 ∧ _ = q.1 1 ∧ _ = q.1 2) ∧ _ = (0 : Int32)
        exact ⟨⟨(k 28 (by omega) (by omega) (by omega) _).trans g0, (k 29 (by omega) (by omega) (by omega) _).trans g1, (k 30 (by omega) (by omega) (by omega) _).trans g2⟩, by rw [sI_r, if_pos ⟨rfl, rfl⟩]⟩
    · rw [if_neg (fun z => g ((nle_63 (by omega)).mp z))]
      exact ⟨_, _, rfl, fr _ _ _ _ (by omega) (by omega), fun _ => rfl, fun w hw => (by rw [e, if_neg g] at hw; cases hw)⟩
theorem B_nodeN {σ : MT} {ph hd : Nat} {hdr : Int32} {q : PLN} {dr : Nat → Int32} {x : Int32} (h : rdB σ (ph, hd, hdr, q, dr)) (ok : okR (ph, hd, hdr, q, dr)) (hx : x.toInt < 0 ∨ 9 < x.toInt) (h6 : 6 ≤ ph) (h8 : ph ≤ 8) : ∃ τ, f_M_takeOfNode x σ = some (0, τ) ∧ FRB σ τ := by
  obtain ⟨b1, b2, b3⟩ := h
  obtain ⟨o0, o1, o2, o3, o4, o5, o6, o7, -⟩ := ok
  simp only at b1 b2 o0 o1 o7
  have hN5 := o7 h6 h8
  have e31 : ∀ v, (sI σ 38 38 v).1 38 31 = nI (pN q) := fun v => by rw [pl_g (by omega)]; exact b1.1
  have fr : ∀ u c j v, 57 ≤ c → c ≤ 60 → FRB σ (sI (sI σ 38 38 u) c j v) := fun u c j v h1 h2 => (FRB.rf.f (by omega)).c h1 h2
  unfold f_M_takeOfNode
  obtain rfl | rfl | rfl : ph = 6 ∨ ph = 7 ∨ ph = 8 := by omega
  · obtain ⟨-, p1, p2⟩ : (σ.1 38 28 = q.1 0 ∧ σ.1 38 29 = q.1 1 ∧ σ.1 38 30 = q.1 2) ∧ σ.1 38 37 = 110 ∧ σ.1 38 38 = nI 0 := b3
    rw [pl_t p2, if_pos (show nI (0 + 1) = 1 from rfl), e31, if_pos (inb_n (by omega) (by decide)), nIc (by omega)]
    unfold f_M_takeOfNode_52
    rw [vin_o hx (by decide) (by decide), Option.bind_some, if_pos (by decide)]
    exact ⟨_, rfl, fr _ _ _ _ (by omega) (by omega)⟩
  · obtain ⟨-, p1, p2, p3⟩ : (σ.1 38 28 = q.1 0 ∧ σ.1 38 29 = q.1 1 ∧ σ.1 38 30 = q.1 2) ∧ σ.1 38 37 = 110 ∧ σ.1 38 38 = nI 1 ∧ σ.1 57 (pN q) = hdr := b3
    rw [pl_t p2, if_neg (show ¬ nI (1 + 1) = 1 by decide), if_pos (show nI (1 + 1) = 2 from rfl), e31, if_pos (inb_n (by omega) (by decide)), nIc (by omega)]
    unfold f_M_takeOfNode_72
    rw [vin_o hx (by decide) (by decide), Option.bind_some, if_pos (by decide)]
    exact ⟨_, rfl, fr _ _ _ _ (by omega) (by omega)⟩
  · obtain ⟨-, p1, p2, p3, p4⟩ : (σ.1 38 28 = q.1 0 ∧ σ.1 38 29 = q.1 1 ∧ σ.1 38 30 = q.1 2) ∧ σ.1 38 37 = 110 ∧ σ.1 38 38 = nI 2 ∧ σ.1 57 (pN q) = hdr ∧ σ.1 58 (pN q) = nI hd := b3
    rw [pl_t p2, if_neg (show ¬ nI (2 + 1) = 1 by decide), if_neg (show ¬ nI (2 + 1) = 2 by decide), e31, if_pos (inb_n (by omega) (by decide)), if_pos (inb_n (by omega) (by decide)), nIc (by omega)]
    unfold f_M_takeOfNode_105
    rw [vin_o hx (by decide) (by decide), Option.bind_some, if_pos rfl]
    exact ⟨_, rfl, fr _ _ _ _ (by omega) (by omega)⟩
theorem mayF_e {q : PLN} {f : Nat} (h : pN q ≤ f) : mayF q f = false := by
  cases g : mayF q f with
  | false => rfl
  | true => have := mayF_N g; omega
theorem mayL_e {q : PLN} {a f : Nat} (h : pN q ≤ f) : mayL q a f = false := by
  cases g : mayL q a f with
  | false => rfl
  | true =>
    unfold mayL at g
    simp only [Bool.and_eq_true, decide_eq_true_eq] at g
    omega
/-- in range of the nodes read -/
theorem vin_r {x y : Int32} {n : Nat} (hn : n < 1000) (hy : y = nI n) : f_M_in x.toInt64 0 ((y - 1).toInt64) = some (bI (isI x n)) := by
  subst hy
  rw [v_in, Int32.toInt_toInt64, Int32.toInt_toInt64, show (0 : Int64).toInt = 0 from rfl]
  have e : (nI n - 1).toInt = (n : Int) - 1 := by
    rw [Int32.toInt_sub, nIt (by omega)]
    exact z_bm (by show _ ≤ (n : Int) - 1; omega) (by show (n : Int) - 1 < _; omega)
  rw [e]
  unfold isI
  by_cases a : 0 ≤ x.toInt ∧ x.toInt ≤ (n : Int) - 1
  · rw [if_pos a, decide_eq_true a.1, decide_eq_true (by omega)]; rfl
  · rw [if_neg a]
    by_cases b : 0 ≤ x.toInt
    · rw [decide_eq_true b, decide_eq_false (by omega)]; rfl
    · rw [decide_eq_false b]; rfl
theorem isI_no {j n : Nat} (hj : n ≤ j) (h : j < 2147483648) : isI (nI j) n = false := by
  unfold isI
  rw [nIt h, decide_eq_false (show ¬ (j : Int) < (n : Int) by omega), Bool.and_false]
theorem B_link {σ : MT} {ph hd f : Nat} {hdr : Int32} {q : PLN} {dr : Nat → Int32} (h : rdB σ (ph, hd, hdr, q, dr)) (ok : okR (ph, hd, hdr, q, dr)) (hf : f < 10) (h9 : 9 ≤ ph) : ∃ τ r, f_M_takeOfLink (nI f) σ = some (r, τ) ∧ (r = 0 ∨ r = 1) ∧ FRB σ τ ∧ (dgt f (ph, hd, hdr, q, dr) = none → r = 0) ∧ ∀ w, dgt f (ph, hd, hdr, q, dr) = some w → r = 1 ∧ rdB τ w := by
  obtain ⟨b1, b2, b3⟩ := h
  obtain ⟨o0, o1, o2, o3, o4, o5, o6, o7, o8, o9, o10, o11, o12⟩ := ok
  simp only at b1 b2 o0 o1 o2 o3 o4 o5 o6 o7 o8 o9 o10 o11 o12
  have hL7 := o10 h9
  have hN := o1.1
  have e31 : ∀ v, (sI σ 38 38 v).1 38 31 = nI (pN q) := fun v => by rw [pl_g (by omega)]; exact b1.1
  have e34 : ∀ v, (sI σ 38 38 v).1 38 34 = nI (pL q) := fun v => by rw [pl_g (by omega)]; exact b1.2.1
  have fr : ∀ u c j v, 57 ≤ c → c ≤ 60 → FRB σ (sI (sI σ 38 38 u) c j v) := fun u c j v h1 h2 => (FRB.rf.f (by omega)).c h1 h2
  have bp : ∀ v, qB (sI σ 38 38 v) q := fun v => b1.g (by omega) (by omega)
  unfold f_M_takeOfLink
  obtain rfl | rfl : ph = 9 ∨ ph = 10 := by omega
  · obtain ⟨⟨g0, g1, g2⟩, p1, p2⟩ : (σ.1 38 28 = q.1 0 ∧ σ.1 38 29 = q.1 1 ∧ σ.1 38 30 = q.1 2) ∧ σ.1 38 37 = 107 ∧ σ.1 38 38 = nI 0 := b3
    have e : dgt f (9, hd, hdr, q, dr) = if mayF q f = true then some (10, f, hdr, q, dr) else none := rfl
    rw [pl_t p2, if_pos (show nI (0 + 1) = 1 from rfl), e34, if_pos (inb_n (by omega) (by decide)), nIc (by omega)]
    unfold f_M_takeOfLink_28
    have b1' : ∀ v, qB (sI (sI σ 38 38 v) 59 (pL q) (nI f)) q := fun v => (bp v).fr (by rw [sI_n (by omega)]) (by rw [sI_n (by omega)]) (fun i _ => by rw [sI_n (by omega)]) (fun l hl => by rw [sI_r, if_neg (by omega)]) (by rw [sI_n (by omega)])
    rw [vin_r (n := pN q) (by omega) (b1' _).1, Option.bind_some]
    by_cases hr : f < pN q
    · rw [isI_n hr (by omega), if_neg (by decide), B_full (b1' _) o1 hr, Option.bind_some]
      cases g : mayF q f with
      | false =>
        rw [if_neg (show ¬ bI (!false) = 0 by decide)]
        exact ⟨_, _, rfl, Or.inl rfl, fr _ _ _ _ (by omega) (by omega), fun _ => rfl, fun w hw => (by rw [e, if_neg (by rw [g]; decide)] at hw; cases hw)⟩
      | true =>
        rw [if_pos (show bI (!true) = 0 from rfl)]
        refine ⟨_, _, rfl, Or.inr rfl, fr _ _ _ _ (by omega) (by omega), fun z => (by rw [e, if_pos g] at z; cases z), fun w hw => ?_⟩
        rw [e, if_pos g] at hw
        cases hw
        refine ⟨rfl, b1' _, fun i hi => by rw [sI_n (by omega), sI_n (by omega)]; exact b2 i hi, ?_⟩
        show ((sI (sI σ 38 38 _) 59 (pL q) _).1 38 28 = q.1 0 ∧ (sI (sI σ 38 38 _) 59 (pL q) _).1 38 29 = q.1 1 ∧ (sI (sI σ 38 38 _) 59 (pL q) _).1 38 30 = q.1 2) ∧ (sI (sI σ 38 38 _) 59 (pL q) _).1 38 37 = 107 ∧ (sI (sI σ 38 38 _) 59 (pL q) _).1 38 38 = nI 1 ∧ (sI (sI σ 38 38 _) 59 (pL q) (nI f)).1 59 (pL q) = nI f
        exact ⟨⟨by rw [sI_n (by omega), pl_g (by omega)]; exact g0, by rw [sI_n (by omega), pl_g (by omega)]; exact g1, by rw [sI_n (by omega), pl_g (by omega)]; exact g2⟩, by rw [sI_n (by omega), pl_g (by omega)]; exact p1, by rw [sI_n (by omega), pl_t p2], by rw [sI_r, if_pos ⟨rfl, rfl⟩]⟩
    · rw [isI_no (by omega) (by omega), if_pos bI_f]
      exact ⟨_, _, rfl, Or.inl rfl, fr _ _ _ _ (by omega) (by omega), fun _ => rfl, fun w hw => (by rw [e, if_neg (by rw [mayF_e (by omega)]; decide)] at hw; cases hw)⟩
  · obtain ⟨⟨g0, g1, g2⟩, p1, p2, p3⟩ : (σ.1 38 28 = q.1 0 ∧ σ.1 38 29 = q.1 1 ∧ σ.1 38 30 = q.1 2) ∧ σ.1 38 37 = 107 ∧ σ.1 38 38 = nI 1 ∧ σ.1 59 (pL q) = nI hd := b3
    have e : dgt f (10, hd, hdr, q, dr) = if mayL q hd f = true then some (5, hd, hdr, adL q hd f, dr) else none := rfl
    have hd10 := o11 rfl
    have e59 : ∀ v, (sI σ 38 38 v).1 59 (pL q) = nI hd := fun v => by rw [sI_n (by omega)]; exact p3
    rw [pl_t p2, if_neg (show ¬ nI (1 + 1) = 1 by decide), e34, if_pos (inb_n (by omega) (by decide)), nIc (by omega), e59]
    unfold f_M_takeOfLink_68
    have b1' : ∀ v, qB (sI (sI σ 38 38 v) 38 37 0) q := fun v => (bp v).g (by omega) (by omega)
    have fr2 : ∀ u, FRB σ (sI (sI σ 38 38 u) 38 37 0) := fun u => (FRB.rf.f (by omega)).f (by omega)
    rw [vin_r (n := pN q) (by omega) (b1' _).1, Option.bind_some]
    have no : ¬ mayL q hd f = true → ∀ w, ¬ dgt f (10, hd, hdr, q, dr) = some w := fun g w hw => by rw [e, if_neg g] at hw; cases hw
    by_cases hr : f < pN q
    · rw [isI_n hr (by omega), if_neg (by decide)]
      by_cases heq : f = hd
      · rw [if_pos (by rw [heq])]
        refine ⟨_, _, rfl, Or.inl rfl, fr2 _, fun _ => rfl, fun w hw => (no (fun g => ?_) w hw).elim⟩
        unfold mayL at g
        rw [decide_eq_true heq.symm] at g
        cases g
      · rw [if_neg (fun z => heq ((nIeq (by omega) (by omega)).mp z)), B_linked (b1' _) o1 (by omega) (by omega), Option.bind_some]
        cases hl : lkM q hd f with
        | true =>
          rw [if_neg (by decide)]
          refine ⟨_, _, rfl, Or.inl rfl, fr2 _, fun _ => rfl, fun w hw => (no (fun g => ?_) w hw).elim⟩
          unfold mayL at g
          rw [hl] at g
          simp at g
        | false =>
          have g : mayL q hd f = true := by
            unfold mayL
            rw [decide_eq_false (show ¬ hd = f by omega), decide_eq_true hd10, decide_eq_true hr, hl]
            rfl
          rw [if_pos bI_f, (b1' _).2.1, if_pos (inb_n (by omega) (by decide)), nIc (by omega)]
          unfold f_M_takeOfLink_115
          have r34 : ∀ v, (sI (sI (sI σ 38 38 v) 38 37 0) 60 (pL q) (nI f)).1 38 34 = nI (pL q) := fun v => by rw [sI_n (by omega)]; exact (b1' v).2.1
          rw [r34, nIs]
          refine ⟨_, _, rfl, Or.inr rfl, ((fr2 _).c (by omega) (by omega)).f (by omega), fun z => (by rw [e, if_pos g] at z; cases z), fun w hw => ?_⟩
          rw [e, if_pos g] at hw
          cases hw
          obtain ⟨c1, c2, c3, c4⟩ := b1
          have k : ∀ j, j ≠ 38 → j ≠ 34 → j ≠ 37 → ∀ v, (sI (sI (sI (sI σ 38 38 v) 38 37 0) 60 (pL q) (nI f)) 38 34 (nI (pL q + 1))).1 38 j = σ.1 38 j := fun j h1 h2 h3 v => by
            rw [sI_r, if_neg (by omega), sI_n (by omega), sI_r, if_neg (by omega), pl_g h1]
          refine ⟨rfl, ⟨(k 31 (by omega) (by omega) (by omega) _).trans c1, ?_, fun i hi => ?_, fun l hl => ?_⟩, fun i hi => ?_, ?_⟩
          · rw [sI_r, if_pos ⟨rfl, rfl⟩]; rfl
          · rw [sI_n (by omega), sI_n (by omega), sI_n (by omega), sI_n (by omega)]; exact c3 i hi
          · have hl' : l < pL q + 1 := hl
            show _ = nI (if l = pL q then (hd, f) else pE q l).1 ∧ _ = nI (if l = pL q then (hd, f) else pE q l).2
            rw [sI_n (by omega), sI_n (by omega), sI_n (by omega), sI_n (by omega), sI_n (by omega), sI_r]
            by_cases z : l = pL q
            · rw [if_pos z, if_pos ⟨rfl, z⟩, z]; exact ⟨p3, rfl⟩
            · rw [if_neg z, if_neg (fun w => z w.2), sI_n (by omega), sI_n (by omega)]; exact c4 l (by omega)
          · rw [sI_n (by omega), sI_n (by omega), sI_n (by omega), sI_n (by omega)]; exact b2 i hi
          · show (_ = q.1 0 ∧ _ = q.1 1 ∧ _ = q.1 2) ∧ _ = (0 : Int32)
            exact ⟨⟨(k 28 (by omega) (by omega) (by omega) _).trans g0, (k 29 (by omega) (by omega) (by omega) _).trans g1, (k 30 (by omega) (by omega) (by omega) _).trans g2⟩, by rw [sI_r, if_neg (by omega), sI_n (by omega), sI_r, if_pos ⟨rfl, rfl⟩]⟩
    · rw [isI_no (by omega) (by omega), if_pos bI_f]
      exact ⟨_, _, rfl, Or.inl rfl, fr2 _, fun _ => rfl, fun w hw => (no (by rw [mayL_e (by omega)]; decide) w hw).elim⟩
theorem B_linkN {σ : MT} {ph hd : Nat} {hdr : Int32} {q : PLN} {dr : Nat → Int32} {x : Int32} (h : rdB σ (ph, hd, hdr, q, dr)) (ok : okR (ph, hd, hdr, q, dr)) (hx : x.toInt < 0 ∨ 9 < x.toInt) (h9 : 9 ≤ ph) : ∃ τ, f_M_takeOfLink x σ = some (0, τ) ∧ FRB σ τ := by
  obtain ⟨b1, b2, b3⟩ := h
  obtain ⟨o0, o1, o2, o3, o4, o5, o6, o7, o8, o9, o10, o11, o12⟩ := ok
  simp only at b1 b2 o0 o1 o10
  have hL7 := o10 h9
  have hN := o1.1
  have e31 : ∀ v, (sI σ 38 38 v).1 38 31 = nI (pN q) := fun v => by rw [pl_g (by omega)]; exact b1.1
  have e34 : ∀ v, (sI σ 38 38 v).1 38 34 = nI (pL q) := fun v => by rw [pl_g (by omega)]; exact b1.2.1
  have hi : isI x (pN q) = false := by
    unfold isI
    by_cases a : 0 ≤ x.toInt
    · rw [decide_eq_true a, decide_eq_false (by omega)]; rfl
    · rw [decide_eq_false a]; rfl
  unfold f_M_takeOfLink
  obtain rfl | rfl : ph = 9 ∨ ph = 10 := by omega
  · obtain ⟨⟨g0, g1, g2⟩, p1, p2⟩ : (σ.1 38 28 = q.1 0 ∧ σ.1 38 29 = q.1 1 ∧ σ.1 38 30 = q.1 2) ∧ σ.1 38 37 = 107 ∧ σ.1 38 38 = nI 0 := b3
    rw [pl_t p2, if_pos (show nI (0 + 1) = 1 from rfl), e34, if_pos (inb_n (by omega) (by decide)), nIc (by omega)]
    unfold f_M_takeOfLink_28
    rw [vin_r (n := pN q) (by omega) (by rw [sI_n (by omega)]; exact e31 _), Option.bind_some, hi, if_pos bI_f]
    exact ⟨_, rfl, (FRB.rf.f (by omega)).c (by omega) (by omega)⟩
  · obtain ⟨⟨g0, g1, g2⟩, p1, p2, p3⟩ : (σ.1 38 28 = q.1 0 ∧ σ.1 38 29 = q.1 1 ∧ σ.1 38 30 = q.1 2) ∧ σ.1 38 37 = 107 ∧ σ.1 38 38 = nI 1 ∧ σ.1 59 (pL q) = nI hd := b3
    rw [pl_t p2, if_neg (show ¬ nI (1 + 1) = 1 by decide), e34, if_pos (inb_n (by omega) (by decide))]
    unfold f_M_takeOfLink_68
    rw [vin_r (n := pN q) (by omega) (by rw [sI_r, if_neg (by omega)]; exact e31 _), Option.bind_some, hi, if_pos bI_f]
    exact ⟨_, rfl, (FRB.rf.f (by omega)).f (by omega)⟩
