/-! THE REFERENCE as it reads, letter by letter -/
def FRB (σ τ : MT) : Prop := (∀ c, c ≠ 38 → c < 57 ∨ 60 < c → τ.1 c = σ.1 c) ∧ (∀ j, j < 28 → τ.1 38 j = σ.1 38 j) ∧ τ.2 = σ.2
theorem FRB.rf {σ : MT} : FRB σ σ := ⟨fun _ _ _ => rfl, fun _ _ => rfl, rfl⟩
theorem FRB.tr {a b c : MT} (h1 : FRB a b) (h2 : FRB b c) : FRB a c := ⟨fun k x y => (h2.1 k x y).trans (h1.1 k x y), fun j x => (h2.2.1 j x).trans (h1.2.1 j x), h2.2.2.trans h1.2.2⟩
theorem FRB.f {σ τ : MT} {j : Nat} {v : Int32} (h : FRB σ τ) (hj : 28 ≤ j) : FRB σ (sI τ 38 j v) := h.tr ⟨fun c h1 _ => sI_n h1, fun i hi => by rw [sI_r, if_neg (by omega)], rfl⟩
theorem FRB.c {σ τ : MT} {c j : Nat} {v : Int32} (h : FRB σ τ) (h1 : 57 ≤ c) (h2 : c ≤ 60) : FRB σ (sI τ c j v) := h.tr ⟨fun k h3 h4 => sI_n (by omega), fun i hi => by rw [sI_n (by omega)], rfl⟩
def prB (σ : MT) (s : RS) : Prop :=
  if s.1 = 1 then σ.1 38 37 = 70 ∧ σ.1 38 38 = nI 0
  else if s.1 = 2 then σ.1 38 37 = 70 ∧ σ.1 38 38 = nI 1 ∧ σ.1 38 28 = nI s.2.1
  else if s.1 = 3 then σ.1 38 37 = 70 ∧ σ.1 38 38 = nI 2 ∧ σ.1 38 28 = s.2.2.2.1.1 0
  else if s.1 = 4 then σ.1 38 37 = 70 ∧ σ.1 38 38 = nI 3 ∧ σ.1 38 28 = s.2.2.2.1.1 0 ∧ σ.1 38 29 = s.2.2.2.1.1 1
  else (σ.1 38 28 = s.2.2.2.1.1 0 ∧ σ.1 38 29 = s.2.2.2.1.1 1 ∧ σ.1 38 30 = s.2.2.2.1.1 2) ∧
    if s.1 = 5 then σ.1 38 37 = 0
    else if s.1 = 6 then σ.1 38 37 = 110 ∧ σ.1 38 38 = nI 0
    else if s.1 = 7 then σ.1 38 37 = 110 ∧ σ.1 38 38 = nI 1 ∧ σ.1 57 (pN s.2.2.2.1) = s.2.2.1
    else if s.1 = 8 then σ.1 38 37 = 110 ∧ σ.1 38 38 = nI 2 ∧ σ.1 57 (pN s.2.2.2.1) = s.2.2.1 ∧ σ.1 58 (pN s.2.2.2.1) = nI s.2.1
    else if s.1 = 9 then σ.1 38 37 = 107 ∧ σ.1 38 38 = nI 0
    else σ.1 38 37 = 107 ∧ σ.1 38 38 = nI 1 ∧ σ.1 59 (pL s.2.2.2.1) = nI s.2.1
def rdB (σ : MT) (s : RS) : Prop := qB σ s.2.2.2.1 ∧ (∀ i, i < pN s.2.2.2.1 → σ.1 57 i = s.2.2.2.2 i) ∧ prB σ s
theorem qB.fr {σ τ : MT} {q : PLN} (h : qB σ q) (e31 : τ.1 38 31 = σ.1 38 31) (e34 : τ.1 38 34 = σ.1 38 34) (e58 : ∀ i, i < pN q → τ.1 58 i = σ.1 58 i) (e59 : ∀ l, l < pL q → τ.1 59 l = σ.1 59 l) (e60 : τ.1 60 = σ.1 60) : qB τ q := by
  obtain ⟨h1, h2, h3, h4⟩ := h
  refine ⟨e31.trans h1, e34.trans h2, fun i hi => (e58 i hi).trans (h3 i hi), fun l hl => ?_⟩
  rw [e59 l hl, e60]
  exact h4 l hl
theorem qB.g {σ : MT} {q : PLN} {j : Nat} {v : Int32} (h : qB σ q) (h1 : j ≠ 31) (h2 : j ≠ 34) : qB (sI σ 38 j v) q := h.fr (by rw [sI_r, if_neg (fun z => h1 z.2.symm)]) (by rw [sI_r, if_neg (fun z => h2 z.2.symm)]) (fun i _ => by rw [sI_n (by omega)]) (fun l _ => by rw [sI_n (by omega)]) (sI_n (by omega))
theorem qB.sf {σ : MT} {q : PLN} {j : Nat} {v : Int32} (h : qB σ q) : qB σ (setF q j v) := h
theorem vin_n {f : Nat} (hf : f < 1000) {a b : Int64} {x y : Nat} (ha : a.toInt = (x : Int)) (hb : b.toInt = (y : Int)) : f_M_in (nI f).toInt64 a b = some (bI (decide (x ≤ f ∧ f ≤ y))) := by
  rw [v_in, Int32.toInt_toInt64, nIt (by omega), ha, hb]
  by_cases g : x ≤ f ∧ f ≤ y
  · rw [if_pos (by omega), decide_eq_true g]; rfl
  · rw [if_neg (by omega), decide_eq_false g]; rfl
theorem vin_o {x : Int32} {a b : Int64} (hx : x.toInt < 0 ∨ 9 < x.toInt) (ha : 0 ≤ a.toInt) (hb : b.toInt ≤ 9) : f_M_in x.toInt64 a b = some 0 := by
  rw [v_in, Int32.toInt_toInt64, if_neg (by omega)]
theorem bI01 (b : Bool) : bI b = 0 ∨ bI b = 1 := by cases b <;> decide
theorem pl_t {σ : MT} {m : Nat} (h : σ.1 38 38 = nI m) : (sI σ 38 38 ((σ.1 38 38) + 1)).1 38 38 = nI (m + 1) := by
  rw [sI_r, if_pos ⟨rfl, rfl⟩, h, nIs]
theorem pl_g {σ : MT} {j : Nat} {v : Int32} (h : j ≠ 38) : (sI σ 38 38 v).1 38 j = σ.1 38 j := by
  rw [sI_r, if_neg (fun z => h z.2)]
theorem B_head {σ : MT} {ph hd f : Nat} {hdr : Int32} {q : PLN} {dr : Nat → Int32} (h : rdB σ (ph, hd, hdr, q, dr)) (hf : f < 10) (hh : ph = 2 → hd ≤ 3) (h1 : 1 ≤ ph) (h4 : ph ≤ 4) : ∃ τ r, f_M_takeHead (nI f) σ = some (r, τ) ∧ FRB σ τ ∧ (dgt f (ph, hd, hdr, q, dr) = none → r = 0) ∧ ∀ w, dgt f (ph, hd, hdr, q, dr) = some w → r = 1 ∧ rdB τ w := by
  obtain ⟨b1, b2, b3⟩ := h
  simp only at b1 b2
  have fr : ∀ u j v, 28 ≤ j → FRB σ (sI (sI σ 38 38 u) 38 j v) := fun u j v hj => (FRB.rf.f (by omega)).f hj
  unfold f_M_takeHead
  obtain rfl | rfl | rfl | rfl : ph = 1 ∨ ph = 2 ∨ ph = 3 ∨ ph = 4 := by omega
  · obtain ⟨p1, p2⟩ : σ.1 38 37 = 70 ∧ σ.1 38 38 = nI 0 := b3
    rw [pl_t p2, if_pos (show nI (0 + 1) = 1 from rfl), vin_n (x := 0) (y := 3) (by omega) rfl rfl, Option.bind_some, if_pos (bI_z _)]
    have e : dgt f (1, hd, hdr, q, dr) = if f ≤ 3 then some (2, f, hdr, q, dr) else none := rfl
    refine ⟨_, _, rfl, fr _ _ _ (by omega), fun z => ?_, fun w hw => ?_⟩
    · by_cases g : f ≤ 3
      · rw [e, if_pos g] at z; cases z
      · rw [decide_eq_false (by omega)]; rfl
    · by_cases g : f ≤ 3
      · rw [e, if_pos g] at hw
        cases hw
        refine ⟨by rw [decide_eq_true (by omega)]; rfl, (b1.g (by omega) (by omega)).g (by omega) (by omega), fun i hi => by rw [sI_n (by omega), sI_n (by omega)]; exact b2 i hi, ?_⟩
        show (sI (sI σ 38 38 _) 38 28 (nI f)).1 38 37 = 70 ∧ (sI (sI σ 38 38 _) 38 28 (nI f)).1 38 38 = nI 1 ∧ (sI (sI σ 38 38 _) 38 28 (nI f)).1 38 28 = nI f
        exact ⟨by rw [sI_r, if_neg (by omega), pl_g (by omega)]; exact p1, by rw [sI_r, if_neg (by omega), pl_t p2], by rw [sI_r, if_pos ⟨rfl, rfl⟩]⟩
      · rw [e, if_neg g] at hw; cases hw
  · obtain ⟨p1, p2, p3⟩ : σ.1 38 37 = 70 ∧ σ.1 38 38 = nI 1 ∧ σ.1 38 28 = nI hd := b3
    have e : dgt f (2, hd, hdr, q, dr) = if 8 ≤ 10 * hd + f ∧ 10 * hd + f ≤ 32 then some (3, hd, hdr, setF q 0 (nI (10 * hd + f)), dr) else none := rfl
    have hd3 := hh rfl
    rw [pl_t p2, if_neg (show ¬ nI (1 + 1) = 1 by decide), if_pos (show nI (1 + 1) = 2 from rfl), pl_g (by omega), p3, ten]
    unfold f_M_takeHead_68
    rw [vin_n (x := 0) (y := 9) (by omega) rfl rfl, decide_eq_true (show 0 ≤ f ∧ f ≤ 9 by omega), Option.bind_some, if_neg (by decide), show ∀ v, (sI (sI σ 38 38 v) 38 28 (nI (10 * hd + f))).1 38 28 = nI (10 * hd + f) from fun v => by rw [sI_r, if_pos ⟨rfl, rfl⟩], vin_n (x := 8) (y := 32) (by omega) rfl rfl, Option.bind_some]
    by_cases g : 8 ≤ 10 * hd + f ∧ 10 * hd + f ≤ 32
    · rw [decide_eq_true g, if_neg (by decide)]
      refine ⟨_, _, rfl, fr _ _ _ (by omega), fun z => (by rw [e, if_pos g] at z; cases z), fun w hw => ?_⟩
      rw [e, if_pos g] at hw
      cases hw
      refine ⟨rfl, ((b1.g (by omega) (by omega)).g (by omega) (by omega)).sf, fun i hi => by rw [sI_n (by omega), sI_n (by omega)]; exact b2 i hi, ?_⟩
      show (sI (sI σ 38 38 _) 38 28 (nI (10 * hd + f))).1 38 37 = 70 ∧ (sI (sI σ 38 38 _) 38 28 (nI (10 * hd + f))).1 38 38 = nI 2 ∧ (sI (sI σ 38 38 _) 38 28 (nI (10 * hd + f))).1 38 28 = nI (10 * hd + f)
      exact ⟨by rw [sI_r, if_neg (by omega), pl_g (by omega)]; exact p1, by rw [sI_r, if_neg (by omega), pl_t p2], by rw [sI_r, if_pos ⟨rfl, rfl⟩]⟩
    · rw [decide_eq_false g, if_pos bI_f]
      exact ⟨_, _, rfl, fr _ _ _ (by omega), fun _ => rfl, fun w hw => (by rw [e, if_neg g] at hw; cases hw)⟩
  · obtain ⟨p1, p2, p3⟩ : σ.1 38 37 = 70 ∧ σ.1 38 38 = nI 2 ∧ σ.1 38 28 = q.1 0 := b3
    have e : dgt f (3, hd, hdr, q, dr) = if 1 ≤ f then some (4, hd, hdr, setF q 1 (nI f), dr) else none := rfl
    rw [pl_t p2, if_neg (show ¬ nI (2 + 1) = 1 by decide), if_neg (show ¬ nI (2 + 1) = 2 by decide), if_pos (show nI (2 + 1) = 3 from rfl), vin_n (x := 1) (y := 9) (by omega) rfl rfl, Option.bind_some, if_pos (bI_z _)]
    refine ⟨_, _, rfl, fr _ _ _ (by omega), fun z => ?_, fun w hw => ?_⟩
    · by_cases g : 1 ≤ f
      · rw [e, if_pos g] at z; cases z
      · rw [decide_eq_false (by omega)]; rfl
    · by_cases g : 1 ≤ f
      · rw [e, if_pos g] at hw
        cases hw
        refine ⟨by rw [decide_eq_true (by omega)]; rfl, ((b1.g (by omega) (by omega)).g (by omega) (by omega)).sf, fun i hi => by rw [sI_n (by omega), sI_n (by omega)]; exact b2 i hi, ?_⟩
        show (sI (sI σ 38 38 _) 38 29 (nI f)).1 38 37 = 70 ∧ (sI (sI σ 38 38 _) 38 29 (nI f)).1 38 38 = nI 3 ∧ (sI (sI σ 38 38 _) 38 29 (nI f)).1 38 28 = q.1 0 ∧ (sI (sI σ 38 38 _) 38 29 (nI f)).1 38 29 = nI f
        exact ⟨by rw [sI_r, if_neg (by omega), pl_g (by omega)]; exact p1, by rw [sI_r, if_neg (by omega), pl_t p2], by rw [sI_r, if_neg (by omega), pl_g (by omega)]; exact p3, by rw [sI_r, if_pos ⟨rfl, rfl⟩]⟩
      · rw [e, if_neg g] at hw; cases hw
  · obtain ⟨p1, p2, p3, p4⟩ : σ.1 38 37 = 70 ∧ σ.1 38 38 = nI 3 ∧ σ.1 38 28 = q.1 0 ∧ σ.1 38 29 = q.1 1 := b3
    have e : dgt f (4, hd, hdr, q, dr) = some (5, hd, hdr, setF q 2 (nI f), dr) := rfl
    rw [pl_t p2, if_neg (show ¬ nI (3 + 1) = 1 by decide), if_neg (show ¬ nI (3 + 1) = 2 by decide), if_neg (show ¬ nI (3 + 1) = 3 by decide)]
    unfold f_M_takeHead_128
    rw [vin_n (x := 0) (y := 9) (by omega) rfl rfl, decide_eq_true (show 0 ≤ f ∧ f ≤ 9 by omega), Option.bind_some, if_pos (bI_z _)]
    refine ⟨_, _, rfl, (fr _ _ _ (by omega)).f (by omega), fun z => (by rw [e] at z; cases z), fun w hw => ?_⟩
    rw [e] at hw
    cases hw
    refine ⟨rfl, (((b1.g (by omega) (by omega)).g (by omega) (by omega)).g (by omega) (by omega)).sf, fun i hi => by rw [sI_n (by omega), sI_n (by omega), sI_n (by omega)]; exact b2 i hi, ?_⟩
    show ((sI (sI (sI σ 38 38 _) 38 30 (nI f)) 38 37 0).1 38 28 = q.1 0 ∧ (sI (sI (sI σ 38 38 _) 38 30 (nI f)) 38 37 0).1 38 29 = q.1 1 ∧ (sI (sI (sI σ 38 38 _) 38 30 (nI f)) 38 37 0).1 38 30 = nI f) ∧ (sI (sI (sI σ 38 38 _) 38 30 (nI f)) 38 37 0).1 38 37 = 0
    exact ⟨⟨by rw [sI_r, if_neg (by omega), sI_r, if_neg (by omega), pl_g (by omega)]; exact p3, by rw [sI_r, if_neg (by omega), sI_r, if_neg (by omega), pl_g (by omega)]; exact p4, by rw [sI_r, if_neg (by omega), sI_r, if_pos ⟨rfl, rfl⟩]⟩, by rw [sI_r, if_pos ⟨rfl, rfl⟩]⟩
theorem B_headN {σ : MT} {ph hd : Nat} {hdr : Int32} {q : PLN} {dr : Nat → Int32} {x : Int32} (h : rdB σ (ph, hd, hdr, q, dr)) (hx : x.toInt < 0 ∨ 9 < x.toInt) (h1 : 1 ≤ ph) (h4 : ph ≤ 4) : ∃ τ, f_M_takeHead x σ = some (0, τ) ∧ FRB σ τ := by
  obtain ⟨-, -, b3⟩ := h
  have fr : ∀ u j v, 28 ≤ j → FRB σ (sI (sI σ 38 38 u) 38 j v) := fun u j v hj => (FRB.rf.f (by omega)).f hj
  unfold f_M_takeHead
  obtain rfl | rfl | rfl | rfl : ph = 1 ∨ ph = 2 ∨ ph = 3 ∨ ph = 4 := by omega
  · obtain ⟨p1, p2⟩ : σ.1 38 37 = 70 ∧ σ.1 38 38 = nI 0 := b3
    rw [pl_t p2, if_pos (show nI (0 + 1) = 1 from rfl), vin_o hx (by decide) (by decide), Option.bind_some, if_pos (by decide)]
    exact ⟨_, rfl, fr _ _ _ (by omega)⟩
  · obtain ⟨p1, p2, p3⟩ : σ.1 38 37 = 70 ∧ σ.1 38 38 = nI 1 ∧ σ.1 38 28 = nI hd := b3
    rw [pl_t p2, if_neg (show ¬ nI (1 + 1) = 1 by decide), if_pos (show nI (1 + 1) = 2 from rfl)]
    unfold f_M_takeHead_68
    rw [vin_o hx (by decide) (by decide), Option.bind_some, if_pos rfl]
    exact ⟨_, rfl, fr _ _ _ (by omega)⟩
  · obtain ⟨p1, p2, p3⟩ : σ.1 38 37 = 70 ∧ σ.1 38 38 = nI 2 ∧ σ.1 38 28 = q.1 0 := b3
    rw [pl_t p2, if_neg (show ¬ nI (2 + 1) = 1 by decide), if_neg (show ¬ nI (2 + 1) = 2 by decide), if_pos (show nI (2 + 1) = 3 from rfl), vin_o hx (by decide) (by decide), Option.bind_some, if_pos (by decide)]
    exact ⟨_, rfl, fr _ _ _ (by omega)⟩
  · obtain ⟨p1, p2, p3, p4⟩ : σ.1 38 37 = 70 ∧ σ.1 38 38 = nI 3 ∧ σ.1 38 28 = q.1 0 ∧ σ.1 38 29 = q.1 1 := b3
    rw [pl_t p2, if_neg (show ¬ nI (3 + 1) = 1 by decide), if_neg (show ¬ nI (3 + 1) = 2 by decide), if_neg (show ¬ nI (3 + 1) = 3 by decide)]
    unfold f_M_takeHead_128
    rw [vin_o hx (by decide) (by decide), Option.bind_some, if_pos (by decide)]
    exact ⟨_, rfl, (fr _ _ _ (by omega)).f (by omega)⟩
