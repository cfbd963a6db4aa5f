/-! THE CLASS as it reads: a letter; the whole text -/
theorem neq_70 {b : Nat} (h : b < 2147483648) : nI b = (70 : Int32) ↔ b = 70 := nIeq (b := 70) h (by omega)
theorem neq_107 {b : Nat} (h : b < 2147483648) : nI b = (107 : Int32) ↔ b = 107 := nIeq (b := 107) h (by omega)
theorem neq_110 {b : Nat} (h : b < 2147483648) : nI b = (110 : Int32) ↔ b = 110 := nIeq (b := 110) h (by omega)
theorem nlt_48 {b : Nat} (h : b < 2147483648) : nI b < (48 : Int32) ↔ b < 48 := nIlt (b := 48) h (by omega)
theorem nle_57 {b : Nat} (h : b < 2147483648) : nI b ≤ (57 : Int32) ↔ b ≤ 57 := nIle (b := 57) h (by omega)
theorem s48 {n : Nat} (hn : n < 256) (h48 : 48 ≤ n) : nI n - 48 = nI (n - 48) := by
  have H : ∀ n, n < 256 → 48 ≤ n → nI n - 48 = nI (n - 48) := by decide +kernel
  exact H n hn h48
theorem pF.w21 {σ : MT} {q : PLN} {v : Int32} (h : pF σ 3 q) : pF (sI σ 2 1 v) 3 q := h.w2
theorem A_takesItem {σ : MT} {n : Nat} {hd : Nat} {hdr : Int32} {q : PLN} {dr : Nat → Int32} (h : rdA σ (5, hd, hdr, q, dr)) (ok : okR (5, hd, hdr, q, dr)) (hn : n < 256) : ∃ τ r, f_Rd_takesItem (nI n) σ = some (r, τ) ∧ (r = 0 ∨ r = 1) ∧ EO PRd σ τ ∧ (stp n (5, hd, hdr, q, dr) = none → r = 0) ∧ ∀ w, stp n (5, hd, hdr, q, dr) = some w → r = 1 ∧ rdA τ w := by
  obtain ⟨a1, a2, a3, a4, a5⟩ := h
  obtain ⟨o0, o1, o2, -⟩ := ok
  simp only at a1 a2 a3 a4 a5 o0 o1 o2
  have hN := o1.1
  have e : stp n (5, hd, hdr, q, dr) = if n = 110 then (if pN q < 5 then some (6, hd, hdr, q, dr) else none) else if n = 107 then (if anyM q = true then some (9, hd, hdr, q, dr) else none) else none := rfl
  have fr : ∀ v, EO PRd σ (sI σ 2 1 v) := fun v => EO.i (P := PRd) EO.rf (by unfold PRd; omega)
  have rd : ∀ m, (m = 6 ∨ m = 9) → rdA (sI σ 2 1 (nI m)) (m, hd, hdr, q, dr) := fun m hm => by
    refine ⟨by rw [sI_r, if_pos ⟨rfl, rfl⟩], fun z => absurd z (by show ¬ (m = 2 ∨ m = 8 ∨ m = 10); omega), fun z => absurd z (by show ¬ (m = 7 ∨ m = 8); omega), a4.w2, fun i hi => ?_⟩
    rw [sI_n (by omega)]; exact a5 i hi
  unfold f_Rd_takesItem
  by_cases h110 : n = 110
  · rw [if_pos ((neq_110 (by omega)).mpr h110), sI_n (show (3 : Nat) ≠ 2 by omega), a4.2.1]
    by_cases g : pN q < 5
    · rw [if_neg (fun z => absurd ((nge_5 (by omega)).mp z) (by omega))]
      refine ⟨_, _, rfl, Or.inr rfl, fr _, fun z => (by rw [e, if_pos h110, if_pos g] at z; cases z), fun w hw => ?_⟩
      rw [e, if_pos h110, if_pos g] at hw
      cases hw
      exact ⟨rfl, rd 6 (Or.inl rfl)⟩
    · rw [if_pos ((nge_5 (by omega)).mpr (by omega))]
      exact ⟨_, _, rfl, Or.inl rfl, fr _, fun _ => rfl, fun w hw => (by rw [e, if_pos h110, if_neg g] at hw; cases hw)⟩
  · rw [if_neg (fun z => h110 ((neq_110 (by omega)).mp z))]
    by_cases h107 : n = 107
    · rw [if_pos ((neq_107 (by omega)).mpr h107), A_any a4.w2 o1 o2, Option.bind_some]
      cases g : anyM q with
      | false =>
        rw [if_pos bI_f]
        exact ⟨_, _, rfl, Or.inl rfl, fr _, fun _ => rfl, fun w hw => (by rw [e, if_neg h110, if_pos h107, if_neg (by rw [g]; decide)] at hw; cases hw)⟩
      | true =>
        rw [if_neg (by decide)]
        refine ⟨_, _, rfl, Or.inr rfl, fr _, fun z => (by rw [e, if_neg h110, if_pos h107, if_pos g] at z; cases z), fun w hw => ?_⟩
        rw [e, if_neg h110, if_pos h107, if_pos g] at hw
        cases hw
        exact ⟨rfl, rd 9 (Or.inr rfl)⟩
    · rw [if_neg (fun z => h107 ((neq_107 (by omega)).mp z))]
      exact ⟨_, _, rfl, Or.inl rfl, fr _, fun _ => rfl, fun w hw => (by rw [e, if_neg h110, if_neg h107] at hw; cases hw)⟩
theorem dg_z {s : RS} {f : Nat} {r : Int32} {τ : MT} (h0 : dgt f s = none → r = 0) (h1 : ∀ w, dgt f s = some w → r = 1 ∧ rdA τ w) : zbb r = true := by
  cases q : dgt f s with
  | none => rw [h0 q]; decide
  | some w => rw [(h1 w q).1]; decide
theorem A_takes {σ : MT} {s : RS} {n : Nat} (h : rdA σ s) (ok : okR s) (hn : n < 256) : ∃ τ r, f_Rd_takes (nI n) σ = some (r, τ) ∧ EO PRd σ τ ∧ (stp n s = none → r = 0) ∧ ∀ w, stp n s = some w → r = 1 ∧ rdA τ w := by
  obtain ⟨ph, hd, hdr, q, dr⟩ := s
  have h2 := h
  have ok2 := ok
  obtain ⟨a1, a2, a3, a4, a5⟩ := h2
  obtain ⟨o0, o1, o2, o3, o4, o5, o6, -⟩ := ok2
  simp only at a1 a2 a3 a4 a5 o0 o6
  unfold f_Rd_takes
  rw [a1]
  by_cases p0 : ph = 0
  · subst p0
    have e : stp n (0, hd, hdr, q, dr) = if n = 70 then some (1, hd, hdr, q, dr) else none := rfl
    have fr : EO PRd σ (sI σ 2 1 1) := EO.i (P := PRd) EO.rf (by unfold PRd; omega)
    rw [if_pos (show nI 0 = 0 from rfl)]
    by_cases g : n = 70
    · rw [if_pos ((neq_70 (by omega)).mpr g)]
      refine ⟨_, _, rfl, fr, fun z => (by rw [e, if_pos g] at z; cases z), fun w hw => ?_⟩
      rw [e, if_pos g] at hw
      cases hw
      exact ⟨rfl, by show (sI σ 2 1 1).1 2 1 = nI 1; simp [sI_r]; rfl, fun z => absurd z (by show ¬ (1 = 2 ∨ 1 = 8 ∨ 1 = 10); omega), fun z => absurd z (by show ¬ (1 = 7 ∨ 1 = 8); omega), a4.w2, fun i hi => by rw [sI_n (by omega)]; exact a5 i hi⟩
    · rw [if_neg (fun z => g ((neq_70 (by omega)).mp z))]
      exact ⟨_, _, rfl, fr, fun _ => rfl, fun w hw => (by rw [e, if_neg g] at hw; cases hw)⟩
  · rw [if_neg (fun z => p0 ((neq_0 (by omega)).mp z))]
    by_cases p5 : ph = 5
    · subst p5
      rw [if_pos (show nI 5 = 5 from rfl)]
      obtain ⟨τ, r, q1, q2, q3, q4, q5⟩ := A_takesItem h ok hn
      rw [q1, Option.bind_some, if_pos (show zbb r = true by rcases q2 with z | z <;> rw [z] <;> decide)]
      exact ⟨τ, r, rfl, q3, q4, q5⟩
    · rw [if_neg (fun z => p5 ((neq_5 (by omega)).mp z))]
      have e : stp n (ph, hd, hdr, q, dr) = if 48 ≤ n ∧ n ≤ 57 then dgt (n - 48) (ph, hd, hdr, q, dr) else none := by
        unfold stp
        rw [if_neg p0, if_neg p5]
      by_cases g : 48 ≤ n ∧ n ≤ 57
      · rw [if_neg (fun z => absurd ((nlt_48 (by omega)).mp z) (by omega)), if_pos ((nle_57 (by omega)).mpr g.2), s48 hn g.1, e, if_pos g]
        by_cases p6 : 5 ≤ ph
        · rw [if_pos ((nge_5 (by omega)).mpr p6)]
          obtain ⟨τ, r, q1, q2, q3, q4⟩ := A_item (f := n - 48) h ok (by omega) (by omega)
          rw [q1, Option.bind_some, if_pos (dg_z q3 q4)]
          exact ⟨τ, r, rfl, q2, q3, q4⟩
        · rw [if_neg (fun z => p6 ((nge_5 (by omega)).mp z))]
          obtain ⟨τ, r, q1, q2, q3, q4⟩ := A_head (f := n - 48) h (by omega) o6 (by omega) (by omega)
          rw [q1, Option.bind_some, if_pos (dg_z q3 q4)]
          exact ⟨τ, r, rfl, q2, q3, q4⟩
      · rw [e, if_neg g]
        refine ⟨σ, 0, ?_, EO.rf, fun _ => rfl, fun w hw => (by cases hw)⟩
        by_cases g1 : n < 48
        · rw [if_pos ((nlt_48 (by omega)).mpr g1)]
        · rw [if_neg (fun z => g1 ((nlt_48 (by omega)).mp z)), if_neg (fun z => g ⟨by omega, (nle_57 (by omega)).mp z⟩)]
/-- the letters i, i + 1 .. read; where one is refused, its place -/
def rdL (ch : Nat → Nat) : Nat → Nat → RS → Nat × Option RS
  | 0, i, s => (i, some s)
  | d + 1, i, s => match stp (ch i) s with
    | none => (i, none)
    | some w => rdL ch d (i + 1) w
/-- what the reading answers -/
def rdV (n : Nat) : Nat × Option RS → Int32
  | (k, none) => nI k
  | (_, some s) => if s.1 = 5 then -9 else nI n
theorem A_read_loop {ch : Nat → Nat} {n : Nat} (hn : n ≤ 60) (hc : ∀ j, j < n → ch j < 256) : ∀ (d i fuel : Nat) (σ : MT) (s : RS), i + d = n → d < fuel → (∀ j, j < n → σ.1 1 j = nI (ch j)) → rdA σ s → okR s → ∃ τ, f_Rd_read_14 f_Rd_read_43 fuel 1 (nI n) (nI i) σ = some (rdV n (rdL ch d i s), τ) ∧ EO PRd σ τ ∧ ∀ k w, rdL ch d i s = (k, some w) → rdA τ w ∧ okR w
  | 0, i, fuel, σ, s, hi, hf, ht, h, ok => by
    obtain ⟨f, rfl⟩ : ∃ f, fuel = f + 1 := ⟨fuel - 1, by omega⟩
    refine ⟨σ, ?_, EO.rf, fun k w hw => ?_⟩
    · rw [f_Rd_read_14, if_pos ((nIle (by omega) (by omega)).mpr (by omega))]
      unfold f_Rd_read_43
      rw [h.1]
      show _ = some ((if s.1 = 5 then -9 else nI n), σ)
      have := ok.1
      by_cases g : s.1 = 5
      · rw [if_pos ((neq_5 (by omega)).mpr g), if_pos g]
      · rw [if_neg (fun z => g ((neq_5 (by omega)).mp z)), if_neg g]
    · have hw' : (i, some s) = (k, some w) := hw
      cases hw'
      exact ⟨h, ok⟩
  | d + 1, i, fuel, σ, s, hi, hf, ht, h, ok => by
    obtain ⟨f, rfl⟩ : ∃ f, fuel = f + 1 := ⟨fuel - 1, by omega⟩
    rw [f_Rd_read_14, if_neg (fun z => absurd ((nIle (by omega) (by omega)).mp z) (by omega)), if_neg (fun z => absurd ((nge_60 (by omega)).mp z) (by omega)), if_pos (inb_n (by omega) (by decide)), nIc (by omega), ht i (by omega)]
    obtain ⟨τ, r, q1, q2, q3, q4⟩ := A_takes h ok (hc i (by omega))
    rw [q1, Option.bind_some, nIs]
    cases g : stp (ch i) s with
    | none =>
      have e : rdL ch (d + 1) i s = (i, none) := by
        show (match stp (ch i) s with | none => (i, none) | some w => rdL ch d (i + 1) w) = _
        rw [g]
      rw [q3 g, if_pos rfl, e]
      exact ⟨τ, rfl, q2, fun k w hw => (by cases hw)⟩
    | some w =>
      have e : rdL ch (d + 1) i s = rdL ch d (i + 1) w := by
        show (match stp (ch i) s with | none => (i, none) | some w => rdL ch d (i + 1) w) = _
        rw [g]
      obtain ⟨r1, hw⟩ := q4 w g
      rw [r1, if_neg (show ¬ (1 : Int32) = 0 by decide), e]
      obtain ⟨τ2, p1, p2, p3⟩ := A_read_loop hn hc d (i + 1) f τ w (by omega) (by omega) (fun j hj => by rw [q2.1 1 (by unfold PRd; omega)]; exact ht j hj) hw (okR_stp ok g)
      exact ⟨τ2, p1, q2.tr p2, p3⟩
