/-! THE REFERENCE as it reads: a letter; the whole text -/
theorem t48 {n : Nat} (hn : n < 256) : (nI n - 48).toInt = (n : Int) - 48 := by
  rw [Int32.toInt_sub, nIt (by omega)]
  exact z_bm (by show _ ≤ (n : Int) - 48; omega) (by show (n : Int) - 48 < _; omega)
theorem dgt_1 {f : Nat} {s w : RS} (e : dgt f s = some w) : 1 ≤ w.1 := by
  obtain ⟨ph, hd, hdr, q, dr⟩ := s
  unfold dgt at e
  simp only at e
  split at e
  · split at e
    · cases e; exact Nat.le_of_ble_eq_true rfl
    · cases e
  · split at e
    · split at e
      · cases e; exact Nat.le_of_ble_eq_true rfl
      · cases e
    · split at e
      · split at e
        · cases e; exact Nat.le_of_ble_eq_true rfl
        · cases e
      · split at e
        · cases e; exact Nat.le_of_ble_eq_true rfl
        · split at e
          · cases e; exact Nat.le_of_ble_eq_true rfl
          · split at e
            · split at e
              · cases e; exact Nat.le_of_ble_eq_true rfl
              · cases e
            · split at e
              · split at e
                · cases e; exact Nat.le_of_ble_eq_true rfl
                · cases e
              · split at e
                · split at e
                  · cases e; exact Nat.le_of_ble_eq_true rfl
                  · cases e
                · split at e
                  · cases e; exact Nat.le_of_ble_eq_true rfl
                  · cases e
theorem stp_1 {n : Nat} {s w : RS} (e : stp n s = some w) : 1 ≤ w.1 := by
  obtain ⟨ph, hd, hdr, q, dr⟩ := s
  unfold stp at e
  simp only at e
  split at e
  · split at e
    · cases e; exact Nat.le_of_ble_eq_true rfl
    · cases e
  · split at e
    · split at e
      · split at e
        · cases e; exact Nat.le_of_ble_eq_true rfl
        · cases e
      · split at e
        · split at e
          · cases e; exact Nat.le_of_ble_eq_true rfl
          · cases e
        · cases e
    · split at e
      · exact dgt_1 e
      · cases e
theorem dg_zB {s : RS} {f : Nat} {r : Int32} {τ : MT} (h0 : dgt f s = none → r = 0) (h1 : ∀ w, dgt f s = some w → r = 1 ∧ rdB τ w) : zbb r = true := by
  cases q : dgt f s with
  | none => rw [h0 q]; decide
  | some w => rw [(h1 w q).1]; decide
theorem B_takes {σ : MT} {s : RS} {n : Nat} (h : rdB σ s) (ok : okR s) (hn : n < 256) (hs : 1 ≤ s.1) : ∃ τ r, f_M_take (nI n) σ = some (r, τ) ∧ FRB σ τ ∧ (stp n s = none → r = 0) ∧ ∀ w, stp n s = some w → r = 1 ∧ rdB τ w := by
  obtain ⟨ph, hd, hdr, q, dr⟩ := s
  have h2 := h
  have ok2 := ok
  obtain ⟨b1, b2, b3⟩ := h2
  obtain ⟨o0, o1, o2, o3, o4, o5, o6, -⟩ := ok2
  simp only at b1 b2 o0 o1 o2 o6 hs
  have hN := o1.1
  have hx : ¬ (48 ≤ n ∧ n ≤ 57) → (nI n - 48).toInt < 0 ∨ 9 < (nI n - 48).toInt := fun g => by rw [t48 hn]; omega
  have en : ¬ ph = 5 → stp n (ph, hd, hdr, q, dr) = if 48 ≤ n ∧ n ≤ 57 then dgt (n - 48) (ph, hd, hdr, q, dr) else none := fun p5 => by
    unfold stp
    rw [if_neg (show ¬ ph = 0 by omega), if_neg p5]
  unfold f_M_take
  by_cases p4 : ph ≤ 4
  · have hp : σ.1 38 37 = 70 := by
      obtain rfl | rfl | rfl | rfl : ph = 1 ∨ ph = 2 ∨ ph = 3 ∨ ph = 4 := by omega
      · have b : σ.1 38 37 = 70 ∧ σ.1 38 38 = nI 0 := b3
        exact b.1
      · have b : σ.1 38 37 = 70 ∧ σ.1 38 38 = nI 1 ∧ σ.1 38 28 = nI hd := b3
        exact b.1
      · have b : σ.1 38 37 = 70 ∧ σ.1 38 38 = nI 2 ∧ σ.1 38 28 = q.1 0 := b3
        exact b.1
      · have b : σ.1 38 37 = 70 ∧ σ.1 38 38 = nI 3 ∧ σ.1 38 28 = q.1 0 ∧ σ.1 38 29 = q.1 1 := b3
        exact b.1
    rw [if_pos hp, en (by omega)]
    by_cases g : 48 ≤ n ∧ n ≤ 57
    · obtain ⟨τ, r, q1, q2, q3, q4⟩ := B_head (f := n - 48) h (by omega) o6 hs p4
      rw [s48 hn g.1, q1, Option.bind_some, if_pos (dg_zB q3 q4), if_pos g]
      exact ⟨τ, r, rfl, q2, q3, q4⟩
    · obtain ⟨τ, q1, q2⟩ := B_headN h (hx g) hs p4
      rw [q1, Option.bind_some, if_pos (show zbb (0 : Int32) = true by decide), if_neg g]
      exact ⟨τ, 0, rfl, q2, fun _ => rfl, fun w hw => (by cases hw)⟩
  · by_cases p5 : ph = 5
    · subst p5
      obtain ⟨⟨g0, g1, g2⟩, hp⟩ : (σ.1 38 28 = q.1 0 ∧ σ.1 38 29 = q.1 1 ∧ σ.1 38 30 = q.1 2) ∧ σ.1 38 37 = 0 := b3
      have e : stp n (5, hd, hdr, q, dr) = if n = 110 then (if pN q < 5 then some (6, hd, hdr, q, dr) else none) else if n = 107 then (if anyM q = true then some (9, hd, hdr, q, dr) else none) else none := rfl
      have b1' : ∀ v, qB (sI (sI σ 38 37 v) 38 38 0) q := fun v => (b1.g (by omega) (by omega)).g (by omega) (by omega)
      have fr : ∀ v, FRB σ (sI (sI σ 38 37 v) 38 38 0) := fun v => (FRB.rf.f (by omega)).f (by omega)
      have k : ∀ j, j ≠ 37 → j ≠ 38 → ∀ v, (sI (sI σ 38 37 v) 38 38 0).1 38 j = σ.1 38 j := fun j h1 h2 v => by
        rw [sI_r, if_neg (by omega), sI_r, if_neg (by omega)]
      have kp : ∀ v, (sI (sI σ 38 37 v) 38 38 0).1 38 37 = v := fun v => by rw [sI_r, if_neg (by omega), sI_r, if_pos ⟨rfl, rfl⟩]
      have k0 : ∀ v, (sI (sI σ 38 37 v) 38 38 0).1 38 38 = nI 0 := fun v => by rw [sI_r, if_pos ⟨rfl, rfl⟩]; rfl
      rw [hp, if_neg (by decide), if_neg (by decide), if_neg (by decide)]
      by_cases h110 : n = 110
      · subst h110
        rw [if_pos (show nI 110 = 110 from rfl), (b1' _).1]
        by_cases g : pN q < 5
        · rw [if_pos ((nlt_5 (by omega)).mpr g)]
          refine ⟨_, _, rfl, fr _, fun z => (by rw [e, if_pos rfl, if_pos g] at z; cases z), fun w hw => ?_⟩
          rw [e, if_pos rfl, if_pos g] at hw
          cases hw
          refine ⟨rfl, b1' _, fun i hi => by rw [sI_n (by omega), sI_n (by omega)]; exact b2 i hi, ?_⟩
          show (_ = q.1 0 ∧ _ = q.1 1 ∧ _ = q.1 2) ∧ _ = (110 : Int32) ∧ _ = nI 0
          exact ⟨⟨(k 28 (by omega) (by omega) _).trans g0, (k 29 (by omega) (by omega) _).trans g1, (k 30 (by omega) (by omega) _).trans g2⟩, kp _, k0 _⟩
        · rw [if_neg (fun z => g ((nlt_5 (by omega)).mp z))]
          unfold f_M_take_86
          rw [if_neg (by decide)]
          exact ⟨_, _, rfl, fr _, fun _ => rfl, fun w hw => (by rw [e, if_pos rfl, if_neg g] at hw; cases hw)⟩
      · rw [if_neg (fun z => h110 ((neq_110 (by omega)).mp z))]
        unfold f_M_take_86
        by_cases h107 : n = 107
        · subst h107
          rw [if_pos (show nI 107 = 107 from rfl), B_may (b1' _) o1, Option.bind_some]
          cases g : anyM q with
          | false =>
            rw [if_pos bI_f]
            exact ⟨_, _, rfl, fr _, fun _ => rfl, fun w hw => (by rw [e, if_neg h110, if_pos rfl, if_neg (by rw [g]; decide)] at hw; cases hw)⟩
          | true =>
            rw [if_neg (by decide)]
            refine ⟨_, _, rfl, fr _, fun z => (by rw [e, if_neg h110, if_pos rfl, if_pos g] at z; cases z), fun w hw => ?_⟩
            rw [e, if_neg h110, if_pos rfl, if_pos g] at hw
            cases hw
            refine ⟨rfl, b1' _, fun i hi => by rw [sI_n (by omega), sI_n (by omega)]; exact b2 i hi, ?_⟩
            show (_ = q.1 0 ∧ _ = q.1 1 ∧ _ = q.1 2) ∧ _ = (107 : Int32) ∧ _ = nI 0
            exact ⟨⟨(k 28 (by omega) (by omega) _).trans g0, (k 29 (by omega) (by omega) _).trans g1, (k 30 (by omega) (by omega) _).trans g2⟩, kp _, k0 _⟩
        · rw [if_neg (fun z => h107 ((neq_107 (by omega)).mp z))]
          exact ⟨_, _, rfl, fr _, fun _ => rfl, fun w hw => (by rw [e, if_neg h110, if_neg h107] at hw; cases hw)⟩
    · rw [en p5]
      by_cases p8 : ph ≤ 8
      · have hp : σ.1 38 37 = 110 := by
          obtain rfl | rfl | rfl : ph = 6 ∨ ph = 7 ∨ ph = 8 := by omega
          · have b : (σ.1 38 28 = q.1 0 ∧ σ.1 38 29 = q.1 1 ∧ σ.1 38 30 = q.1 2) ∧ σ.1 38 37 = 110 ∧ σ.1 38 38 = nI 0 := b3
            exact b.2.1
          · have b : (σ.1 38 28 = q.1 0 ∧ σ.1 38 29 = q.1 1 ∧ σ.1 38 30 = q.1 2) ∧ σ.1 38 37 = 110 ∧ σ.1 38 38 = nI 1 ∧ σ.1 57 (pN q) = hdr := b3
            exact b.2.1
          · have b : (σ.1 38 28 = q.1 0 ∧ σ.1 38 29 = q.1 1 ∧ σ.1 38 30 = q.1 2) ∧ σ.1 38 37 = 110 ∧ σ.1 38 38 = nI 2 ∧ σ.1 57 (pN q) = hdr ∧ σ.1 58 (pN q) = nI hd := b3
            exact b.2.1
        rw [hp, if_neg (by decide), if_neg (by decide), if_pos rfl]
        by_cases g : 48 ≤ n ∧ n ≤ 57
        · obtain ⟨τ, r, q1, q2, q3, q4⟩ := B_node (f := n - 48) h ok (by omega) (by omega) p8
          rw [s48 hn g.1, q1, Option.bind_some, if_pos (dg_zB q3 q4), if_pos g]
          exact ⟨τ, r, rfl, q2, q3, q4⟩
        · obtain ⟨τ, q1, q2⟩ := B_nodeN h ok (hx g) (by omega) p8
          rw [q1, Option.bind_some, if_pos (show zbb (0 : Int32) = true by decide), if_neg g]
          exact ⟨τ, 0, rfl, q2, fun _ => rfl, fun w hw => (by cases hw)⟩
      · have hp : σ.1 38 37 = 107 := by
          obtain rfl | rfl : ph = 9 ∨ ph = 10 := by omega
          · have b : (σ.1 38 28 = q.1 0 ∧ σ.1 38 29 = q.1 1 ∧ σ.1 38 30 = q.1 2) ∧ σ.1 38 37 = 107 ∧ σ.1 38 38 = nI 0 := b3
            exact b.2.1
          · have b : (σ.1 38 28 = q.1 0 ∧ σ.1 38 29 = q.1 1 ∧ σ.1 38 30 = q.1 2) ∧ σ.1 38 37 = 107 ∧ σ.1 38 38 = nI 1 ∧ σ.1 59 (pL q) = nI hd := b3
            exact b.2.1
        rw [hp, if_neg (by decide), if_pos rfl]
        by_cases g : 48 ≤ n ∧ n ≤ 57
        · obtain ⟨τ, r, q1, -, q2, q3, q4⟩ := B_link (f := n - 48) h ok (by omega) (by omega)
          rw [s48 hn g.1, q1, Option.bind_some, if_pos (dg_zB q3 q4), if_pos g]
          exact ⟨τ, r, rfl, q2, q3, q4⟩
        · obtain ⟨τ, q1, q2⟩ := B_linkN h ok (hx g) (by omega)
          rw [q1, Option.bind_some, if_pos (show zbb (0 : Int32) = true by decide), if_neg g]
          exact ⟨τ, 0, rfl, q2, fun _ => rfl, fun w hw => (by cases hw)⟩
/-- the part that the reference is at -/
theorem rdB_5 {σ : MT} {s : RS} (h : rdB σ s) (ok : okR s) (hs : 1 ≤ s.1) : (σ.1 38 37 = 0) ↔ s.1 = 5 := by
  obtain ⟨ph, hd, hdr, q, dr⟩ := s
  obtain ⟨-, -, b3⟩ := h
  have o0 : ph ≤ 10 := ok.1
  show _ ↔ ph = 5
  obtain rfl | rfl | rfl | rfl | rfl | rfl | rfl | rfl | rfl | rfl : ph = 1 ∨ ph = 2 ∨ ph = 3 ∨ ph = 4 ∨ ph = 5 ∨ ph = 6 ∨ ph = 7 ∨ ph = 8 ∨ ph = 9 ∨ ph = 10 := by
    have : 1 ≤ ph := hs
    omega
  · have b : σ.1 38 37 = 70 ∧ σ.1 38 38 = nI 0 := b3
    rw [b.1]; decide
  · have b : σ.1 38 37 = 70 ∧ σ.1 38 38 = nI 1 ∧ σ.1 38 28 = nI hd := b3
    rw [b.1]; decide
  · have b : σ.1 38 37 = 70 ∧ σ.1 38 38 = nI 2 ∧ σ.1 38 28 = q.1 0 := b3
    rw [b.1]; decide
  · have b : σ.1 38 37 = 70 ∧ σ.1 38 38 = nI 3 ∧ σ.1 38 28 = q.1 0 ∧ σ.1 38 29 = q.1 1 := b3
    rw [b.1]; decide
  · have b : (σ.1 38 28 = q.1 0 ∧ σ.1 38 29 = q.1 1 ∧ σ.1 38 30 = q.1 2) ∧ σ.1 38 37 = 0 := b3
    rw [b.2]; decide
  · have b : (σ.1 38 28 = q.1 0 ∧ σ.1 38 29 = q.1 1 ∧ σ.1 38 30 = q.1 2) ∧ σ.1 38 37 = 110 ∧ σ.1 38 38 = nI 0 := b3
    rw [b.2.1]; decide
  · have b : (σ.1 38 28 = q.1 0 ∧ σ.1 38 29 = q.1 1 ∧ σ.1 38 30 = q.1 2) ∧ σ.1 38 37 = 110 ∧ σ.1 38 38 = nI 1 ∧ σ.1 57 (pN q) = hdr := b3
    rw [b.2.1]; decide
  · have b : (σ.1 38 28 = q.1 0 ∧ σ.1 38 29 = q.1 1 ∧ σ.1 38 30 = q.1 2) ∧ σ.1 38 37 = 110 ∧ σ.1 38 38 = nI 2 ∧ σ.1 57 (pN q) = hdr ∧ σ.1 58 (pN q) = nI hd := b3
    rw [b.2.1]; decide
  · have b : (σ.1 38 28 = q.1 0 ∧ σ.1 38 29 = q.1 1 ∧ σ.1 38 30 = q.1 2) ∧ σ.1 38 37 = 107 ∧ σ.1 38 38 = nI 0 := b3
    rw [b.2.1]; decide
  · have b : (σ.1 38 28 = q.1 0 ∧ σ.1 38 29 = q.1 1 ∧ σ.1 38 30 = q.1 2) ∧ σ.1 38 37 = 107 ∧ σ.1 38 38 = nI 1 ∧ σ.1 59 (pL q) = nI hd := b3
    rw [b.2.1]; decide
theorem B_read_loop {ch : Nat → Nat} {n : Nat} (hn : n ≤ 60) (hc : ∀ j, j < n → ch j < 256) : ∀ (d i fuel : Nat) (σ : MT) (s : RS), i + d = n → d < fuel → σ.1 38 1 = nI n → (∀ j, j < n → σ.1 39 j = nI (ch j)) → rdB σ s → okR s → 1 ≤ s.1 → ∃ τ, f_M_readText_43 fuel (nI i) σ = some (rdV n (rdL ch d i s), τ) ∧ FRB σ τ ∧ ∀ k w, rdL ch d i s = (k, some w) → rdB τ w ∧ okR w
  | 0, i, fuel, σ, s, hi, hf, hl, ht, h, ok, h1 => by
    obtain ⟨f, rfl⟩ : ∃ f, fuel = f + 1 := ⟨fuel - 1, by omega⟩
    refine ⟨σ, ?_, FRB.rf, fun k w hw => ?_⟩
    · rw [f_M_readText_43, hl, if_pos ((nIle (by omega) (by omega)).mpr (by omega))]
      show _ = some ((if s.1 = 5 then -9 else nI n), σ)
      by_cases g : s.1 = 5
      · rw [if_pos ((rdB_5 h ok h1).mpr g), if_pos g]
      · rw [if_neg (fun z => g ((rdB_5 h ok h1).mp z)), if_neg g]
    · have hw' : (i, some s) = (k, some w) := hw
      cases hw'
      exact ⟨h, ok⟩
  | d + 1, i, fuel, σ, s, hi, hf, hl, ht, h, ok, h1 => by
    obtain ⟨f, rfl⟩ : ∃ f, fuel = f + 1 := ⟨fuel - 1, by omega⟩
    rw [f_M_readText_43, hl, if_neg (fun z => absurd ((nIle (by omega) (by omega)).mp z) (by omega)), if_pos (inb_n (by omega) (by decide)), nIc (by omega), ht i (by omega)]
    obtain ⟨τ, r, q1, q2, q3, q4⟩ := B_takes h ok (hc i (by omega)) h1
    rw [q1, Option.bind_some, nIs]
    cases g : stp (ch i) s with
    | none =>
      have e : rdL ch (d + 1) i s = (i, none) := by
        show (match stp (ch i) s with | none => (i, none) | some w => rdL ch d (i + 1) w) = _
        rw [g]
      rw [q3 g, if_pos rfl, e]
      exact ⟨τ, rfl, q2, fun k w hw => (by cases hw)⟩
    | some w =>
      have e : rdL ch (d + 1) i s = rdL ch d (i + 1) w := by
        show (match stp (ch i) s with | none => (i, none) | some w => rdL ch d (i + 1) w) = _
        rw [g]
      obtain ⟨r1, hw⟩ := q4 w g
      rw [r1, if_neg (show ¬ (1 : Int32) = 0 by decide), e]
      obtain ⟨τ2, p1, p2, p3⟩ := B_read_loop hn hc d (i + 1) f τ w (by omega) (by omega) (by rw [q2.2.1 1 (by omega)]; exact hl) (fun j hj => by rw [q2.1 39 (by omega) (by omega)]; exact ht j hj) hw (okR_stp ok g) (stp_1 g)
      exact ⟨τ2, p1, q2.tr p2, p3⟩
