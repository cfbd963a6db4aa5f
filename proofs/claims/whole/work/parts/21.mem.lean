/-! MEMORY: reads behind writes; what a function leaves as it was -/
theorem sI_r (σ : MT) (k j : Nat) (v : Int32) (a b : Nat) : (sI σ k j v).1 a b = if a = k ∧ b = j then v else σ.1 a b := by
  unfold sI sA upd
  by_cases h : a = k
  · subst h
    by_cases h2 : b = j <;> simp [h2]
  · simp [h]
theorem sI_n {σ : MT} {k j : Nat} {v : Int32} {a : Nat} (h : a ≠ k) : (sI σ k j v).1 a = σ.1 a := by
  unfold sI sA
  simp [h]
theorem sI_2 (σ : MT) (k j : Nat) (v : Int32) : (sI σ k j v).2 = σ.2 := rfl
theorem sA_s (σ : MT) (k : Nat) (g : Nat → Int32) : (sA σ k g).1 k = g := by simp [sA]
theorem sA_n {σ : MT} {k : Nat} {g : Nat → Int32} {a : Nat} (h : a ≠ k) : (sA σ k g).1 a = σ.1 a := by simp [sA, h]
theorem sA_2 (σ : MT) (k : Nat) (g : Nat → Int32) : (sA σ k g).2 = σ.2 := rfl
theorem sL_1 (σ : MT) (k : Nat) (v : Int64) : (sL σ k v).1 = σ.1 := rfl
theorem sL_r (σ : MT) (k : Nat) (v : Int64) (a : Nat) : (sL σ k v).2 a = if a = k then v else σ.2 a := rfl
/-- σ' differs from σ in cells of P alone -/
def EO (P : Nat → Prop) (σ σ' : MT) : Prop := (∀ c, ¬ P c → σ'.1 c = σ.1 c) ∧ σ'.2 = σ.2
theorem EO.rf {P : Nat → Prop} {σ : MT} : EO P σ σ := ⟨fun _ _ => rfl, rfl⟩
theorem EO.tr {P : Nat → Prop} {a b c : MT} (h1 : EO P a b) (h2 : EO P b c) : EO P a c := ⟨fun k hk => (h2.1 k hk).trans (h1.1 k hk), h2.2.trans h1.2⟩
theorem EO.mo {P Q : Nat → Prop} {a b : MT} (h : EO P a b) (hPQ : ∀ c, P c → Q c) : EO Q a b := ⟨fun k hk => h.1 k (fun q => hk (hPQ k q)), h.2⟩
theorem EO.i {P : Nat → Prop} {σ τ : MT} {k j : Nat} {v : Int32} (h : EO P σ τ) (hk : P k) : EO P σ (sI τ k j v) := ⟨fun c hc => (sI_n (fun e => hc (by rw [e]; exact hk))).trans (h.1 c hc), h.2⟩
theorem EO.a {P : Nat → Prop} {σ τ : MT} {k : Nat} {g : Nat → Int32} (h : EO P σ τ) (hk : P k) : EO P σ (sA τ k g) := ⟨fun c hc => (sA_n (fun e => hc (by rw [e]; exact hk))).trans (h.1 c hc), h.2⟩
theorem EO.g {P : Nat → Prop} {σ σ' : MT} (h : EO P σ σ') {c : Nat} (hc : ¬ P c) : σ'.1 c = σ.1 c := h.1 c hc
-- small numbers as ints
theorem inb_n {m N : Nat} (h : m < N) (hN : N < 2147483648) : inb (nI m) N = true := by
  unfold inb
  exact decide_eq_true (vp_in_nI h (by omega))
theorem nIc {n : Nat} (h : n < 2147483648) : (nI n).toNatClampNeg = n := nI_clamp (by omega)
theorem nIle {a b : Nat} (ha : a < 2147483648) (hb : b < 2147483648) : nI a ≤ nI b ↔ a ≤ b := nI_leI (by omega) (by omega)
theorem nIlt {a b : Nat} (ha : a < 2147483648) (hb : b < 2147483648) : nI a < nI b ↔ a < b := nI_ltI (by omega) (by omega)
theorem nIeq {a b : Nat} (ha : a < 2147483648) (hb : b < 2147483648) : nI a = nI b ↔ a = b := nI_eq (by omega) (by omega)
theorem nIt {n : Nat} (h : n < 2147483648) : (nI n).toInt = (n : Int) := nI_toInt (by omega)
theorem nIs (n : Nat) : nI n + 1 = nI (n + 1) := (nI_succ n).symm
/-- an int of a range -/
def IR (lo hi : Int) (x : Int32) : Prop := lo ≤ x.toInt ∧ x.toInt < hi
theorem IR_n {x : Int32} {n : Nat} (h : IR 0 n x) (hn : n < 2147483648) : ∃ j : Nat, j < n ∧ x = nI j := by
  refine ⟨x.toInt.toNat, ?_, ?_⟩
  · have := h.1; have := h.2; omega
  · apply Int32.toInt_inj.mp
    have h1 := h.1
    have h2 := h.2
    rw [nIt (by omega)]
    omega
-- near, as a number
def nrZ (z : Int) : Int := if z % 1024 < 512 then z % 1024 else z % 1024 - 1024
theorem nrZ_b (z : Int) : -512 ≤ nrZ z ∧ nrZ z ≤ 511 := by
  unfold nrZ
  have h1 := Int.emod_nonneg z (show (1024 : Int) ≠ 0 by decide)
  have h2 := Int.emod_lt_of_pos z (show (0 : Int) < 1024 by decide)
  split <;> omega
def nrF (x : Int32) : Int32 := Int32.ofInt (nrZ x.toInt)
theorem nrF_t (x : Int32) : (nrF x).toInt = nrZ x.toInt := by
  have := nrZ_b x.toInt
  exact z_i (by omega) (by omega)
theorem v_near (x : Int32) : f_TF_near x = some (nrF x) := by
  unfold f_TF_near
  have h1 := Int.emod_nonneg x.toInt (show (1024 : Int) ≠ 0 by decide)
  have h2 := Int.emod_lt_of_pos x.toInt (show (0 : Int) < 1024 by decide)
  rw [v_floorModI (y := 1024) (by decide), show (1024 : Int32).toInt = 1024 from rfl, Option.bind_some]
  have e : (Int32.ofInt (x.toInt % 1024)).toInt = x.toInt % 1024 := z_i (by omega) (by omega)
  by_cases h : x.toInt % 1024 < 512
  · rw [if_pos (Int32.lt_iff_toInt_lt.mpr (by rw [e]; exact h))]
    unfold nrF nrZ
    rw [if_pos h]
  · rw [if_neg (fun q => h (by have := Int32.lt_iff_toInt_lt.mp q; rw [e] at this; exact this))]
    unfold nrF nrZ
    rw [if_neg h]
    congr 1
    apply z_eqi
    rw [Int32.toInt_sub, e]
    exact z_bm (by show _ ≤ x.toInt % 1024 - 1024; omega) (by show x.toInt % 1024 - 1024 < _; omega)
-- the reference's own: down, round, near
theorem v_down {x y : Int64} (hy : 0 < y.toInt) : f_M_down x y = some (Int64.ofInt (x.toInt / y.toInt)) := by
  have hJ := v_floorDivJ (x := x) hy
  unfold f_Mt_floorDivJ at hJ
  rw [if_pos (z_ne0L hy)] at hJ
  obtain ⟨e1, e2, e3⟩ := z_divL (x := x) hy
  obtain ⟨t1, t2, t3, t4, t5⟩ := z_td (a := x.toInt) hy
  have hx := z_rl x
  unfold f_M_down
  rw [if_pos (z_ne0L hy), if_pos (z_ne0L hy)]
  have key : 0 ≤ lg_cmp (x - x / y * y) 0 ↔ ¬ (x.toInt - x.toInt.tdiv y.toInt * y.toInt < 0) := by
    rw [lg_cmp_ge, Int64.le_iff_toInt_le, Int64.toInt_zero, e3]
    omega
  by_cases h : x.toInt - x.toInt.tdiv y.toInt * y.toInt < 0
  · rw [if_neg (fun q => key.mp q h)]
    have hneg : x.toInt < 0 := by
      rcases (show x.toInt < 0 ∨ 0 ≤ x.toInt by omega) with q | q
      · exact q
      · have := t5 q; omega
    have hne : x.toInt.tdiv y.toInt * y.toInt ≠ x.toInt := by omega
    rw [if_neg (fun q => absurd ((z_xorL x y (by omega)).mp q) (by omega)), if_neg (fun q => hne (by rw [← e2, (z_cmp0 _ _).mp q]))] at hJ
    exact hJ
  · rw [if_pos (key.mpr h)]
    by_cases hp : 0 ≤ x.toInt
    · rw [if_pos ((z_xorL x y (by omega)).mpr hp)] at hJ
      exact hJ
    · have h4 := t4 (by omega)
      have he : x.toInt.tdiv y.toInt * y.toInt = x.toInt := by omega
      rw [if_neg (fun q => hp ((z_xorL x y (by omega)).mp q)), if_pos ((z_cmp0 _ _).mpr (Int64.toInt_inj.mp (by rw [e2, he])))] at hJ
      exact hJ
theorem v_round (x : Int64) : f_M_round x = some (Int32.ofInt (x.toInt % 1024)) := by
  unfold f_M_round
  rw [v_down (y := 1024) (by decide), show (1024 : Int64).toInt = 1024 from rfl, Option.bind_some]
  have hx := z_rl x
  have em := Int.emod_add_mul_ediv x.toInt 1024
  have h1 := Int.emod_nonneg x.toInt (show (1024 : Int) ≠ 0 by decide)
  have h2 := Int.emod_lt_of_pos x.toInt (show (0 : Int) < 1024 by decide)
  congr 1
  apply z_eqi
  have e0 : (Int64.ofInt (x.toInt / 1024)).toInt = x.toInt / 1024 := z_l (by omega) (by omega)
  have e1 : (Int64.ofInt (x.toInt / 1024) * 1024).toInt = x.toInt / 1024 * 1024 ∨ x.toInt / 1024 * 1024 < -9223372036854775808 := by
    rcases (show -9223372036854775808 ≤ x.toInt / 1024 * 1024 ∨ x.toInt / 1024 * 1024 < -9223372036854775808 by omega) with q | q
    · left
      rw [Int64.toInt_mul, e0]
      exact z_bl (by exact q) (by show x.toInt / 1024 * 1024 < _; omega)
    · exact Or.inr q
  rcases e1 with e1 | e1
  · have e2 : (x - Int64.ofInt (x.toInt / 1024) * 1024).toInt = x.toInt % 1024 := by
      rw [Int64.toInt_sub, e1]
      rw [z_bl (by omega) (by omega)]
      omega
    rw [Int64.toInt_toInt32, e2]
    exact z_bm (by omega) (by omega)
  · omega
theorem v_nearL (x : Int64) : f_M_near x = some (Int32.ofInt (nrZ x.toInt)) := by
  unfold f_M_near
  rw [v_round, Option.bind_some]
  have h1 := Int.emod_nonneg x.toInt (show (1024 : Int) ≠ 0 by decide)
  have h2 := Int.emod_lt_of_pos x.toInt (show (0 : Int) < 1024 by decide)
  have e : (Int32.ofInt (x.toInt % 1024)).toInt = x.toInt % 1024 := z_i (by omega) (by omega)
  unfold nrZ
  by_cases h : x.toInt % 1024 < 512
  · rw [if_pos (Int32.le_iff_toInt_le.mpr (by rw [e]; show x.toInt % 1024 ≤ 511; omega)), if_pos h]
  · rw [if_neg (fun q => h (by have := Int32.le_iff_toInt_le.mp q; rw [e] at this; have : x.toInt % 1024 ≤ 511 := this; omega)), if_neg h]
    congr 1
    apply z_eqi
    rw [Int32.toInt_sub, e]
    exact z_bm (by show _ ≤ x.toInt % 1024 - 1024; omega) (by show x.toInt % 1024 - 1024 < _; omega)
