/-! THE REFERENCE's NODES -/
theorem ad19 (i : Nat) : (19 : Int32) * nI i = nI (19 * i) := pk_mul 19 i
theorem ad3 (i : Nat) : (3 : Int32) * nI i = nI (3 * i) := pk_mul 3 i
theorem ad95 (i : Nat) : (95 : Int32) + nI i = nI (95 + i) := nI_add 95 i
theorem nIp_0 (n : Nat) : nI n + (0 : Int32) = nI n := nI_add n 0
theorem nIp_1 (n : Nat) : nI n + (1 : Int32) = nI (n + 1) := nI_add n 1
theorem nIp_2 (n : Nat) : nI n + (2 : Int32) = nI (n + 2) := nI_add n 2
theorem nIp_3 (n : Nat) : nI n + (3 : Int32) = nI (n + 3) := nI_add n 3
theorem nIp_4 (n : Nat) : nI n + (4 : Int32) = nI (n + 4) := nI_add n 4
theorem nIp_5 (n : Nat) : nI n + (5 : Int32) = nI (n + 5) := nI_add n 5
theorem nIp_6 (n : Nat) : nI n + (6 : Int32) = nI (n + 6) := nI_add n 6
theorem nIp_7 (n : Nat) : nI n + (7 : Int32) = nI (n + 7) := nI_add n 7
theorem nIm_1 {n : Nat} (h : 1 ≤ n) : nI n - (1 : Int32) = nI (n - 1) := pk_sub (b := 1) h
theorem nIm_2 {n : Nat} (h : 2 ≤ n) : nI n - (2 : Int32) = nI (n - 2) := pk_sub (b := 2) h
theorem nIm_3 {n : Nat} (h : 3 ≤ n) : nI n - (3 : Int32) = nI (n - 3) := pk_sub (b := 3) h
theorem c102 : (102 : Int32).toNatClampNeg = 102 := nIc (n := 102) (by omega)
theorem i102 : inb (102 : Int32) 103 = true := inb_n (m := 102) (by omega) (by omega)
theorem as3 (a b c : Int32) : a + b - c = a + (b - c) := by rw [Int32.sub_eq_add_neg, Int32.sub_eq_add_neg, Int32.add_assoc]
/-- τ is σ but for the places P of row c and the cells S -/
def EB (c : Nat) (P S : Nat → Prop) (σ τ : MT) : Prop := (∀ b, ¬ P b → τ.1 c b = σ.1 c b) ∧ (∀ a, a ≠ c → ¬ S a → τ.1 a = σ.1 a) ∧ τ.2 = σ.2
theorem EB.rf {c : Nat} {P S : Nat → Prop} {σ : MT} : EB c P S σ σ := ⟨fun _ _ => rfl, fun _ _ _ => rfl, rfl⟩
theorem EB.tr {c : Nat} {P S : Nat → Prop} {σ τ υ : MT} (h1 : EB c P S σ τ) (h2 : EB c P S τ υ) : EB c P S σ υ := ⟨fun b hb => (h2.1 b hb).trans (h1.1 b hb), fun a ha hs => (h2.2.1 a ha hs).trans (h1.2.1 a ha hs), h2.2.2.trans h1.2.2⟩
theorem EB.mo {c : Nat} {P S P' S' : Nat → Prop} {σ τ : MT} (h : EB c P S σ τ) (hP : ∀ b, P b → P' b) (hS : ∀ a, S a → S' a) : EB c P' S' σ τ := ⟨fun b hb => h.1 b (fun q => hb (hP b q)), fun a ha hs => h.2.1 a ha (fun q => hs (hS a q)), h.2.2⟩
theorem EB.i {c : Nat} {P S : Nat → Prop} {σ τ : MT} {j : Nat} {v : Int32} (h : EB c P S σ τ) (hj : P j) : EB c P S σ (sI τ c j v) := ⟨fun b hb => (by rw [sI_r, if_neg (fun q => hb (by rw [q.2]; exact hj))]; exact h.1 b hb), fun a ha hs => (sI_n ha).trans (h.2.1 a ha hs), h.2.2⟩
theorem EB.s {c : Nat} {P S : Nat → Prop} {σ τ : MT} {k j : Nat} {v : Int32} (h : EB c P S σ τ) (hk : S k) (hc : k ≠ c) : EB c P S σ (sI τ k j v) := ⟨fun b hb => (by rw [sI_n (Ne.symm hc)]; exact h.1 b hb), fun a ha hs => (sI_n (fun e => hs (by rw [e]; exact hk))).trans (h.2.1 a ha hs), h.2.2⟩
def PB (o : Nat) : Nat → Prop := fun b => o ≤ b ∧ b < o + 19
def S0 : Nat → Prop := fun _ => False
theorem hB.eb {c o : Nat} {P S : Nat → Prop} {σ τ : MT} {nd : ND} (h : hB σ c o nd) (e : EB c P S σ τ) (hp : ∀ b, o ≤ b → b < o + 19 → ¬ P b) : hB τ c o nd := by
  obtain ⟨h1, h2, h3, h4⟩ := h
  refine ⟨fun j hj => ?_, ?_, h3, fun j s hs => ?_⟩
  · rw [e.1 _ (hp _ (by omega) (by omega))]; exact h1 j hj
  · rw [e.1 _ (hp _ (by omega) (by omega))]; exact h2
  · have hj := (List.getElem?_eq_some_iff.mp hs).1
    rw [e.1 _ (hp _ (by omega) (by omega)), e.1 _ (hp _ (by omega) (by omega)), e.1 _ (hp _ (by omega) (by omega))]
    exact h4 j s hs
theorem hB.f {σ : MT} {c o : Nat} {nd : ND} (h : hB σ c o nd) : σ.1 c (o + 1) = nd.1 1 ∧ σ.1 c (o + 2) = nd.1 2 ∧ σ.1 c (o + 3) = nd.1 3 ∧ σ.1 c (o + 4) = nd.1 4 ∧ σ.1 c (o + 5) = nd.1 5 ∧ σ.1 c (o + 6) = nI nd.2.length ∧ σ.1 c o = nd.1 0 := ⟨h.1 1 (by decide), h.1 2 (by decide), h.1 3 (by decide), h.1 4 (by decide), h.1 5 (by decide), h.2.1, h.1 0 (by decide)⟩
theorem v_clockB {σ : MT} {c i : Nat} (hi : i < 5) (ht : IR 0 100000000 (σ.1 c 102)) (hd : IR (-4) 6 (σ.1 c (19 * i + 1))) (hs : IR 0 64 (σ.1 40 i)) : f_M_clockOf c (nI i) σ = some (clk (σ.1 c 102) (σ.1 c (19 * i + 1)) (σ.1 40 i)) := by
  unfold f_M_clockOf
  rw [c102, i102]
  simp (disch := omega) only [ad19, ad3, ad95, nIp_0, nIp_1, nIp_2, nIp_3, nIp_4, nIp_5, nIp_6, nIp_7, nI_add, nIc, inb_n, eq_self, if_true]
  obtain ⟨t1, t2⟩ := ht
  obtain ⟨d1, d2⟩ := hd
  obtain ⟨s1, s2⟩ := hs
  have hm := clk_m t1 t2 d1 (by omega)
  rw [v_down (y := 64) (by decide), Option.bind_some, v_round, Option.bind_some]
  have e1 : ((σ.1 c 102).toInt64 * (σ.1 c (19 * i + 1)).toInt64).toInt = (σ.1 c 102).toInt * (σ.1 c (19 * i + 1)).toInt := by
    rw [Int64.toInt_mul, Int32.toInt_toInt64, Int32.toInt_toInt64]; exact z_bl (by omega) (by omega)
  have e2 : ((16 : Int64) * (σ.1 40 i).toInt64).toInt = 16 * (σ.1 40 i).toInt := by
    rw [Int64.toInt_mul, Int32.toInt_toInt64]; exact z_bl (by show _ ≤ 16 * (σ.1 40 i).toInt; omega) (by show 16 * (σ.1 40 i).toInt < _; omega)
  have e3 : ((16 : Int64) * (σ.1 40 i).toInt64 + (σ.1 c 102).toInt64).toInt = 16 * (σ.1 40 i).toInt + (σ.1 c 102).toInt := by
    rw [Int64.toInt_add, e2, Int32.toInt_toInt64]; exact z_bl (by omega) (by omega)
  rw [e1, show (64 : Int64).toInt = 64 from rfl]
  have e4 : (Int64.ofInt ((σ.1 c 102).toInt * (σ.1 c (19 * i + 1)).toInt / 64)).toInt = (σ.1 c 102).toInt * (σ.1 c (19 * i + 1)).toInt / 64 := z_l (by omega) (by omega)
  rw [Int64.toInt_add, e3, e4, z_bl (by omega) (by omega)]
  rfl
theorem nrL (x : Int32) : f_M_near x.toInt64 = some (nrF x) := by
  rw [v_nearL, Int32.toInt_toInt64]
  rfl
theorem mulN (x y : Int32) : (nrF x).toInt64 * (nrF y).toInt64 = (nrF x * nrF y).toInt64 := by
  have h1 := nrZ_b x.toInt
  have h2 := nrZ_b y.toInt
  rw [← nrF_t] at h1 h2
  have hm : -262144 ≤ (nrF x).toInt * (nrF y).toInt ∧ (nrF x).toInt * (nrF y).toInt ≤ 262144 := by
    have a1 := Int.mul_nonneg (show 0 ≤ 512 - (nrF x).toInt by omega) (show 0 ≤ 512 - (nrF y).toInt by omega)
    have a2 := Int.mul_nonneg (show 0 ≤ 512 + (nrF x).toInt by omega) (show 0 ≤ 512 + (nrF y).toInt by omega)
    have a3 := Int.mul_nonneg (show 0 ≤ 512 - (nrF x).toInt by omega) (show 0 ≤ 512 + (nrF y).toInt by omega)
    have a4 := Int.mul_nonneg (show 0 ≤ 512 + (nrF x).toInt by omega) (show 0 ≤ 512 - (nrF y).toInt by omega)
    simp only [Int.sub_mul, Int.mul_sub, Int.add_mul, Int.mul_add] at a1 a2 a3 a4
    omega
  exact (mulI64 (by omega) (by omega)).symm
theorem estB_loop {K : Int32 → Int32 → Int32 → Int64 → MT → Option Int32} {σ : MT} {r o : Nat} {c C M : Int32} {len : Nat} (ho : o ≤ 76) (hl : len ≤ 4) : ∀ (rest : List SP) (i fuel : Nat) (a : Int64 × Int64 × Int64 × Int64), (∀ (j : Nat) (s : SP), rest[j]? = some s → σ.1 r (o + 7 + 3 * (i + j)) = s.1 ∧ σ.1 r (o + 7 + 3 * (i + j) + 1) = s.2.1) → i + rest.length = len → rest.length < fuel →
    f_M_estimate_86 K fuel r (nI o) c (nI len) C M a.1 a.2.1 a.2.2.1 a.2.2.2 (nI i) σ = f_M_estimate_86 K 1 r (nI o) c (nI len) C M (rest.foldl (eStep C (M - C)) a).1 (rest.foldl (eStep C (M - C)) a).2.1 (rest.foldl (eStep C (M - C)) a).2.2.1 (rest.foldl (eStep C (M - C)) a).2.2.2 (nI len) σ
  | [], i, fuel, a, _, hi, hf => by
    obtain ⟨f, rfl⟩ : ∃ f, fuel = f + 1 := ⟨fuel - 1, by simp at hf; omega⟩
    have hi' : i = len := by simpa using hi
    subst hi'
    rw [f_M_estimate_86, f_M_estimate_86]
    rw [if_pos ((nIle (by omega) (by omega)).mpr (Nat.le_refl i))]
    rw [if_pos ((nIle (by omega) (by omega)).mpr (Nat.le_refl i))]
    rfl
  | s :: rest, i, fuel, a, h, hi, hf => by
    obtain ⟨f, rfl⟩ : ∃ f, fuel = f + 1 := ⟨fuel - 1, by simp at hf; omega⟩
    have hi' : i < len := by simp at hi; omega
    obtain ⟨r1, r2⟩ := h 0 s rfl
    simp only [Nat.add_zero] at r1 r2
    rw [f_M_estimate_86, if_neg (fun q => absurd ((nIle (by omega) (by omega)).mp q) (by omega))]
    simp (disch := omega) only [ad19, ad3, ad95, nIp_0, nIp_1, nIp_2, nIp_3, nIp_4, nIp_5, nIp_6, nIp_7, nI_add, nIc, inb_n, eq_self, if_true]
    rw [nrL, Option.bind_some, nrL, Option.bind_some, r1, r2, mulN, mulN]
    exact estB_loop ho hl rest (i + 1) f (eStep C (M - C) a s) (fun j t ht => by have := h (j + 1) t (by simpa using ht); rw [show i + 1 + j = i + (j + 1) by omega]; exact this) (by simp at hi ⊢; omega) (by simp at hf; omega)
theorem v_estB {σ : MT} {r i : Nat} {nd : ND} (h : hB σ r (19 * i) nd) (hi : i < 5) (ht : IR 0 100000000 (σ.1 r 102)) (hd : IR (-4) 6 (nd.1 1)) (hs : IR 0 64 (σ.1 40 i)) : f_M_estimate r (nI i) σ = some (estN (nI i) (clk (σ.1 r 102) (nd.1 1) (σ.1 40 i)) nd) := by
  obtain ⟨f1, f2, f3, f4, f5, f6, f0⟩ := h.f
  unfold f_M_estimate estN
  rw [v_clockB hi ht (by rw [f1]; exact hd) hs, Option.bind_some, f1]
  generalize clk (σ.1 r 102) (nd.1 1) (σ.1 40 i) = c
  have h3 := h.2.2.1
  simp (disch := omega) only [ad19, ad3, ad95, nIp_0, nIp_1, nIp_2, nIp_3, nIp_4, nIp_5, nIp_6, nIp_7, nI_add, nIc, inb_n, eq_self, if_true]
  rw [f2, f6]
  by_cases hself : nd.1 2 = nI i
  · rw [if_pos hself, if_pos hself]
  · rw [if_neg hself, if_neg hself]
    cases hl : nd.2.getLast? with
    | none =>
      have he : nd.2 = [] := List.getLast?_eq_none_iff.mp hl
      rw [he]
      rfl
    | some s =>
      obtain ⟨hp, hla⟩ := last_at hl
      obtain ⟨r1, r2, -⟩ := h.2.2.2 _ _ hla
      rw [if_neg (fun q => absurd ((neq_0 (by omega)).mp q) (by omega))]
      have e3 : nI (19 * i + 7) + (3 : Int32) * nI nd.2.length - 3 = nI (19 * i + 7 + 3 * (nd.2.length - 1)) := by
        rw [ad3, nI_add, nIm_3 (by omega)]
        congr 1
        omega
      rw [e3]
      unfold f_M_estimate_56
      have e2 : nI (19 * i) + (7 : Int32) + (3 : Int32) * nI nd.2.length - 2 = nI (19 * i + 7 + 3 * (nd.2.length - 1) + 1) := by
        rw [ad3, nIp_7, nI_add, nIm_2 (by omega)]
        congr 1
        omega
      rw [e2]
      simp (disch := omega) only [ad19, ad3, ad95, nIp_0, nIp_1, nIp_2, nIp_3, nIp_4, nIp_5, nIp_6, nIp_7, nI_add, nIc, inb_n, eq_self, if_true]
      rw [r1, r2]
      have hloop := estB_loop (K := f_M_estimate_275) (σ := σ) (r := r) (o := 19 * i) (c := c) (C := s.1) (M := s.2.1) (by omega) h3 nd.2 0 1100 (0, 0, 0, 0) (fun j t ht => by rw [Nat.zero_add]; exact ⟨(h.2.2.2 j t ht).1, (h.2.2.2 j t ht).2.1⟩) (by omega) (by omega)
      rw [show nI 0 = (0 : Int32) from rfl] at hloop
      rw [hloop]
      have hok := eSum_ok (C := s.1) (O := s.2.1 - s.1) h3
      have hfold : nd.2.foldl (eStep s.1 (s.2.1 - s.1)) (0, 0, 0, 0) = eSum s.1 (s.2.1 - s.1) nd.2 := rfl
      rw [hfold, f_M_estimate_86, if_pos ((nIle (by omega) (by omega)).mpr (Nat.le_refl _)), estF_last hl]
      have hfin : ∀ z : Int64, f_M_estimate_275 c s.1 s.2.1 z σ = some (Int32.ofInt (((c + (s.2.1 - s.1)).toInt64 + z).toInt % 1024)) := by
        intro z
        unfold f_M_estimate_275
        rw [v_round, Option.bind_some, as3]
      have hn : 0 < (nI nd.2.length).toInt64.toInt := by rw [Int32.toInt_toInt64, nIt (by omega)]; omega
      generalize eSum s.1 (s.2.1 - s.1) nd.2 = a at hok ⊢
      have hE : (nI nd.2.length).toInt64 * a.2.2.2 - a.1 * a.1 = eE (nI nd.2.length).toInt64 a := rfl
      rw [hE]
      by_cases hz : eE (nI nd.2.length).toInt64 a = 0
      · rw [if_pos ((z_cmp0 _ _).mpr hz), v_down hn, Option.bind_some, hfin]
        unfold eZ
        rw [if_pos hz]
      · have hpos := eE_pos hp h3 hok hz
        rw [if_neg (fun q => hz ((z_cmp0 _ _).mp q)), nrL, Option.bind_some, v_down hpos, Option.bind_some, hfin]
        unfold eZ
        rw [if_neg hz]
