/-! NUMBERS: what the JDK's and the reference's little functions answer -/
theorem z_i {z : Int} (h1 : -2147483648 ≤ z) (h2 : z < 2147483648) : (Int32.ofInt z).toInt = z := Int32.toInt_ofInt_of_le (by omega) (by omega)
theorem z_l {z : Int} (h1 : -9223372036854775808 ≤ z) (h2 : z < 9223372036854775808) : (Int64.ofInt z).toInt = z := Int64.toInt_ofInt_of_le (by omega) (by omega)
theorem z_r (x : Int32) : -2147483648 ≤ x.toInt ∧ x.toInt < 2147483648 := ⟨by have := x.le_toInt; omega, by have := x.toInt_lt; omega⟩
theorem z_rl (x : Int64) : -9223372036854775808 ≤ x.toInt ∧ x.toInt < 9223372036854775808 := ⟨by have := x.le_toInt; omega, by have := x.toInt_lt; omega⟩
theorem z_bm {z : Int} (h1 : -2147483648 ≤ z) (h2 : z < 2147483648) : z.bmod (2 ^ 32) = z := by
  have := z_i h1 h2
  rwa [Int32.toInt_ofInt] at this
theorem z_bl {z : Int} (h1 : -9223372036854775808 ≤ z) (h2 : z < 9223372036854775808) : z.bmod (2 ^ 64) = z := by
  have := z_l h1 h2
  rwa [Int64.toInt_ofInt] at this
theorem z_eqi {x : Int32} {z : Int} (h : x.toInt = z) : x = Int32.ofInt z := by rw [← h, Int32.ofInt_toInt]
theorem z_eql {x : Int64} {z : Int} (h : x.toInt = z) : x = Int64.ofInt z := by rw [← h, Int64.ofInt_toInt]
theorem z_fl {a b z : Int} (hb : 0 < b) (h1 : b * z ≤ a) (h2 : a < b * z + b) : a / b = z := by
  have e := Int.emod_add_mul_ediv a b
  have m1 := Int.emod_nonneg a (show b ≠ 0 by omega)
  have m2 := Int.emod_lt_of_pos a hb
  rcases Int.lt_trichotomy (a / b) z with q | q | q
  · have := Int.mul_le_mul_of_nonneg_left (show a / b + 1 ≤ z by omega) (show 0 ≤ b by omega)
    rw [Int.mul_add, Int.mul_one] at this
    omega
  · exact q
  · have := Int.mul_le_mul_of_nonneg_left (show z + 1 ≤ a / b by omega) (show 0 ≤ b by omega)
    rw [Int.mul_add, Int.mul_one] at this
    omega
/-- the quotient cut to 0, and the floor, by a divisor above 0 -/
theorem z_td {a b : Int} (hb : 0 < b) : (0 ≤ a → a.tdiv b = a / b) ∧ (a < 0 → a.tdiv b * b = a → a.tdiv b = a / b) ∧ (a < 0 → a.tdiv b * b ≠ a → a.tdiv b - 1 = a / b) ∧ (a < 0 → a ≤ a.tdiv b * b ∧ a.tdiv b * b < a + b ∧ a ≤ a.tdiv b ∧ a.tdiv b ≤ 0) ∧ (0 ≤ a → a.tdiv b * b ≤ a ∧ a < a.tdiv b * b + b ∧ a.tdiv b ≤ a ∧ 0 ≤ a.tdiv b) := by
  have key : a < 0 → a ≤ a.tdiv b * b ∧ a.tdiv b * b < a + b ∧ a ≤ a.tdiv b ∧ a.tdiv b ≤ 0 := by
    intro h
    have e : a.tdiv b = -((-a) / b) := by rw [← Int.tdiv_eq_ediv_of_nonneg (show 0 ≤ -a by omega), Int.neg_tdiv, Int.neg_neg]
    have e2 := Int.emod_add_mul_ediv (-a) b
    have m1 := Int.emod_nonneg (-a) (show b ≠ 0 by omega)
    have m2 := Int.emod_lt_of_pos (-a) hb
    have q0 : 0 ≤ (-a) / b := Int.ediv_nonneg (by omega) (by omega)
    have q1 : (-a) / b ≤ -a := Int.ediv_le_self _ (by omega)
    rw [e, Int.neg_mul, Int.mul_comm ((-a) / b) b]
    omega
  refine ⟨fun h => Int.tdiv_eq_ediv_of_nonneg h, fun h he => (z_fl hb ?_ ?_).symm, fun h hn => (z_fl hb ?_ ?_).symm, key, fun h => ?_⟩
  · rw [Int.mul_comm]; omega
  · rw [Int.mul_comm]; omega
  · have := key h
    rw [Int.mul_sub, Int.mul_one, Int.mul_comm]; omega
  · have := key h
    rw [Int.mul_sub, Int.mul_one, Int.mul_comm]; omega
  · rw [Int.tdiv_eq_ediv_of_nonneg h]
    have e2 := Int.emod_add_mul_ediv a b
    have m1 := Int.emod_nonneg a (show b ≠ 0 by omega)
    have m2 := Int.emod_lt_of_pos a hb
    have q0 : 0 ≤ a / b := Int.ediv_nonneg h (by omega)
    have q1 : a / b ≤ a := Int.ediv_le_self _ h
    rw [Int.mul_comm (a / b) b]
    omega
theorem z_xor (x y : Int32) (hy : 0 ≤ y.toInt) : (0 ≤ x ^^^ y) ↔ 0 ≤ x.toInt := by
  rw [Int32.le_iff_toInt_le, Int32.toInt_zero]
  have hm : y.toBitVec.msb = false := by
    cases h : y.toBitVec.msb with
    | false => rfl
    | true => exact absurd (BitVec.toInt_neg_of_msb_true h) (by show ¬ y.toInt < 0; omega)
  have e : (x ^^^ y).toInt = (x.toBitVec ^^^ y.toBitVec).toInt := by rw [← Int32.toBitVec_xor]; rfl
  rw [e]
  have hx : (x.toBitVec ^^^ y.toBitVec).msb = x.toBitVec.msb := by rw [BitVec.msb_xor, hm, Bool.xor_false]
  cases h : x.toBitVec.msb with
  | false =>
    rw [h] at hx
    exact ⟨fun _ => BitVec.toInt_nonneg_of_msb_false h, fun _ => BitVec.toInt_nonneg_of_msb_false hx⟩
  | true =>
    rw [h] at hx
    have a1 := BitVec.toInt_neg_of_msb_true h
    have a2 := BitVec.toInt_neg_of_msb_true hx
    exact ⟨fun q => absurd a2 (by omega), fun q => absurd (show x.toInt < 0 from a1) (by omega)⟩
theorem z_xorL (x y : Int64) (hy : 0 ≤ y.toInt) : (0 ≤ lg_cmp (x ^^^ y) 0) ↔ 0 ≤ x.toInt := by
  rw [lg_cmp_ge, Int64.le_iff_toInt_le, Int64.toInt_zero]
  have hm : y.toBitVec.msb = false := by
    cases h : y.toBitVec.msb with
    | false => rfl
    | true => exact absurd (BitVec.toInt_neg_of_msb_true h) (by show ¬ y.toInt < 0; omega)
  have e : (x ^^^ y).toInt = (x.toBitVec ^^^ y.toBitVec).toInt := by rw [← Int64.toBitVec_xor]; rfl
  rw [e]
  have hx : (x.toBitVec ^^^ y.toBitVec).msb = x.toBitVec.msb := by rw [BitVec.msb_xor, hm, Bool.xor_false]
  cases h : x.toBitVec.msb with
  | false =>
    rw [h] at hx
    exact ⟨fun _ => BitVec.toInt_nonneg_of_msb_false h, fun _ => BitVec.toInt_nonneg_of_msb_false hx⟩
  | true =>
    rw [h] at hx
    have a1 := BitVec.toInt_neg_of_msb_true h
    have a2 := BitVec.toInt_neg_of_msb_true hx
    exact ⟨fun q => absurd a2 (by omega), fun q => absurd (show x.toInt < 0 from a1) (by omega)⟩
theorem z_cmp0 (x y : Int64) : lg_cmp x y = 0 ↔ x = y := by
  unfold lg_cmp
  by_cases h1 : x > y
  · rw [if_pos h1]
    refine ⟨fun h => absurd h (by decide), fun h => ?_⟩
    subst h
    exact absurd (Int64.lt_iff_toInt_lt.mp h1) (by omega)
  · rw [if_neg h1]
    by_cases h2 : x = y
    · rw [if_pos h2]; exact ⟨fun _ => h2, fun _ => rfl⟩
    · rw [if_neg h2]; exact ⟨fun h => absurd h (by decide), fun h => absurd h h2⟩
theorem z_divI {x y : Int32} (hy : 0 < y.toInt) : (x / y).toInt = x.toInt.tdiv y.toInt ∧ (x / y * y).toInt = x.toInt.tdiv y.toInt * y.toInt ∧ (x - x / y * y).toInt = x.toInt - x.toInt.tdiv y.toInt * y.toInt := by
  have hx := z_r x
  have hyr := z_r y
  obtain ⟨-, -, -, t4, t5⟩ := z_td (a := x.toInt) hy
  have e1 : (x / y).toInt = x.toInt.tdiv y.toInt := by
    rw [Int32.toInt_div]
    apply z_bm
    · rcases (show x.toInt < 0 ∨ 0 ≤ x.toInt by omega) with q | q
      · have := t4 q; omega
      · have := t5 q; omega
    · rcases (show x.toInt < 0 ∨ 0 ≤ x.toInt by omega) with q | q
      · have := t4 q; omega
      · have := t5 q; omega
  have e2 : (x / y * y).toInt = x.toInt.tdiv y.toInt * y.toInt := by
    rw [Int32.toInt_mul, e1]
    apply z_bm
    · rcases (show x.toInt < 0 ∨ 0 ≤ x.toInt by omega) with q | q
      · have := t4 q; omega
      · have := t5 q
        have := Int.mul_nonneg this.2.2.2 (show 0 ≤ y.toInt by omega)
        omega
    · rcases (show x.toInt < 0 ∨ 0 ≤ x.toInt by omega) with q | q
      · have := t4 q
        have := Int.mul_nonneg (show 0 ≤ -(x.toInt.tdiv y.toInt) by omega) (show 0 ≤ y.toInt by omega)
        rw [Int.neg_mul] at this
        omega
      · have := t5 q; omega
  refine ⟨e1, e2, ?_⟩
  rw [Int32.toInt_sub, e2]
  apply z_bm
  · rcases (show x.toInt < 0 ∨ 0 ≤ x.toInt by omega) with q | q
    · have := t4 q; omega
    · have := t5 q; omega
  · rcases (show x.toInt < 0 ∨ 0 ≤ x.toInt by omega) with q | q
    · have := t4 q; omega
    · have := t5 q; omega
theorem z_divL {x y : Int64} (hy : 0 < y.toInt) : (x / y).toInt = x.toInt.tdiv y.toInt ∧ (x / y * y).toInt = x.toInt.tdiv y.toInt * y.toInt ∧ (x - x / y * y).toInt = x.toInt - x.toInt.tdiv y.toInt * y.toInt := by
  have hx := z_rl x
  have hyr := z_rl y
  obtain ⟨-, -, -, t4, t5⟩ := z_td (a := x.toInt) hy
  have e1 : (x / y).toInt = x.toInt.tdiv y.toInt := by
    rw [Int64.toInt_div]
    apply z_bl
    · rcases (show x.toInt < 0 ∨ 0 ≤ x.toInt by omega) with q | q
      · have := t4 q; omega
      · have := t5 q; omega
    · rcases (show x.toInt < 0 ∨ 0 ≤ x.toInt by omega) with q | q
      · have := t4 q; omega
      · have := t5 q; omega
  have e2 : (x / y * y).toInt = x.toInt.tdiv y.toInt * y.toInt := by
    rw [Int64.toInt_mul, e1]
    apply z_bl
    · rcases (show x.toInt < 0 ∨ 0 ≤ x.toInt by omega) with q | q
      · have := t4 q; omega
      · have := t5 q
        have := Int.mul_nonneg this.2.2.2 (show 0 ≤ y.toInt by omega)
        omega
    · rcases (show x.toInt < 0 ∨ 0 ≤ x.toInt by omega) with q | q
      · have := t4 q
        have := Int.mul_nonneg (show 0 ≤ -(x.toInt.tdiv y.toInt) by omega) (show 0 ≤ y.toInt by omega)
        rw [Int.neg_mul] at this
        omega
      · have := t5 q; omega
  refine ⟨e1, e2, ?_⟩
  rw [Int64.toInt_sub, e2]
  apply z_bl
  · rcases (show x.toInt < 0 ∨ 0 ≤ x.toInt by omega) with q | q
    · have := t4 q; omega
    · have := t5 q; omega
  · rcases (show x.toInt < 0 ∨ 0 ≤ x.toInt by omega) with q | q
    · have := t4 q; omega
    · have := t5 q; omega
theorem z_ne0 {y : Int32} (hy : 0 < y.toInt) : ¬ y = 0 := fun h => by rw [h, Int32.toInt_zero] at hy; omega
theorem z_ne0L {y : Int64} (hy : 0 < y.toInt) : ¬ y = 0 := fun h => by rw [h, Int64.toInt_zero] at hy; omega
theorem v_floorDivI {x y : Int32} (hy : 0 < y.toInt) : f_Mt_floorDivI x y = some (Int32.ofInt (x.toInt / y.toInt)) := by
  obtain ⟨e1, e2, e3⟩ := z_divI (x := x) hy
  obtain ⟨t1, t2, t3, t4, t5⟩ := z_td (a := x.toInt) hy
  unfold f_Mt_floorDivI
  rw [if_pos (z_ne0 hy)]
  by_cases h : 0 ≤ x.toInt
  · rw [if_pos ((z_xor x y (by omega)).mpr h), z_eqi e1, t1 h]
  · rw [if_neg (fun q => h ((z_xor x y (by omega)).mp q))]
    by_cases hm : x / y * y = x
    · rw [if_pos hm, z_eqi e1, t2 (by omega) (by rw [← e2, hm])]
    · rw [if_neg hm]
      have hne : x.toInt.tdiv y.toInt * y.toInt ≠ x.toInt := fun q => hm (Int32.toInt_inj.mp (by rw [e2, q]))
      have h4 := t4 (by omega)
      have h3 := t3 (by omega) hne
      have hx := z_r x
      congr 1
      apply z_eqi
      rw [Int32.toInt_sub, e1]
      show (x.toInt.tdiv y.toInt - 1).bmod (2 ^ 32) = _
      rw [← h3]
      apply z_bm
      · rcases Int.lt_trichotomy (x.toInt.tdiv y.toInt * y.toInt) x.toInt with q | q | q
        · omega
        · exact absurd q hne
        · have hy1 : x.toInt.tdiv y.toInt ≠ x.toInt ∨ y.toInt ≠ 1 := by
            by_cases q1 : y.toInt = 1
            · left
              intro q2
              rw [q1, Int.mul_one] at hne
              rw [q1] at q2
              exact hne q2
            · exact Or.inr q1
          rcases hy1 with q1 | q1
          · omega
          · have := Int.mul_le_mul_of_nonneg_left (show 2 ≤ y.toInt by omega) (show 0 ≤ -(x.toInt.tdiv y.toInt) by omega)
            rw [Int.neg_mul, Int.neg_mul] at this
            omega
      · omega
theorem v_floorModI {x y : Int32} (hy : 0 < y.toInt) : f_Mt_floorModI x y = some (Int32.ofInt (x.toInt % y.toInt)) := by
  obtain ⟨e1, e2, e3⟩ := z_divI (x := x) hy
  obtain ⟨t1, t2, t3, t4, t5⟩ := z_td (a := x.toInt) hy
  have em : x.toInt % y.toInt = x.toInt - x.toInt / y.toInt * y.toInt := by
    have := Int.emod_add_mul_ediv x.toInt y.toInt
    rw [Int.mul_comm] at this
    omega
  unfold f_Mt_floorModI
  rw [if_pos (z_ne0 hy)]
  by_cases h : 0 ≤ x.toInt
  · rw [if_pos ((z_xor x y (by omega)).mpr h), z_eqi e3, t1 h, em]
  · rw [if_neg (fun q => h ((z_xor x y (by omega)).mp q))]
    by_cases hm : x - x / y * y = 0
    · rw [if_pos hm]
      have h0 : x.toInt.tdiv y.toInt * y.toInt = x.toInt := by
        have := congrArg Int32.toInt hm
        rw [e3, Int32.toInt_zero] at this
        omega
      rw [z_eqi e3, em, t2 (by omega) h0]
    · rw [if_neg hm]
      have hne : x.toInt.tdiv y.toInt * y.toInt ≠ x.toInt := fun q => hm (Int32.toInt_inj.mp (by rw [e3, q, Int32.toInt_zero]; omega))
      have h4 := t4 (by omega)
      have h3 := t3 (by omega) hne
      have hyr := z_r y
      congr 1
      apply z_eqi
      rw [Int32.toInt_add, e3, em, ← h3, Int.sub_mul, Int.one_mul]
      rw [z_bm (by omega) (by omega)]
      omega
theorem v_floorDivJ {x y : Int64} (hy : 0 < y.toInt) : f_Mt_floorDivJ x y = some (Int64.ofInt (x.toInt / y.toInt)) := by
  obtain ⟨e1, e2, e3⟩ := z_divL (x := x) hy
  obtain ⟨t1, t2, t3, t4, t5⟩ := z_td (a := x.toInt) hy
  unfold f_Mt_floorDivJ
  rw [if_pos (z_ne0L hy)]
  by_cases h : 0 ≤ x.toInt
  · rw [if_pos ((z_xorL x y (by omega)).mpr h), z_eql e1, t1 h]
  · rw [if_neg (fun q => h ((z_xorL x y (by omega)).mp q))]
    by_cases hm : x / y * y = x
    · rw [if_pos ((z_cmp0 _ _).mpr hm), z_eql e1, t2 (by omega) (by rw [← e2, hm])]
    · rw [if_neg (fun q => hm ((z_cmp0 _ _).mp q))]
      have hne : x.toInt.tdiv y.toInt * y.toInt ≠ x.toInt := fun q => hm (Int64.toInt_inj.mp (by rw [e2, q]))
      have h4 := t4 (by omega)
      have h3 := t3 (by omega) hne
      have hx := z_rl x
      congr 1
      apply z_eql
      rw [Int64.toInt_sub, e1]
      show (x.toInt.tdiv y.toInt - 1).bmod (2 ^ 64) = _
      rw [← h3]
      apply z_bl
      · rcases Int.lt_trichotomy (x.toInt.tdiv y.toInt * y.toInt) x.toInt with q | q | q
        · omega
        · exact absurd q hne
        · have hy1 : x.toInt.tdiv y.toInt ≠ x.toInt ∨ y.toInt ≠ 1 := by
            by_cases q1 : y.toInt = 1
            · left
              intro q2
              rw [q1, Int.mul_one] at hne
              rw [q1] at q2
              exact hne q2
            · exact Or.inr q1
          rcases hy1 with q1 | q1
          · omega
          · have := Int.mul_le_mul_of_nonneg_left (show 2 ≤ y.toInt by omega) (show 0 ≤ -(x.toInt.tdiv y.toInt) by omega)
            rw [Int.neg_mul, Int.neg_mul] at this
            omega
      · omega
theorem v_floorModJ {x y : Int64} (hy : 0 < y.toInt) : f_Mt_floorModJ x y = some (Int64.ofInt (x.toInt % y.toInt)) := by
  obtain ⟨e1, e2, e3⟩ := z_divL (x := x) hy
  obtain ⟨t1, t2, t3, t4, t5⟩ := z_td (a := x.toInt) hy
  have em : x.toInt % y.toInt = x.toInt - x.toInt / y.toInt * y.toInt := by
    have := Int.emod_add_mul_ediv x.toInt y.toInt
    rw [Int.mul_comm] at this
    omega
  unfold f_Mt_floorModJ
  rw [if_pos (z_ne0L hy)]
  by_cases h : 0 ≤ x.toInt
  · rw [if_pos ((z_xorL x y (by omega)).mpr h), z_eql e3, t1 h, em]
  · rw [if_neg (fun q => h ((z_xorL x y (by omega)).mp q))]
    by_cases hm : x - x / y * y = 0
    · rw [if_pos ((z_cmp0 _ _).mpr hm)]
      have h0 : x.toInt.tdiv y.toInt * y.toInt = x.toInt := by
        have := congrArg Int64.toInt hm
        rw [e3, Int64.toInt_zero] at this
        omega
      rw [z_eql e3, em, t2 (by omega) h0]
    · rw [if_neg (fun q => hm ((z_cmp0 _ _).mp q))]
      have hne : x.toInt.tdiv y.toInt * y.toInt ≠ x.toInt := fun q => hm (Int64.toInt_inj.mp (by rw [e3, q, Int64.toInt_zero]; omega))
      have h4 := t4 (by omega)
      have h3 := t3 (by omega) hne
      have hyr := z_rl y
      congr 1
      apply z_eql
      rw [Int64.toInt_add, e3, em, ← h3, Int.sub_mul, Int.one_mul]
      rw [z_bl (by omega) (by omega)]
      omega
