def inb (i : Int32) (n : Nat) : Bool := decide (¬ (i < 0 ∨ n ≤ i.toNatClampNeg))
theorem inb_v {i : Int32} {n : Nat} (h : inb i n = true) : vp_in i n := of_decide_eq_true (p := ¬ (i < 0 ∨ n ≤ i.toNatClampNeg)) h
def zbb (v : Int32) : Bool := decide (v = 0 ∨ v = 1)
theorem zbb_z {v : Int32} (h : zbb v = true) : zb v := of_decide_eq_true (p := v = 0 ∨ v = 1) h
theorem vp_lt {i : Int32} {n : Nat} (h : vp_in i n) : i.toNatClampNeg < n := Nat.not_le.mp fun q => h (Or.inr q)
theorem kd_Pl_drifts {k : Nat} (h : kdf k = 2) : kdf (k + 1) = 11 := (by decide +kernel : ∀ k, k < 457 → kdf k = 2 → kdf (k + 1) = 11) k (kdf_lt (by rw [h]; decide)) h
theorem kd_Pl_starts {k : Nat} (h : kdf k = 2) : kdf (k + 2) = 11 := (by decide +kernel : ∀ k, k < 457 → kdf k = 2 → kdf (k + 2) = 11) k (kdf_lt (by rw [h]; decide)) h
theorem kd_Pl_lows {k : Nat} (h : kdf k = 2) : kdf (k + 3) = 13 := (by decide +kernel : ∀ k, k < 457 → kdf k = 2 → kdf (k + 3) = 13) k (kdf_lt (by rw [h]; decide)) h
theorem kd_Pl_highs {k : Nat} (h : kdf k = 2) : kdf (k + 4) = 13 := (by decide +kernel : ∀ k, k < 457 → kdf k = 2 → kdf (k + 4) = 13) k (kdf_lt (by rw [h]; decide)) h
theorem kd_Pl_links {k : Nat} (h : kdf k = 2) : kdf (k + 5) = 33 := (by decide +kernel : ∀ k, k < 457 → kdf k = 2 → kdf (k + 5) = 33) k (kdf_lt (by rw [h]; decide)) h
theorem kd_St_nodes {k : Nat} (h : kdf k = 4) : kdf (k + 1) = 32 := (by decide +kernel : ∀ k, k < 457 → kdf k = 4 → kdf (k + 1) = 32) k (kdf_lt (by rw [h]; decide)) h
theorem kd_Nd_clocks {k : Nat} (h : kdf k = 5) : kdf (k + 1) = 10 := (by decide +kernel : ∀ k, k < 457 → kdf k = 5 → kdf (k + 1) = 10) k (kdf_lt (by rw [h]; decide)) h
theorem kd_Nd_marks {k : Nat} (h : kdf k = 5) : kdf (k + 2) = 10 := (by decide +kernel : ∀ k, k < 457 → kdf k = 5 → kdf (k + 2) = 10) k (kdf_lt (by rw [h]; decide)) h
theorem kd_Nd_ages {k : Nat} (h : kdf k = 5) : kdf (k + 3) = 10 := (by decide +kernel : ∀ k, k < 457 → kdf k = 5 → kdf (k + 3) = 10) k (kdf_lt (by rw [h]; decide)) h
theorem kd_node {k : Nat} {i : Int32} (h : kdf k = 32) (hi : vp_in i 5) : kdf (k + 1 + 4 * i.toNatClampNeg) = 5 := (by decide +kernel : ∀ k, k < 457 → kdf k = 32 → ∀ j, j < 5 → kdf (k + 1 + 4 * j) = 5) k (kdf_lt (by rw [h]; decide)) h _ (vp_lt hi)
theorem kd_row {k : Nat} {i : Int32} (h : kdf k = 33) (hi : vp_in i 5) : kdf (k + 1 + i.toNatClampNeg) = 11 := (by decide +kernel : ∀ k, k < 457 → kdf k = 33 → ∀ j, j < 5 → kdf (k + 1 + j) = 11) k (kdf_lt (by rw [h]; decide)) h _ (vp_lt hi)
theorem kd_slot {i : Int32} (hi : vp_in i 2) : kdf (105 + 22 * i.toNatClampNeg) = 4 := (by decide +kernel : ∀ j, j < 2 → kdf (105 + 22 * j) = 4) _ (vp_lt hi)
theorem kd_state {i : Int32} (hi : vp_in i 14) : kdf (149 + 22 * i.toNatClampNeg) = 4 := (by decide +kernel : ∀ j, j < 14 → kdf (149 + 22 * j) = 4) _ (vp_lt hi)
