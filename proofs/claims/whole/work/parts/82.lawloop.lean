/-! THE LAW's loop -/
theorem and31 (x : Int32) : ∃ m, m < 32 ∧ x &&& 31 = nI m := by
  refine ⟨(x.toBitVec &&& 31#32).toNat, ?_, ?_⟩
  · rw [BitVec.toNat_and]
    have : x.toBitVec.toNat &&& (31#32).toNat ≤ (31#32).toNat := Nat.and_le_right
    have e : (31#32).toNat = 31 := rfl
    omega
  · apply Int32.toBitVec_inj.mp
    rw [Int32.toBitVec_and]
    show _ = BitVec.ofNat 32 _
    rw [BitVec.ofNat_toNat, BitVec.setWidth_eq]
    rfl
theorem gt4 {i L : Nat} (hi : i < 100000) (hL : L < 100000) : nI L - 4 < nI i ↔ L < i + 4 := by
  rw [Int32.lt_iff_toInt_lt, Int32.toInt_sub, nIt (by omega), nIt (by omega), show (4 : Int32).toInt = 4 from rfl, z_bm (by omega) (by omega)]
  omega
section LAWL
variable {X : XT} {G : GT} {Q : State → Prop} {k n i : Nat} {σ : MT} {b L B : Nat} {xs : Nat → Int32} {S : AS}
theorem law_case (C : CX X G code 4 "TimeFloodLaw" 11 460) (SC : SX X G b L xs k n) (hi : i + 4 ≤ L) (hL : L ≤ 2048) (ok : okA S B) (hB : B < 60000000) (hA : RA σ S) (hBB : RB σ S) (kk : ∀ S2 υ, okA S2 (B + 4000) → RA υ S2 → RB υ S2 → LJ X G Q k n 4 876 (LV G b i) [] υ) (x : Int32) : LJ X G Q k n 4 32 (LV G b i) [.int (x &&& 31)] σ := by
  obtain ⟨m, hm, e⟩ := and31 x
  rw [e]
  have df : 24 < m → LJ X G Q k n 4 32 (LV G b i) [.int (nI m)] σ := fun h => l_tabOut (tgt := 876) C d_law_32 (Or.inr (by rw [nIt (by omega)]; omega)) (by decide) (kk S σ (ok.le (by omega)) hA hBB)
  by_cases h25 : 24 < m
  · exact df h25
  · obtain rfl | rfl | rfl | rfl | rfl | rfl | rfl | rfl | rfl | rfl | rfl | rfl | rfl | rfl | rfl | rfl | rfl | rfl | rfl | rfl | rfl | rfl | rfl | rfl | rfl : m = 0 ∨ m = 1 ∨ m = 2 ∨ m = 3 ∨ m = 4 ∨ m = 5 ∨ m = 6 ∨ m = 7 ∨ m = 8 ∨ m = 9 ∨ m = 10 ∨ m = 11 ∨ m = 12 ∨ m = 13 ∨ m = 14 ∨ m = 15 ∨ m = 16 ∨ m = 17 ∨ m = 18 ∨ m = 19 ∨ m = 20 ∨ m = 21 ∨ m = 22 ∨ m = 23 ∨ m = 24 := by omega
    · exact l_tabIn (tgt := 148) C d_law_32 (by decide) (by decide) (by rfl) (by decide) (law_write C SC hi hL ok hB hA hBB kk)
    · exact l_tabIn (tgt := 171) C d_law_32 (by decide) (by decide) (by rfl) (by decide) (law_wipe C SC hi hL ok hB hA hBB kk)
    · exact l_tabIn (tgt := 184) C d_law_32 (by decide) (by decide) (by rfl) (by decide) (law_fault C SC hi hL ok hB hA hBB kk)
    · exact l_tabIn (tgt := 197) C d_law_32 (by decide) (by decide) (by rfl) (by decide) (law_net C SC hi hL ok hB hA hBB kk)
    · exact l_tabIn (tgt := 210) C d_law_32 (by decide) (by decide) (by rfl) (by decide) (law_about C SC hi hL ok hB hA hBB kk)
    · exact l_tabIn (tgt := 233) C d_law_32 (by decide) (by decide) (by rfl) (by decide) (law_node C SC hi hL ok hB hA hBB kk)
    · exact l_tabIn (tgt := 266) C d_law_32 (by decide) (by decide) (by rfl) (by decide) (law_stamp C SC hi hL ok hB hA hBB kk)
    · exact l_tabIn (tgt := 309) C d_law_32 (by decide) (by decide) (by rfl) (by decide) (law_link C SC hi hL ok hB hA hBB kk)
    · exact l_tabIn (tgt := 342) C d_law_32 (by decide) (by decide) (by rfl) (by decide) (law_period C SC hi hL ok hB hA hBB kk)
    · exact l_tabIn (tgt := 365) C d_law_32 (by decide) (by decide) (by rfl) (by decide) (law_turn C SC hi hL ok hB hA hBB kk)
    · exact l_tabIn (tgt := 388) C d_law_32 (by decide) (by decide) (by rfl) (by decide) (law_power C SC hi hL ok hB hA hBB kk)
    · exact l_tabIn (tgt := 411) C d_law_32 (by decide) (by decide) (by rfl) (by decide) (law_drift C SC hi hL ok hB hA hBB kk)
    · exact l_tabIn (tgt := 444) C d_law_32 (by decide) (by decide) (by rfl) (by decide) (law_undo C SC hi hL ok hB hA hBB kk)
    · exact l_tabIn (tgt := 457) C d_law_32 (by decide) (by decide) (by rfl) (by decide) (law_ahead C SC hi hL ok hB hA hBB kk)
    · exact l_tabIn (tgt := 500) C d_law_32 (by decide) (by decide) (by rfl) (by decide) (law_agree C SC hi hL ok hB hA hBB kk)
    · exact l_tabIn (tgt := 513) C d_law_32 (by decide) (by decide) (by rfl) (by decide) (law_judge C SC hi hL ok hB hA hBB kk)
    · exact l_tabIn (tgt := 576) C d_law_32 (by decide) (by decide) (by rfl) (by decide) (law_see C SC hi hL ok hB hA hBB kk)
    · exact l_tabIn (tgt := 619) C d_law_32 (by decide) (by decide) (by rfl) (by decide) (law_unsee C SC hi hL ok hB hA hBB kk)
    · exact l_tabIn (tgt := 632) C d_law_32 (by decide) (by decide) (by rfl) (by decide) (law_which C SC hi hL ok hB hA hBB kk)
    · exact l_tabIn (tgt := 645) C d_law_32 (by decide) (by decide) (by rfl) (by decide) (law_share C SC hi hL ok hB hA hBB kk)
    · exact l_tabIn (tgt := 694) C d_law_32 (by decide) (by decide) (by rfl) (by decide) (law_chance C SC hi hL ok hB hA hBB kk)
    · exact l_tabIn (tgt := 753) C d_law_32 (by decide) (by decide) (by rfl) (by decide) (law_seed C SC hi hL ok hB hA hBB kk)
    · exact l_tabIn (tgt := 807) C d_law_32 (by decide) (by decide) (by rfl) (by decide) (law_drawn C SC hi hL ok hB hA hBB kk)
    · exact l_tabIn (tgt := 830) C d_law_32 (by decide) (by decide) (by rfl) (by decide) (law_keep C SC hi hL ok hB hA hBB kk)
    · exact l_tabIn (tgt := 853) C d_law_32 (by decide) (by decide) (by rfl) (by decide) (law_again C SC hi hL ok hB hA hBB kk)
theorem law_loop (C : CX X G code 4 "TimeFloodLaw" 11 460) (SC : SX X G b L xs k n) (hL : L ≤ 2048) (Kend : ∀ (i : Nat) (σ : MT), LJ X G Q k n 4 882 (LV G b i) [] σ) : ∀ (d c : Nat) (S : AS) (σ : MT), L + 4 ≤ 4 * c + 4 * d → c ≤ 512 → okA S (4000 * c) → RA σ S → RB σ S → LJ X G Q k n 4 18 (LV G b (4 * c)) [] σ := by
  have hd : ∀ (c : Nat) (S : AS) (σ : MT), c ≤ 512 → okA S (4000 * c) → RA σ S → RB σ S → (4 * c + 4 ≤ L → ∀ S2 υ, okA S2 (4000 * (c + 1)) → RA υ S2 → RB υ S2 → LJ X G Q k n 4 18 (LV G b (4 * (c + 1))) [] υ) → LJ X G Q k n 4 18 (LV G b (4 * c)) [] σ := fun c S σ hc ok hA hB kk => by
    refine l_iload C d_law_18 rfl (place := 0) rfl ?_
    refine l_aload C d_law_19 rfl (place := 3) rfl ?_
    refine l_slen C SC d_law_20 ?_
    refine l_iconst (v := 4) C d_law_21 rfl ?_
    refine l_isub C d_law_22 ?_
    refine l_icmpgt (tgt := 882) C d_law_23 (by decide) (fun _ => Kend _ _) (fun h => ?_)
    have hi : 4 * c + 4 ≤ L := by
      rcases Nat.lt_or_ge L (4 * c + 4) with z | z
      · exact absurd ((gt4 (by omega) (by omega)).mpr z) h
      · exact z
    refine l_aload C d_law_26 rfl (place := 3) rfl ?_
    refine l_iload C d_law_27 rfl (place := 0) rfl ?_
    refine l_sld C SC (j := 4 * c) (by omega) (by omega) d_law_28 ?_
    refine l_bipush (v := 31) C d_law_29 (by decide) ?_
    refine l_iand C d_law_31 ?_
    refine law_case C SC hi hL ok (by omega) hA hB (fun S2 υ ok2 a2 b2 => ?_) (xs (4 * c))
    refine l_iinc (v := nI (4 * (c + 1))) (lv2 := LV G b (4 * (c + 1))) C d_law_876 (place := 0) rfl (by rw [show Int32.ofInt 4 = nI 4 from rfl, nI_add]; rfl) (by decide) rfl ?_
    exact l_goto (tgt := 18) C d_law_879 (by decide) (kk hi S2 υ ok2 a2 b2)
  intro d
  induction d with
  | zero => exact fun c S σ h hc ok hA hB => hd c S σ hc ok hA hB (fun h2 => absurd h2 (by omega))
  | succ d ih => exact fun c S σ h hc ok hA hB => hd c S σ hc ok hA hB (fun h2 S2 υ ok2 a2 b2 => ih (c + 1) S2 υ (by omega) (by omega) ok2 a2 b2)
end LAWL
