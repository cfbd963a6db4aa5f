/-! THE LAW's cases -/
def LV (G : GT) (b i : Nat) : List (Nat × Value) := [(3, .int (nI i)), (2, rf G 38), (1, rf G 0), (0, .ref b)]
section LAWC
variable {X : XT} {G : GT} {Q : State → Prop} {cc : ByteArray} {own : String} {fr lo k n pc i : Nat} {st : List Value} {σ : MT} {b L B : Nat} {xs : Nat → Int32} {S : AS}
theorem l_arg (C : CX X G cc 4 own fr lo) (SC : SX X G b L xs k n) {j : Nat} {z : Int} (hi : i + j < L) (hL : L ≤ 2048) (d0 : decode cc pc = .ok (.aload_n 0, 1)) (d1 : decode cc (pc + 1) = .ok (.iload_n 3, 1)) (d2 : decode cc (pc + 1 + 1) = .ok (.iconst z, 1)) (hj : Int32.ofInt z = nI j) (d3 : decode cc (pc + 1 + 1 + 1) = .ok (.iadd, 1)) (d4 : decode cc (pc + 1 + 1 + 1 + 1) = .ok (.iaload, 1)) (kk : LJ X G Q k n 4 (pc + 5) (LV G b i) (.int (xs (i + j)) :: st) σ) : LJ X G Q k n 4 pc (LV G b i) st σ := by
  refine l_aload C d0 rfl (place := 3) rfl ?_
  refine l_iload C d1 rfl (place := 0) rfl ?_
  refine l_iconst C d2 hj ?_
  refine l_iadd C d3 ?_
  rw [nI_add]
  exact l_sld C SC hi (by omega) d4 kk
theorem l_bool (C : CX X G cc 4 own fr lo) {lv : List (Nat × Value)} {x : Int32} (d0 : decode cc pc = .ok (.ifCond .eq 7, 3)) (d1 : decode cc (pc + 3) = .ok (.iconst 1, 1)) (d2 : decode cc (pc + 3 + 1) = .ok (.goto 4, 3)) (d3 : decode cc (pc + 7) = .ok (.iconst 0, 1)) (kk : LJ X G Q k n 4 (pc + 8) lv (.int (bI (!decide (x = 0))) :: st) σ) : LJ X G Q k n 4 pc lv (.int x :: st) σ := by
  refine l_ifeq (tgt := pc + 7) C d0 (by omega) (fun h => ?_) (fun h => ?_)
  · refine l_iconst (v := 0) C d3 rfl ?_
    rw [decide_eq_true h] at kk
    exact kk
  · refine l_iconst (v := 1) C d1 rfl ?_
    rw [decide_eq_false h] at kk
    exact l_goto (tgt := pc + 8) C d2 (by omega) kk
theorem law_write (C : CX X G code 4 "TimeFloodLaw" 11 460) (SC : SX X G b L xs k n) (hi : i + 4 ≤ L) (hL : L ≤ 2048) (ok : okA S B) (hB : B < 60000000) (hA : RA σ S) (hBB : RB σ S) (kk : ∀ S2 υ, okA S2 (B + 4000) → RA υ S2 → RB υ S2 → LJ X G Q k n 4 876 (LV G b i) [] υ) : LJ X G Q k n 4 148 (LV G b i) [] σ := by
  obtain ⟨S2, ok2, a, fA, fB⟩ := op_write ok (xs (i + 1))
  obtain ⟨τ, e1, rA1, cA⟩ := fA σ hA
  obtain ⟨υ, e2, rB2, cB⟩ := fB τ (hBB.fr ok.1.1 cA.fb)
  have rA2 := rA1.fr ok2.1.1 cB.fa
  refine l_aload C d_law_148 rfl (place := 2) rfl ?_
  refine l_arg C SC (j := 1) (by omega) hL d_law_149 d_law_150 d_law_151 rfl d_law_152 d_law_153 ?_
  refine l_callI C SC (kc := 0) (kd := 0) (ci := 0) (T := F_TF) (N := 12) (As := [.int (xs (i + 1))]) (c_TF_write _ G (xs (i + 1)) σ e1) rfl (by decide) rfl rfl m_TF_write wd_276 rfl rfl (Nat.le_of_ble_eq_true rfl) ⟨(Nat.le_of_ble_eq_true rfl), (Nat.le_of_ble_eq_true rfl)⟩ d_law_154 ?_
  refine l_aload C d_law_157 rfl (place := 1) rfl ?_
  refine l_arg C SC (j := 1) (by omega) hL d_law_158 d_law_159 d_law_160 rfl d_law_161 d_law_162 ?_
  refine l_callI C SC (kc := 38) (kd := 8) (ci := 8) (T := F_M) (N := 39) (As := [.int (xs (i + 1))]) (c_M_write _ G (xs (i + 1)) τ e2) rfl (by decide) rfl rfl m_M_write wd_781 rfl rfl (Nat.le_of_ble_eq_true rfl) ⟨(Nat.le_of_ble_eq_true rfl), (Nat.le_of_ble_eq_true rfl)⟩ d_law_163 ?_
  refine l_icmpeq (tgt := 876) C d_law_166 (by decide) (fun _ => ?_) (fun h => absurd rfl h)
  exact kk S2 υ ok2 rA2 rB2
theorem law_wipe (C : CX X G code 4 "TimeFloodLaw" 11 460) (SC : SX X G b L xs k n) (hi : i + 4 ≤ L) (hL : L ≤ 2048) (ok : okA S B) (hB : B < 60000000) (hA : RA σ S) (hBB : RB σ S) (kk : ∀ S2 υ, okA S2 (B + 4000) → RA υ S2 → RB υ S2 → LJ X G Q k n 4 876 (LV G b i) [] υ) : LJ X G Q k n 4 171 (LV G b i) [] σ := by
  obtain ⟨S2, ok2, a, fA, fB⟩ := op_wipe ok 
  obtain ⟨τ, e1, rA1, cA⟩ := fA σ hA
  obtain ⟨υ, e2, rB2, cB⟩ := fB τ (hBB.fr ok.1.1 cA.fb)
  have rA2 := rA1.fr ok2.1.1 cB.fa
  refine l_aload C d_law_171 rfl (place := 2) rfl ?_
  refine l_callI C SC (kc := 0) (kd := 0) (ci := 0) (T := F_TF) (N := 12) (As := []) (c_TF_wipe _ G σ e1) rfl (by decide) rfl rfl m_TF_wipe wd_280 rfl rfl (Nat.le_of_ble_eq_true rfl) ⟨(Nat.le_of_ble_eq_true rfl), (Nat.le_of_ble_eq_true rfl)⟩ d_law_172 ?_
  refine l_aload C d_law_175 rfl (place := 1) rfl ?_
  refine l_callI C SC (kc := 38) (kd := 8) (ci := 8) (T := F_M) (N := 39) (As := []) (c_M_wipe _ G τ e2) rfl (by decide) rfl rfl m_M_wipe wd_789 rfl rfl (Nat.le_of_ble_eq_true rfl) ⟨(Nat.le_of_ble_eq_true rfl), (Nat.le_of_ble_eq_true rfl)⟩ d_law_176 ?_
  refine l_icmpeq (tgt := 876) C d_law_179 (by decide) (fun _ => ?_) (fun h => absurd rfl h)
  exact kk S2 υ ok2 rA2 rB2
theorem law_fault (C : CX X G code 4 "TimeFloodLaw" 11 460) (SC : SX X G b L xs k n) (hi : i + 4 ≤ L) (hL : L ≤ 2048) (ok : okA S B) (hB : B < 60000000) (hA : RA σ S) (hBB : RB σ S) (kk : ∀ S2 υ, okA S2 (B + 4000) → RA υ S2 → RB υ S2 → LJ X G Q k n 4 876 (LV G b i) [] υ) : LJ X G Q k n 4 184 (LV G b i) [] σ := by
  obtain ⟨S2, ok2, a, fA, fB⟩ := op_fault ok 
  obtain ⟨τ, e1, rA1, cA⟩ := fA σ hA
  obtain ⟨υ, e2, rB2, cB⟩ := fB τ (hBB.fr ok.1.1 cA.fb)
  have rA2 := rA1.fr ok2.1.1 cB.fa
  refine l_aload C d_law_184 rfl (place := 2) rfl ?_
  refine l_callI C SC (kc := 0) (kd := 0) (ci := 0) (T := F_TF) (N := 12) (As := []) (c_TF_fault _ G σ e1) rfl (by decide) rfl rfl m_TF_fault wd_284 rfl rfl (Nat.le_of_ble_eq_true rfl) ⟨(Nat.le_of_ble_eq_true rfl), (Nat.le_of_ble_eq_true rfl)⟩ d_law_185 ?_
  refine l_aload C d_law_188 rfl (place := 1) rfl ?_
  refine l_callI C SC (kc := 38) (kd := 8) (ci := 8) (T := F_M) (N := 39) (As := []) (c_M_fault _ G τ e2) rfl (by decide) rfl rfl m_M_fault wd_793 rfl rfl (Nat.le_of_ble_eq_true rfl) ⟨(Nat.le_of_ble_eq_true rfl), (Nat.le_of_ble_eq_true rfl)⟩ d_law_189 ?_
  refine l_icmpeq (tgt := 876) C d_law_192 (by decide) (fun _ => ?_) (fun h => absurd rfl h)
  exact kk S2 υ ok2 rA2 rB2
theorem law_net (C : CX X G code 4 "TimeFloodLaw" 11 460) (SC : SX X G b L xs k n) (hi : i + 4 ≤ L) (hL : L ≤ 2048) (ok : okA S B) (hB : B < 60000000) (hA : RA σ S) (hBB : RB σ S) (kk : ∀ S2 υ, okA S2 (B + 4000) → RA υ S2 → RB υ S2 → LJ X G Q k n 4 876 (LV G b i) [] υ) : LJ X G Q k n 4 197 (LV G b i) [] σ := by
  obtain ⟨S2, ok2, a, fA, fB⟩ := op_net ok 
  obtain ⟨τ, e1, rA1, cA⟩ := fA σ hA
  obtain ⟨υ, e2, rB2, cB⟩ := fB τ (hBB.fr ok.1.1 cA.fb)
  have rA2 := rA1.fr ok2.1.1 cB.fa
  refine l_aload C d_law_197 rfl (place := 2) rfl ?_
  refine l_callI C SC (kc := 0) (kd := 0) (ci := 0) (T := F_TF) (N := 12) (As := []) (c_TF_net _ G σ e1) rfl (by decide) rfl rfl m_TF_net wd_338 rfl rfl (Nat.le_of_ble_eq_true rfl) ⟨(Nat.le_of_ble_eq_true rfl), (Nat.le_of_ble_eq_true rfl)⟩ d_law_198 ?_
  refine l_aload C d_law_201 rfl (place := 1) rfl ?_
  refine l_callI C SC (kc := 38) (kd := 8) (ci := 8) (T := F_M) (N := 39) (As := []) (c_M_net _ G τ e2) rfl (by decide) rfl rfl m_M_net wd_834 rfl rfl (Nat.le_of_ble_eq_true rfl) ⟨(Nat.le_of_ble_eq_true rfl), (Nat.le_of_ble_eq_true rfl)⟩ d_law_202 ?_
  refine l_icmpeq (tgt := 876) C d_law_205 (by decide) (fun _ => ?_) (fun h => absurd rfl h)
  exact kk S2 υ ok2 rA2 rB2
theorem law_about (C : CX X G code 4 "TimeFloodLaw" 11 460) (SC : SX X G b L xs k n) (hi : i + 4 ≤ L) (hL : L ≤ 2048) (ok : okA S B) (hB : B < 60000000) (hA : RA σ S) (hBB : RB σ S) (kk : ∀ S2 υ, okA S2 (B + 4000) → RA υ S2 → RB υ S2 → LJ X G Q k n 4 876 (LV G b i) [] υ) : LJ X G Q k n 4 210 (LV G b i) [] σ := by
  obtain ⟨a, fA, fB⟩ := op_about ok (by omega) (xs (i + 1))
  have e1 := fA σ hA
  have e2 := fB σ hBB
  refine l_aload C d_law_210 rfl (place := 2) rfl ?_
  refine l_arg C SC (j := 1) (by omega) hL d_law_211 d_law_212 d_law_213 rfl d_law_214 d_law_215 ?_
  refine l_callI C SC (kc := 0) (kd := 0) (ci := 0) (T := F_TF) (N := 12) (As := [.int (xs (i + 1))]) (c_TF_about _ G (xs (i + 1)) σ e1) rfl (by decide) rfl rfl m_TF_about wd_361 rfl rfl (Nat.le_of_ble_eq_true rfl) ⟨(Nat.le_of_ble_eq_true rfl), (Nat.le_of_ble_eq_true rfl)⟩ d_law_216 ?_
  refine l_aload C d_law_219 rfl (place := 1) rfl ?_
  refine l_arg C SC (j := 1) (by omega) hL d_law_220 d_law_221 d_law_222 rfl d_law_223 d_law_224 ?_
  refine l_callI C SC (kc := 38) (kd := 8) (ci := 8) (T := F_M) (N := 39) (As := [.int (xs (i + 1))]) (c_M_about _ G (xs (i + 1)) σ e2) rfl (by decide) rfl rfl m_M_about wd_841 rfl rfl (Nat.le_of_ble_eq_true rfl) ⟨(Nat.le_of_ble_eq_true rfl), (Nat.le_of_ble_eq_true rfl)⟩ d_law_225 ?_
  refine l_icmpeq (tgt := 876) C d_law_228 (by decide) (fun _ => ?_) (fun h => absurd rfl h)
  exact kk S σ (ok.le (by omega)) hA hBB
theorem law_node (C : CX X G code 4 "TimeFloodLaw" 11 460) (SC : SX X G b L xs k n) (hi : i + 4 ≤ L) (hL : L ≤ 2048) (ok : okA S B) (hB : B < 60000000) (hA : RA σ S) (hBB : RB σ S) (kk : ∀ S2 υ, okA S2 (B + 4000) → RA υ S2 → RB υ S2 → LJ X G Q k n 4 876 (LV G b i) [] υ) : LJ X G Q k n 4 233 (LV G b i) [] σ := by
  obtain ⟨a, fA, fB⟩ := op_node ok (by omega) (xs (i + 1)) (xs (i + 2))
  have e1 := fA σ hA
  have e2 := fB σ hBB
  refine l_aload C d_law_233 rfl (place := 2) rfl ?_
  refine l_arg C SC (j := 1) (by omega) hL d_law_234 d_law_235 d_law_236 rfl d_law_237 d_law_238 ?_
  refine l_arg C SC (j := 2) (by omega) hL d_law_239 d_law_240 d_law_241 rfl d_law_242 d_law_243 ?_
  refine l_callI C SC (kc := 0) (kd := 0) (ci := 0) (T := F_TF) (N := 12) (As := [.int (xs (i + 1)), .int (xs (i + 2))]) (c_TF_node _ G (xs (i + 1)) (xs (i + 2)) σ e1) rfl (by decide) rfl rfl m_TF_node wd_421 rfl rfl (Nat.le_of_ble_eq_true rfl) ⟨(Nat.le_of_ble_eq_true rfl), (Nat.le_of_ble_eq_true rfl)⟩ d_law_244 ?_
  refine l_aload C d_law_247 rfl (place := 1) rfl ?_
  refine l_arg C SC (j := 1) (by omega) hL d_law_248 d_law_249 d_law_250 rfl d_law_251 d_law_252 ?_
  refine l_arg C SC (j := 2) (by omega) hL d_law_253 d_law_254 d_law_255 rfl d_law_256 d_law_257 ?_
  refine l_callI C SC (kc := 38) (kd := 8) (ci := 8) (T := F_M) (N := 39) (As := [.int (xs (i + 1)), .int (xs (i + 2))]) (c_M_node _ G (xs (i + 1)) (xs (i + 2)) σ e2) rfl (by decide) rfl rfl m_M_node wd_890 rfl rfl (Nat.le_of_ble_eq_true rfl) ⟨(Nat.le_of_ble_eq_true rfl), (Nat.le_of_ble_eq_true rfl)⟩ d_law_258 ?_
  refine l_icmpeq (tgt := 876) C d_law_261 (by decide) (fun _ => ?_) (fun h => absurd rfl h)
  exact kk S σ (ok.le (by omega)) hA hBB
theorem law_stamp (C : CX X G code 4 "TimeFloodLaw" 11 460) (SC : SX X G b L xs k n) (hi : i + 4 ≤ L) (hL : L ≤ 2048) (ok : okA S B) (hB : B < 60000000) (hA : RA σ S) (hBB : RB σ S) (kk : ∀ S2 υ, okA S2 (B + 4000) → RA υ S2 → RB υ S2 → LJ X G Q k n 4 876 (LV G b i) [] υ) : LJ X G Q k n 4 266 (LV G b i) [] σ := by
  obtain ⟨a, fA, fB⟩ := op_stamp ok (xs (i + 1)) (xs (i + 2)) (xs (i + 3))
  have e1 := fA σ hA
  have e2 := fB σ hBB
  refine l_aload C d_law_266 rfl (place := 2) rfl ?_
  refine l_arg C SC (j := 1) (by omega) hL d_law_267 d_law_268 d_law_269 rfl d_law_270 d_law_271 ?_
  refine l_arg C SC (j := 2) (by omega) hL d_law_272 d_law_273 d_law_274 rfl d_law_275 d_law_276 ?_
  refine l_arg C SC (j := 3) (by omega) hL d_law_277 d_law_278 d_law_279 rfl d_law_280 d_law_281 ?_
  refine l_callI C SC (kc := 0) (kd := 0) (ci := 0) (T := F_TF) (N := 12) (As := [.int (xs (i + 1)), .int (xs (i + 2)), .int (xs (i + 3))]) (c_TF_stamp _ G (xs (i + 1)) (xs (i + 2)) (xs (i + 3)) σ e1) rfl (by decide) rfl rfl m_TF_stamp wd_433 rfl rfl (Nat.le_of_ble_eq_true rfl) ⟨(Nat.le_of_ble_eq_true rfl), (Nat.le_of_ble_eq_true rfl)⟩ d_law_282 ?_
  refine l_aload C d_law_285 rfl (place := 1) rfl ?_
  refine l_arg C SC (j := 1) (by omega) hL d_law_286 d_law_287 d_law_288 rfl d_law_289 d_law_290 ?_
  refine l_arg C SC (j := 2) (by omega) hL d_law_291 d_law_292 d_law_293 rfl d_law_294 d_law_295 ?_
  refine l_arg C SC (j := 3) (by omega) hL d_law_296 d_law_297 d_law_298 rfl d_law_299 d_law_300 ?_
  refine l_callI C SC (kc := 38) (kd := 8) (ci := 8) (T := F_M) (N := 39) (As := [.int (xs (i + 1)), .int (xs (i + 2)), .int (xs (i + 3))]) (c_M_stamp _ G (xs (i + 1)) (xs (i + 2)) (xs (i + 3)) σ e2) rfl (by decide) rfl rfl m_M_stamp wd_904 rfl rfl (Nat.le_of_ble_eq_true rfl) ⟨(Nat.le_of_ble_eq_true rfl), (Nat.le_of_ble_eq_true rfl)⟩ d_law_301 ?_
  refine l_icmpeq (tgt := 876) C d_law_304 (by decide) (fun _ => ?_) (fun h => absurd rfl h)
  exact kk S σ (ok.le (by omega)) hA hBB
theorem law_link (C : CX X G code 4 "TimeFloodLaw" 11 460) (SC : SX X G b L xs k n) (hi : i + 4 ≤ L) (hL : L ≤ 2048) (ok : okA S B) (hB : B < 60000000) (hA : RA σ S) (hBB : RB σ S) (kk : ∀ S2 υ, okA S2 (B + 4000) → RA υ S2 → RB υ S2 → LJ X G Q k n 4 876 (LV G b i) [] υ) : LJ X G Q k n 4 309 (LV G b i) [] σ := by
  obtain ⟨a, fA, fB⟩ := op_link ok (xs (i + 1)) (xs (i + 2))
  have e1 := fA σ hA
  have e2 := fB σ hBB
  refine l_aload C d_law_309 rfl (place := 2) rfl ?_
  refine l_arg C SC (j := 1) (by omega) hL d_law_310 d_law_311 d_law_312 rfl d_law_313 d_law_314 ?_
  refine l_arg C SC (j := 2) (by omega) hL d_law_315 d_law_316 d_law_317 rfl d_law_318 d_law_319 ?_
  refine l_callI C SC (kc := 0) (kd := 0) (ci := 0) (T := F_TF) (N := 12) (As := [.int (xs (i + 1)), .int (xs (i + 2))]) (c_TF_link _ G (xs (i + 1)) (xs (i + 2)) σ e1) rfl (by decide) rfl rfl m_TF_link wd_441 rfl rfl (Nat.le_of_ble_eq_true rfl) ⟨(Nat.le_of_ble_eq_true rfl), (Nat.le_of_ble_eq_true rfl)⟩ d_law_320 ?_
  refine l_aload C d_law_323 rfl (place := 1) rfl ?_
  refine l_arg C SC (j := 1) (by omega) hL d_law_324 d_law_325 d_law_326 rfl d_law_327 d_law_328 ?_
  refine l_arg C SC (j := 2) (by omega) hL d_law_329 d_law_330 d_law_331 rfl d_law_332 d_law_333 ?_
  refine l_callI C SC (kc := 38) (kd := 8) (ci := 8) (T := F_M) (N := 39) (As := [.int (xs (i + 1)), .int (xs (i + 2))]) (c_M_link _ G (xs (i + 1)) (xs (i + 2)) σ e2) rfl (by decide) rfl rfl m_M_link wd_909 rfl rfl (Nat.le_of_ble_eq_true rfl) ⟨(Nat.le_of_ble_eq_true rfl), (Nat.le_of_ble_eq_true rfl)⟩ d_law_334 ?_
  refine l_icmpeq (tgt := 876) C d_law_337 (by decide) (fun _ => ?_) (fun h => absurd rfl h)
  exact kk S σ (ok.le (by omega)) hA hBB
theorem law_period (C : CX X G code 4 "TimeFloodLaw" 11 460) (SC : SX X G b L xs k n) (hi : i + 4 ≤ L) (hL : L ≤ 2048) (ok : okA S B) (hB : B < 60000000) (hA : RA σ S) (hBB : RB σ S) (kk : ∀ S2 υ, okA S2 (B + 4000) → RA υ S2 → RB υ S2 → LJ X G Q k n 4 876 (LV G b i) [] υ) : LJ X G Q k n 4 342 (LV G b i) [] σ := by
  obtain ⟨S2, ok2, a, fA, fB⟩ := op_period ok (by omega) (xs (i + 1))
  obtain ⟨τ, e1, rA1, cA⟩ := fA σ hA
  obtain ⟨υ, e2, rB2, cB⟩ := fB τ (hBB.fr ok.1.1 cA.fb)
  have rA2 := rA1.fr ok2.1.1 cB.fa
  refine l_aload C d_law_342 rfl (place := 2) rfl ?_
  refine l_arg C SC (j := 1) (by omega) hL d_law_343 d_law_344 d_law_345 rfl d_law_346 d_law_347 ?_
  refine l_callI C SC (kc := 0) (kd := 0) (ci := 0) (T := F_TF) (N := 12) (As := [.int (xs (i + 1))]) (c_TF_period _ G (xs (i + 1)) σ e1) rfl (by decide) rfl rfl m_TF_period wd_453 rfl rfl (Nat.le_of_ble_eq_true rfl) ⟨(Nat.le_of_ble_eq_true rfl), (Nat.le_of_ble_eq_true rfl)⟩ d_law_348 ?_
  refine l_aload C d_law_351 rfl (place := 1) rfl ?_
  refine l_arg C SC (j := 1) (by omega) hL d_law_352 d_law_353 d_law_354 rfl d_law_355 d_law_356 ?_
  refine l_callI C SC (kc := 38) (kd := 8) (ci := 8) (T := F_M) (N := 39) (As := [.int (xs (i + 1))]) (c_M_period _ G (xs (i + 1)) τ e2) rfl (by decide) rfl rfl m_M_period wd_917 rfl rfl (Nat.le_of_ble_eq_true rfl) ⟨(Nat.le_of_ble_eq_true rfl), (Nat.le_of_ble_eq_true rfl)⟩ d_law_357 ?_
  refine l_icmpeq (tgt := 876) C d_law_360 (by decide) (fun _ => ?_) (fun h => absurd rfl h)
  exact kk S2 υ ok2 rA2 rB2
theorem law_turn (C : CX X G code 4 "TimeFloodLaw" 11 460) (SC : SX X G b L xs k n) (hi : i + 4 ≤ L) (hL : L ≤ 2048) (ok : okA S B) (hB : B < 60000000) (hA : RA σ S) (hBB : RB σ S) (kk : ∀ S2 υ, okA S2 (B + 4000) → RA υ S2 → RB υ S2 → LJ X G Q k n 4 876 (LV G b i) [] υ) : LJ X G Q k n 4 365 (LV G b i) [] σ := by
  obtain ⟨S2, ok2, a, fA, fB⟩ := op_turn ok (xs (i + 1))
  obtain ⟨τ, e1, rA1, cA⟩ := fA σ hA
  obtain ⟨υ, e2, rB2, cB⟩ := fB τ (hBB.fr ok.1.1 cA.fb)
  have rA2 := rA1.fr ok2.1.1 cB.fa
  refine l_aload C d_law_365 rfl (place := 2) rfl ?_
  refine l_arg C SC (j := 1) (by omega) hL d_law_366 d_law_367 d_law_368 rfl d_law_369 d_law_370 ?_
  refine l_callI C SC (kc := 0) (kd := 0) (ci := 0) (T := F_TF) (N := 12) (As := [.int (xs (i + 1))]) (c_TF_turn _ G (xs (i + 1)) σ e1) rfl (by decide) rfl rfl m_TF_turn wd_521 rfl rfl (Nat.le_of_ble_eq_true rfl) ⟨(Nat.le_of_ble_eq_true rfl), (Nat.le_of_ble_eq_true rfl)⟩ d_law_371 ?_
  refine l_aload C d_law_374 rfl (place := 1) rfl ?_
  refine l_arg C SC (j := 1) (by omega) hL d_law_375 d_law_376 d_law_377 rfl d_law_378 d_law_379 ?_
  refine l_callI C SC (kc := 38) (kd := 8) (ci := 8) (T := F_M) (N := 39) (As := [.int (xs (i + 1))]) (c_M_turn _ G (xs (i + 1)) τ e2) rfl (by decide) rfl rfl m_M_turn wd_958 rfl rfl (Nat.le_of_ble_eq_true rfl) ⟨(Nat.le_of_ble_eq_true rfl), (Nat.le_of_ble_eq_true rfl)⟩ d_law_380 ?_
  refine l_icmpeq (tgt := 876) C d_law_383 (by decide) (fun _ => ?_) (fun h => absurd rfl h)
  exact kk S2 υ ok2 rA2 rB2
theorem law_power (C : CX X G code 4 "TimeFloodLaw" 11 460) (SC : SX X G b L xs k n) (hi : i + 4 ≤ L) (hL : L ≤ 2048) (ok : okA S B) (hB : B < 60000000) (hA : RA σ S) (hBB : RB σ S) (kk : ∀ S2 υ, okA S2 (B + 4000) → RA υ S2 → RB υ S2 → LJ X G Q k n 4 876 (LV G b i) [] υ) : LJ X G Q k n 4 388 (LV G b i) [] σ := by
  obtain ⟨S2, ok2, a, fA, fB⟩ := op_power ok (xs (i + 1))
  obtain ⟨τ, e1, rA1, cA⟩ := fA σ hA
  obtain ⟨υ, e2, rB2, cB⟩ := fB τ (hBB.fr ok.1.1 cA.fb)
  have rA2 := rA1.fr ok2.1.1 cB.fa
  refine l_aload C d_law_388 rfl (place := 2) rfl ?_
  refine l_arg C SC (j := 1) (by omega) hL d_law_389 d_law_390 d_law_391 rfl d_law_392 d_law_393 ?_
  refine l_callI C SC (kc := 0) (kd := 0) (ci := 0) (T := F_TF) (N := 12) (As := [.int (xs (i + 1))]) (c_TF_power _ G (xs (i + 1)) σ e1) rfl (by decide) rfl rfl m_TF_power wd_529 rfl rfl (Nat.le_of_ble_eq_true rfl) ⟨(Nat.le_of_ble_eq_true rfl), (Nat.le_of_ble_eq_true rfl)⟩ d_law_394 ?_
  refine l_aload C d_law_397 rfl (place := 1) rfl ?_
  refine l_arg C SC (j := 1) (by omega) hL d_law_398 d_law_399 d_law_400 rfl d_law_401 d_law_402 ?_
  refine l_callI C SC (kc := 38) (kd := 8) (ci := 8) (T := F_M) (N := 39) (As := [.int (xs (i + 1))]) (c_M_power _ G (xs (i + 1)) τ e2) rfl (by decide) rfl rfl m_M_power wd_962 rfl rfl (Nat.le_of_ble_eq_true rfl) ⟨(Nat.le_of_ble_eq_true rfl), (Nat.le_of_ble_eq_true rfl)⟩ d_law_403 ?_
  refine l_icmpeq (tgt := 876) C d_law_406 (by decide) (fun _ => ?_) (fun h => absurd rfl h)
  exact kk S2 υ ok2 rA2 rB2
theorem law_drift (C : CX X G code 4 "TimeFloodLaw" 11 460) (SC : SX X G b L xs k n) (hi : i + 4 ≤ L) (hL : L ≤ 2048) (ok : okA S B) (hB : B < 60000000) (hA : RA σ S) (hBB : RB σ S) (kk : ∀ S2 υ, okA S2 (B + 4000) → RA υ S2 → RB υ S2 → LJ X G Q k n 4 876 (LV G b i) [] υ) : LJ X G Q k n 4 411 (LV G b i) [] σ := by
  obtain ⟨S2, ok2, a, fA, fB⟩ := op_drift ok (by omega) (xs (i + 1)) (xs (i + 2))
  obtain ⟨τ, e1, rA1, cA⟩ := fA σ hA
  obtain ⟨υ, e2, rB2, cB⟩ := fB τ (hBB.fr ok.1.1 cA.fb)
  have rA2 := rA1.fr ok2.1.1 cB.fa
  refine l_aload C d_law_411 rfl (place := 2) rfl ?_
  refine l_arg C SC (j := 1) (by omega) hL d_law_412 d_law_413 d_law_414 rfl d_law_415 d_law_416 ?_
  refine l_arg C SC (j := 2) (by omega) hL d_law_417 d_law_418 d_law_419 rfl d_law_420 d_law_421 ?_
  refine l_callI C SC (kc := 0) (kd := 0) (ci := 0) (T := F_TF) (N := 12) (As := [.int (xs (i + 1)), .int (xs (i + 2))]) (c_TF_drift _ G (xs (i + 1)) (xs (i + 2)) σ e1) rfl (by decide) rfl rfl m_TF_drift wd_538 rfl rfl (Nat.le_of_ble_eq_true rfl) ⟨(Nat.le_of_ble_eq_true rfl), (Nat.le_of_ble_eq_true rfl)⟩ d_law_422 ?_
  refine l_aload C d_law_425 rfl (place := 1) rfl ?_
  refine l_arg C SC (j := 1) (by omega) hL d_law_426 d_law_427 d_law_428 rfl d_law_429 d_law_430 ?_
  refine l_arg C SC (j := 2) (by omega) hL d_law_431 d_law_432 d_law_433 rfl d_law_434 d_law_435 ?_
  refine l_callI C SC (kc := 38) (kd := 8) (ci := 8) (T := F_M) (N := 39) (As := [.int (xs (i + 1)), .int (xs (i + 2))]) (c_M_drift _ G (xs (i + 1)) (xs (i + 2)) τ e2) rfl (by decide) rfl rfl m_M_drift wd_969 rfl rfl (Nat.le_of_ble_eq_true rfl) ⟨(Nat.le_of_ble_eq_true rfl), (Nat.le_of_ble_eq_true rfl)⟩ d_law_436 ?_
  refine l_icmpeq (tgt := 876) C d_law_439 (by decide) (fun _ => ?_) (fun h => absurd rfl h)
  exact kk S2 υ ok2 rA2 rB2
theorem law_undo (C : CX X G code 4 "TimeFloodLaw" 11 460) (SC : SX X G b L xs k n) (hi : i + 4 ≤ L) (hL : L ≤ 2048) (ok : okA S B) (hB : B < 60000000) (hA : RA σ S) (hBB : RB σ S) (kk : ∀ S2 υ, okA S2 (B + 4000) → RA υ S2 → RB υ S2 → LJ X G Q k n 4 876 (LV G b i) [] υ) : LJ X G Q k n 4 444 (LV G b i) [] σ := by
  obtain ⟨S2, ok2, a, fA, fB⟩ := op_undo ok 
  obtain ⟨τ, e1, rA1, cA⟩ := fA σ hA
  obtain ⟨υ, e2, rB2, cB⟩ := fB τ (hBB.fr ok.1.1 cA.fb)
  have rA2 := rA1.fr ok2.1.1 cB.fa
  refine l_aload C d_law_444 rfl (place := 2) rfl ?_
  refine l_callI C SC (kc := 0) (kd := 0) (ci := 0) (T := F_TF) (N := 12) (As := []) (c_TF_undo _ G σ e1) rfl (by decide) rfl rfl m_TF_undo wd_543 rfl rfl (Nat.le_of_ble_eq_true rfl) ⟨(Nat.le_of_ble_eq_true rfl), (Nat.le_of_ble_eq_true rfl)⟩ d_law_445 ?_
  refine l_aload C d_law_448 rfl (place := 1) rfl ?_
  refine l_callI C SC (kc := 38) (kd := 8) (ci := 8) (T := F_M) (N := 39) (As := []) (c_M_undo _ G τ e2) rfl (by decide) rfl rfl m_M_undo wd_975 rfl rfl (Nat.le_of_ble_eq_true rfl) ⟨(Nat.le_of_ble_eq_true rfl), (Nat.le_of_ble_eq_true rfl)⟩ d_law_449 ?_
  refine l_icmpeq (tgt := 876) C d_law_452 (by decide) (fun _ => ?_) (fun h => absurd rfl h)
  exact kk S2 υ ok2 rA2 rB2
theorem law_ahead (C : CX X G code 4 "TimeFloodLaw" 11 460) (SC : SX X G b L xs k n) (hi : i + 4 ≤ L) (hL : L ≤ 2048) (ok : okA S B) (hB : B < 60000000) (hA : RA σ S) (hBB : RB σ S) (kk : ∀ S2 υ, okA S2 (B + 4000) → RA υ S2 → RB υ S2 → LJ X G Q k n 4 876 (LV G b i) [] υ) : LJ X G Q k n 4 457 (LV G b i) [] σ := by
  obtain ⟨S2, ok2, a, fA, fB⟩ := op_ahead ok (by omega) (xs (i + 1)) (xs (i + 2)) (xs (i + 3))
  obtain ⟨τ, e1, rA1, cA⟩ := fA σ hA
  obtain ⟨υ, e2, rB2, cB⟩ := fB τ (hBB.fr ok.1.1 cA.fb)
  have rA2 := rA1.fr ok2.1.1 cB.fa
  refine l_aload C d_law_457 rfl (place := 2) rfl ?_
  refine l_arg C SC (j := 1) (by omega) hL d_law_458 d_law_459 d_law_460 rfl d_law_461 d_law_462 ?_
  refine l_arg C SC (j := 2) (by omega) hL d_law_463 d_law_464 d_law_465 rfl d_law_466 d_law_467 ?_
  refine l_arg C SC (j := 3) (by omega) hL d_law_468 d_law_469 d_law_470 rfl d_law_471 d_law_472 ?_
  refine l_callI C SC (kc := 0) (kd := 0) (ci := 0) (T := F_TF) (N := 12) (As := [.int (xs (i + 1)), .int (xs (i + 2)), .int (xs (i + 3))]) (c_TF_ahead _ G (xs (i + 1)) (xs (i + 2)) (xs (i + 3)) σ e1) rfl (by decide) rfl rfl m_TF_ahead wd_551 rfl rfl (Nat.le_of_ble_eq_true rfl) ⟨(Nat.le_of_ble_eq_true rfl), (Nat.le_of_ble_eq_true rfl)⟩ d_law_473 ?_
  refine l_aload C d_law_476 rfl (place := 1) rfl ?_
  refine l_arg C SC (j := 1) (by omega) hL d_law_477 d_law_478 d_law_479 rfl d_law_480 d_law_481 ?_
  refine l_arg C SC (j := 2) (by omega) hL d_law_482 d_law_483 d_law_484 rfl d_law_485 d_law_486 ?_
  refine l_arg C SC (j := 3) (by omega) hL d_law_487 d_law_488 d_law_489 rfl d_law_490 d_law_491 ?_
  refine l_callI C SC (kc := 38) (kd := 8) (ci := 8) (T := F_M) (N := 39) (As := [.int (xs (i + 1)), .int (xs (i + 2)), .int (xs (i + 3))]) (c_M_ahead _ G (xs (i + 1)) (xs (i + 2)) (xs (i + 3)) τ e2) rfl (by decide) rfl rfl m_M_ahead wd_979 rfl rfl (Nat.le_of_ble_eq_true rfl) ⟨(Nat.le_of_ble_eq_true rfl), (Nat.le_of_ble_eq_true rfl)⟩ d_law_492 ?_
  refine l_icmpeq (tgt := 876) C d_law_495 (by decide) (fun _ => ?_) (fun h => absurd rfl h)
  exact kk S2 υ ok2 rA2 rB2
theorem law_agree (C : CX X G code 4 "TimeFloodLaw" 11 460) (SC : SX X G b L xs k n) (hi : i + 4 ≤ L) (hL : L ≤ 2048) (ok : okA S B) (hB : B < 60000000) (hA : RA σ S) (hBB : RB σ S) (kk : ∀ S2 υ, okA S2 (B + 4000) → RA υ S2 → RB υ S2 → LJ X G Q k n 4 876 (LV G b i) [] υ) : LJ X G Q k n 4 500 (LV G b i) [] σ := by
  obtain ⟨S2, ok2, a, fA, fB⟩ := op_agree ok (by omega) 
  obtain ⟨τ, e1, rA1, cA⟩ := fA σ hA
  obtain ⟨υ, e2, rB2, cB⟩ := fB τ (hBB.fr ok.1.1 cA.fb)
  have rA2 := rA1.fr ok2.1.1 cB.fa
  refine l_aload C d_law_500 rfl (place := 2) rfl ?_
  refine l_callI C SC (kc := 0) (kd := 0) (ci := 0) (T := F_TF) (N := 12) (As := []) (c_TF_agree _ G σ e1) rfl (by decide) rfl rfl m_TF_agree wd_556 rfl rfl (Nat.le_of_ble_eq_true rfl) ⟨(Nat.le_of_ble_eq_true rfl), (Nat.le_of_ble_eq_true rfl)⟩ d_law_501 ?_
  refine l_aload C d_law_504 rfl (place := 1) rfl ?_
  refine l_callI C SC (kc := 38) (kd := 8) (ci := 8) (T := F_M) (N := 39) (As := []) (c_M_agree _ G τ e2) rfl (by decide) rfl rfl m_M_agree wd_990 rfl rfl (Nat.le_of_ble_eq_true rfl) ⟨(Nat.le_of_ble_eq_true rfl), (Nat.le_of_ble_eq_true rfl)⟩ d_law_505 ?_
  refine l_icmpeq (tgt := 876) C d_law_508 (by decide) (fun _ => ?_) (fun h => absurd rfl h)
  exact kk S2 υ ok2 rA2 rB2
theorem law_judge (C : CX X G code 4 "TimeFloodLaw" 11 460) (SC : SX X G b L xs k n) (hi : i + 4 ≤ L) (hL : L ≤ 2048) (ok : okA S B) (hB : B < 60000000) (hA : RA σ S) (hBB : RB σ S) (kk : ∀ S2 υ, okA S2 (B + 4000) → RA υ S2 → RB υ S2 → LJ X G Q k n 4 876 (LV G b i) [] υ) : LJ X G Q k n 4 513 (LV G b i) [] σ := by
  obtain ⟨S2, ok2, a, fA, fB⟩ := op_judge ok (by omega) (xs (i + 1)) (((xs (i + 2)).toInt64 <<< ((32 : Int32).toInt64 &&& 63)) ||| ((xs (i + 3)).toInt64 &&& 4294967295))
  obtain ⟨τ, e1, rA1, cA⟩ := fA σ hA
  obtain ⟨υ, e2, rB2, cB⟩ := fB τ (hBB.fr ok.1.1 cA.fb)
  have rA2 := rA1.fr ok2.1.1 cB.fa
  refine l_aload C d_law_513 rfl (place := 2) rfl ?_
  refine l_arg C SC (j := 1) (by omega) hL d_law_514 d_law_515 d_law_516 rfl d_law_517 d_law_518 ?_
  refine l_arg C SC (j := 2) (by omega) hL d_law_519 d_law_520 d_law_521 rfl d_law_522 d_law_523 ?_
  refine l_i2l C d_law_524 ?_
  refine l_bipush (v := 32) C d_law_525 (by decide) ?_
  refine l_lshl C d_law_527 ?_
  refine l_arg C SC (j := 3) (by omega) hL d_law_528 d_law_529 d_law_530 rfl d_law_531 d_law_532 ?_
  refine l_i2l C d_law_533 ?_
  refine l_ldc2 (v := 4294967295) C wd_1065 d_law_534 ?_
  refine l_land C d_law_537 ?_
  refine l_lor C d_law_538 ?_
  refine l_callI C SC (kc := 0) (kd := 0) (ci := 0) (T := F_TF) (N := 12) (As := [.int (xs (i + 1)), .long (((xs (i + 2)).toInt64 <<< ((32 : Int32).toInt64 &&& 63)) ||| ((xs (i + 3)).toInt64 &&& 4294967295))]) (c_TF_judge _ G (xs (i + 1)) (((xs (i + 2)).toInt64 <<< ((32 : Int32).toInt64 &&& 63)) ||| ((xs (i + 3)).toInt64 &&& 4294967295)) σ e1) rfl (by decide) rfl rfl m_TF_judge wd_561 rfl rfl (Nat.le_of_ble_eq_true rfl) ⟨(Nat.le_of_ble_eq_true rfl), (Nat.le_of_ble_eq_true rfl)⟩ d_law_539 ?_
  refine l_aload C d_law_542 rfl (place := 1) rfl ?_
  refine l_arg C SC (j := 1) (by omega) hL d_law_543 d_law_544 d_law_545 rfl d_law_546 d_law_547 ?_
  refine l_arg C SC (j := 2) (by omega) hL d_law_548 d_law_549 d_law_550 rfl d_law_551 d_law_552 ?_
  refine l_i2l C d_law_553 ?_
  refine l_bipush (v := 32) C d_law_554 (by decide) ?_
  refine l_lshl C d_law_556 ?_
  refine l_arg C SC (j := 3) (by omega) hL d_law_557 d_law_558 d_law_559 rfl d_law_560 d_law_561 ?_
  refine l_i2l C d_law_562 ?_
  refine l_ldc2 (v := 4294967295) C wd_1065 d_law_563 ?_
  refine l_land C d_law_566 ?_
  refine l_lor C d_law_567 ?_
  refine l_callI C SC (kc := 38) (kd := 8) (ci := 8) (T := F_M) (N := 39) (As := [.int (xs (i + 1)), .long (((xs (i + 2)).toInt64 <<< ((32 : Int32).toInt64 &&& 63)) ||| ((xs (i + 3)).toInt64 &&& 4294967295))]) (c_M_judge _ G (xs (i + 1)) (((xs (i + 2)).toInt64 <<< ((32 : Int32).toInt64 &&& 63)) ||| ((xs (i + 3)).toInt64 &&& 4294967295)) τ e2) rfl (by decide) rfl rfl m_M_judge wd_994 rfl rfl (Nat.le_of_ble_eq_true rfl) ⟨(Nat.le_of_ble_eq_true rfl), (Nat.le_of_ble_eq_true rfl)⟩ d_law_568 ?_
  refine l_icmpeq (tgt := 876) C d_law_571 (by decide) (fun _ => ?_) (fun h => absurd rfl h)
  exact kk S2 υ ok2 rA2 rB2
theorem law_see (C : CX X G code 4 "TimeFloodLaw" 11 460) (SC : SX X G b L xs k n) (hi : i + 4 ≤ L) (hL : L ≤ 2048) (ok : okA S B) (hB : B < 60000000) (hA : RA σ S) (hBB : RB σ S) (kk : ∀ S2 υ, okA S2 (B + 4000) → RA υ S2 → RB υ S2 → LJ X G Q k n 4 876 (LV G b i) [] υ) : LJ X G Q k n 4 576 (LV G b i) [] σ := by
  obtain ⟨S2, ok2, a, fA, fB⟩ := op_see ok (xs (i + 1)) (xs (i + 2)) (xs (i + 3))
  obtain ⟨τ, e1, rA1, cA⟩ := fA σ hA
  obtain ⟨υ, e2, rB2, cB⟩ := fB τ (hBB.fr ok.1.1 cA.fb)
  have rA2 := rA1.fr ok2.1.1 cB.fa
  refine l_aload C d_law_576 rfl (place := 2) rfl ?_
  refine l_arg C SC (j := 1) (by omega) hL d_law_577 d_law_578 d_law_579 rfl d_law_580 d_law_581 ?_
  refine l_arg C SC (j := 2) (by omega) hL d_law_582 d_law_583 d_law_584 rfl d_law_585 d_law_586 ?_
  refine l_arg C SC (j := 3) (by omega) hL d_law_587 d_law_588 d_law_589 rfl d_law_590 d_law_591 ?_
  refine l_callI C SC (kc := 0) (kd := 0) (ci := 0) (T := F_TF) (N := 12) (As := [.int (xs (i + 1)), .int (xs (i + 2)), .int (xs (i + 3))]) (c_TF_see _ G (xs (i + 1)) (xs (i + 2)) (xs (i + 3)) σ e1) rfl (by decide) rfl rfl m_TF_see wd_574 rfl rfl (Nat.le_of_ble_eq_true rfl) ⟨(Nat.le_of_ble_eq_true rfl), (Nat.le_of_ble_eq_true rfl)⟩ d_law_592 ?_
  refine l_aload C d_law_595 rfl (place := 1) rfl ?_
  refine l_arg C SC (j := 1) (by omega) hL d_law_596 d_law_597 d_law_598 rfl d_law_599 d_law_600 ?_
  refine l_arg C SC (j := 2) (by omega) hL d_law_601 d_law_602 d_law_603 rfl d_law_604 d_law_605 ?_
  refine l_arg C SC (j := 3) (by omega) hL d_law_606 d_law_607 d_law_608 rfl d_law_609 d_law_610 ?_
  refine l_callI C SC (kc := 38) (kd := 8) (ci := 8) (T := F_M) (N := 39) (As := [.int (xs (i + 1)), .int (xs (i + 2)), .int (xs (i + 3))]) (c_M_see _ G (xs (i + 1)) (xs (i + 2)) (xs (i + 3)) τ e2) rfl (by decide) rfl rfl m_M_see wd_1009 rfl rfl (Nat.le_of_ble_eq_true rfl) ⟨(Nat.le_of_ble_eq_true rfl), (Nat.le_of_ble_eq_true rfl)⟩ d_law_611 ?_
  refine l_icmpeq (tgt := 876) C d_law_614 (by decide) (fun _ => ?_) (fun h => absurd rfl h)
  exact kk S2 υ ok2 rA2 rB2
theorem law_unsee (C : CX X G code 4 "TimeFloodLaw" 11 460) (SC : SX X G b L xs k n) (hi : i + 4 ≤ L) (hL : L ≤ 2048) (ok : okA S B) (hB : B < 60000000) (hA : RA σ S) (hBB : RB σ S) (kk : ∀ S2 υ, okA S2 (B + 4000) → RA υ S2 → RB υ S2 → LJ X G Q k n 4 876 (LV G b i) [] υ) : LJ X G Q k n 4 619 (LV G b i) [] σ := by
  obtain ⟨S2, ok2, a, fA, fB⟩ := op_unsee ok 
  obtain ⟨τ, e1, rA1, cA⟩ := fA σ hA
  obtain ⟨υ, e2, rB2, cB⟩ := fB τ (hBB.fr ok.1.1 cA.fb)
  have rA2 := rA1.fr ok2.1.1 cB.fa
  refine l_aload C d_law_619 rfl (place := 2) rfl ?_
  refine l_callI C SC (kc := 0) (kd := 0) (ci := 0) (T := F_TF) (N := 12) (As := []) (c_TF_unsee _ G σ e1) rfl (by decide) rfl rfl m_TF_unsee wd_582 rfl rfl (Nat.le_of_ble_eq_true rfl) ⟨(Nat.le_of_ble_eq_true rfl), (Nat.le_of_ble_eq_true rfl)⟩ d_law_620 ?_
  refine l_aload C d_law_623 rfl (place := 1) rfl ?_
  refine l_callI C SC (kc := 38) (kd := 8) (ci := 8) (T := F_M) (N := 39) (As := []) (c_M_unsee _ G τ e2) rfl (by decide) rfl rfl m_M_unsee wd_1014 rfl rfl (Nat.le_of_ble_eq_true rfl) ⟨(Nat.le_of_ble_eq_true rfl), (Nat.le_of_ble_eq_true rfl)⟩ d_law_624 ?_
  refine l_icmpeq (tgt := 876) C d_law_627 (by decide) (fun _ => ?_) (fun h => absurd rfl h)
  exact kk S2 υ ok2 rA2 rB2
theorem law_which (C : CX X G code 4 "TimeFloodLaw" 11 460) (SC : SX X G b L xs k n) (hi : i + 4 ≤ L) (hL : L ≤ 2048) (ok : okA S B) (hB : B < 60000000) (hA : RA σ S) (hBB : RB σ S) (kk : ∀ S2 υ, okA S2 (B + 4000) → RA υ S2 → RB υ S2 → LJ X G Q k n 4 876 (LV G b i) [] υ) : LJ X G Q k n 4 632 (LV G b i) [] σ := by
  obtain ⟨S2, ok2, a, fA, fB⟩ := op_which ok (by omega) 
  obtain ⟨τ, e1, rA1, cA⟩ := fA σ hA
  obtain ⟨υ, e2, rB2, cB⟩ := fB τ (hBB.fr ok.1.1 cA.fb)
  have rA2 := rA1.fr ok2.1.1 cB.fa
  refine l_aload C d_law_632 rfl (place := 2) rfl ?_
  refine l_callI C SC (kc := 0) (kd := 0) (ci := 0) (T := F_TF) (N := 12) (As := []) (c_TF_which _ G σ e1) rfl (by decide) rfl rfl m_TF_which wd_586 rfl rfl (Nat.le_of_ble_eq_true rfl) ⟨(Nat.le_of_ble_eq_true rfl), (Nat.le_of_ble_eq_true rfl)⟩ d_law_633 ?_
  refine l_aload C d_law_636 rfl (place := 1) rfl ?_
  refine l_callI C SC (kc := 38) (kd := 8) (ci := 8) (T := F_M) (N := 39) (As := []) (c_M_which _ G τ e2) rfl (by decide) rfl rfl m_M_which wd_1018 rfl rfl (Nat.le_of_ble_eq_true rfl) ⟨(Nat.le_of_ble_eq_true rfl), (Nat.le_of_ble_eq_true rfl)⟩ d_law_637 ?_
  refine l_icmpeq (tgt := 876) C d_law_640 (by decide) (fun _ => ?_) (fun h => absurd rfl h)
  exact kk S2 υ ok2 rA2 rB2
theorem law_share (C : CX X G code 4 "TimeFloodLaw" 11 460) (SC : SX X G b L xs k n) (hi : i + 4 ≤ L) (hL : L ≤ 2048) (ok : okA S B) (hB : B < 60000000) (hA : RA σ S) (hBB : RB σ S) (kk : ∀ S2 υ, okA S2 (B + 4000) → RA υ S2 → RB υ S2 → LJ X G Q k n 4 876 (LV G b i) [] υ) : LJ X G Q k n 4 645 (LV G b i) [] σ := by
  obtain ⟨S2, ok2, a, fA, fB⟩ := op_share ok (by omega) (xs (i + 1)) (!decide (xs (i + 2) = 0))
  obtain ⟨τ, e1, rA1, cA⟩ := fA σ hA
  obtain ⟨υ, e2, rB2, cB⟩ := fB τ (hBB.fr ok.1.1 cA.fb)
  have rA2 := rA1.fr ok2.1.1 cB.fa
  refine l_aload C d_law_645 rfl (place := 2) rfl ?_
  refine l_arg C SC (j := 1) (by omega) hL d_law_646 d_law_647 d_law_648 rfl d_law_649 d_law_650 ?_
  refine l_arg C SC (j := 2) (by omega) hL d_law_651 d_law_652 d_law_653 rfl d_law_654 d_law_655 ?_
  refine l_bool C d_law_656 d_law_659 d_law_660 d_law_663 ?_
  refine l_callI C SC (kc := 0) (kd := 0) (ci := 0) (T := F_TF) (N := 12) (As := [.int (xs (i + 1)), .int (bI (!decide (xs (i + 2) = 0)))]) (c_TF_share _ G (xs (i + 1)) (bI (!decide (xs (i + 2) = 0))) σ e1) rfl (by decide) rfl rfl m_TF_share wd_599 rfl rfl (Nat.le_of_ble_eq_true rfl) ⟨(Nat.le_of_ble_eq_true rfl), (Nat.le_of_ble_eq_true rfl)⟩ d_law_664 ?_
  refine l_aload C d_law_667 rfl (place := 1) rfl ?_
  refine l_arg C SC (j := 1) (by omega) hL d_law_668 d_law_669 d_law_670 rfl d_law_671 d_law_672 ?_
  refine l_arg C SC (j := 2) (by omega) hL d_law_673 d_law_674 d_law_675 rfl d_law_676 d_law_677 ?_
  refine l_bool C d_law_678 d_law_681 d_law_682 d_law_685 ?_
  refine l_callI C SC (kc := 38) (kd := 8) (ci := 8) (T := F_M) (N := 39) (As := [.int (xs (i + 1)), .int (bI (!decide (xs (i + 2) = 0)))]) (c_M_share _ G (xs (i + 1)) (bI (!decide (xs (i + 2) = 0))) τ e2) rfl (by decide) rfl rfl m_M_share wd_1026 rfl rfl (Nat.le_of_ble_eq_true rfl) ⟨(Nat.le_of_ble_eq_true rfl), (Nat.le_of_ble_eq_true rfl)⟩ d_law_686 ?_
  refine l_icmpeq (tgt := 876) C d_law_689 (by decide) (fun _ => ?_) (fun h => absurd rfl h)
  exact kk S2 υ ok2 rA2 rB2
theorem law_chance (C : CX X G code 4 "TimeFloodLaw" 11 460) (SC : SX X G b L xs k n) (hi : i + 4 ≤ L) (hL : L ≤ 2048) (ok : okA S B) (hB : B < 60000000) (hA : RA σ S) (hBB : RB σ S) (kk : ∀ S2 υ, okA S2 (B + 4000) → RA υ S2 → RB υ S2 → LJ X G Q k n 4 876 (LV G b i) [] υ) : LJ X G Q k n 4 694 (LV G b i) [] σ := by
  obtain ⟨S2, ok2, a, fA, fB⟩ := op_chance ok (by omega) (xs (i + 1)) (xs (i + 2)) (!decide (xs (i + 3) = 0))
  obtain ⟨τ, e1, rA1, cA⟩ := fA σ hA
  obtain ⟨υ, e2, rB2, cB⟩ := fB τ (hBB.fr ok.1.1 cA.fb)
  have rA2 := rA1.fr ok2.1.1 cB.fa
  refine l_aload C d_law_694 rfl (place := 2) rfl ?_
  refine l_arg C SC (j := 1) (by omega) hL d_law_695 d_law_696 d_law_697 rfl d_law_698 d_law_699 ?_
  refine l_arg C SC (j := 2) (by omega) hL d_law_700 d_law_701 d_law_702 rfl d_law_703 d_law_704 ?_
  refine l_arg C SC (j := 3) (by omega) hL d_law_705 d_law_706 d_law_707 rfl d_law_708 d_law_709 ?_
  refine l_bool C d_law_710 d_law_713 d_law_714 d_law_717 ?_
  refine l_callI C SC (kc := 0) (kd := 0) (ci := 0) (T := F_TF) (N := 12) (As := [.int (xs (i + 1)), .int (xs (i + 2)), .int (bI (!decide (xs (i + 3) = 0)))]) (c_TF_chance _ G (xs (i + 1)) (xs (i + 2)) (bI (!decide (xs (i + 3) = 0))) σ e1) rfl (by decide) rfl rfl m_TF_chance wd_622 rfl rfl (Nat.le_of_ble_eq_true rfl) ⟨(Nat.le_of_ble_eq_true rfl), (Nat.le_of_ble_eq_true rfl)⟩ d_law_718 ?_
  refine l_aload C d_law_721 rfl (place := 1) rfl ?_
  refine l_arg C SC (j := 1) (by omega) hL d_law_722 d_law_723 d_law_724 rfl d_law_725 d_law_726 ?_
  refine l_arg C SC (j := 2) (by omega) hL d_law_727 d_law_728 d_law_729 rfl d_law_730 d_law_731 ?_
  refine l_arg C SC (j := 3) (by omega) hL d_law_732 d_law_733 d_law_734 rfl d_law_735 d_law_736 ?_
  refine l_bool C d_law_737 d_law_740 d_law_741 d_law_744 ?_
  refine l_callI C SC (kc := 38) (kd := 8) (ci := 8) (T := F_M) (N := 39) (As := [.int (xs (i + 1)), .int (xs (i + 2)), .int (bI (!decide (xs (i + 3) = 0)))]) (c_M_chance _ G (xs (i + 1)) (xs (i + 2)) (bI (!decide (xs (i + 3) = 0))) τ e2) rfl (by decide) rfl rfl m_M_chance wd_1040 rfl rfl (Nat.le_of_ble_eq_true rfl) ⟨(Nat.le_of_ble_eq_true rfl), (Nat.le_of_ble_eq_true rfl)⟩ d_law_745 ?_
  refine l_icmpeq (tgt := 876) C d_law_748 (by decide) (fun _ => ?_) (fun h => absurd rfl h)
  exact kk S2 υ ok2 rA2 rB2
theorem law_seed (C : CX X G code 4 "TimeFloodLaw" 11 460) (SC : SX X G b L xs k n) (hi : i + 4 ≤ L) (hL : L ≤ 2048) (ok : okA S B) (hB : B < 60000000) (hA : RA σ S) (hBB : RB σ S) (kk : ∀ S2 υ, okA S2 (B + 4000) → RA υ S2 → RB υ S2 → LJ X G Q k n 4 876 (LV G b i) [] υ) : LJ X G Q k n 4 753 (LV G b i) [] σ := by
  obtain ⟨S2, ok2, a, fA, fB⟩ := op_seed ok (((xs (i + 1)).toInt64 <<< ((32 : Int32).toInt64 &&& 63)) ||| ((xs (i + 2)).toInt64 &&& 4294967295))
  obtain ⟨τ, e1, rA1, cA⟩ := fA σ hA
  obtain ⟨υ, e2, rB2, cB⟩ := fB τ (hBB.fr ok.1.1 cA.fb)
  have rA2 := rA1.fr ok2.1.1 cB.fa
  refine l_aload C d_law_753 rfl (place := 2) rfl ?_
  refine l_arg C SC (j := 1) (by omega) hL d_law_754 d_law_755 d_law_756 rfl d_law_757 d_law_758 ?_
  refine l_i2l C d_law_759 ?_
  refine l_bipush (v := 32) C d_law_760 (by decide) ?_
  refine l_lshl C d_law_762 ?_
  refine l_arg C SC (j := 2) (by omega) hL d_law_763 d_law_764 d_law_765 rfl d_law_766 d_law_767 ?_
  refine l_i2l C d_law_768 ?_
  refine l_ldc2 (v := 4294967295) C wd_1065 d_law_769 ?_
  refine l_land C d_law_772 ?_
  refine l_lor C d_law_773 ?_
  refine l_callL C SC (kc := 0) (kd := 0) (ci := 0) (T := F_TF) (N := 12) (As := [.long (((xs (i + 1)).toInt64 <<< ((32 : Int32).toInt64 &&& 63)) ||| ((xs (i + 2)).toInt64 &&& 4294967295))]) (c_TF_seed _ G (((xs (i + 1)).toInt64 <<< ((32 : Int32).toInt64 &&& 63)) ||| ((xs (i + 2)).toInt64 &&& 4294967295)) σ e1) rfl (by decide) rfl rfl m_TF_seed wd_639 rfl rfl (Nat.le_of_ble_eq_true rfl) ⟨(Nat.le_of_ble_eq_true rfl), (Nat.le_of_ble_eq_true rfl)⟩ d_law_774 ?_
  refine l_aload C d_law_777 rfl (place := 1) rfl ?_
  refine l_arg C SC (j := 1) (by omega) hL d_law_778 d_law_779 d_law_780 rfl d_law_781 d_law_782 ?_
  refine l_i2l C d_law_783 ?_
  refine l_bipush (v := 32) C d_law_784 (by decide) ?_
  refine l_lshl C d_law_786 ?_
  refine l_arg C SC (j := 2) (by omega) hL d_law_787 d_law_788 d_law_789 rfl d_law_790 d_law_791 ?_
  refine l_i2l C d_law_792 ?_
  refine l_ldc2 (v := 4294967295) C wd_1065 d_law_793 ?_
  refine l_land C d_law_796 ?_
  refine l_lor C d_law_797 ?_
  refine l_callL C SC (kc := 38) (kd := 8) (ci := 8) (T := F_M) (N := 39) (As := [.long (((xs (i + 1)).toInt64 <<< ((32 : Int32).toInt64 &&& 63)) ||| ((xs (i + 2)).toInt64 &&& 4294967295))]) (c_M_seed _ G (((xs (i + 1)).toInt64 <<< ((32 : Int32).toInt64 &&& 63)) ||| ((xs (i + 2)).toInt64 &&& 4294967295)) τ e2) rfl (by decide) rfl rfl m_M_seed wd_1047 rfl rfl (Nat.le_of_ble_eq_true rfl) ⟨(Nat.le_of_ble_eq_true rfl), (Nat.le_of_ble_eq_true rfl)⟩ d_law_798 ?_
  refine l_lcmp C d_law_801 ?_
  refine l_ifeq (tgt := 876) C d_law_802 (by decide) (fun _ => ?_) (fun h => absurd ((z_cmp0 _ _).mpr rfl) h)
  exact kk S2 υ ok2 rA2 rB2
theorem law_drawn (C : CX X G code 4 "TimeFloodLaw" 11 460) (SC : SX X G b L xs k n) (hi : i + 4 ≤ L) (hL : L ≤ 2048) (ok : okA S B) (hB : B < 60000000) (hA : RA σ S) (hBB : RB σ S) (kk : ∀ S2 υ, okA S2 (B + 4000) → RA υ S2 → RB υ S2 → LJ X G Q k n 4 876 (LV G b i) [] υ) : LJ X G Q k n 4 807 (LV G b i) [] σ := by
  obtain ⟨S2, ok2, a, fA, fB⟩ := op_drawn ok (by omega) (xs (i + 1))
  obtain ⟨τ, e1, rA1, cA⟩ := fA σ hA
  obtain ⟨υ, e2, rB2, cB⟩ := fB τ (hBB.fr ok.1.1 cA.fb)
  have rA2 := rA1.fr ok2.1.1 cB.fa
  refine l_aload C d_law_807 rfl (place := 2) rfl ?_
  refine l_arg C SC (j := 1) (by omega) hL d_law_808 d_law_809 d_law_810 rfl d_law_811 d_law_812 ?_
  refine l_callI C SC (kc := 0) (kd := 0) (ci := 0) (T := F_TF) (N := 12) (As := [.int (xs (i + 1))]) (c_TF_drawn _ G (xs (i + 1)) σ e1) rfl (by decide) rfl rfl m_TF_drawn wd_643 rfl rfl (Nat.le_of_ble_eq_true rfl) ⟨(Nat.le_of_ble_eq_true rfl), (Nat.le_of_ble_eq_true rfl)⟩ d_law_813 ?_
  refine l_aload C d_law_816 rfl (place := 1) rfl ?_
  refine l_arg C SC (j := 1) (by omega) hL d_law_817 d_law_818 d_law_819 rfl d_law_820 d_law_821 ?_
  refine l_callI C SC (kc := 38) (kd := 8) (ci := 8) (T := F_M) (N := 39) (As := [.int (xs (i + 1))]) (c_M_drawn _ G (xs (i + 1)) τ e2) rfl (by decide) rfl rfl m_M_drawn wd_1051 rfl rfl (Nat.le_of_ble_eq_true rfl) ⟨(Nat.le_of_ble_eq_true rfl), (Nat.le_of_ble_eq_true rfl)⟩ d_law_822 ?_
  refine l_icmpeq (tgt := 876) C d_law_825 (by decide) (fun _ => ?_) (fun h => absurd rfl h)
  exact kk S2 υ ok2 rA2 rB2
theorem law_keep (C : CX X G code 4 "TimeFloodLaw" 11 460) (SC : SX X G b L xs k n) (hi : i + 4 ≤ L) (hL : L ≤ 2048) (ok : okA S B) (hB : B < 60000000) (hA : RA σ S) (hBB : RB σ S) (kk : ∀ S2 υ, okA S2 (B + 4000) → RA υ S2 → RB υ S2 → LJ X G Q k n 4 876 (LV G b i) [] υ) : LJ X G Q k n 4 830 (LV G b i) [] σ := by
  obtain ⟨S2, ok2, a, fA, fB⟩ := op_keep ok (xs (i + 1))
  obtain ⟨τ, e1, rA1, cA⟩ := fA σ hA
  obtain ⟨υ, e2, rB2, cB⟩ := fB τ (hBB.fr ok.1.1 cA.fb)
  have rA2 := rA1.fr ok2.1.1 cB.fa
  refine l_aload C d_law_830 rfl (place := 2) rfl ?_
  refine l_arg C SC (j := 1) (by omega) hL d_law_831 d_law_832 d_law_833 rfl d_law_834 d_law_835 ?_
  refine l_callI C SC (kc := 0) (kd := 0) (ci := 0) (T := F_TF) (N := 12) (As := [.int (xs (i + 1))]) (c_TF_keep _ G (xs (i + 1)) σ e1) rfl (by decide) rfl rfl m_TF_keep wd_649 rfl rfl (Nat.le_of_ble_eq_true rfl) ⟨(Nat.le_of_ble_eq_true rfl), (Nat.le_of_ble_eq_true rfl)⟩ d_law_836 ?_
  refine l_aload C d_law_839 rfl (place := 1) rfl ?_
  refine l_arg C SC (j := 1) (by omega) hL d_law_840 d_law_841 d_law_842 rfl d_law_843 d_law_844 ?_
  refine l_callI C SC (kc := 38) (kd := 8) (ci := 8) (T := F_M) (N := 39) (As := [.int (xs (i + 1))]) (c_M_keep _ G (xs (i + 1)) τ e2) rfl (by decide) rfl rfl m_M_keep wd_1057 rfl rfl (Nat.le_of_ble_eq_true rfl) ⟨(Nat.le_of_ble_eq_true rfl), (Nat.le_of_ble_eq_true rfl)⟩ d_law_845 ?_
  refine l_icmpeq (tgt := 876) C d_law_848 (by decide) (fun _ => ?_) (fun h => absurd rfl h)
  exact kk S2 υ ok2 rA2 rB2
theorem law_again (C : CX X G code 4 "TimeFloodLaw" 11 460) (SC : SX X G b L xs k n) (hi : i + 4 ≤ L) (hL : L ≤ 2048) (ok : okA S B) (hB : B < 60000000) (hA : RA σ S) (hBB : RB σ S) (kk : ∀ S2 υ, okA S2 (B + 4000) → RA υ S2 → RB υ S2 → LJ X G Q k n 4 876 (LV G b i) [] υ) : LJ X G Q k n 4 853 (LV G b i) [] σ := by
  obtain ⟨S2, ok2, a, fA, fB⟩ := op_again ok (xs (i + 1))
  obtain ⟨τ, e1, rA1, cA⟩ := fA σ hA
  obtain ⟨υ, e2, rB2, cB⟩ := fB τ (hBB.fr ok.1.1 cA.fb)
  have rA2 := rA1.fr ok2.1.1 cB.fa
  refine l_aload C d_law_853 rfl (place := 2) rfl ?_
  refine l_arg C SC (j := 1) (by omega) hL d_law_854 d_law_855 d_law_856 rfl d_law_857 d_law_858 ?_
  refine l_callI C SC (kc := 0) (kd := 0) (ci := 0) (T := F_TF) (N := 12) (As := [.int (xs (i + 1))]) (c_TF_again _ G (xs (i + 1)) σ e1) rfl (by decide) rfl rfl m_TF_again wd_653 rfl rfl (Nat.le_of_ble_eq_true rfl) ⟨(Nat.le_of_ble_eq_true rfl), (Nat.le_of_ble_eq_true rfl)⟩ d_law_859 ?_
  refine l_aload C d_law_862 rfl (place := 1) rfl ?_
  refine l_arg C SC (j := 1) (by omega) hL d_law_863 d_law_864 d_law_865 rfl d_law_866 d_law_867 ?_
  refine l_callI C SC (kc := 38) (kd := 8) (ci := 8) (T := F_M) (N := 39) (As := [.int (xs (i + 1))]) (c_M_again _ G (xs (i + 1)) τ e2) rfl (by decide) rfl rfl m_M_again wd_1061 rfl rfl (Nat.le_of_ble_eq_true rfl) ⟨(Nat.le_of_ble_eq_true rfl), (Nat.le_of_ble_eq_true rfl)⟩ d_law_868 ?_
  refine l_icmpeq (tgt := 876) C d_law_871 (by decide) (fun _ => ?_) (fun h => absurd rfl h)
  exact kk S2 υ ok2 rA2 rB2
end LAWC
