section LAWR
def LX (E : EE) (b L : Nat) (xs : Nat → Int32) : Prop := match E with
  | (p, l, e, R, s, m, args, below, meth, c, A, Q, cells, slots, nL) => va_X b L xs s s.heap ∧ b < s.heap.size ∧ ¬ A b
variable {E : EE} {B : BB} {l0 : Launch} {cc : ByteArray} {own : String} {ret9 : Option FieldType} {mL fr lo : Nat} {σ : St2} {pc : Nat} {lv : List (Nat × Value)} {st : List Value} {b L i : Nat} {xs : Nat → Int32}
theorem v_sld (C : Cx E B l0 cc own ret9 mL fr lo) (hX : LX E b L xs) {i : Int32} (hin : inb i L) (hd : decode cc pc = .ok (.iaload, 1)) (k : V E B σ (pc + 1) lv (.int (xs i.toNatClampNeg) :: st)) : V E B σ pc lv (.int i :: .ref b :: st) := by
  obtain ⟨p, l, e, R, s, m, args, below, meth, c, A, Q, cells, slots, nL⟩ := E
  obtain ⟨hl0, hx, hb, hml, hnl, hr, hlk, hown, hts, hK, hD, hfr, hlo, hcc, hcs, hF⟩ := C
  intro H locs ls hP hS hl
  exact va_sld hx hb hX.1 hX.2.1 hX.2.2 hS (inb_vp hin) hd (k H locs ls hP hS hl)
theorem v_scrlen (C : Cx E B l0 cc own ret9 mL fr lo) (hX : LX E b L xs) (hd : decode cc pc = .ok (.arraylength, 1)) (k : V E B σ (pc + 1) lv (.int (nI L) :: st)) : V E B σ pc lv (.ref b :: st) := by
  obtain ⟨p, l, e, R, s, m, args, below, meth, c, A, Q, cells, slots, nL⟩ := E
  obtain ⟨hl0, hx, hb, hml, hnl, hr, hlk, hown, hts, hK, hD, hfr, hlo, hcc, hcs, hF⟩ := C
  intro H locs ls hP hS hl
  exact va_slen hx hb hX.1 hX.2.1 hX.2.2 hS hd (k H locs ls hP hS hl)
def LV (b : Nat) (B : BB) (i : Nat) : List (Nat × Value) := [(0, .ref b), (1, .ref (ad B 0)), (2, .ref (ad B 51)), (3, .int (nI i))]
/-- an argument out of the script -/
theorem l_arg (C : Cx E B l0 cL_law RL ret9 4 13 482) (hX : LX E b L xs) (hL9 : L ≤ 3072) (j : Nat) {n : Int} (hj : i + j < L) (d0 : decode cL_law pc = .ok (.aload_n 0, 1)) (d1 : decode cL_law (pc + 1) = .ok (.iload_n 3, 1)) (d2 : decode cL_law (pc + 2) = .ok (.iconst n, 1)) (hv : Int32.ofInt n = nI j) (d3 : decode cL_law (pc + 3) = .ok (.iadd, 1)) (d4 : decode cL_law (pc + 4) = .ok (.iaload, 1)) (kk : V E B σ (pc + 5) (LV b B i) (.int (xs (i + j)) :: st)) : V E B σ pc (LV b B i) st := by
  refine v_aload_n C 0 d0 rfl rfl ?_
  refine v_iload_n C 3 d1 rfl rfl ?_
  refine v_iconst C d2 hv ?_
  refine v_iadd C d3 ?_
  rw [nI_add]
  refine v_sld C hX ⟨nI_pos (by omega), by rw [nI_clamp (by omega)]; exact hj⟩ d4 ?_
  rw [nI_clamp (by omega)]
  exact kk
theorem lgc_0 (x : Int64) : lg_cmp x x = 0 := by
  unfold lg_cmp
  rw [if_neg (fun h => Int64.lt_irrefl h), if_pos rfl]
end LAWR
section LAWC
variable {E : EE} {B : BB} {l0 : Launch} {ret9 : Option FieldType} {b L i hb : Nat} {xs : Nat → Int32} {κ τ : St2} {s t k : Nat → Int32}
/-- case 0: cell -/
theorem law_0 (C : Cx E B l0 cL_law RL ret9 4 13 482) (hX : LX E b L xs) (hL9 : L ≤ 3072) (hi : i + 6 ≤ L) (hhb : hb ≤ 40000) (hI : Inv hb κ s k τ) (kk : ∀ (κ2 : St2) (s2 t2 k2 : Nat → Int32) (τ2 : St2), Inv (hb + 60) κ2 s2 k2 τ2 → V E B (jn (cq κ2 s2 t2 k2) (mq τ2 s2)) 1530 (LV b B i) []) : V E B (jn (cq κ s t k) (mq τ s)) 220 (LV b B i) [] := by
  obtain ⟨r, κ2, s2, t2, k2, τ2, e1, e2, hI2⟩ := sim_cell (N := 1000) (t := t) (a := xs (i + 1)) (b := xs (i + 2)) (Nat.le_refl _) hI
  refine v_aload_n C 1 dL_law_220 rfl rfl ?_
  refine l_arg (n := 1) C hX hL9 1 (by omega) dL_law_221 dL_law_222 dL_law_223 rfl dL_law_224 dL_law_225 ?_
  refine l_arg (n := 2) C hX hL9 2 (by omega) dL_law_226 dL_law_227 dL_law_228 rfl dL_law_229 dL_law_230 ?_
  refine v_callV (r := some (.int r)) (As := [.int (xs (i + 1)), .int (xs (i + 2))]) (rest := []) (K := 0) (ci := 3) (σ' := jn (cq κ2 s2 t2 k2) (mq τ s)) C (mX3_cell (L := fun κ9 => jn κ9 (mq τ s)) (lnC_jn _) e1) cw_X3_cell wd_134 (by decide) rfl rfl ⟨Nat.le_of_ble_eq_true rfl, Nat.le_of_ble_eq_true rfl⟩ rfl rfl (Nat.le_of_ble_eq_true rfl) dL_law_231 ?_
  refine v_aload_n C 2 dL_law_234 rfl rfl ?_
  refine l_arg (n := 1) C hX hL9 1 (by omega) dL_law_235 dL_law_236 dL_law_237 rfl dL_law_238 dL_law_239 ?_
  refine l_arg (n := 2) C hX hL9 2 (by omega) dL_law_240 dL_law_241 dL_law_242 rfl dL_law_243 dL_law_244 ?_
  refine v_callV (r := some (.int r)) (As := [.int (xs (i + 1)), .int (xs (i + 2))]) (rest := [.int r]) (K := 51) (ci := 4) (σ' := jn (cq κ2 s2 t2 k2) (mq τ2 s2)) C (mX4_cell (L := fun τ9 => jn (cq κ2 s2 t2 k2) τ9) (lnM_jn _) e2) cw_X4_cell wd_713 (by decide) rfl rfl ⟨Nat.le_of_ble_eq_true rfl, Nat.le_of_ble_eq_true rfl⟩ rfl rfl (Nat.le_of_ble_eq_true rfl) dL_law_245 ?_
  refine v_icmp_eq (tgt := 1530) (Pt := some ()) (Pf := none) (res := ()) C dL_law_248 (by decide) (if_pos rfl) (fun _ => ?_) (fun hf => by cases hf)
  exact kk _ _ _ _ _ hI2
/-- case 1: print -/
theorem law_1 (C : Cx E B l0 cL_law RL ret9 4 13 482) (hX : LX E b L xs) (hL9 : L ≤ 3072) (hi : i + 6 ≤ L) (hhb : hb ≤ 40000) (hI : Inv hb κ s k τ) (kk : ∀ (κ2 : St2) (s2 t2 k2 : Nat → Int32) (τ2 : St2), Inv (hb + 60) κ2 s2 k2 τ2 → V E B (jn (cq κ2 s2 t2 k2) (mq τ2 s2)) 1530 (LV b B i) []) : V E B (jn (cq κ s t k) (mq τ s)) 253 (LV b B i) [] := by
  obtain ⟨r, κ2, s2, t2, k2, τ2, e1, e2, hI2⟩ := sim_print (t := t) (a := xs (i + 1)) (b := xs (i + 2)) (d := xs (i + 3)) hI
  refine v_aload_n C 1 dL_law_253 rfl rfl ?_
  refine l_arg (n := 1) C hX hL9 1 (by omega) dL_law_254 dL_law_255 dL_law_256 rfl dL_law_257 dL_law_258 ?_
  refine l_arg (n := 2) C hX hL9 2 (by omega) dL_law_259 dL_law_260 dL_law_261 rfl dL_law_262 dL_law_263 ?_
  refine l_arg (n := 3) C hX hL9 3 (by omega) dL_law_264 dL_law_265 dL_law_266 rfl dL_law_267 dL_law_268 ?_
  refine v_callV (r := some (.int r)) (As := [.int (xs (i + 1)), .int (xs (i + 2)), .int (xs (i + 3))]) (rest := []) (K := 0) (ci := 3) (σ' := jn (cq κ2 s2 t2 k2) (mq τ s)) C (mX3_print (L := fun κ9 => jn κ9 (mq τ s)) (lnC_jn _) e1) cw_X3_print wd_153 (by decide) rfl rfl ⟨Nat.le_of_ble_eq_true rfl, Nat.le_of_ble_eq_true rfl⟩ rfl rfl (Nat.le_of_ble_eq_true rfl) dL_law_269 ?_
  refine v_aload_n C 2 dL_law_272 rfl rfl ?_
  refine l_arg (n := 1) C hX hL9 1 (by omega) dL_law_273 dL_law_274 dL_law_275 rfl dL_law_276 dL_law_277 ?_
  refine l_arg (n := 2) C hX hL9 2 (by omega) dL_law_278 dL_law_279 dL_law_280 rfl dL_law_281 dL_law_282 ?_
  refine l_arg (n := 3) C hX hL9 3 (by omega) dL_law_283 dL_law_284 dL_law_285 rfl dL_law_286 dL_law_287 ?_
  refine v_callV (r := some (.int r)) (As := [.int (xs (i + 1)), .int (xs (i + 2)), .int (xs (i + 3))]) (rest := [.int r]) (K := 51) (ci := 4) (σ' := jn (cq κ2 s2 t2 k2) (mq τ2 s2)) C (mX4_print (L := fun τ9 => jn (cq κ2 s2 t2 k2) τ9) (lnM_jn _) e2) cw_X4_print wd_738 (by decide) rfl rfl ⟨Nat.le_of_ble_eq_true rfl, Nat.le_of_ble_eq_true rfl⟩ rfl rfl (Nat.le_of_ble_eq_true rfl) dL_law_288 ?_
  refine v_icmp_eq (tgt := 1530) (Pt := some ()) (Pf := none) (res := ()) C dL_law_291 (by decide) (if_pos rfl) (fun _ => ?_) (fun hf => by cases hf)
  exact kk _ _ _ _ _ hI2
/-- case 2: reach -/
theorem law_2 (C : Cx E B l0 cL_law RL ret9 4 13 482) (hX : LX E b L xs) (hL9 : L ≤ 3072) (hi : i + 6 ≤ L) (hhb : hb ≤ 40000) (hI : Inv hb κ s k τ) (kk : ∀ (κ2 : St2) (s2 t2 k2 : Nat → Int32) (τ2 : St2), Inv (hb + 60) κ2 s2 k2 τ2 → V E B (jn (cq κ2 s2 t2 k2) (mq τ2 s2)) 1530 (LV b B i) []) : V E B (jn (cq κ s t k) (mq τ s)) 296 (LV b B i) [] := by
  obtain ⟨r, κ2, s2, t2, k2, τ2, e1, e2, hI2⟩ := sim_reach (t := t) (a := xs (i + 1)) hI
  refine v_aload_n C 1 dL_law_296 rfl rfl ?_
  refine l_arg (n := 1) C hX hL9 1 (by omega) dL_law_297 dL_law_298 dL_law_299 rfl dL_law_300 dL_law_301 ?_
  refine v_callV (r := some (.int r)) (As := [.int (xs (i + 1))]) (rest := []) (K := 0) (ci := 3) (σ' := jn (cq κ2 s2 t2 k2) (mq τ s)) C (mX3_reach (L := fun κ9 => jn κ9 (mq τ s)) (lnC_jn _) e1) cw_X3_reach wd_171 (by decide) rfl rfl ⟨Nat.le_of_ble_eq_true rfl, Nat.le_of_ble_eq_true rfl⟩ rfl rfl (Nat.le_of_ble_eq_true rfl) dL_law_302 ?_
  refine v_aload_n C 2 dL_law_305 rfl rfl ?_
  refine l_arg (n := 1) C hX hL9 1 (by omega) dL_law_306 dL_law_307 dL_law_308 rfl dL_law_309 dL_law_310 ?_
  refine v_callV (r := some (.int r)) (As := [.int (xs (i + 1))]) (rest := [.int r]) (K := 51) (ci := 4) (σ' := jn (cq κ2 s2 t2 k2) (mq τ2 s2)) C (mX4_reach (L := fun τ9 => jn (cq κ2 s2 t2 k2) τ9) (lnM_jn _) e2) cw_X4_reach wd_751 (by decide) rfl rfl ⟨Nat.le_of_ble_eq_true rfl, Nat.le_of_ble_eq_true rfl⟩ rfl rfl (Nat.le_of_ble_eq_true rfl) dL_law_311 ?_
  refine v_icmp_eq (tgt := 1530) (Pt := some ()) (Pf := none) (res := ()) C dL_law_314 (by decide) (if_pos rfl) (fun _ => ?_) (fun hf => by cases hf)
  exact kk _ _ _ _ _ hI2
/-- case 3: tide -/
theorem law_3 (C : Cx E B l0 cL_law RL ret9 4 13 482) (hX : LX E b L xs) (hL9 : L ≤ 3072) (hi : i + 6 ≤ L) (hhb : hb ≤ 40000) (hI : Inv hb κ s k τ) (kk : ∀ (κ2 : St2) (s2 t2 k2 : Nat → Int32) (τ2 : St2), Inv (hb + 60) κ2 s2 k2 τ2 → V E B (jn (cq κ2 s2 t2 k2) (mq τ2 s2)) 1530 (LV b B i) []) : V E B (jn (cq κ s t k) (mq τ s)) 319 (LV b B i) [] := by
  obtain ⟨r, κ2, s2, t2, k2, τ2, e1, e2, hI2⟩ := sim_tide (N := 1000) (t := t)  (Nat.le_refl _) hI
  refine v_aload_n C 1 dL_law_319 rfl rfl ?_
  refine v_callV (r := some (.int r)) (As := []) (rest := []) (K := 0) (ci := 3) (σ' := jn (cq κ2 s2 t2 k2) (mq τ s)) C (mX3_tide (L := fun κ9 => jn κ9 (mq τ s)) (lnC_jn _) e1) cw_X3_tide wd_175 (by decide) rfl rfl ⟨Nat.le_of_ble_eq_true rfl, Nat.le_of_ble_eq_true rfl⟩ rfl rfl (Nat.le_of_ble_eq_true rfl) dL_law_320 ?_
  refine v_aload_n C 2 dL_law_323 rfl rfl ?_
  refine v_callV (r := some (.int r)) (As := []) (rest := [.int r]) (K := 51) (ci := 4) (σ' := jn (cq κ2 s2 t2 k2) (mq τ2 s2)) C (mX4_tide (L := fun τ9 => jn (cq κ2 s2 t2 k2) τ9) (lnM_jn _) e2) cw_X4_tide wd_760 (by decide) rfl rfl ⟨Nat.le_of_ble_eq_true rfl, Nat.le_of_ble_eq_true rfl⟩ rfl rfl (Nat.le_of_ble_eq_true rfl) dL_law_324 ?_
  refine v_icmp_eq (tgt := 1530) (Pt := some ()) (Pf := none) (res := ()) C dL_law_327 (by decide) (if_pos rfl) (fun _ => ?_) (fun hf => by cases hf)
  exact kk _ _ _ _ _ hI2
/-- case 4: walker -/
theorem law_4 (C : Cx E B l0 cL_law RL ret9 4 13 482) (hX : LX E b L xs) (hL9 : L ≤ 3072) (hi : i + 6 ≤ L) (hhb : hb ≤ 40000) (hI : Inv hb κ s k τ) (kk : ∀ (κ2 : St2) (s2 t2 k2 : Nat → Int32) (τ2 : St2), Inv (hb + 60) κ2 s2 k2 τ2 → V E B (jn (cq κ2 s2 t2 k2) (mq τ2 s2)) 1530 (LV b B i) []) : V E B (jn (cq κ s t k) (mq τ s)) 332 (LV b B i) [] := by
  obtain ⟨r, κ2, s2, t2, k2, τ2, e1, e2, hI2⟩ := sim_walker (t := t) (a := xs (i + 1)) (b := xs (i + 2)) hI
  refine v_aload_n C 1 dL_law_332 rfl rfl ?_
  refine l_arg (n := 1) C hX hL9 1 (by omega) dL_law_333 dL_law_334 dL_law_335 rfl dL_law_336 dL_law_337 ?_
  refine l_arg (n := 2) C hX hL9 2 (by omega) dL_law_338 dL_law_339 dL_law_340 rfl dL_law_341 dL_law_342 ?_
  refine v_callV (r := some (.int r)) (As := [.int (xs (i + 1)), .int (xs (i + 2))]) (rest := []) (K := 0) (ci := 3) (σ' := jn (cq κ2 s2 t2 k2) (mq τ s)) C (mX3_walker (L := fun κ9 => jn κ9 (mq τ s)) (lnC_jn _) e1) cw_X3_walker wd_184 (by decide) rfl rfl ⟨Nat.le_of_ble_eq_true rfl, Nat.le_of_ble_eq_true rfl⟩ rfl rfl (Nat.le_of_ble_eq_true rfl) dL_law_343 ?_
  refine v_aload_n C 2 dL_law_346 rfl rfl ?_
  refine l_arg (n := 1) C hX hL9 1 (by omega) dL_law_347 dL_law_348 dL_law_349 rfl dL_law_350 dL_law_351 ?_
  refine l_arg (n := 2) C hX hL9 2 (by omega) dL_law_352 dL_law_353 dL_law_354 rfl dL_law_355 dL_law_356 ?_
  refine v_callV (r := some (.int r)) (As := [.int (xs (i + 1)), .int (xs (i + 2))]) (rest := [.int r]) (K := 51) (ci := 4) (σ' := jn (cq κ2 s2 t2 k2) (mq τ2 s2)) C (mX4_walker (L := fun τ9 => jn (cq κ2 s2 t2 k2) τ9) (lnM_jn _) e2) cw_X4_walker wd_768 (by decide) rfl rfl ⟨Nat.le_of_ble_eq_true rfl, Nat.le_of_ble_eq_true rfl⟩ rfl rfl (Nat.le_of_ble_eq_true rfl) dL_law_357 ?_
  refine v_icmp_eq (tgt := 1530) (Pt := some ()) (Pf := none) (res := ()) C dL_law_360 (by decide) (if_pos rfl) (fun _ => ?_) (fun hf => by cases hf)
  exact kk _ _ _ _ _ hI2
/-- case 5: of -/
theorem law_5 (C : Cx E B l0 cL_law RL ret9 4 13 482) (hX : LX E b L xs) (hL9 : L ≤ 3072) (hi : i + 6 ≤ L) (hhb : hb ≤ 40000) (hI : Inv hb κ s k τ) (kk : ∀ (κ2 : St2) (s2 t2 k2 : Nat → Int32) (τ2 : St2), Inv (hb + 60) κ2 s2 k2 τ2 → V E B (jn (cq κ2 s2 t2 k2) (mq τ2 s2)) 1530 (LV b B i) []) : V E B (jn (cq κ s t k) (mq τ s)) 365 (LV b B i) [] := by
  obtain ⟨r, κ2, s2, t2, k2, τ2, e1, e2, hI2⟩ := sim_of (N := 1000) (t := t) (a := xs (i + 1)) (b := xs (i + 2)) (Nat.le_refl _) hI
  refine v_aload_n C 1 dL_law_365 rfl rfl ?_
  refine l_arg (n := 1) C hX hL9 1 (by omega) dL_law_366 dL_law_367 dL_law_368 rfl dL_law_369 dL_law_370 ?_
  refine l_arg (n := 2) C hX hL9 2 (by omega) dL_law_371 dL_law_372 dL_law_373 rfl dL_law_374 dL_law_375 ?_
  refine v_callV (r := some (.int r)) (As := [.int (xs (i + 1)), .int (xs (i + 2))]) (rest := []) (K := 0) (ci := 3) (σ' := jn (cq κ2 s2 t2 k2) (mq τ s)) C (mX3_of (L := fun κ9 => jn κ9 (mq τ s)) (lnC_jn _) e1) cw_X3_of wd_197 (by decide) rfl rfl ⟨Nat.le_of_ble_eq_true rfl, Nat.le_of_ble_eq_true rfl⟩ rfl rfl (Nat.le_of_ble_eq_true rfl) dL_law_376 ?_
  refine v_aload_n C 2 dL_law_379 rfl rfl ?_
  refine l_arg (n := 1) C hX hL9 1 (by omega) dL_law_380 dL_law_381 dL_law_382 rfl dL_law_383 dL_law_384 ?_
  refine l_arg (n := 2) C hX hL9 2 (by omega) dL_law_385 dL_law_386 dL_law_387 rfl dL_law_388 dL_law_389 ?_
  refine v_callV (r := some (.int r)) (As := [.int (xs (i + 1)), .int (xs (i + 2))]) (rest := [.int r]) (K := 51) (ci := 4) (σ' := jn (cq κ2 s2 t2 k2) (mq τ2 s2)) C (mX4_of (L := fun τ9 => jn (cq κ2 s2 t2 k2) τ9) (lnM_jn _) e2) cw_X4_of wd_784 (by decide) rfl rfl ⟨Nat.le_of_ble_eq_true rfl, Nat.le_of_ble_eq_true rfl⟩ rfl rfl (Nat.le_of_ble_eq_true rfl) dL_law_390 ?_
  refine v_icmp_eq (tgt := 1530) (Pt := some ()) (Pf := none) (res := ()) C dL_law_393 (by decide) (if_pos rfl) (fun _ => ?_) (fun hf => by cases hf)
  exact kk _ _ _ _ _ hI2
/-- case 6: change -/
theorem law_6 (C : Cx E B l0 cL_law RL ret9 4 13 482) (hX : LX E b L xs) (hL9 : L ≤ 3072) (hi : i + 6 ≤ L) (hhb : hb ≤ 40000) (hI : Inv hb κ s k τ) (kk : ∀ (κ2 : St2) (s2 t2 k2 : Nat → Int32) (τ2 : St2), Inv (hb + 60) κ2 s2 k2 τ2 → V E B (jn (cq κ2 s2 t2 k2) (mq τ2 s2)) 1530 (LV b B i) []) : V E B (jn (cq κ s t k) (mq τ s)) 398 (LV b B i) [] := by
  obtain ⟨r, κ2, s2, t2, k2, τ2, e1, e2, hI2⟩ := sim_change (t := t) (a := xs (i + 1)) (b := xs (i + 2)) (v := xs (i + 3)) hI
  refine v_aload_n C 1 dL_law_398 rfl rfl ?_
  refine l_arg (n := 1) C hX hL9 1 (by omega) dL_law_399 dL_law_400 dL_law_401 rfl dL_law_402 dL_law_403 ?_
  refine l_arg (n := 2) C hX hL9 2 (by omega) dL_law_404 dL_law_405 dL_law_406 rfl dL_law_407 dL_law_408 ?_
  refine l_arg (n := 3) C hX hL9 3 (by omega) dL_law_409 dL_law_410 dL_law_411 rfl dL_law_412 dL_law_413 ?_
  refine v_callV (r := some (.int r)) (As := [.int (xs (i + 1)), .int (xs (i + 2)), .int (xs (i + 3))]) (rest := []) (K := 0) (ci := 3) (σ' := jn (cq κ2 s2 t2 k2) (mq τ s)) C (mX3_change (L := fun κ9 => jn κ9 (mq τ s)) (lnC_jn _) e1) cw_X3_change wd_227 (by decide) rfl rfl ⟨Nat.le_of_ble_eq_true rfl, Nat.le_of_ble_eq_true rfl⟩ rfl rfl (Nat.le_of_ble_eq_true rfl) dL_law_414 ?_
  refine v_aload_n C 2 dL_law_417 rfl rfl ?_
  refine l_arg (n := 1) C hX hL9 1 (by omega) dL_law_418 dL_law_419 dL_law_420 rfl dL_law_421 dL_law_422 ?_
  refine l_arg (n := 2) C hX hL9 2 (by omega) dL_law_423 dL_law_424 dL_law_425 rfl dL_law_426 dL_law_427 ?_
  refine l_arg (n := 3) C hX hL9 3 (by omega) dL_law_428 dL_law_429 dL_law_430 rfl dL_law_431 dL_law_432 ?_
  refine v_callV (r := some (.int r)) (As := [.int (xs (i + 1)), .int (xs (i + 2)), .int (xs (i + 3))]) (rest := [.int r]) (K := 51) (ci := 4) (σ' := jn (cq κ2 s2 t2 k2) (mq τ2 s2)) C (mX4_change (L := fun τ9 => jn (cq κ2 s2 t2 k2) τ9) (lnM_jn _) e2) cw_X4_change wd_806 (by decide) rfl rfl ⟨Nat.le_of_ble_eq_true rfl, Nat.le_of_ble_eq_true rfl⟩ rfl rfl (Nat.le_of_ble_eq_true rfl) dL_law_433 ?_
  refine v_icmp_eq (tgt := 1530) (Pt := some ()) (Pf := none) (res := ()) C dL_law_436 (by decide) (if_pos rfl) (fun _ => ?_) (fun hf => by cases hf)
  exact kk _ _ _ _ _ hI2
/-- case 7: go -/
theorem law_7 (C : Cx E B l0 cL_law RL ret9 4 13 482) (hX : LX E b L xs) (hL9 : L ≤ 3072) (hi : i + 6 ≤ L) (hhb : hb ≤ 40000) (hI : Inv hb κ s k τ) (kk : ∀ (κ2 : St2) (s2 t2 k2 : Nat → Int32) (τ2 : St2), Inv (hb + 60) κ2 s2 k2 τ2 → V E B (jn (cq κ2 s2 t2 k2) (mq τ2 s2)) 1530 (LV b B i) []) : V E B (jn (cq κ s t k) (mq τ s)) 441 (LV b B i) [] := by
  obtain ⟨r, κ2, s2, t2, k2, τ2, e1, e2, hI2⟩ := sim_go (N := 1000) (t := t) (a := xs (i + 1)) (Nat.le_refl _) (by omega) hI
  refine v_aload_n C 1 dL_law_441 rfl rfl ?_
  refine l_arg (n := 1) C hX hL9 1 (by omega) dL_law_442 dL_law_443 dL_law_444 rfl dL_law_445 dL_law_446 ?_
  refine v_callV (r := some (.int r)) (As := [.int (xs (i + 1))]) (rest := []) (K := 0) (ci := 3) (σ' := jn (cq κ2 s2 t2 k2) (mq τ s)) C (mX3_go (L := fun κ9 => jn κ9 (mq τ s)) (lnC_jn _) e1) cw_X3_go wd_235 (by decide) rfl rfl ⟨Nat.le_of_ble_eq_true rfl, Nat.le_of_ble_eq_true rfl⟩ rfl rfl (Nat.le_of_ble_eq_true rfl) dL_law_447 ?_
  refine v_aload_n C 2 dL_law_450 rfl rfl ?_
  refine l_arg (n := 1) C hX hL9 1 (by omega) dL_law_451 dL_law_452 dL_law_453 rfl dL_law_454 dL_law_455 ?_
  refine v_callV (r := some (.int r)) (As := [.int (xs (i + 1))]) (rest := [.int r]) (K := 51) (ci := 4) (σ' := jn (cq κ2 s2 t2 k2) (mq τ2 s2)) C (mX4_go (L := fun τ9 => jn (cq κ2 s2 t2 k2) τ9) (lnM_jn _) e2) cw_X4_go wd_814 (by decide) rfl rfl ⟨Nat.le_of_ble_eq_true rfl, Nat.le_of_ble_eq_true rfl⟩ rfl rfl (Nat.le_of_ble_eq_true rfl) dL_law_456 ?_
  refine v_icmp_eq (tgt := 1530) (Pt := some ()) (Pf := none) (res := ()) C dL_law_459 (by decide) (if_pos rfl) (fun _ => ?_) (fun hf => by cases hf)
  exact kk _ _ _ _ _ hI2
/-- case 8: now -/
theorem law_8 (C : Cx E B l0 cL_law RL ret9 4 13 482) (hX : LX E b L xs) (hL9 : L ≤ 3072) (hi : i + 6 ≤ L) (hhb : hb ≤ 40000) (hI : Inv hb κ s k τ) (kk : ∀ (κ2 : St2) (s2 t2 k2 : Nat → Int32) (τ2 : St2), Inv (hb + 60) κ2 s2 k2 τ2 → V E B (jn (cq κ2 s2 t2 k2) (mq τ2 s2)) 1530 (LV b B i) []) : V E B (jn (cq κ s t k) (mq τ s)) 464 (LV b B i) [] := by
  obtain ⟨r, κ2, s2, t2, k2, τ2, e1, e2, hI2⟩ := sim_now (N := 1000) (t := t) (a := xs (i + 1)) (Nat.le_refl _) hI
  refine v_aload_n C 1 dL_law_464 rfl rfl ?_
  refine l_arg (n := 1) C hX hL9 1 (by omega) dL_law_465 dL_law_466 dL_law_467 rfl dL_law_468 dL_law_469 ?_
  refine v_callV (r := some (.int r)) (As := [.int (xs (i + 1))]) (rest := []) (K := 0) (ci := 3) (σ' := jn (cq κ2 s2 t2 k2) (mq τ s)) C (mX3_now (L := fun κ9 => jn κ9 (mq τ s)) (lnC_jn _) e1) cw_X3_now wd_274 (by decide) rfl rfl ⟨Nat.le_of_ble_eq_true rfl, Nat.le_of_ble_eq_true rfl⟩ rfl rfl (Nat.le_of_ble_eq_true rfl) dL_law_470 ?_
  refine v_aload_n C 2 dL_law_473 rfl rfl ?_
  refine l_arg (n := 1) C hX hL9 1 (by omega) dL_law_474 dL_law_475 dL_law_476 rfl dL_law_477 dL_law_478 ?_
  refine v_callV (r := some (.int r)) (As := [.int (xs (i + 1))]) (rest := [.int r]) (K := 51) (ci := 4) (σ' := jn (cq κ2 s2 t2 k2) (mq τ2 s2)) C (mX4_now (L := fun τ9 => jn (cq κ2 s2 t2 k2) τ9) (lnM_jn _) e2) cw_X4_now wd_839 (by decide) rfl rfl ⟨Nat.le_of_ble_eq_true rfl, Nat.le_of_ble_eq_true rfl⟩ rfl rfl (Nat.le_of_ble_eq_true rfl) dL_law_479 ?_
  refine v_icmp_eq (tgt := 1530) (Pt := some ()) (Pf := none) (res := ()) C dL_law_482 (by decide) (if_pos rfl) (fun _ => ?_) (fun hf => by cases hf)
  exact kk _ _ _ _ _ hI2
/-- case 9: line -/
theorem law_9 (C : Cx E B l0 cL_law RL ret9 4 13 482) (hX : LX E b L xs) (hL9 : L ≤ 3072) (hi : i + 6 ≤ L) (hhb : hb ≤ 40000) (hI : Inv hb κ s k τ) (kk : ∀ (κ2 : St2) (s2 t2 k2 : Nat → Int32) (τ2 : St2), Inv (hb + 60) κ2 s2 k2 τ2 → V E B (jn (cq κ2 s2 t2 k2) (mq τ2 s2)) 1530 (LV b B i) []) : V E B (jn (cq κ s t k) (mq τ s)) 487 (LV b B i) [] := by
  obtain ⟨r, κ2, s2, t2, k2, τ2, e1, e2, hI2⟩ := sim_line (N := 1000) (t := t) (a := xs (i + 1)) (Nat.le_refl _) hI
  refine v_aload_n C 1 dL_law_487 rfl rfl ?_
  refine l_arg (n := 1) C hX hL9 1 (by omega) dL_law_488 dL_law_489 dL_law_490 rfl dL_law_491 dL_law_492 ?_
  refine v_callV (r := some (.int r)) (As := [.int (xs (i + 1))]) (rest := []) (K := 0) (ci := 3) (σ' := jn (cq κ2 s2 t2 k2) (mq τ s)) C (mX3_line (L := fun κ9 => jn κ9 (mq τ s)) (lnC_jn _) e1) cw_X3_line wd_295 (by decide) rfl rfl ⟨Nat.le_of_ble_eq_true rfl, Nat.le_of_ble_eq_true rfl⟩ rfl rfl (Nat.le_of_ble_eq_true rfl) dL_law_493 ?_
  refine v_aload_n C 2 dL_law_496 rfl rfl ?_
  refine l_arg (n := 1) C hX hL9 1 (by omega) dL_law_497 dL_law_498 dL_law_499 rfl dL_law_500 dL_law_501 ?_
  refine v_callV (r := some (.int r)) (As := [.int (xs (i + 1))]) (rest := [.int r]) (K := 51) (ci := 4) (σ' := jn (cq κ2 s2 t2 k2) (mq τ2 s2)) C (mX4_line (L := fun τ9 => jn (cq κ2 s2 t2 k2) τ9) (lnM_jn _) e2) cw_X4_line wd_855 (by decide) rfl rfl ⟨Nat.le_of_ble_eq_true rfl, Nat.le_of_ble_eq_true rfl⟩ rfl rfl (Nat.le_of_ble_eq_true rfl) dL_law_502 ?_
  refine v_icmp_eq (tgt := 1530) (Pt := some ()) (Pf := none) (res := ()) C dL_law_505 (by decide) (if_pos rfl) (fun _ => ?_) (fun hf => by cases hf)
  exact kk _ _ _ _ _ hI2
/-- case 10: ahead -/
theorem law_10 (C : Cx E B l0 cL_law RL ret9 4 13 482) (hX : LX E b L xs) (hL9 : L ≤ 3072) (hi : i + 6 ≤ L) (hhb : hb ≤ 40000) (hI : Inv hb κ s k τ) (kk : ∀ (κ2 : St2) (s2 t2 k2 : Nat → Int32) (τ2 : St2), Inv (hb + 60) κ2 s2 k2 τ2 → V E B (jn (cq κ2 s2 t2 k2) (mq τ2 s2)) 1530 (LV b B i) []) : V E B (jn (cq κ s t k) (mq τ s)) 510 (LV b B i) [] := by
  obtain ⟨r, κ2, s2, t2, k2, τ2, e1, e2, hI2⟩ := sim_ahead (N := 1000) (t := t) (a := xs (i + 1)) (b := xs (i + 2)) (n := xs (i + 3)) (Nat.le_refl _) (by omega) hI
  refine v_aload_n C 1 dL_law_510 rfl rfl ?_
  refine l_arg (n := 1) C hX hL9 1 (by omega) dL_law_511 dL_law_512 dL_law_513 rfl dL_law_514 dL_law_515 ?_
  refine l_arg (n := 2) C hX hL9 2 (by omega) dL_law_516 dL_law_517 dL_law_518 rfl dL_law_519 dL_law_520 ?_
  refine l_arg (n := 3) C hX hL9 3 (by omega) dL_law_521 dL_law_522 dL_law_523 rfl dL_law_524 dL_law_525 ?_
  refine v_callV (r := some (.int r)) (As := [.int (xs (i + 1)), .int (xs (i + 2)), .int (xs (i + 3))]) (rest := []) (K := 0) (ci := 3) (σ' := jn (cq κ2 s2 t2 k2) (mq τ s)) C (mX3_ahead (L := fun κ9 => jn κ9 (mq τ s)) (lnC_jn _) e1) cw_X3_ahead wd_303 (by decide) rfl rfl ⟨Nat.le_of_ble_eq_true rfl, Nat.le_of_ble_eq_true rfl⟩ rfl rfl (Nat.le_of_ble_eq_true rfl) dL_law_526 ?_
  refine v_aload_n C 2 dL_law_529 rfl rfl ?_
  refine l_arg (n := 1) C hX hL9 1 (by omega) dL_law_530 dL_law_531 dL_law_532 rfl dL_law_533 dL_law_534 ?_
  refine l_arg (n := 2) C hX hL9 2 (by omega) dL_law_535 dL_law_536 dL_law_537 rfl dL_law_538 dL_law_539 ?_
  refine l_arg (n := 3) C hX hL9 3 (by omega) dL_law_540 dL_law_541 dL_law_542 rfl dL_law_543 dL_law_544 ?_
  refine v_callV (r := some (.int r)) (As := [.int (xs (i + 1)), .int (xs (i + 2)), .int (xs (i + 3))]) (rest := [.int r]) (K := 51) (ci := 4) (σ' := jn (cq κ2 s2 t2 k2) (mq τ2 s2)) C (mX4_ahead (L := fun τ9 => jn (cq κ2 s2 t2 k2) τ9) (lnM_jn _) e2) cw_X4_ahead wd_859 (by decide) rfl rfl ⟨Nat.le_of_ble_eq_true rfl, Nat.le_of_ble_eq_true rfl⟩ rfl rfl (Nat.le_of_ble_eq_true rfl) dL_law_545 ?_
  refine v_icmp_eq (tgt := 1530) (Pt := some ()) (Pf := none) (res := ()) C dL_law_548 (by decide) (if_pos rfl) (fun _ => ?_) (fun hf => by cases hf)
  exact kk _ _ _ _ _ hI2
/-- case 11: work -/
theorem law_11 (C : Cx E B l0 cL_law RL ret9 4 13 482) (hX : LX E b L xs) (hL9 : L ≤ 3072) (hi : i + 6 ≤ L) (hhb : hb ≤ 40000) (hI : Inv hb κ s k τ) (kk : ∀ (κ2 : St2) (s2 t2 k2 : Nat → Int32) (τ2 : St2), Inv (hb + 60) κ2 s2 k2 τ2 → V E B (jn (cq κ2 s2 t2 k2) (mq τ2 s2)) 1530 (LV b B i) []) : V E B (jn (cq κ s t k) (mq τ s)) 553 (LV b B i) [] := by
  obtain ⟨r, κ2, s2, t2, k2, τ2, e1, e2, hI2⟩ := sim_work (N := 1000) (t := t) (a := xs (i + 1)) (n := xs (i + 2)) (Nat.le_refl _) (by omega) hI
  refine v_aload_n C 1 dL_law_553 rfl rfl ?_
  refine l_arg (n := 1) C hX hL9 1 (by omega) dL_law_554 dL_law_555 dL_law_556 rfl dL_law_557 dL_law_558 ?_
  refine l_arg (n := 2) C hX hL9 2 (by omega) dL_law_559 dL_law_560 dL_law_561 rfl dL_law_562 dL_law_563 ?_
  refine v_callV (r := some (.int r)) (As := [.int (xs (i + 1)), .int (xs (i + 2))]) (rest := []) (K := 0) (ci := 3) (σ' := jn (cq κ2 s2 t2 k2) (mq τ s)) C (mX3_work (L := fun κ9 => jn κ9 (mq τ s)) (lnC_jn _) e1) cw_X3_work wd_314 (by decide) rfl rfl ⟨Nat.le_of_ble_eq_true rfl, Nat.le_of_ble_eq_true rfl⟩ rfl rfl (Nat.le_of_ble_eq_true rfl) dL_law_564 ?_
  refine v_aload_n C 2 dL_law_567 rfl rfl ?_
  refine l_arg (n := 1) C hX hL9 1 (by omega) dL_law_568 dL_law_569 dL_law_570 rfl dL_law_571 dL_law_572 ?_
  refine l_arg (n := 2) C hX hL9 2 (by omega) dL_law_573 dL_law_574 dL_law_575 rfl dL_law_576 dL_law_577 ?_
  refine v_callV (r := some (.int r)) (As := [.int (xs (i + 1)), .int (xs (i + 2))]) (rest := [.int r]) (K := 51) (ci := 4) (σ' := jn (cq κ2 s2 t2 k2) (mq τ2 s2)) C (mX4_work (L := fun τ9 => jn (cq κ2 s2 t2 k2) τ9) (lnM_jn _) e2) cw_X4_work wd_879 (by decide) rfl rfl ⟨Nat.le_of_ble_eq_true rfl, Nat.le_of_ble_eq_true rfl⟩ rfl rfl (Nat.le_of_ble_eq_true rfl) dL_law_578 ?_
  refine v_icmp_eq (tgt := 1530) (Pt := some ()) (Pf := none) (res := ()) C dL_law_581 (by decide) (if_pos rfl) (fun _ => ?_) (fun hf => by cases hf)
  exact kk _ _ _ _ _ hI2
/-- case 12: when -/
theorem law_12 (C : Cx E B l0 cL_law RL ret9 4 13 482) (hX : LX E b L xs) (hL9 : L ≤ 3072) (hi : i + 6 ≤ L) (hhb : hb ≤ 40000) (hI : Inv hb κ s k τ) (kk : ∀ (κ2 : St2) (s2 t2 k2 : Nat → Int32) (τ2 : St2), Inv (hb + 60) κ2 s2 k2 τ2 → V E B (jn (cq κ2 s2 t2 k2) (mq τ2 s2)) 1530 (LV b B i) []) : V E B (jn (cq κ s t k) (mq τ s)) 586 (LV b B i) [] := by
  obtain ⟨r, κ2, s2, t2, k2, τ2, e1, e2, hI2⟩ := sim_when (N := 1000) (t := t) (a := xs (i + 1)) (b := xs (i + 2)) (Nat.le_refl _) (by omega) hI
  refine v_aload_n C 1 dL_law_586 rfl rfl ?_
  refine l_arg (n := 1) C hX hL9 1 (by omega) dL_law_587 dL_law_588 dL_law_589 rfl dL_law_590 dL_law_591 ?_
  refine l_arg (n := 2) C hX hL9 2 (by omega) dL_law_592 dL_law_593 dL_law_594 rfl dL_law_595 dL_law_596 ?_
  refine v_callV (r := some (.int r)) (As := [.int (xs (i + 1)), .int (xs (i + 2))]) (rest := []) (K := 0) (ci := 3) (σ' := jn (cq κ2 s2 t2 k2) (mq τ s)) C (mX3_when (L := fun κ9 => jn κ9 (mq τ s)) (lnC_jn _) e1) cw_X3_when wd_319 (by decide) rfl rfl ⟨Nat.le_of_ble_eq_true rfl, Nat.le_of_ble_eq_true rfl⟩ rfl rfl (Nat.le_of_ble_eq_true rfl) dL_law_597 ?_
  refine v_aload_n C 2 dL_law_600 rfl rfl ?_
  refine l_arg (n := 1) C hX hL9 1 (by omega) dL_law_601 dL_law_602 dL_law_603 rfl dL_law_604 dL_law_605 ?_
  refine l_arg (n := 2) C hX hL9 2 (by omega) dL_law_606 dL_law_607 dL_law_608 rfl dL_law_609 dL_law_610 ?_
  refine v_callV (r := some (.int r)) (As := [.int (xs (i + 1)), .int (xs (i + 2))]) (rest := [.int r]) (K := 51) (ci := 4) (σ' := jn (cq κ2 s2 t2 k2) (mq τ2 s2)) C (mX4_when (L := fun τ9 => jn (cq κ2 s2 t2 k2) τ9) (lnM_jn _) e2) cw_X4_when wd_887 (by decide) rfl rfl ⟨Nat.le_of_ble_eq_true rfl, Nat.le_of_ble_eq_true rfl⟩ rfl rfl (Nat.le_of_ble_eq_true rfl) dL_law_611 ?_
  refine v_icmp_eq (tgt := 1530) (Pt := some ()) (Pf := none) (res := ()) C dL_law_614 (by decide) (if_pos rfl) (fun _ => ?_) (fun hf => by cases hf)
  exact kk _ _ _ _ _ hI2
/-- case 13: gone -/
theorem law_13 (C : Cx E B l0 cL_law RL ret9 4 13 482) (hX : LX E b L xs) (hL9 : L ≤ 3072) (hi : i + 6 ≤ L) (hhb : hb ≤ 40000) (hI : Inv hb κ s k τ) (kk : ∀ (κ2 : St2) (s2 t2 k2 : Nat → Int32) (τ2 : St2), Inv (hb + 60) κ2 s2 k2 τ2 → V E B (jn (cq κ2 s2 t2 k2) (mq τ2 s2)) 1530 (LV b B i) []) : V E B (jn (cq κ s t k) (mq τ s)) 619 (LV b B i) [] := by
  obtain ⟨r, κ2, s2, t2, k2, τ2, e1, e2, hI2⟩ := sim_gone (N := 1000) (t := t) (a := xs (i + 1)) (Nat.le_refl _) (by omega) hI
  refine v_aload_n C 1 dL_law_619 rfl rfl ?_
  refine l_arg (n := 1) C hX hL9 1 (by omega) dL_law_620 dL_law_621 dL_law_622 rfl dL_law_623 dL_law_624 ?_
  refine v_callV (r := some (.int r)) (As := [.int (xs (i + 1))]) (rest := []) (K := 0) (ci := 3) (σ' := jn (cq κ2 s2 t2 k2) (mq τ s)) C (mX3_gone (L := fun κ9 => jn κ9 (mq τ s)) (lnC_jn _) e1) cw_X3_gone wd_329 (by decide) rfl rfl ⟨Nat.le_of_ble_eq_true rfl, Nat.le_of_ble_eq_true rfl⟩ rfl rfl (Nat.le_of_ble_eq_true rfl) dL_law_625 ?_
  refine v_aload_n C 2 dL_law_628 rfl rfl ?_
  refine l_arg (n := 1) C hX hL9 1 (by omega) dL_law_629 dL_law_630 dL_law_631 rfl dL_law_632 dL_law_633 ?_
  refine v_callV (r := some (.int r)) (As := [.int (xs (i + 1))]) (rest := [.int r]) (K := 51) (ci := 4) (σ' := jn (cq κ2 s2 t2 k2) (mq τ2 s2)) C (mX4_gone (L := fun τ9 => jn (cq κ2 s2 t2 k2) τ9) (lnM_jn _) e2) cw_X4_gone wd_895 (by decide) rfl rfl ⟨Nat.le_of_ble_eq_true rfl, Nat.le_of_ble_eq_true rfl⟩ rfl rfl (Nat.le_of_ble_eq_true rfl) dL_law_634 ?_
  refine v_icmp_eq (tgt := 1530) (Pt := some ()) (Pf := none) (res := ()) C dL_law_637 (by decide) (if_pos rfl) (fun _ => ?_) (fun hf => by cases hf)
  exact kk _ _ _ _ _ hI2
/-- case 14: meet -/
theorem law_14 (C : Cx E B l0 cL_law RL ret9 4 13 482) (hX : LX E b L xs) (hL9 : L ≤ 3072) (hi : i + 6 ≤ L) (hhb : hb ≤ 40000) (hI : Inv hb κ s k τ) (kk : ∀ (κ2 : St2) (s2 t2 k2 : Nat → Int32) (τ2 : St2), Inv (hb + 60) κ2 s2 k2 τ2 → V E B (jn (cq κ2 s2 t2 k2) (mq τ2 s2)) 1530 (LV b B i) []) : V E B (jn (cq κ s t k) (mq τ s)) 642 (LV b B i) [] := by
  obtain ⟨r, κ2, s2, t2, k2, τ2, e1, e2, hI2⟩ := sim_meet (N := 1000) (t := t) (a := xs (i + 1)) (b := xs (i + 2)) (Nat.le_refl _) (by omega) hI
  refine v_aload_n C 1 dL_law_642 rfl rfl ?_
  refine l_arg (n := 1) C hX hL9 1 (by omega) dL_law_643 dL_law_644 dL_law_645 rfl dL_law_646 dL_law_647 ?_
  refine l_arg (n := 2) C hX hL9 2 (by omega) dL_law_648 dL_law_649 dL_law_650 rfl dL_law_651 dL_law_652 ?_
  refine v_callV (r := some (.int r)) (As := [.int (xs (i + 1)), .int (xs (i + 2))]) (rest := []) (K := 0) (ci := 3) (σ' := jn (cq κ2 s2 t2 k2) (mq τ s)) C (mX3_meet (L := fun κ9 => jn κ9 (mq τ s)) (lnC_jn _) e1) cw_X3_meet wd_333 (by decide) rfl rfl ⟨Nat.le_of_ble_eq_true rfl, Nat.le_of_ble_eq_true rfl⟩ rfl rfl (Nat.le_of_ble_eq_true rfl) dL_law_653 ?_
  refine v_aload_n C 2 dL_law_656 rfl rfl ?_
  refine l_arg (n := 1) C hX hL9 1 (by omega) dL_law_657 dL_law_658 dL_law_659 rfl dL_law_660 dL_law_661 ?_
  refine l_arg (n := 2) C hX hL9 2 (by omega) dL_law_662 dL_law_663 dL_law_664 rfl dL_law_665 dL_law_666 ?_
  refine v_callV (r := some (.int r)) (As := [.int (xs (i + 1)), .int (xs (i + 2))]) (rest := [.int r]) (K := 51) (ci := 4) (σ' := jn (cq κ2 s2 t2 k2) (mq τ2 s2)) C (mX4_meet (L := fun τ9 => jn (cq κ2 s2 t2 k2) τ9) (lnM_jn _) e2) cw_X4_meet wd_899 (by decide) rfl rfl ⟨Nat.le_of_ble_eq_true rfl, Nat.le_of_ble_eq_true rfl⟩ rfl rfl (Nat.le_of_ble_eq_true rfl) dL_law_667 ?_
  refine v_icmp_eq (tgt := 1530) (Pt := some ()) (Pf := none) (res := ()) C dL_law_670 (by decide) (if_pos rfl) (fun _ => ?_) (fun hf => by cases hf)
  exact kk _ _ _ _ _ hI2
/-- case 15: strideFor -/
theorem law_15 (C : Cx E B l0 cL_law RL ret9 4 13 482) (hX : LX E b L xs) (hL9 : L ≤ 3072) (hi : i + 6 ≤ L) (hhb : hb ≤ 40000) (hI : Inv hb κ s k τ) (kk : ∀ (κ2 : St2) (s2 t2 k2 : Nat → Int32) (τ2 : St2), Inv (hb + 60) κ2 s2 k2 τ2 → V E B (jn (cq κ2 s2 t2 k2) (mq τ2 s2)) 1530 (LV b B i) []) : V E B (jn (cq κ s t k) (mq τ s)) 675 (LV b B i) [] := by
  obtain ⟨r, κ2, s2, t2, k2, τ2, e1, e2, hI2⟩ := sim_strideFor (N := 1000) (t := t) (a := xs (i + 1)) (n := xs (i + 2)) (Nat.le_refl _) (by omega) hI
  refine v_aload_n C 1 dL_law_675 rfl rfl ?_
  refine l_arg (n := 1) C hX hL9 1 (by omega) dL_law_676 dL_law_677 dL_law_678 rfl dL_law_679 dL_law_680 ?_
  refine l_arg (n := 2) C hX hL9 2 (by omega) dL_law_681 dL_law_682 dL_law_683 rfl dL_law_684 dL_law_685 ?_
  refine v_callV (r := some (.int r)) (As := [.int (xs (i + 1)), .int (xs (i + 2))]) (rest := []) (K := 0) (ci := 3) (σ' := jn (cq κ2 s2 t2 k2) (mq τ s)) C (mX3_strideFor (L := fun κ9 => jn κ9 (mq τ s)) (lnC_jn _) e1) cw_X3_strideFor wd_337 (by decide) rfl rfl ⟨Nat.le_of_ble_eq_true rfl, Nat.le_of_ble_eq_true rfl⟩ rfl rfl (Nat.le_of_ble_eq_true rfl) dL_law_686 ?_
  refine v_aload_n C 2 dL_law_689 rfl rfl ?_
  refine l_arg (n := 1) C hX hL9 1 (by omega) dL_law_690 dL_law_691 dL_law_692 rfl dL_law_693 dL_law_694 ?_
  refine l_arg (n := 2) C hX hL9 2 (by omega) dL_law_695 dL_law_696 dL_law_697 rfl dL_law_698 dL_law_699 ?_
  refine v_callV (r := some (.int r)) (As := [.int (xs (i + 1)), .int (xs (i + 2))]) (rest := [.int r]) (K := 51) (ci := 4) (σ' := jn (cq κ2 s2 t2 k2) (mq τ2 s2)) C (mX4_strideFor (L := fun τ9 => jn (cq κ2 s2 t2 k2) τ9) (lnM_jn _) e2) cw_X4_strideFor wd_903 (by decide) rfl rfl ⟨Nat.le_of_ble_eq_true rfl, Nat.le_of_ble_eq_true rfl⟩ rfl rfl (Nat.le_of_ble_eq_true rfl) dL_law_700 ?_
  refine v_icmp_eq (tgt := 1530) (Pt := some ()) (Pf := none) (res := ()) C dL_law_703 (by decide) (if_pos rfl) (fun _ => ?_) (fun hf => by cases hf)
  exact kk _ _ _ _ _ hI2
/-- case 16: start -/
theorem law_16 (C : Cx E B l0 cL_law RL ret9 4 13 482) (hX : LX E b L xs) (hL9 : L ≤ 3072) (hi : i + 6 ≤ L) (hhb : hb ≤ 40000) (hI : Inv hb κ s k τ) (kk : ∀ (κ2 : St2) (s2 t2 k2 : Nat → Int32) (τ2 : St2), Inv (hb + 60) κ2 s2 k2 τ2 → V E B (jn (cq κ2 s2 t2 k2) (mq τ2 s2)) 1530 (LV b B i) []) : V E B (jn (cq κ s t k) (mq τ s)) 708 (LV b B i) [] := by
  obtain ⟨r, κ2, s2, t2, k2, τ2, e1, e2, hI2⟩ := sim_start (N := 1000) (t := t) (a := xs (i + 1)) (n := xs (i + 2)) (Nat.le_refl _) (by omega) hI
  refine v_aload_n C 1 dL_law_708 rfl rfl ?_
  refine l_arg (n := 1) C hX hL9 1 (by omega) dL_law_709 dL_law_710 dL_law_711 rfl dL_law_712 dL_law_713 ?_
  refine l_arg (n := 2) C hX hL9 2 (by omega) dL_law_714 dL_law_715 dL_law_716 rfl dL_law_717 dL_law_718 ?_
  refine v_callV (r := some (.int r)) (As := [.int (xs (i + 1)), .int (xs (i + 2))]) (rest := []) (K := 0) (ci := 3) (σ' := jn (cq κ2 s2 t2 k2) (mq τ s)) C (mX3_start (L := fun κ9 => jn κ9 (mq τ s)) (lnC_jn _) e1) cw_X3_start wd_349 (by decide) rfl rfl ⟨Nat.le_of_ble_eq_true rfl, Nat.le_of_ble_eq_true rfl⟩ rfl rfl (Nat.le_of_ble_eq_true rfl) dL_law_719 ?_
  refine v_aload_n C 2 dL_law_722 rfl rfl ?_
  refine l_arg (n := 1) C hX hL9 1 (by omega) dL_law_723 dL_law_724 dL_law_725 rfl dL_law_726 dL_law_727 ?_
  refine l_arg (n := 2) C hX hL9 2 (by omega) dL_law_728 dL_law_729 dL_law_730 rfl dL_law_731 dL_law_732 ?_
  refine v_callV (r := some (.int r)) (As := [.int (xs (i + 1)), .int (xs (i + 2))]) (rest := [.int r]) (K := 51) (ci := 4) (σ' := jn (cq κ2 s2 t2 k2) (mq τ2 s2)) C (mX4_start (L := fun τ9 => jn (cq κ2 s2 t2 k2) τ9) (lnM_jn _) e2) cw_X4_start wd_919 (by decide) rfl rfl ⟨Nat.le_of_ble_eq_true rfl, Nat.le_of_ble_eq_true rfl⟩ rfl rfl (Nat.le_of_ble_eq_true rfl) dL_law_733 ?_
  refine v_icmp_eq (tgt := 1530) (Pt := some ()) (Pf := none) (res := ()) C dL_law_736 (by decide) (if_pos rfl) (fun _ => ?_) (fun hf => by cases hf)
  exact kk _ _ _ _ _ hI2
/-- case 17: kindFor -/
theorem law_17 (C : Cx E B l0 cL_law RL ret9 4 13 482) (hX : LX E b L xs) (hL9 : L ≤ 3072) (hi : i + 6 ≤ L) (hhb : hb ≤ 40000) (hI : Inv hb κ s k τ) (kk : ∀ (κ2 : St2) (s2 t2 k2 : Nat → Int32) (τ2 : St2), Inv (hb + 60) κ2 s2 k2 τ2 → V E B (jn (cq κ2 s2 t2 k2) (mq τ2 s2)) 1530 (LV b B i) []) : V E B (jn (cq κ s t k) (mq τ s)) 741 (LV b B i) [] := by
  obtain ⟨r, κ2, s2, t2, k2, τ2, e1, e2, hI2⟩ := sim_kindFor (N := 1000) (t := t) (a := xs (i + 1)) (n := xs (i + 2)) (Nat.le_refl _) (by omega) hI
  refine v_aload_n C 1 dL_law_741 rfl rfl ?_
  refine l_arg (n := 1) C hX hL9 1 (by omega) dL_law_742 dL_law_743 dL_law_744 rfl dL_law_745 dL_law_746 ?_
  refine l_arg (n := 2) C hX hL9 2 (by omega) dL_law_747 dL_law_748 dL_law_749 rfl dL_law_750 dL_law_751 ?_
  refine v_callV (r := some (.int r)) (As := [.int (xs (i + 1)), .int (xs (i + 2))]) (rest := []) (K := 0) (ci := 3) (σ' := jn (cq κ2 s2 t2 k2) (mq τ s)) C (mX3_kindFor (L := fun κ9 => jn κ9 (mq τ s)) (lnC_jn _) e1) cw_X3_kindFor wd_353 (by decide) rfl rfl ⟨Nat.le_of_ble_eq_true rfl, Nat.le_of_ble_eq_true rfl⟩ rfl rfl (Nat.le_of_ble_eq_true rfl) dL_law_752 ?_
  refine v_aload_n C 2 dL_law_755 rfl rfl ?_
  refine l_arg (n := 1) C hX hL9 1 (by omega) dL_law_756 dL_law_757 dL_law_758 rfl dL_law_759 dL_law_760 ?_
  refine l_arg (n := 2) C hX hL9 2 (by omega) dL_law_761 dL_law_762 dL_law_763 rfl dL_law_764 dL_law_765 ?_
  refine v_callV (r := some (.int r)) (As := [.int (xs (i + 1)), .int (xs (i + 2))]) (rest := [.int r]) (K := 51) (ci := 4) (σ' := jn (cq κ2 s2 t2 k2) (mq τ2 s2)) C (mX4_kindFor (L := fun τ9 => jn (cq κ2 s2 t2 k2) τ9) (lnM_jn _) e2) cw_X4_kindFor wd_923 (by decide) rfl rfl ⟨Nat.le_of_ble_eq_true rfl, Nat.le_of_ble_eq_true rfl⟩ rfl rfl (Nat.le_of_ble_eq_true rfl) dL_law_766 ?_
  refine v_icmp_eq (tgt := 1530) (Pt := some ()) (Pf := none) (res := ()) C dL_law_769 (by decide) (if_pos rfl) (fun _ => ?_) (fun hf => by cases hf)
  exact kk _ _ _ _ _ hI2
/-- case 18: reachFor -/
theorem law_18 (C : Cx E B l0 cL_law RL ret9 4 13 482) (hX : LX E b L xs) (hL9 : L ≤ 3072) (hi : i + 6 ≤ L) (hhb : hb ≤ 40000) (hI : Inv hb κ s k τ) (kk : ∀ (κ2 : St2) (s2 t2 k2 : Nat → Int32) (τ2 : St2), Inv (hb + 60) κ2 s2 k2 τ2 → V E B (jn (cq κ2 s2 t2 k2) (mq τ2 s2)) 1530 (LV b B i) []) : V E B (jn (cq κ s t k) (mq τ s)) 774 (LV b B i) [] := by
  obtain ⟨r, κ2, s2, t2, k2, τ2, e1, e2, hI2⟩ := sim_reachFor (N := 1000) (t := t) (a := xs (i + 1)) (n := xs (i + 2)) (Nat.le_refl _) (by omega) hI
  refine v_aload_n C 1 dL_law_774 rfl rfl ?_
  refine l_arg (n := 1) C hX hL9 1 (by omega) dL_law_775 dL_law_776 dL_law_777 rfl dL_law_778 dL_law_779 ?_
  refine l_arg (n := 2) C hX hL9 2 (by omega) dL_law_780 dL_law_781 dL_law_782 rfl dL_law_783 dL_law_784 ?_
  refine v_callV (r := some (.int r)) (As := [.int (xs (i + 1)), .int (xs (i + 2))]) (rest := []) (K := 0) (ci := 3) (σ' := jn (cq κ2 s2 t2 k2) (mq τ s)) C (mX3_reachFor (L := fun κ9 => jn κ9 (mq τ s)) (lnC_jn _) e1) cw_X3_reachFor wd_357 (by decide) rfl rfl ⟨Nat.le_of_ble_eq_true rfl, Nat.le_of_ble_eq_true rfl⟩ rfl rfl (Nat.le_of_ble_eq_true rfl) dL_law_785 ?_
  refine v_aload_n C 2 dL_law_788 rfl rfl ?_
  refine l_arg (n := 1) C hX hL9 1 (by omega) dL_law_789 dL_law_790 dL_law_791 rfl dL_law_792 dL_law_793 ?_
  refine l_arg (n := 2) C hX hL9 2 (by omega) dL_law_794 dL_law_795 dL_law_796 rfl dL_law_797 dL_law_798 ?_
  refine v_callV (r := some (.int r)) (As := [.int (xs (i + 1)), .int (xs (i + 2))]) (rest := [.int r]) (K := 51) (ci := 4) (σ' := jn (cq κ2 s2 t2 k2) (mq τ2 s2)) C (mX4_reachFor (L := fun τ9 => jn (cq κ2 s2 t2 k2) τ9) (lnM_jn _) e2) cw_X4_reachFor wd_927 (by decide) rfl rfl ⟨Nat.le_of_ble_eq_true rfl, Nat.le_of_ble_eq_true rfl⟩ rfl rfl (Nat.le_of_ble_eq_true rfl) dL_law_799 ?_
  refine v_icmp_eq (tgt := 1530) (Pt := some ()) (Pf := none) (res := ()) C dL_law_802 (by decide) (if_pos rfl) (fun _ => ?_) (fun hf => by cases hf)
  exact kk _ _ _ _ _ hI2
/-- case 19: weightFor -/
theorem law_19 (C : Cx E B l0 cL_law RL ret9 4 13 482) (hX : LX E b L xs) (hL9 : L ≤ 3072) (hi : i + 6 ≤ L) (hhb : hb ≤ 40000) (hI : Inv hb κ s k τ) (kk : ∀ (κ2 : St2) (s2 t2 k2 : Nat → Int32) (τ2 : St2), Inv (hb + 60) κ2 s2 k2 τ2 → V E B (jn (cq κ2 s2 t2 k2) (mq τ2 s2)) 1530 (LV b B i) []) : V E B (jn (cq κ s t k) (mq τ s)) 807 (LV b B i) [] := by
  obtain ⟨r, κ2, s2, t2, k2, τ2, e1, e2, hI2⟩ := sim_weightFor (N := 1000) (t := t) (a := xs (i + 1)) (b := xs (i + 2)) (n := xs (i + 3)) (Nat.le_refl _) (by omega) hI
  refine v_aload_n C 1 dL_law_807 rfl rfl ?_
  refine l_arg (n := 1) C hX hL9 1 (by omega) dL_law_808 dL_law_809 dL_law_810 rfl dL_law_811 dL_law_812 ?_
  refine l_arg (n := 2) C hX hL9 2 (by omega) dL_law_813 dL_law_814 dL_law_815 rfl dL_law_816 dL_law_817 ?_
  refine l_arg (n := 3) C hX hL9 3 (by omega) dL_law_818 dL_law_819 dL_law_820 rfl dL_law_821 dL_law_822 ?_
  refine v_callV (r := some (.int r)) (As := [.int (xs (i + 1)), .int (xs (i + 2)), .int (xs (i + 3))]) (rest := []) (K := 0) (ci := 3) (σ' := jn (cq κ2 s2 t2 k2) (mq τ s)) C (mX3_weightFor (L := fun κ9 => jn κ9 (mq τ s)) (lnC_jn _) e1) cw_X3_weightFor wd_361 (by decide) rfl rfl ⟨Nat.le_of_ble_eq_true rfl, Nat.le_of_ble_eq_true rfl⟩ rfl rfl (Nat.le_of_ble_eq_true rfl) dL_law_823 ?_
  refine v_aload_n C 2 dL_law_826 rfl rfl ?_
  refine l_arg (n := 1) C hX hL9 1 (by omega) dL_law_827 dL_law_828 dL_law_829 rfl dL_law_830 dL_law_831 ?_
  refine l_arg (n := 2) C hX hL9 2 (by omega) dL_law_832 dL_law_833 dL_law_834 rfl dL_law_835 dL_law_836 ?_
  refine l_arg (n := 3) C hX hL9 3 (by omega) dL_law_837 dL_law_838 dL_law_839 rfl dL_law_840 dL_law_841 ?_
  refine v_callV (r := some (.int r)) (As := [.int (xs (i + 1)), .int (xs (i + 2)), .int (xs (i + 3))]) (rest := [.int r]) (K := 51) (ci := 4) (σ' := jn (cq κ2 s2 t2 k2) (mq τ2 s2)) C (mX4_weightFor (L := fun τ9 => jn (cq κ2 s2 t2 k2) τ9) (lnM_jn _) e2) cw_X4_weightFor wd_935 (by decide) rfl rfl ⟨Nat.le_of_ble_eq_true rfl, Nat.le_of_ble_eq_true rfl⟩ rfl rfl (Nat.le_of_ble_eq_true rfl) dL_law_842 ?_
  refine v_icmp_eq (tgt := 1530) (Pt := some ()) (Pf := none) (res := ()) C dL_law_845 (by decide) (if_pos rfl) (fun _ => ?_) (fun hf => by cases hf)
  exact kk _ _ _ _ _ hI2
/-- case 20: away -/
theorem law_20 (C : Cx E B l0 cL_law RL ret9 4 13 482) (hX : LX E b L xs) (hL9 : L ≤ 3072) (hi : i + 6 ≤ L) (hhb : hb ≤ 40000) (hI : Inv hb κ s k τ) (kk : ∀ (κ2 : St2) (s2 t2 k2 : Nat → Int32) (τ2 : St2), Inv (hb + 60) κ2 s2 k2 τ2 → V E B (jn (cq κ2 s2 t2 k2) (mq τ2 s2)) 1530 (LV b B i) []) : V E B (jn (cq κ s t k) (mq τ s)) 850 (LV b B i) [] := by
  obtain ⟨r, κ2, s2, t2, k2, τ2, e1, e2, hI2⟩ := sim_away (N := 1000) (t := t) (a := xs (i + 1)) (n := xs (i + 2)) (Nat.le_refl _) (by omega) hI
  refine v_aload_n C 1 dL_law_850 rfl rfl ?_
  refine l_arg (n := 1) C hX hL9 1 (by omega) dL_law_851 dL_law_852 dL_law_853 rfl dL_law_854 dL_law_855 ?_
  refine l_arg (n := 2) C hX hL9 2 (by omega) dL_law_856 dL_law_857 dL_law_858 rfl dL_law_859 dL_law_860 ?_
  refine v_callV (r := some (.int r)) (As := [.int (xs (i + 1)), .int (xs (i + 2))]) (rest := []) (K := 0) (ci := 3) (σ' := jn (cq κ2 s2 t2 k2) (mq τ s)) C (mX3_away (L := fun κ9 => jn κ9 (mq τ s)) (lnC_jn _) e1) cw_X3_away wd_365 (by decide) rfl rfl ⟨Nat.le_of_ble_eq_true rfl, Nat.le_of_ble_eq_true rfl⟩ rfl rfl (Nat.le_of_ble_eq_true rfl) dL_law_861 ?_
  refine v_aload_n C 2 dL_law_864 rfl rfl ?_
  refine l_arg (n := 1) C hX hL9 1 (by omega) dL_law_865 dL_law_866 dL_law_867 rfl dL_law_868 dL_law_869 ?_
  refine l_arg (n := 2) C hX hL9 2 (by omega) dL_law_870 dL_law_871 dL_law_872 rfl dL_law_873 dL_law_874 ?_
  refine v_callV (r := some (.int r)) (As := [.int (xs (i + 1)), .int (xs (i + 2))]) (rest := [.int r]) (K := 51) (ci := 4) (σ' := jn (cq κ2 s2 t2 k2) (mq τ2 s2)) C (mX4_away (L := fun τ9 => jn (cq κ2 s2 t2 k2) τ9) (lnM_jn _) e2) cw_X4_away wd_939 (by decide) rfl rfl ⟨Nat.le_of_ble_eq_true rfl, Nat.le_of_ble_eq_true rfl⟩ rfl rfl (Nat.le_of_ble_eq_true rfl) dL_law_875 ?_
  refine v_icmp_eq (tgt := 1530) (Pt := some ()) (Pf := none) (res := ()) C dL_law_878 (by decide) (if_pos rfl) (fun _ => ?_) (fun hf => by cases hf)
  exact kk _ _ _ _ _ hI2
/-- case 21: censor -/
theorem law_21 (C : Cx E B l0 cL_law RL ret9 4 13 482) (hX : LX E b L xs) (hL9 : L ≤ 3072) (hi : i + 6 ≤ L) (hhb : hb ≤ 40000) (hI : Inv hb κ s k τ) (kk : ∀ (κ2 : St2) (s2 t2 k2 : Nat → Int32) (τ2 : St2), Inv (hb + 60) κ2 s2 k2 τ2 → V E B (jn (cq κ2 s2 t2 k2) (mq τ2 s2)) 1530 (LV b B i) []) : V E B (jn (cq κ s t k) (mq τ s)) 883 (LV b B i) [] := by
  obtain ⟨r, κ2, s2, t2, k2, τ2, e1, e2, hI2⟩ := sim_censor (N := 1000) (t := t) (a := xs (i + 1)) (Nat.le_refl _) (by omega) hI
  refine v_aload_n C 1 dL_law_883 rfl rfl ?_
  refine l_arg (n := 1) C hX hL9 1 (by omega) dL_law_884 dL_law_885 dL_law_886 rfl dL_law_887 dL_law_888 ?_
  refine v_callV (r := some (.int r)) (As := [.int (xs (i + 1))]) (rest := []) (K := 0) (ci := 3) (σ' := jn (cq κ2 s2 t2 k2) (mq τ s)) C (mX3_censor (L := fun κ9 => jn κ9 (mq τ s)) (lnC_jn _) e1) cw_X3_censor wd_374 (by decide) rfl rfl ⟨Nat.le_of_ble_eq_true rfl, Nat.le_of_ble_eq_true rfl⟩ rfl rfl (Nat.le_of_ble_eq_true rfl) dL_law_889 ?_
  refine v_aload_n C 2 dL_law_892 rfl rfl ?_
  refine l_arg (n := 1) C hX hL9 1 (by omega) dL_law_893 dL_law_894 dL_law_895 rfl dL_law_896 dL_law_897 ?_
  refine v_callV (r := some (.int r)) (As := [.int (xs (i + 1))]) (rest := [.int r]) (K := 51) (ci := 4) (σ' := jn (cq κ2 s2 t2 k2) (mq τ2 s2)) C (mX4_censor (L := fun τ9 => jn (cq κ2 s2 t2 k2) τ9) (lnM_jn _) e2) cw_X4_censor wd_944 (by decide) rfl rfl ⟨Nat.le_of_ble_eq_true rfl, Nat.le_of_ble_eq_true rfl⟩ rfl rfl (Nat.le_of_ble_eq_true rfl) dL_law_898 ?_
  refine v_icmp_eq (tgt := 1530) (Pt := some ()) (Pf := none) (res := ()) C dL_law_901 (by decide) (if_pos rfl) (fun _ => ?_) (fun hf => by cases hf)
  exact kk _ _ _ _ _ hI2
/-- case 22: fits -/
theorem law_22 (C : Cx E B l0 cL_law RL ret9 4 13 482) (hX : LX E b L xs) (hL9 : L ≤ 3072) (hi : i + 6 ≤ L) (hhb : hb ≤ 40000) (hI : Inv hb κ s k τ) (kk : ∀ (κ2 : St2) (s2 t2 k2 : Nat → Int32) (τ2 : St2), Inv (hb + 60) κ2 s2 k2 τ2 → V E B (jn (cq κ2 s2 t2 k2) (mq τ2 s2)) 1530 (LV b B i) []) : V E B (jn (cq κ s t k) (mq τ s)) 906 (LV b B i) [] := by
  obtain ⟨r, κ2, s2, t2, k2, τ2, e1, e2, hI2⟩ := sim_fits (N := 1000) (t := t) (v1 := xs (i + 1)) (v2 := xs (i + 2)) (v3 := xs (i + 3)) (Nat.le_refl _) (by omega) hI
  refine v_aload_n C 1 dL_law_906 rfl rfl ?_
  refine l_arg (n := 1) C hX hL9 1 (by omega) dL_law_907 dL_law_908 dL_law_909 rfl dL_law_910 dL_law_911 ?_
  refine l_arg (n := 2) C hX hL9 2 (by omega) dL_law_912 dL_law_913 dL_law_914 rfl dL_law_915 dL_law_916 ?_
  refine l_arg (n := 3) C hX hL9 3 (by omega) dL_law_917 dL_law_918 dL_law_919 rfl dL_law_920 dL_law_921 ?_
  refine v_callV (r := some (.int r)) (As := [.int (xs (i + 1)), .int (xs (i + 2)), .int (xs (i + 3))]) (rest := []) (K := 0) (ci := 3) (σ' := jn (cq κ2 s2 t2 k2) (mq τ s)) C (mX3_fits (L := fun κ9 => jn κ9 (mq τ s)) (lnC_jn _) e1) cw_X3_fits wd_379 (by decide) rfl rfl ⟨Nat.le_of_ble_eq_true rfl, Nat.le_of_ble_eq_true rfl⟩ rfl rfl (Nat.le_of_ble_eq_true rfl) dL_law_922 ?_
  refine v_aload_n C 2 dL_law_925 rfl rfl ?_
  refine l_arg (n := 1) C hX hL9 1 (by omega) dL_law_926 dL_law_927 dL_law_928 rfl dL_law_929 dL_law_930 ?_
  refine l_arg (n := 2) C hX hL9 2 (by omega) dL_law_931 dL_law_932 dL_law_933 rfl dL_law_934 dL_law_935 ?_
  refine l_arg (n := 3) C hX hL9 3 (by omega) dL_law_936 dL_law_937 dL_law_938 rfl dL_law_939 dL_law_940 ?_
  refine v_callV (r := some (.int r)) (As := [.int (xs (i + 1)), .int (xs (i + 2)), .int (xs (i + 3))]) (rest := [.int r]) (K := 51) (ci := 4) (σ' := jn (cq κ2 s2 t2 k2) (mq τ2 s2)) C (mX4_fits (L := fun τ9 => jn (cq κ2 s2 t2 k2) τ9) (lnM_jn _) e2) cw_X4_fits wd_948 (by decide) rfl rfl ⟨Nat.le_of_ble_eq_true rfl, Nat.le_of_ble_eq_true rfl⟩ rfl rfl (Nat.le_of_ble_eq_true rfl) dL_law_941 ?_
  refine v_icmp_eq (tgt := 1530) (Pt := some ()) (Pf := none) (res := ()) C dL_law_944 (by decide) (if_pos rfl) (fun _ => ?_) (fun hf => by cases hf)
  exact kk _ _ _ _ _ hI2
/-- case 23: strode -/
theorem law_23 (C : Cx E B l0 cL_law RL ret9 4 13 482) (hX : LX E b L xs) (hL9 : L ≤ 3072) (hi : i + 6 ≤ L) (hhb : hb ≤ 40000) (hI : Inv hb κ s k τ) (kk : ∀ (κ2 : St2) (s2 t2 k2 : Nat → Int32) (τ2 : St2), Inv (hb + 60) κ2 s2 k2 τ2 → V E B (jn (cq κ2 s2 t2 k2) (mq τ2 s2)) 1530 (LV b B i) []) : V E B (jn (cq κ s t k) (mq τ s)) 949 (LV b B i) [] := by
  obtain ⟨r, κ2, s2, t2, k2, τ2, e1, e2, hI2⟩ := sim_strode (N := 1000) (t := t) (v1 := xs (i + 1)) (v2 := xs (i + 2)) (v3 := xs (i + 3)) (Nat.le_refl _) (by omega) hI
  refine v_aload_n C 1 dL_law_949 rfl rfl ?_
  refine l_arg (n := 1) C hX hL9 1 (by omega) dL_law_950 dL_law_951 dL_law_952 rfl dL_law_953 dL_law_954 ?_
  refine l_arg (n := 2) C hX hL9 2 (by omega) dL_law_955 dL_law_956 dL_law_957 rfl dL_law_958 dL_law_959 ?_
  refine l_arg (n := 3) C hX hL9 3 (by omega) dL_law_960 dL_law_961 dL_law_962 rfl dL_law_963 dL_law_964 ?_
  refine v_callV (r := some (.int r)) (As := [.int (xs (i + 1)), .int (xs (i + 2)), .int (xs (i + 3))]) (rest := []) (K := 0) (ci := 3) (σ' := jn (cq κ2 s2 t2 k2) (mq τ s)) C (mX3_strode (L := fun κ9 => jn κ9 (mq τ s)) (lnC_jn _) e1) cw_X3_strode wd_410 (by decide) rfl rfl ⟨Nat.le_of_ble_eq_true rfl, Nat.le_of_ble_eq_true rfl⟩ rfl rfl (Nat.le_of_ble_eq_true rfl) dL_law_965 ?_
  refine v_aload_n C 2 dL_law_968 rfl rfl ?_
  refine l_arg (n := 1) C hX hL9 1 (by omega) dL_law_969 dL_law_970 dL_law_971 rfl dL_law_972 dL_law_973 ?_
  refine l_arg (n := 2) C hX hL9 2 (by omega) dL_law_974 dL_law_975 dL_law_976 rfl dL_law_977 dL_law_978 ?_
  refine l_arg (n := 3) C hX hL9 3 (by omega) dL_law_979 dL_law_980 dL_law_981 rfl dL_law_982 dL_law_983 ?_
  refine v_callV (r := some (.int r)) (As := [.int (xs (i + 1)), .int (xs (i + 2)), .int (xs (i + 3))]) (rest := [.int r]) (K := 51) (ci := 4) (σ' := jn (cq κ2 s2 t2 k2) (mq τ2 s2)) C (mX4_strode (L := fun τ9 => jn (cq κ2 s2 t2 k2) τ9) (lnM_jn _) e2) cw_X4_strode wd_971 (by decide) rfl rfl ⟨Nat.le_of_ble_eq_true rfl, Nat.le_of_ble_eq_true rfl⟩ rfl rfl (Nat.le_of_ble_eq_true rfl) dL_law_984 ?_
  refine v_icmp_eq (tgt := 1530) (Pt := some ()) (Pf := none) (res := ()) C dL_law_987 (by decide) (if_pos rfl) (fun _ => ?_) (fun hf => by cases hf)
  exact kk _ _ _ _ _ hI2
/-- case 24: kinds -/
theorem law_24 (C : Cx E B l0 cL_law RL ret9 4 13 482) (hX : LX E b L xs) (hL9 : L ≤ 3072) (hi : i + 6 ≤ L) (hhb : hb ≤ 40000) (hI : Inv hb κ s k τ) (kk : ∀ (κ2 : St2) (s2 t2 k2 : Nat → Int32) (τ2 : St2), Inv (hb + 60) κ2 s2 k2 τ2 → V E B (jn (cq κ2 s2 t2 k2) (mq τ2 s2)) 1530 (LV b B i) []) : V E B (jn (cq κ s t k) (mq τ s)) 992 (LV b B i) [] := by
  obtain ⟨r, κ2, s2, t2, k2, τ2, e1, e2, hI2⟩ := sim_kinds (N := 1000) (t := t) (v1 := xs (i + 1)) (v2 := xs (i + 2)) (v3 := xs (i + 3)) (Nat.le_refl _) (by omega) hI
  refine v_aload_n C 1 dL_law_992 rfl rfl ?_
  refine l_arg (n := 1) C hX hL9 1 (by omega) dL_law_993 dL_law_994 dL_law_995 rfl dL_law_996 dL_law_997 ?_
  refine l_arg (n := 2) C hX hL9 2 (by omega) dL_law_998 dL_law_999 dL_law_1000 rfl dL_law_1001 dL_law_1002 ?_
  refine l_arg (n := 3) C hX hL9 3 (by omega) dL_law_1003 dL_law_1004 dL_law_1005 rfl dL_law_1006 dL_law_1007 ?_
  refine v_callV (r := some (.int r)) (As := [.int (xs (i + 1)), .int (xs (i + 2)), .int (xs (i + 3))]) (rest := []) (K := 0) (ci := 3) (σ' := jn (cq κ2 s2 t2 k2) (mq τ s)) C (mX3_kinds (L := fun κ9 => jn κ9 (mq τ s)) (lnC_jn _) e1) cw_X3_kinds wd_418 (by decide) rfl rfl ⟨Nat.le_of_ble_eq_true rfl, Nat.le_of_ble_eq_true rfl⟩ rfl rfl (Nat.le_of_ble_eq_true rfl) dL_law_1008 ?_
  refine v_aload_n C 2 dL_law_1011 rfl rfl ?_
  refine l_arg (n := 1) C hX hL9 1 (by omega) dL_law_1012 dL_law_1013 dL_law_1014 rfl dL_law_1015 dL_law_1016 ?_
  refine l_arg (n := 2) C hX hL9 2 (by omega) dL_law_1017 dL_law_1018 dL_law_1019 rfl dL_law_1020 dL_law_1021 ?_
  refine l_arg (n := 3) C hX hL9 3 (by omega) dL_law_1022 dL_law_1023 dL_law_1024 rfl dL_law_1025 dL_law_1026 ?_
  refine v_callV (r := some (.int r)) (As := [.int (xs (i + 1)), .int (xs (i + 2)), .int (xs (i + 3))]) (rest := [.int r]) (K := 51) (ci := 4) (σ' := jn (cq κ2 s2 t2 k2) (mq τ2 s2)) C (mX4_kinds (L := fun τ9 => jn (cq κ2 s2 t2 k2) τ9) (lnM_jn _) e2) cw_X4_kinds wd_975 (by decide) rfl rfl ⟨Nat.le_of_ble_eq_true rfl, Nat.le_of_ble_eq_true rfl⟩ rfl rfl (Nat.le_of_ble_eq_true rfl) dL_law_1027 ?_
  refine v_icmp_eq (tgt := 1530) (Pt := some ()) (Pf := none) (res := ()) C dL_law_1030 (by decide) (if_pos rfl) (fun _ => ?_) (fun hf => by cases hf)
  exact kk _ _ _ _ _ hI2
/-- case 25: tides -/
theorem law_25 (C : Cx E B l0 cL_law RL ret9 4 13 482) (hX : LX E b L xs) (hL9 : L ≤ 3072) (hi : i + 6 ≤ L) (hhb : hb ≤ 40000) (hI : Inv hb κ s k τ) (kk : ∀ (κ2 : St2) (s2 t2 k2 : Nat → Int32) (τ2 : St2), Inv (hb + 60) κ2 s2 k2 τ2 → V E B (jn (cq κ2 s2 t2 k2) (mq τ2 s2)) 1530 (LV b B i) []) : V E B (jn (cq κ s t k) (mq τ s)) 1035 (LV b B i) [] := by
  obtain ⟨r, κ2, s2, t2, k2, τ2, e1, e2, hI2⟩ := sim_tides (N := 1000) (t := t) (a := xs (i + 1)) (Nat.le_refl _) (by omega) hI
  refine v_aload_n C 1 dL_law_1035 rfl rfl ?_
  refine l_arg (n := 1) C hX hL9 1 (by omega) dL_law_1036 dL_law_1037 dL_law_1038 rfl dL_law_1039 dL_law_1040 ?_
  refine v_callV (r := some (.int r)) (As := [.int (xs (i + 1))]) (rest := []) (K := 0) (ci := 3) (σ' := jn (cq κ2 s2 t2 k2) (mq τ s)) C (mX3_tides (L := fun κ9 => jn κ9 (mq τ s)) (lnC_jn _) e1) cw_X3_tides wd_422 (by decide) rfl rfl ⟨Nat.le_of_ble_eq_true rfl, Nat.le_of_ble_eq_true rfl⟩ rfl rfl (Nat.le_of_ble_eq_true rfl) dL_law_1041 ?_
  refine v_aload_n C 2 dL_law_1044 rfl rfl ?_
  refine l_arg (n := 1) C hX hL9 1 (by omega) dL_law_1045 dL_law_1046 dL_law_1047 rfl dL_law_1048 dL_law_1049 ?_
  refine v_callV (r := some (.int r)) (As := [.int (xs (i + 1))]) (rest := [.int r]) (K := 51) (ci := 4) (σ' := jn (cq κ2 s2 t2 k2) (mq τ2 s2)) C (mX4_tides (L := fun τ9 => jn (cq κ2 s2 t2 k2) τ9) (lnM_jn _) e2) cw_X4_tides wd_979 (by decide) rfl rfl ⟨Nat.le_of_ble_eq_true rfl, Nat.le_of_ble_eq_true rfl⟩ rfl rfl (Nat.le_of_ble_eq_true rfl) dL_law_1050 ?_
  refine v_icmp_eq (tgt := 1530) (Pt := some ()) (Pf := none) (res := ()) C dL_law_1053 (by decide) (if_pos rfl) (fun _ => ?_) (fun hf => by cases hf)
  exact kk _ _ _ _ _ hI2
/-- case 26: odds -/
theorem law_26 (C : Cx E B l0 cL_law RL ret9 4 13 482) (hX : LX E b L xs) (hL9 : L ≤ 3072) (hi : i + 6 ≤ L) (hhb : hb ≤ 40000) (hI : Inv hb κ s k τ) (kk : ∀ (κ2 : St2) (s2 t2 k2 : Nat → Int32) (τ2 : St2), Inv (hb + 60) κ2 s2 k2 τ2 → V E B (jn (cq κ2 s2 t2 k2) (mq τ2 s2)) 1530 (LV b B i) []) : V E B (jn (cq κ s t k) (mq τ s)) 1058 (LV b B i) [] := by
  obtain ⟨r, κ2, s2, t2, k2, τ2, e1, e2, hI2⟩ := sim_odds (N := 1000) (t := t) (a := xs (i + 1)) (n := xs (i + 2)) (w := xs (i + 3)) (Nat.le_refl _) hI
  refine v_aload_n C 1 dL_law_1058 rfl rfl ?_
  refine l_arg (n := 1) C hX hL9 1 (by omega) dL_law_1059 dL_law_1060 dL_law_1061 rfl dL_law_1062 dL_law_1063 ?_
  refine l_arg (n := 2) C hX hL9 2 (by omega) dL_law_1064 dL_law_1065 dL_law_1066 rfl dL_law_1067 dL_law_1068 ?_
  refine l_arg (n := 3) C hX hL9 3 (by omega) dL_law_1069 dL_law_1070 dL_law_1071 rfl dL_law_1072 dL_law_1073 ?_
  refine v_callV (r := some (.long r)) (As := [.int (xs (i + 1)), .int (xs (i + 2)), .int (xs (i + 3))]) (rest := []) (K := 0) (ci := 3) (σ' := jn (cq κ2 s2 t2 k2) (mq τ s)) C (mX3_odds (L := fun κ9 => jn κ9 (mq τ s)) (lnC_jn _) e1) cw_X3_odds wd_437 (by decide) rfl rfl ⟨Nat.le_of_ble_eq_true rfl, Nat.le_of_ble_eq_true rfl⟩ rfl rfl (Nat.le_of_ble_eq_true rfl) dL_law_1074 ?_
  refine v_aload_n C 2 dL_law_1077 rfl rfl ?_
  refine l_arg (n := 1) C hX hL9 1 (by omega) dL_law_1078 dL_law_1079 dL_law_1080 rfl dL_law_1081 dL_law_1082 ?_
  refine l_arg (n := 2) C hX hL9 2 (by omega) dL_law_1083 dL_law_1084 dL_law_1085 rfl dL_law_1086 dL_law_1087 ?_
  refine l_arg (n := 3) C hX hL9 3 (by omega) dL_law_1088 dL_law_1089 dL_law_1090 rfl dL_law_1091 dL_law_1092 ?_
  refine v_callV (r := some (.long r)) (As := [.int (xs (i + 1)), .int (xs (i + 2)), .int (xs (i + 3))]) (rest := [.long r]) (K := 51) (ci := 4) (σ' := jn (cq κ2 s2 t2 k2) (mq τ2 s2)) C (mX4_odds (L := fun τ9 => jn (cq κ2 s2 t2 k2) τ9) (lnM_jn _) e2) cw_X4_odds wd_988 (by decide) rfl rfl ⟨Nat.le_of_ble_eq_true rfl, Nat.le_of_ble_eq_true rfl⟩ rfl rfl (Nat.le_of_ble_eq_true rfl) dL_law_1093 ?_
  refine v_lcmp C dL_law_1096 ?_
  refine v_if_eq (tgt := 1530) (Pt := some ()) (Pf := none) (res := ()) C dL_law_1097 (by decide) (if_pos (lgc_0 r)) (fun _ => ?_) (fun hf => by cases hf)
  exact kk _ _ _ _ _ hI2
/-- case 27: seed -/
theorem law_27 (C : Cx E B l0 cL_law RL ret9 4 13 482) (hX : LX E b L xs) (hL9 : L ≤ 3072) (hi : i + 6 ≤ L) (hhb : hb ≤ 40000) (hI : Inv hb κ s k τ) (kk : ∀ (κ2 : St2) (s2 t2 k2 : Nat → Int32) (τ2 : St2), Inv (hb + 60) κ2 s2 k2 τ2 → V E B (jn (cq κ2 s2 t2 k2) (mq τ2 s2)) 1530 (LV b B i) []) : V E B (jn (cq κ s t k) (mq τ s)) 1102 (LV b B i) [] := by
  obtain ⟨r, κ2, s2, t2, k2, τ2, e1, e2, hI2⟩ := sim_seed (t := t) (a := xs (i + 1)) hI
  refine v_aload_n C 1 dL_law_1102 rfl rfl ?_
  refine l_arg (n := 1) C hX hL9 1 (by omega) dL_law_1103 dL_law_1104 dL_law_1105 rfl dL_law_1106 dL_law_1107 ?_
  refine v_callV (r := some (.int r)) (As := [.int (xs (i + 1))]) (rest := []) (K := 0) (ci := 3) (σ' := jn (cq κ2 s2 t2 k2) (mq τ s)) C (mX3_seed (L := fun κ9 => jn κ9 (mq τ s)) (lnC_jn _) e1) cw_X3_seed wd_444 (by decide) rfl rfl ⟨Nat.le_of_ble_eq_true rfl, Nat.le_of_ble_eq_true rfl⟩ rfl rfl (Nat.le_of_ble_eq_true rfl) dL_law_1108 ?_
  refine v_aload_n C 2 dL_law_1111 rfl rfl ?_
  refine l_arg (n := 1) C hX hL9 1 (by omega) dL_law_1112 dL_law_1113 dL_law_1114 rfl dL_law_1115 dL_law_1116 ?_
  refine v_callV (r := some (.int r)) (As := [.int (xs (i + 1))]) (rest := [.int r]) (K := 51) (ci := 4) (σ' := jn (cq κ2 s2 t2 k2) (mq τ2 s2)) C (mX4_seed (L := fun τ9 => jn (cq κ2 s2 t2 k2) τ9) (lnM_jn _) e2) cw_X4_seed wd_994 (by decide) rfl rfl ⟨Nat.le_of_ble_eq_true rfl, Nat.le_of_ble_eq_true rfl⟩ rfl rfl (Nat.le_of_ble_eq_true rfl) dL_law_1117 ?_
  refine v_icmp_eq (tgt := 1530) (Pt := some ()) (Pf := none) (res := ()) C dL_law_1120 (by decide) (if_pos rfl) (fun _ => ?_) (fun hf => by cases hf)
  exact kk _ _ _ _ _ hI2
/-- case 28: feed -/
theorem law_28 (C : Cx E B l0 cL_law RL ret9 4 13 482) (hX : LX E b L xs) (hL9 : L ≤ 3072) (hi : i + 6 ≤ L) (hhb : hb ≤ 40000) (hI : Inv hb κ s k τ) (kk : ∀ (κ2 : St2) (s2 t2 k2 : Nat → Int32) (τ2 : St2), Inv (hb + 60) κ2 s2 k2 τ2 → V E B (jn (cq κ2 s2 t2 k2) (mq τ2 s2)) 1530 (LV b B i) []) : V E B (jn (cq κ s t k) (mq τ s)) 1125 (LV b B i) [] := by
  obtain ⟨r, κ2, s2, t2, k2, τ2, e1, e2, hI2⟩ := sim_feed (N := 1000) (t := t) (v := xs (i + 1)) (a := xs (i + 2)) (Nat.le_refl _) hI
  refine v_aload_n C 1 dL_law_1125 rfl rfl ?_
  refine l_arg (n := 1) C hX hL9 1 (by omega) dL_law_1126 dL_law_1127 dL_law_1128 rfl dL_law_1129 dL_law_1130 ?_
  refine l_arg (n := 2) C hX hL9 2 (by omega) dL_law_1131 dL_law_1132 dL_law_1133 rfl dL_law_1134 dL_law_1135 ?_
  refine v_callV (r := some (.int r)) (As := [.int (xs (i + 1)), .int (xs (i + 2))]) (rest := []) (K := 0) (ci := 3) (σ' := jn (cq κ2 s2 t2 k2) (mq τ s)) C (mX3_feed (L := fun κ9 => jn κ9 (mq τ s)) (lnC_jn _) e1) cw_X3_feed wd_448 (by decide) rfl rfl ⟨Nat.le_of_ble_eq_true rfl, Nat.le_of_ble_eq_true rfl⟩ rfl rfl (Nat.le_of_ble_eq_true rfl) dL_law_1136 ?_
  refine v_aload_n C 2 dL_law_1139 rfl rfl ?_
  refine l_arg (n := 1) C hX hL9 1 (by omega) dL_law_1140 dL_law_1141 dL_law_1142 rfl dL_law_1143 dL_law_1144 ?_
  refine l_arg (n := 2) C hX hL9 2 (by omega) dL_law_1145 dL_law_1146 dL_law_1147 rfl dL_law_1148 dL_law_1149 ?_
  refine v_callV (r := some (.int r)) (As := [.int (xs (i + 1)), .int (xs (i + 2))]) (rest := [.int r]) (K := 51) (ci := 4) (σ' := jn (cq κ2 s2 t2 k2) (mq τ2 s2)) C (mX4_feed (L := fun τ9 => jn (cq κ2 s2 t2 k2) τ9) (lnM_jn _) e2) cw_X4_feed wd_998 (by decide) rfl rfl ⟨Nat.le_of_ble_eq_true rfl, Nat.le_of_ble_eq_true rfl⟩ rfl rfl (Nat.le_of_ble_eq_true rfl) dL_law_1150 ?_
  refine v_icmp_eq (tgt := 1530) (Pt := some ()) (Pf := none) (res := ()) C dL_law_1153 (by decide) (if_pos rfl) (fun _ => ?_) (fun hf => by cases hf)
  exact kk _ _ _ _ _ hI2
/-- case 29: wipe -/
theorem law_29 (C : Cx E B l0 cL_law RL ret9 4 13 482) (hX : LX E b L xs) (hL9 : L ≤ 3072) (hi : i + 6 ≤ L) (hhb : hb ≤ 40000) (hI : Inv hb κ s k τ) (kk : ∀ (κ2 : St2) (s2 t2 k2 : Nat → Int32) (τ2 : St2), Inv (hb + 60) κ2 s2 k2 τ2 → V E B (jn (cq κ2 s2 t2 k2) (mq τ2 s2)) 1530 (LV b B i) []) : V E B (jn (cq κ s t k) (mq τ s)) 1158 (LV b B i) [] := by
  obtain ⟨r, κ2, s2, t2, k2, τ2, e1, e2, hI2⟩ := sim_wipe (t := t)  hI
  refine v_aload_n C 1 dL_law_1158 rfl rfl ?_
  refine v_callV (r := some (.int r)) (As := []) (rest := []) (K := 0) (ci := 3) (σ' := jn (cq κ2 s2 t2 k2) (mq τ s)) C (mX3_wipe (L := fun κ9 => jn κ9 (mq τ s)) (lnC_jn _) e1) cw_X3_wipe wd_460 (by decide) rfl rfl ⟨Nat.le_of_ble_eq_true rfl, Nat.le_of_ble_eq_true rfl⟩ rfl rfl (Nat.le_of_ble_eq_true rfl) dL_law_1159 ?_
  refine v_aload_n C 2 dL_law_1162 rfl rfl ?_
  refine v_callV (r := some (.int r)) (As := []) (rest := [.int r]) (K := 51) (ci := 4) (σ' := jn (cq κ2 s2 t2 k2) (mq τ2 s2)) C (mX4_wipe (L := fun τ9 => jn (cq κ2 s2 t2 k2) τ9) (lnM_jn _) e2) cw_X4_wipe wd_1003 (by decide) rfl rfl ⟨Nat.le_of_ble_eq_true rfl, Nat.le_of_ble_eq_true rfl⟩ rfl rfl (Nat.le_of_ble_eq_true rfl) dL_law_1163 ?_
  refine v_icmp_eq (tgt := 1530) (Pt := some ()) (Pf := none) (res := ()) C dL_law_1166 (by decide) (if_pos rfl) (fun _ => ?_) (fun hf => by cases hf)
  exact kk _ _ _ _ _ hI2
/-- case 30: text -/
theorem law_30 (C : Cx E B l0 cL_law RL ret9 4 13 482) (hX : LX E b L xs) (hL9 : L ≤ 3072) (hi : i + 6 ≤ L) (hhb : hb ≤ 40000) (hI : Inv hb κ s k τ) (kk : ∀ (κ2 : St2) (s2 t2 k2 : Nat → Int32) (τ2 : St2), Inv (hb + 60) κ2 s2 k2 τ2 → V E B (jn (cq κ2 s2 t2 k2) (mq τ2 s2)) 1530 (LV b B i) []) : V E B (jn (cq κ s t k) (mq τ s)) 1171 (LV b B i) [] := by
  obtain ⟨r, κ2, s2, t2, k2, τ2, e1, e2, hI2⟩ := sim_text (N := 1000) (t := t)  (Nat.le_refl _) hI
  refine v_aload_n C 1 dL_law_1171 rfl rfl ?_
  refine v_callV (r := some (.int r)) (As := []) (rest := []) (K := 0) (ci := 3) (σ' := jn (cq κ2 s2 t2 k2) (mq τ s)) C (mX3_text (L := fun κ9 => jn κ9 (mq τ s)) (lnC_jn _) e1) cw_X3_text wd_464 (by decide) rfl rfl ⟨Nat.le_of_ble_eq_true rfl, Nat.le_of_ble_eq_true rfl⟩ rfl rfl (Nat.le_of_ble_eq_true rfl) dL_law_1172 ?_
  refine v_aload_n C 2 dL_law_1175 rfl rfl ?_
  refine v_callV (r := some (.int r)) (As := []) (rest := [.int r]) (K := 51) (ci := 4) (σ' := jn (cq κ2 s2 t2 k2) (mq τ2 s2)) C (mX4_text (L := fun τ9 => jn (cq κ2 s2 t2 k2) τ9) (lnM_jn _) e2) cw_X4_text wd_1007 (by decide) rfl rfl ⟨Nat.le_of_ble_eq_true rfl, Nat.le_of_ble_eq_true rfl⟩ rfl rfl (Nat.le_of_ble_eq_true rfl) dL_law_1176 ?_
  refine v_icmp_eq (tgt := 1530) (Pt := some ()) (Pf := none) (res := ()) C dL_law_1179 (by decide) (if_pos rfl) (fun _ => ?_) (fun hf => by cases hf)
  exact kk _ _ _ _ _ hI2
/-- case 31: hold -/
theorem law_31 (C : Cx E B l0 cL_law RL ret9 4 13 482) (hX : LX E b L xs) (hL9 : L ≤ 3072) (hi : i + 6 ≤ L) (hhb : hb ≤ 40000) (hI : Inv hb κ s k τ) (kk : ∀ (κ2 : St2) (s2 t2 k2 : Nat → Int32) (τ2 : St2), Inv (hb + 60) κ2 s2 k2 τ2 → V E B (jn (cq κ2 s2 t2 k2) (mq τ2 s2)) 1530 (LV b B i) []) : V E B (jn (cq κ s t k) (mq τ s)) 1184 (LV b B i) [] := by
  obtain ⟨r, κ2, s2, t2, k2, τ2, e1, e2, hI2⟩ := sim_hold (t := t) (a := xs (i + 1)) (b := xs (i + 2)) hI
  refine v_aload_n C 1 dL_law_1184 rfl rfl ?_
  refine l_arg (n := 1) C hX hL9 1 (by omega) dL_law_1185 dL_law_1186 dL_law_1187 rfl dL_law_1188 dL_law_1189 ?_
  refine l_arg (n := 2) C hX hL9 2 (by omega) dL_law_1190 dL_law_1191 dL_law_1192 rfl dL_law_1193 dL_law_1194 ?_
  refine v_callV (r := some (.int r)) (As := [.int (xs (i + 1)), .int (xs (i + 2))]) (rest := []) (K := 0) (ci := 3) (σ' := jn (cq κ2 s2 t2 k2) (mq τ s)) C (mX3_hold (L := fun κ9 => jn κ9 (mq τ s)) (lnC_jn _) e1) cw_X3_hold wd_583 (by decide) rfl rfl ⟨Nat.le_of_ble_eq_true rfl, Nat.le_of_ble_eq_true rfl⟩ rfl rfl (Nat.le_of_ble_eq_true rfl) dL_law_1195 ?_
  refine v_aload_n C 2 dL_law_1198 rfl rfl ?_
  refine l_arg (n := 1) C hX hL9 1 (by omega) dL_law_1199 dL_law_1200 dL_law_1201 rfl dL_law_1202 dL_law_1203 ?_
  refine l_arg (n := 2) C hX hL9 2 (by omega) dL_law_1204 dL_law_1205 dL_law_1206 rfl dL_law_1207 dL_law_1208 ?_
  refine v_callV (r := some (.int r)) (As := [.int (xs (i + 1)), .int (xs (i + 2))]) (rest := [.int r]) (K := 51) (ci := 4) (σ' := jn (cq κ2 s2 t2 k2) (mq τ2 s2)) C (mX4_hold (L := fun τ9 => jn (cq κ2 s2 t2 k2) τ9) (lnM_jn _) e2) cw_X4_hold wd_1067 (by decide) rfl rfl ⟨Nat.le_of_ble_eq_true rfl, Nat.le_of_ble_eq_true rfl⟩ rfl rfl (Nat.le_of_ble_eq_true rfl) dL_law_1209 ?_
  refine v_icmp_eq (tgt := 1530) (Pt := some ()) (Pf := none) (res := ()) C dL_law_1212 (by decide) (if_pos rfl) (fun _ => ?_) (fun hf => by cases hf)
  exact kk _ _ _ _ _ hI2
/-- case 32: as -/
theorem law_32 (C : Cx E B l0 cL_law RL ret9 4 13 482) (hX : LX E b L xs) (hL9 : L ≤ 3072) (hi : i + 6 ≤ L) (hhb : hb ≤ 40000) (hI : Inv hb κ s k τ) (kk : ∀ (κ2 : St2) (s2 t2 k2 : Nat → Int32) (τ2 : St2), Inv (hb + 60) κ2 s2 k2 τ2 → V E B (jn (cq κ2 s2 t2 k2) (mq τ2 s2)) 1530 (LV b B i) []) : V E B (jn (cq κ s t k) (mq τ s)) 1217 (LV b B i) [] := by
  obtain ⟨r, κ2, s2, t2, k2, τ2, e1, e2, hI2⟩ := sim_as (N := 1000) (t := t) (a := xs (i + 1)) (b := xs (i + 2)) (Nat.le_refl _) hI
  refine v_aload_n C 1 dL_law_1217 rfl rfl ?_
  refine l_arg (n := 1) C hX hL9 1 (by omega) dL_law_1218 dL_law_1219 dL_law_1220 rfl dL_law_1221 dL_law_1222 ?_
  refine l_arg (n := 2) C hX hL9 2 (by omega) dL_law_1223 dL_law_1224 dL_law_1225 rfl dL_law_1226 dL_law_1227 ?_
  refine v_callV (r := some (.int r)) (As := [.int (xs (i + 1)), .int (xs (i + 2))]) (rest := []) (K := 0) (ci := 3) (σ' := jn (cq κ2 s2 t2 k2) (mq τ s)) C (mX3_as (L := fun κ9 => jn κ9 (mq τ s)) (lnC_jn _) e1) cw_X3_as wd_587 (by decide) rfl rfl ⟨Nat.le_of_ble_eq_true rfl, Nat.le_of_ble_eq_true rfl⟩ rfl rfl (Nat.le_of_ble_eq_true rfl) dL_law_1228 ?_
  refine v_aload_n C 2 dL_law_1231 rfl rfl ?_
  refine l_arg (n := 1) C hX hL9 1 (by omega) dL_law_1232 dL_law_1233 dL_law_1234 rfl dL_law_1235 dL_law_1236 ?_
  refine l_arg (n := 2) C hX hL9 2 (by omega) dL_law_1237 dL_law_1238 dL_law_1239 rfl dL_law_1240 dL_law_1241 ?_
  refine v_callV (r := some (.int r)) (As := [.int (xs (i + 1)), .int (xs (i + 2))]) (rest := [.int r]) (K := 51) (ci := 4) (σ' := jn (cq κ2 s2 t2 k2) (mq τ2 s2)) C (mX4_as (L := fun τ9 => jn (cq κ2 s2 t2 k2) τ9) (lnM_jn _) e2) cw_X4_as wd_1074 (by decide) rfl rfl ⟨Nat.le_of_ble_eq_true rfl, Nat.le_of_ble_eq_true rfl⟩ rfl rfl (Nat.le_of_ble_eq_true rfl) dL_law_1242 ?_
  refine v_icmp_eq (tgt := 1530) (Pt := some ()) (Pf := none) (res := ()) C dL_law_1245 (by decide) (if_pos rfl) (fun _ => ?_) (fun hf => by cases hf)
  exact kk _ _ _ _ _ hI2
/-- case 33: sheet -/
theorem law_33 (C : Cx E B l0 cL_law RL ret9 4 13 482) (hX : LX E b L xs) (hL9 : L ≤ 3072) (hi : i + 6 ≤ L) (hhb : hb ≤ 40000) (hI : Inv hb κ s k τ) (kk : ∀ (κ2 : St2) (s2 t2 k2 : Nat → Int32) (τ2 : St2), Inv (hb + 60) κ2 s2 k2 τ2 → V E B (jn (cq κ2 s2 t2 k2) (mq τ2 s2)) 1530 (LV b B i) []) : V E B (jn (cq κ s t k) (mq τ s)) 1250 (LV b B i) [] := by
  obtain ⟨r, κ2, s2, t2, k2, τ2, e1, e2, hI2⟩ := sim_sheet (N := 1000) (t := t) (a := xs (i + 1)) (w := xs (i + 2)) (b := xs (i + 3)) (Nat.le_refl _) hI
  refine v_aload_n C 1 dL_law_1250 rfl rfl ?_
  refine l_arg (n := 1) C hX hL9 1 (by omega) dL_law_1251 dL_law_1252 dL_law_1253 rfl dL_law_1254 dL_law_1255 ?_
  refine l_arg (n := 2) C hX hL9 2 (by omega) dL_law_1256 dL_law_1257 dL_law_1258 rfl dL_law_1259 dL_law_1260 ?_
  refine l_arg (n := 3) C hX hL9 3 (by omega) dL_law_1261 dL_law_1262 dL_law_1263 rfl dL_law_1264 dL_law_1265 ?_
  refine v_callV (r := some (.int r)) (As := [.int (xs (i + 1)), .int (xs (i + 2)), .int (xs (i + 3))]) (rest := []) (K := 0) (ci := 3) (σ' := jn (cq κ2 s2 t2 k2) (mq τ s)) C (mX3_sheet (L := fun κ9 => jn κ9 (mq τ s)) (lnC_jn _) e1) cw_X3_sheet wd_598 (by decide) rfl rfl ⟨Nat.le_of_ble_eq_true rfl, Nat.le_of_ble_eq_true rfl⟩ rfl rfl (Nat.le_of_ble_eq_true rfl) dL_law_1266 ?_
  refine v_aload_n C 2 dL_law_1269 rfl rfl ?_
  refine l_arg (n := 1) C hX hL9 1 (by omega) dL_law_1270 dL_law_1271 dL_law_1272 rfl dL_law_1273 dL_law_1274 ?_
  refine l_arg (n := 2) C hX hL9 2 (by omega) dL_law_1275 dL_law_1276 dL_law_1277 rfl dL_law_1278 dL_law_1279 ?_
  refine l_arg (n := 3) C hX hL9 3 (by omega) dL_law_1280 dL_law_1281 dL_law_1282 rfl dL_law_1283 dL_law_1284 ?_
  refine v_callV (r := some (.int r)) (As := [.int (xs (i + 1)), .int (xs (i + 2)), .int (xs (i + 3))]) (rest := [.int r]) (K := 51) (ci := 4) (σ' := jn (cq κ2 s2 t2 k2) (mq τ2 s2)) C (mX4_sheet (L := fun τ9 => jn (cq κ2 s2 t2 k2) τ9) (lnM_jn _) e2) cw_X4_sheet wd_1084 (by decide) rfl rfl ⟨Nat.le_of_ble_eq_true rfl, Nat.le_of_ble_eq_true rfl⟩ rfl rfl (Nat.le_of_ble_eq_true rfl) dL_law_1285 ?_
  refine v_icmp_eq (tgt := 1530) (Pt := some ()) (Pf := none) (res := ()) C dL_law_1288 (by decide) (if_pos rfl) (fun _ => ?_) (fun hf => by cases hf)
  exact kk _ _ _ _ _ hI2
/-- case 34: write -/
theorem law_34 (C : Cx E B l0 cL_law RL ret9 4 13 482) (hX : LX E b L xs) (hL9 : L ≤ 3072) (hi : i + 6 ≤ L) (hhb : hb ≤ 40000) (hI : Inv hb κ s k τ) (kk : ∀ (κ2 : St2) (s2 t2 k2 : Nat → Int32) (τ2 : St2), Inv (hb + 60) κ2 s2 k2 τ2 → V E B (jn (cq κ2 s2 t2 k2) (mq τ2 s2)) 1530 (LV b B i) []) : V E B (jn (cq κ s t k) (mq τ s)) 1293 (LV b B i) [] := by
  obtain ⟨r, κ2, s2, t2, k2, τ2, e1, e2, hI2⟩ := sim_write (t := t) (a := xs (i + 1)) (b := xs (i + 2)) (v := xs (i + 3)) hI
  refine v_aload_n C 1 dL_law_1293 rfl rfl ?_
  refine l_arg (n := 1) C hX hL9 1 (by omega) dL_law_1294 dL_law_1295 dL_law_1296 rfl dL_law_1297 dL_law_1298 ?_
  refine l_arg (n := 2) C hX hL9 2 (by omega) dL_law_1299 dL_law_1300 dL_law_1301 rfl dL_law_1302 dL_law_1303 ?_
  refine l_arg (n := 3) C hX hL9 3 (by omega) dL_law_1304 dL_law_1305 dL_law_1306 rfl dL_law_1307 dL_law_1308 ?_
  refine v_callV (r := some (.int r)) (As := [.int (xs (i + 1)), .int (xs (i + 2)), .int (xs (i + 3))]) (rest := []) (K := 0) (ci := 3) (σ' := jn (cq κ2 s2 t2 k2) (mq τ s)) C (mX3_write (L := fun κ9 => jn κ9 (mq τ s)) (lnC_jn _) e1) cw_X3_write wd_611 (by decide) rfl rfl ⟨Nat.le_of_ble_eq_true rfl, Nat.le_of_ble_eq_true rfl⟩ rfl rfl (Nat.le_of_ble_eq_true rfl) dL_law_1309 ?_
  refine v_aload_n C 2 dL_law_1312 rfl rfl ?_
  refine l_arg (n := 1) C hX hL9 1 (by omega) dL_law_1313 dL_law_1314 dL_law_1315 rfl dL_law_1316 dL_law_1317 ?_
  refine l_arg (n := 2) C hX hL9 2 (by omega) dL_law_1318 dL_law_1319 dL_law_1320 rfl dL_law_1321 dL_law_1322 ?_
  refine l_arg (n := 3) C hX hL9 3 (by omega) dL_law_1323 dL_law_1324 dL_law_1325 rfl dL_law_1326 dL_law_1327 ?_
  refine v_callV (r := some (.int r)) (As := [.int (xs (i + 1)), .int (xs (i + 2)), .int (xs (i + 3))]) (rest := [.int r]) (K := 51) (ci := 4) (σ' := jn (cq κ2 s2 t2 k2) (mq τ2 s2)) C (mX4_write (L := fun τ9 => jn (cq κ2 s2 t2 k2) τ9) (lnM_jn _) e2) cw_X4_write wd_1088 (by decide) rfl rfl ⟨Nat.le_of_ble_eq_true rfl, Nat.le_of_ble_eq_true rfl⟩ rfl rfl (Nat.le_of_ble_eq_true rfl) dL_law_1328 ?_
  refine v_icmp_eq (tgt := 1530) (Pt := some ()) (Pf := none) (res := ()) C dL_law_1331 (by decide) (if_pos rfl) (fun _ => ?_) (fun hf => by cases hf)
  exact kk _ _ _ _ _ hI2
/-- case 35: copy -/
theorem law_35 (C : Cx E B l0 cL_law RL ret9 4 13 482) (hX : LX E b L xs) (hL9 : L ≤ 3072) (hi : i + 6 ≤ L) (hhb : hb ≤ 40000) (hI : Inv hb κ s k τ) (kk : ∀ (κ2 : St2) (s2 t2 k2 : Nat → Int32) (τ2 : St2), Inv (hb + 60) κ2 s2 k2 τ2 → V E B (jn (cq κ2 s2 t2 k2) (mq τ2 s2)) 1530 (LV b B i) []) : V E B (jn (cq κ s t k) (mq τ s)) 1336 (LV b B i) [] := by
  obtain ⟨r, κ2, s2, t2, k2, τ2, e1, e2, hI2⟩ := sim_copy (N := 1000) (t := t) (a := xs (i + 1)) (b := xs (i + 2)) (c := xs (i + 3)) (d := xs (i + 4)) (e := xs (i + 5)) (Nat.le_refl _) hI
  refine v_aload_n C 1 dL_law_1336 rfl rfl ?_
  refine l_arg (n := 1) C hX hL9 1 (by omega) dL_law_1337 dL_law_1338 dL_law_1339 rfl dL_law_1340 dL_law_1341 ?_
  refine l_arg (n := 2) C hX hL9 2 (by omega) dL_law_1342 dL_law_1343 dL_law_1344 rfl dL_law_1345 dL_law_1346 ?_
  refine l_arg (n := 3) C hX hL9 3 (by omega) dL_law_1347 dL_law_1348 dL_law_1349 rfl dL_law_1350 dL_law_1351 ?_
  refine l_arg (n := 4) C hX hL9 4 (by omega) dL_law_1352 dL_law_1353 dL_law_1354 rfl dL_law_1355 dL_law_1356 ?_
  refine l_arg (n := 5) C hX hL9 5 (by omega) dL_law_1357 dL_law_1358 dL_law_1359 rfl dL_law_1360 dL_law_1361 ?_
  refine v_callV (r := some (.int r)) (As := [.int (xs (i + 1)), .int (xs (i + 2)), .int (xs (i + 3)), .int (xs (i + 4)), .int (xs (i + 5))]) (rest := []) (K := 0) (ci := 3) (σ' := jn (cq κ2 s2 t2 k2) (mq τ s)) C (mX3_copy (L := fun κ9 => jn κ9 (mq τ s)) (lnC_jn _) e1) cw_X3_copy wd_619 (by decide) rfl rfl ⟨Nat.le_of_ble_eq_true rfl, Nat.le_of_ble_eq_true rfl⟩ rfl rfl (Nat.le_of_ble_eq_true rfl) dL_law_1362 ?_
  refine v_aload_n C 2 dL_law_1365 rfl rfl ?_
  refine l_arg (n := 1) C hX hL9 1 (by omega) dL_law_1366 dL_law_1367 dL_law_1368 rfl dL_law_1369 dL_law_1370 ?_
  refine l_arg (n := 2) C hX hL9 2 (by omega) dL_law_1371 dL_law_1372 dL_law_1373 rfl dL_law_1374 dL_law_1375 ?_
  refine l_arg (n := 3) C hX hL9 3 (by omega) dL_law_1376 dL_law_1377 dL_law_1378 rfl dL_law_1379 dL_law_1380 ?_
  refine l_arg (n := 4) C hX hL9 4 (by omega) dL_law_1381 dL_law_1382 dL_law_1383 rfl dL_law_1384 dL_law_1385 ?_
  refine l_arg (n := 5) C hX hL9 5 (by omega) dL_law_1386 dL_law_1387 dL_law_1388 rfl dL_law_1389 dL_law_1390 ?_
  refine v_callV (r := some (.int r)) (As := [.int (xs (i + 1)), .int (xs (i + 2)), .int (xs (i + 3)), .int (xs (i + 4)), .int (xs (i + 5))]) (rest := [.int r]) (K := 51) (ci := 4) (σ' := jn (cq κ2 s2 t2 k2) (mq τ2 s2)) C (mX4_copy (L := fun τ9 => jn (cq κ2 s2 t2 k2) τ9) (lnM_jn _) e2) cw_X4_copy wd_1092 (by decide) rfl rfl ⟨Nat.le_of_ble_eq_true rfl, Nat.le_of_ble_eq_true rfl⟩ rfl rfl (Nat.le_of_ble_eq_true rfl) dL_law_1391 ?_
  refine v_icmp_eq (tgt := 1530) (Pt := some ()) (Pf := none) (res := ()) C dL_law_1394 (by decide) (if_pos rfl) (fun _ => ?_) (fun hf => by cases hf)
  exact kk _ _ _ _ _ hI2
/-- case 36: load -/
theorem law_36 (C : Cx E B l0 cL_law RL ret9 4 13 482) (hX : LX E b L xs) (hL9 : L ≤ 3072) (hi : i + 6 ≤ L) (hhb : hb ≤ 40000) (hI : Inv hb κ s k τ) (kk : ∀ (κ2 : St2) (s2 t2 k2 : Nat → Int32) (τ2 : St2), Inv (hb + 60) κ2 s2 k2 τ2 → V E B (jn (cq κ2 s2 t2 k2) (mq τ2 s2)) 1530 (LV b B i) []) : V E B (jn (cq κ s t k) (mq τ s)) 1399 (LV b B i) [] := by
  obtain ⟨r, κ2, s2, t2, k2, τ2, e1, e2, hI2⟩ := sim_load (N := 1000) (t := t) (a := xs (i + 1)) (Nat.le_refl _) hI
  refine v_aload_n C 1 dL_law_1399 rfl rfl ?_
  refine l_arg (n := 1) C hX hL9 1 (by omega) dL_law_1400 dL_law_1401 dL_law_1402 rfl dL_law_1403 dL_law_1404 ?_
  refine v_callV (r := some (.int r)) (As := [.int (xs (i + 1))]) (rest := []) (K := 0) (ci := 3) (σ' := jn (cq κ2 s2 t2 k2) (mq τ s)) C (mX3_load (L := fun κ9 => jn κ9 (mq τ s)) (lnC_jn _) e1) cw_X3_load wd_629 (by decide) rfl rfl ⟨Nat.le_of_ble_eq_true rfl, Nat.le_of_ble_eq_true rfl⟩ rfl rfl (Nat.le_of_ble_eq_true rfl) dL_law_1405 ?_
  refine v_aload_n C 2 dL_law_1408 rfl rfl ?_
  refine l_arg (n := 1) C hX hL9 1 (by omega) dL_law_1409 dL_law_1410 dL_law_1411 rfl dL_law_1412 dL_law_1413 ?_
  refine v_callV (r := some (.int r)) (As := [.int (xs (i + 1))]) (rest := [.int r]) (K := 51) (ci := 4) (σ' := jn (cq κ2 s2 t2 k2) (mq τ2 s2)) C (mX4_load (L := fun τ9 => jn (cq κ2 s2 t2 k2) τ9) (lnM_jn _) e2) cw_X4_load wd_1096 (by decide) rfl rfl ⟨Nat.le_of_ble_eq_true rfl, Nat.le_of_ble_eq_true rfl⟩ rfl rfl (Nat.le_of_ble_eq_true rfl) dL_law_1414 ?_
  refine v_icmp_eq (tgt := 1530) (Pt := some ()) (Pf := none) (res := ()) C dL_law_1417 (by decide) (if_pos rfl) (fun _ => ?_) (fun hf => by cases hf)
  exact kk _ _ _ _ _ hI2
/-- case 37: judge -/
theorem law_37 (C : Cx E B l0 cL_law RL ret9 4 13 482) (hX : LX E b L xs) (hL9 : L ≤ 3072) (hi : i + 6 ≤ L) (hhb : hb ≤ 40000) (hI : Inv hb κ s k τ) (kk : ∀ (κ2 : St2) (s2 t2 k2 : Nat → Int32) (τ2 : St2), Inv (hb + 60) κ2 s2 k2 τ2 → V E B (jn (cq κ2 s2 t2 k2) (mq τ2 s2)) 1530 (LV b B i) []) : V E B (jn (cq κ s t k) (mq τ s)) 1422 (LV b B i) [] := by
  obtain ⟨r, κ2, s2, t2, k2, τ2, e1, e2, hI2⟩ := sim_judge (N := 1000) (t := t) (a := xs (i + 1)) (Nat.le_refl _) hI
  refine v_aload_n C 1 dL_law_1422 rfl rfl ?_
  refine l_arg (n := 1) C hX hL9 1 (by omega) dL_law_1423 dL_law_1424 dL_law_1425 rfl dL_law_1426 dL_law_1427 ?_
  refine v_callV (r := some (.int r)) (As := [.int (xs (i + 1))]) (rest := []) (K := 0) (ci := 3) (σ' := jn (cq κ2 s2 t2 k2) (mq τ s)) C (mX3_judge (L := fun κ9 => jn κ9 (mq τ s)) (lnC_jn _) e1) cw_X3_judge wd_633 (by decide) rfl rfl ⟨Nat.le_of_ble_eq_true rfl, Nat.le_of_ble_eq_true rfl⟩ rfl rfl (Nat.le_of_ble_eq_true rfl) dL_law_1428 ?_
  refine v_aload_n C 2 dL_law_1431 rfl rfl ?_
  refine l_arg (n := 1) C hX hL9 1 (by omega) dL_law_1432 dL_law_1433 dL_law_1434 rfl dL_law_1435 dL_law_1436 ?_
  refine v_callV (r := some (.int r)) (As := [.int (xs (i + 1))]) (rest := [.int r]) (K := 51) (ci := 4) (σ' := jn (cq κ2 s2 t2 k2) (mq τ2 s2)) C (mX4_judge (L := fun τ9 => jn (cq κ2 s2 t2 k2) τ9) (lnM_jn _) e2) cw_X4_judge wd_1100 (by decide) rfl rfl ⟨Nat.le_of_ble_eq_true rfl, Nat.le_of_ble_eq_true rfl⟩ rfl rfl (Nat.le_of_ble_eq_true rfl) dL_law_1437 ?_
  refine v_icmp_eq (tgt := 1530) (Pt := some ()) (Pf := none) (res := ()) C dL_law_1440 (by decide) (if_pos rfl) (fun _ => ?_) (fun hf => by cases hf)
  exact kk _ _ _ _ _ hI2
/-- case 38: image -/
theorem law_38 (C : Cx E B l0 cL_law RL ret9 4 13 482) (hX : LX E b L xs) (hL9 : L ≤ 3072) (hi : i + 6 ≤ L) (hhb : hb ≤ 40000) (hI : Inv hb κ s k τ) (kk : ∀ (κ2 : St2) (s2 t2 k2 : Nat → Int32) (τ2 : St2), Inv (hb + 60) κ2 s2 k2 τ2 → V E B (jn (cq κ2 s2 t2 k2) (mq τ2 s2)) 1530 (LV b B i) []) : V E B (jn (cq κ s t k) (mq τ s)) 1445 (LV b B i) [] := by
  obtain ⟨r, κ2, s2, t2, k2, τ2, e1, e2, hI2⟩ := sim_image (N := 1000) (t := t)  (Nat.le_refl _) hI
  refine v_aload_n C 1 dL_law_1445 rfl rfl ?_
  refine v_callV (r := some (.int r)) (As := []) (rest := []) (K := 0) (ci := 3) (σ' := jn (cq κ2 s2 t2 k2) (mq τ s)) C (mX3_image (L := fun κ9 => jn κ9 (mq τ s)) (lnC_jn _) e1) cw_X3_image wd_637 (by decide) rfl rfl ⟨Nat.le_of_ble_eq_true rfl, Nat.le_of_ble_eq_true rfl⟩ rfl rfl (Nat.le_of_ble_eq_true rfl) dL_law_1446 ?_
  refine v_aload_n C 2 dL_law_1449 rfl rfl ?_
  refine v_callV (r := some (.int r)) (As := []) (rest := [.int r]) (K := 51) (ci := 4) (σ' := jn (cq κ2 s2 t2 k2) (mq τ2 s2)) C (mX4_image (L := fun τ9 => jn (cq κ2 s2 t2 k2) τ9) (lnM_jn _) e2) cw_X4_image wd_1104 (by decide) rfl rfl ⟨Nat.le_of_ble_eq_true rfl, Nat.le_of_ble_eq_true rfl⟩ rfl rfl (Nat.le_of_ble_eq_true rfl) dL_law_1450 ?_
  refine v_icmp_eq (tgt := 1530) (Pt := some ()) (Pf := none) (res := ()) C dL_law_1453 (by decide) (if_pos rfl) (fun _ => ?_) (fun hf => by cases hf)
  exact kk _ _ _ _ _ hI2
/-- case 39: undo -/
theorem law_39 (C : Cx E B l0 cL_law RL ret9 4 13 482) (hX : LX E b L xs) (hL9 : L ≤ 3072) (hi : i + 6 ≤ L) (hhb : hb ≤ 40000) (hI : Inv hb κ s k τ) (kk : ∀ (κ2 : St2) (s2 t2 k2 : Nat → Int32) (τ2 : St2), Inv (hb + 60) κ2 s2 k2 τ2 → V E B (jn (cq κ2 s2 t2 k2) (mq τ2 s2)) 1530 (LV b B i) []) : V E B (jn (cq κ s t k) (mq τ s)) 1458 (LV b B i) [] := by
  obtain ⟨r, κ2, s2, t2, k2, τ2, e1, e2, hI2⟩ := sim_undo (N := 1000) (t := t)  (Nat.le_refl _) hI
  refine v_aload_n C 1 dL_law_1458 rfl rfl ?_
  refine v_callV (r := some (.int r)) (As := []) (rest := []) (K := 0) (ci := 3) (σ' := jn (cq κ2 s2 t2 k2) (mq τ s)) C (mX3_undo (L := fun κ9 => jn κ9 (mq τ s)) (lnC_jn _) e1) cw_X3_undo wd_641 (by decide) rfl rfl ⟨Nat.le_of_ble_eq_true rfl, Nat.le_of_ble_eq_true rfl⟩ rfl rfl (Nat.le_of_ble_eq_true rfl) dL_law_1459 ?_
  refine v_aload_n C 2 dL_law_1462 rfl rfl ?_
  refine v_callV (r := some (.int r)) (As := []) (rest := [.int r]) (K := 51) (ci := 4) (σ' := jn (cq κ2 s2 t2 k2) (mq τ2 s2)) C (mX4_undo (L := fun τ9 => jn (cq κ2 s2 t2 k2) τ9) (lnM_jn _) e2) cw_X4_undo wd_1108 (by decide) rfl rfl ⟨Nat.le_of_ble_eq_true rfl, Nat.le_of_ble_eq_true rfl⟩ rfl rfl (Nat.le_of_ble_eq_true rfl) dL_law_1463 ?_
  refine v_icmp_eq (tgt := 1530) (Pt := some ()) (Pf := none) (res := ()) C dL_law_1466 (by decide) (if_pos rfl) (fun _ => ?_) (fun hf => by cases hf)
  exact kk _ _ _ _ _ hI2
/-- case 40: tear -/
theorem law_40 (C : Cx E B l0 cL_law RL ret9 4 13 482) (hX : LX E b L xs) (hL9 : L ≤ 3072) (hi : i + 6 ≤ L) (hhb : hb ≤ 40000) (hI : Inv hb κ s k τ) (kk : ∀ (κ2 : St2) (s2 t2 k2 : Nat → Int32) (τ2 : St2), Inv (hb + 60) κ2 s2 k2 τ2 → V E B (jn (cq κ2 s2 t2 k2) (mq τ2 s2)) 1530 (LV b B i) []) : V E B (jn (cq κ s t k) (mq τ s)) 1471 (LV b B i) [] := by
  obtain ⟨r, κ2, s2, t2, k2, τ2, e1, e2, hI2⟩ := sim_tear (t := t)  hI
  refine v_aload_n C 1 dL_law_1471 rfl rfl ?_
  refine v_callV (r := some (.int r)) (As := []) (rest := []) (K := 0) (ci := 3) (σ' := jn (cq κ2 s2 t2 k2) (mq τ s)) C (mX3_tear (L := fun κ9 => jn κ9 (mq τ s)) (lnC_jn _) e1) cw_X3_tear wd_645 (by decide) rfl rfl ⟨Nat.le_of_ble_eq_true rfl, Nat.le_of_ble_eq_true rfl⟩ rfl rfl (Nat.le_of_ble_eq_true rfl) dL_law_1472 ?_
  refine v_aload_n C 2 dL_law_1475 rfl rfl ?_
  refine v_callV (r := some (.int r)) (As := []) (rest := [.int r]) (K := 51) (ci := 4) (σ' := jn (cq κ2 s2 t2 k2) (mq τ2 s2)) C (mX4_tear (L := fun τ9 => jn (cq κ2 s2 t2 k2) τ9) (lnM_jn _) e2) cw_X4_tear wd_1112 (by decide) rfl rfl ⟨Nat.le_of_ble_eq_true rfl, Nat.le_of_ble_eq_true rfl⟩ rfl rfl (Nat.le_of_ble_eq_true rfl) dL_law_1476 ?_
  refine v_icmp_eq (tgt := 1530) (Pt := some ()) (Pf := none) (res := ()) C dL_law_1479 (by decide) (if_pos rfl) (fun _ => ?_) (fun hf => by cases hf)
  exact kk _ _ _ _ _ hI2
/-- case 41: count -/
theorem law_41 (C : Cx E B l0 cL_law RL ret9 4 13 482) (hX : LX E b L xs) (hL9 : L ≤ 3072) (hi : i + 6 ≤ L) (hhb : hb ≤ 40000) (hI : Inv hb κ s k τ) (kk : ∀ (κ2 : St2) (s2 t2 k2 : Nat → Int32) (τ2 : St2), Inv (hb + 60) κ2 s2 k2 τ2 → V E B (jn (cq κ2 s2 t2 k2) (mq τ2 s2)) 1530 (LV b B i) []) : V E B (jn (cq κ s t k) (mq τ s)) 1484 (LV b B i) [] := by
  obtain ⟨r, κ2, s2, t2, k2, τ2, e1, e2, hI2⟩ := sim_count (N := 1000) (t := t) (a := xs (i + 1)) (Nat.le_refl _) hI
  refine v_aload_n C 1 dL_law_1484 rfl rfl ?_
  refine l_arg (n := 1) C hX hL9 1 (by omega) dL_law_1485 dL_law_1486 dL_law_1487 rfl dL_law_1488 dL_law_1489 ?_
  refine v_callV (r := some (.int r)) (As := [.int (xs (i + 1))]) (rest := []) (K := 0) (ci := 3) (σ' := jn (cq κ2 s2 t2 k2) (mq τ s)) C (mX3_count (L := fun κ9 => jn κ9 (mq τ s)) (lnC_jn _) e1) cw_X3_count wd_649 (by decide) rfl rfl ⟨Nat.le_of_ble_eq_true rfl, Nat.le_of_ble_eq_true rfl⟩ rfl rfl (Nat.le_of_ble_eq_true rfl) dL_law_1490 ?_
  refine v_aload_n C 2 dL_law_1493 rfl rfl ?_
  refine l_arg (n := 1) C hX hL9 1 (by omega) dL_law_1494 dL_law_1495 dL_law_1496 rfl dL_law_1497 dL_law_1498 ?_
  refine v_callV (r := some (.int r)) (As := [.int (xs (i + 1))]) (rest := [.int r]) (K := 51) (ci := 4) (σ' := jn (cq κ2 s2 t2 k2) (mq τ2 s2)) C (mX4_count (L := fun τ9 => jn (cq κ2 s2 t2 k2) τ9) (lnM_jn _) e2) cw_X4_count wd_1116 (by decide) rfl rfl ⟨Nat.le_of_ble_eq_true rfl, Nat.le_of_ble_eq_true rfl⟩ rfl rfl (Nat.le_of_ble_eq_true rfl) dL_law_1499 ?_
  refine v_icmp_eq (tgt := 1530) (Pt := some ()) (Pf := none) (res := ()) C dL_law_1502 (by decide) (if_pos rfl) (fun _ => ?_) (fun hf => by cases hf)
  exact kk _ _ _ _ _ hI2
/-- case 42: status -/
theorem law_42 (C : Cx E B l0 cL_law RL ret9 4 13 482) (hX : LX E b L xs) (hL9 : L ≤ 3072) (hi : i + 6 ≤ L) (hhb : hb ≤ 40000) (hI : Inv hb κ s k τ) (kk : ∀ (κ2 : St2) (s2 t2 k2 : Nat → Int32) (τ2 : St2), Inv (hb + 60) κ2 s2 k2 τ2 → V E B (jn (cq κ2 s2 t2 k2) (mq τ2 s2)) 1530 (LV b B i) []) : V E B (jn (cq κ s t k) (mq τ s)) 1507 (LV b B i) [] := by
  obtain ⟨r, κ2, s2, t2, k2, τ2, e1, e2, hI2⟩ := sim_status (N := 1000) (t := t) (a := xs (i + 1)) (Nat.le_refl _) hI
  refine v_aload_n C 1 dL_law_1507 rfl rfl ?_
  refine l_arg (n := 1) C hX hL9 1 (by omega) dL_law_1508 dL_law_1509 dL_law_1510 rfl dL_law_1511 dL_law_1512 ?_
  refine v_callV (r := some (.int r)) (As := [.int (xs (i + 1))]) (rest := []) (K := 0) (ci := 3) (σ' := jn (cq κ2 s2 t2 k2) (mq τ s)) C (mX3_status (L := fun κ9 => jn κ9 (mq τ s)) (lnC_jn _) e1) cw_X3_status wd_657 (by decide) rfl rfl ⟨Nat.le_of_ble_eq_true rfl, Nat.le_of_ble_eq_true rfl⟩ rfl rfl (Nat.le_of_ble_eq_true rfl) dL_law_1513 ?_
  refine v_aload_n C 2 dL_law_1516 rfl rfl ?_
  refine l_arg (n := 1) C hX hL9 1 (by omega) dL_law_1517 dL_law_1518 dL_law_1519 rfl dL_law_1520 dL_law_1521 ?_
  refine v_callV (r := some (.int r)) (As := [.int (xs (i + 1))]) (rest := [.int r]) (K := 51) (ci := 4) (σ' := jn (cq κ2 s2 t2 k2) (mq τ2 s2)) C (mX4_status (L := fun τ9 => jn (cq κ2 s2 t2 k2) τ9) (lnM_jn _) e2) cw_X4_status wd_1124 (by decide) rfl rfl ⟨Nat.le_of_ble_eq_true rfl, Nat.le_of_ble_eq_true rfl⟩ rfl rfl (Nat.le_of_ble_eq_true rfl) dL_law_1522 ?_
  refine v_icmp_eq (tgt := 1530) (Pt := some ()) (Pf := none) (res := ()) C dL_law_1525 (by decide) (if_pos rfl) (fun _ => ?_) (fun hf => by cases hf)
  exact kk _ _ _ _ _ hI2
end LAWC
