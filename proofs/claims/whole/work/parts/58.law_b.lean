section LAWL
variable {B : BB} {b L : Nat} {xs : Nat → Int32}
/-- the law's end -/
theorem law_end {p : Program} {l : Launch} {e : Env} {s : State} {m : MethodId} {below : List Frame} {meth : Method} {c : Code} {cells slots : Nat} {σ : St2} {lv : List (Nat × Value)} {q : Nat} (C : Cx (p, l, e, room_1, s, m, #[Value.ref q], below, meth, c, (fun a : Nat => s.heap.size ≤ a), lw_Z below #[Value.ref q] s, cells, slots, 4) B l cL_law RL ret 4 13 482) : V (p, l, e, room_1, s, m, #[Value.ref q], below, meth, c, (fun a : Nat => s.heap.size ≤ a), lw_Z below #[Value.ref q] s, cells, slots, 4) B σ 1536 lv [] := by
  refine v_iconst (v := 1) C dL_law_1536 (by decide) ?_
  obtain ⟨hl0, hx, hb, hml, hnl, hr, hlk, hown, hts, hK, hD, hfr, hlo, hcc, hcs, hF⟩ := C
  intro H locs ls hP hS hl
  refine va_forget (fun q hq => hS.2.2 q hq) ?_
  refine W.widen (k := 600000) (n := 7302250) hcc hcs ?_
  exact lw_ret hx hb hr hlk dL_law_1537
theorem low6 {i L : Nat} (hi : i < 1000000) (hL : L ≤ 3072) : (nI L - 6 < nI i ↔ L < i + 6) := by
  by_cases h : 6 ≤ L
  · rw [show (6 : Int32) = nI 6 from rfl, pk_sub h, nI_ltI (by omega) (by omega)]
    omega
  · have h1 : ∀ L, L < 6 → nI L - 6 < 0 := by decide +kernel
    exact ⟨fun _ => by omega, fun _ => Int32.lt_of_lt_of_le (h1 L (by omega)) (nI_pos' (by omega))⟩
set_option maxHeartbeats 4000000 in
theorem law_loop {p : Program} {l : Launch} {e : Env} {s0 : State} {m : MethodId} {below : List Frame} {meth : Method} {c : Code} {cells slots : Nat} {q : Nat} (C : Cx (p, l, e, room_1, s0, m, #[Value.ref q], below, meth, c, (fun a : Nat => s0.heap.size ≤ a), lw_Z below #[Value.ref q] s0, cells, slots, 4) B l cL_law RL ret 4 13 482) (hX : LX (p, l, e, room_1, s0, m, #[Value.ref q], below, meth, c, (fun a : Nat => s0.heap.size ≤ a), lw_Z below #[Value.ref q] s0, cells, slots, 4) b L xs) (hL9 : L ≤ 3072) : ∀ (d i : Nat) (κ : St2) (s t k : Nat → Int32) (τ : St2), L + 1 ≤ i + d → i ≤ L + 6 → Inv (10 * i) κ s k τ → V (p, l, e, room_1, s0, m, #[Value.ref q], below, meth, c, (fun a : Nat => s0.heap.size ≤ a), lw_Z below #[Value.ref q] s0, cells, slots, 4) B (jn (cq κ s t k) (mq τ s)) 18 (LV b B i) [] := by
  have base : ∀ (i : Nat) (σ : St2), i ≤ L + 6 → (i + 6 ≤ L → V (p, l, e, room_1, s0, m, #[Value.ref q], below, meth, c, (fun a : Nat => s0.heap.size ≤ a), lw_Z below #[Value.ref q] s0, cells, slots, 4) B σ 27 (LV b B i) []) → V (p, l, e, room_1, s0, m, #[Value.ref q], below, meth, c, (fun a : Nat => s0.heap.size ≤ a), lw_Z below #[Value.ref q] s0, cells, slots, 4) B σ 18 (LV b B i) [] := by
    intro i σ hi h27
    refine v_iload_n C 3 dL_law_18 rfl rfl ?_
    refine v_aload_n C 0 dL_law_19 rfl rfl ?_
    refine v_scrlen C hX dL_law_20 ?_
    refine v_bipush (v := 6) C dL_law_21 (by decide) ?_
    refine v_isub C dL_law_23 ?_
    by_cases h : L < i + 6
    · refine v_icmp_gt (tgt := 1536) (Pt := some ()) (Pf := none) (res := ()) C dL_law_24 (by decide) (if_pos ((low6 (by omega) hL9).mpr h)) (fun _ => ?_) (fun hf => by cases hf)
      exact law_end C
    · refine v_icmp_gt (tgt := 1536) (Pt := none) (Pf := some ()) (res := ()) C dL_law_24 (by decide) (if_neg (fun z => h ((low6 (by omega) hL9).mp z))) (fun hf => by cases hf) (fun _ => ?_)
      exact h27 (by omega)
  intro d
  induction d with
  | zero =>
    intro i κ s t k τ hd hi hI
    exact base i _ hi (fun h => absurd h (by omega))
  | succ d ih =>
    intro i κ s t k τ hd hi hI
    refine base i _ hi (fun h6 => ?_)
    have kk : ∀ (κ2 : St2) (s2 t2 k2 : Nat → Int32) (τ2 : St2), Inv (10 * i + 60) κ2 s2 k2 τ2 → V (p, l, e, room_1, s0, m, #[Value.ref q], below, meth, c, (fun a : Nat => s0.heap.size ≤ a), lw_Z below #[Value.ref q] s0, cells, slots, 4) B (jn (cq κ2 s2 t2 k2) (mq τ2 s2)) 1530 (LV b B i) [] := by
      intro κ2 s2 t2 k2 τ2 hI2
      refine v_iinc (q := 3) (v := nI (i + 6)) (lv' := LV b B (i + 6)) C [1, 2, 3, 0] dL_law_1530 rfl (nI_add i 6) (by decide) rfl ?_
      refine v_goto (tgt := 18) C dL_law_1533 (by decide) ?_
      exact ih (i + 6) κ2 s2 t2 k2 τ2 (by omega) (by omega) (by rw [show 10 * (i + 6) = 10 * i + 60 by omega]; exact hI2)
    have hhb : 10 * i ≤ 40000 := by omega
    refine v_aload_n C 0 dL_law_27 rfl rfl ?_
    refine v_iload_n C 3 dL_law_28 rfl rfl ?_
    refine v_sld C hX ⟨nI_pos (by omega), by rw [nI_clamp (by omega)]; omega⟩ dL_law_29 ?_
    rw [nI_clamp (by omega)]
    refine v_bipush (v := 63) C dL_law_30 (by decide) ?_
    refine v_iand C dL_law_32 ?_
    rw [pk_and (xs i) (m := 63) 6 (by decide)]
    have hv : (xs i).toBitVec.toNat % 2 ^ 6 < 64 := Nat.mod_lt _ (by decide)
    generalize (xs i).toBitVec.toNat % 2 ^ 6 = v at hv
    rcases (show v = 0 ∨ v = 1 ∨ v = 2 ∨ v = 3 ∨ v = 4 ∨ v = 5 ∨ v = 6 ∨ v = 7 ∨ v = 8 ∨ v = 9 ∨ v = 10 ∨ v = 11 ∨ v = 12 ∨ v = 13 ∨ v = 14 ∨ v = 15 ∨ v = 16 ∨ v = 17 ∨ v = 18 ∨ v = 19 ∨ v = 20 ∨ v = 21 ∨ v = 22 ∨ v = 23 ∨ v = 24 ∨ v = 25 ∨ v = 26 ∨ v = 27 ∨ v = 28 ∨ v = 29 ∨ v = 30 ∨ v = 31 ∨ v = 32 ∨ v = 33 ∨ v = 34 ∨ v = 35 ∨ v = 36 ∨ v = 37 ∨ v = 38 ∨ v = 39 ∨ v = 40 ∨ v = 41 ∨ v = 42 ∨ 43 ≤ v by omega) with rfl | rfl | rfl | rfl | rfl | rfl | rfl | rfl | rfl | rfl | rfl | rfl | rfl | rfl | rfl | rfl | rfl | rfl | rfl | rfl | rfl | rfl | rfl | rfl | rfl | rfl | rfl | rfl | rfl | rfl | rfl | rfl | rfl | rfl | rfl | rfl | rfl | rfl | rfl | rfl | rfl | rfl | rfl | hv43
    · exact v_tabIn (z := 0) (off := 187) (tgt := 220) C dL_law_33 rfl (by decide) (by decide) rfl (by decide) (law_0 C hX hL9 h6 hhb hI kk)
    · exact v_tabIn (z := 1) (off := 220) (tgt := 253) C dL_law_33 rfl (by decide) (by decide) rfl (by decide) (law_1 C hX hL9 h6 hhb hI kk)
    · exact v_tabIn (z := 2) (off := 263) (tgt := 296) C dL_law_33 rfl (by decide) (by decide) rfl (by decide) (law_2 C hX hL9 h6 hhb hI kk)
    · exact v_tabIn (z := 3) (off := 286) (tgt := 319) C dL_law_33 rfl (by decide) (by decide) rfl (by decide) (law_3 C hX hL9 h6 hhb hI kk)
    · exact v_tabIn (z := 4) (off := 299) (tgt := 332) C dL_law_33 rfl (by decide) (by decide) rfl (by decide) (law_4 C hX hL9 h6 hhb hI kk)
    · exact v_tabIn (z := 5) (off := 332) (tgt := 365) C dL_law_33 rfl (by decide) (by decide) rfl (by decide) (law_5 C hX hL9 h6 hhb hI kk)
    · exact v_tabIn (z := 6) (off := 365) (tgt := 398) C dL_law_33 rfl (by decide) (by decide) rfl (by decide) (law_6 C hX hL9 h6 hhb hI kk)
    · exact v_tabIn (z := 7) (off := 408) (tgt := 441) C dL_law_33 rfl (by decide) (by decide) rfl (by decide) (law_7 C hX hL9 h6 hhb hI kk)
    · exact v_tabIn (z := 8) (off := 431) (tgt := 464) C dL_law_33 rfl (by decide) (by decide) rfl (by decide) (law_8 C hX hL9 h6 hhb hI kk)
    · exact v_tabIn (z := 9) (off := 454) (tgt := 487) C dL_law_33 rfl (by decide) (by decide) rfl (by decide) (law_9 C hX hL9 h6 hhb hI kk)
    · exact v_tabIn (z := 10) (off := 477) (tgt := 510) C dL_law_33 rfl (by decide) (by decide) rfl (by decide) (law_10 C hX hL9 h6 hhb hI kk)
    · exact v_tabIn (z := 11) (off := 520) (tgt := 553) C dL_law_33 rfl (by decide) (by decide) rfl (by decide) (law_11 C hX hL9 h6 hhb hI kk)
    · exact v_tabIn (z := 12) (off := 553) (tgt := 586) C dL_law_33 rfl (by decide) (by decide) rfl (by decide) (law_12 C hX hL9 h6 hhb hI kk)
    · exact v_tabIn (z := 13) (off := 586) (tgt := 619) C dL_law_33 rfl (by decide) (by decide) rfl (by decide) (law_13 C hX hL9 h6 hhb hI kk)
    · exact v_tabIn (z := 14) (off := 609) (tgt := 642) C dL_law_33 rfl (by decide) (by decide) rfl (by decide) (law_14 C hX hL9 h6 hhb hI kk)
    · exact v_tabIn (z := 15) (off := 642) (tgt := 675) C dL_law_33 rfl (by decide) (by decide) rfl (by decide) (law_15 C hX hL9 h6 hhb hI kk)
    · exact v_tabIn (z := 16) (off := 675) (tgt := 708) C dL_law_33 rfl (by decide) (by decide) rfl (by decide) (law_16 C hX hL9 h6 hhb hI kk)
    · exact v_tabIn (z := 17) (off := 708) (tgt := 741) C dL_law_33 rfl (by decide) (by decide) rfl (by decide) (law_17 C hX hL9 h6 hhb hI kk)
    · exact v_tabIn (z := 18) (off := 741) (tgt := 774) C dL_law_33 rfl (by decide) (by decide) rfl (by decide) (law_18 C hX hL9 h6 hhb hI kk)
    · exact v_tabIn (z := 19) (off := 774) (tgt := 807) C dL_law_33 rfl (by decide) (by decide) rfl (by decide) (law_19 C hX hL9 h6 hhb hI kk)
    · exact v_tabIn (z := 20) (off := 817) (tgt := 850) C dL_law_33 rfl (by decide) (by decide) rfl (by decide) (law_20 C hX hL9 h6 hhb hI kk)
    · exact v_tabIn (z := 21) (off := 850) (tgt := 883) C dL_law_33 rfl (by decide) (by decide) rfl (by decide) (law_21 C hX hL9 h6 hhb hI kk)
    · exact v_tabIn (z := 22) (off := 873) (tgt := 906) C dL_law_33 rfl (by decide) (by decide) rfl (by decide) (law_22 C hX hL9 h6 hhb hI kk)
    · exact v_tabIn (z := 23) (off := 916) (tgt := 949) C dL_law_33 rfl (by decide) (by decide) rfl (by decide) (law_23 C hX hL9 h6 hhb hI kk)
    · exact v_tabIn (z := 24) (off := 959) (tgt := 992) C dL_law_33 rfl (by decide) (by decide) rfl (by decide) (law_24 C hX hL9 h6 hhb hI kk)
    · exact v_tabIn (z := 25) (off := 1002) (tgt := 1035) C dL_law_33 rfl (by decide) (by decide) rfl (by decide) (law_25 C hX hL9 h6 hhb hI kk)
    · exact v_tabIn (z := 26) (off := 1025) (tgt := 1058) C dL_law_33 rfl (by decide) (by decide) rfl (by decide) (law_26 C hX hL9 h6 hhb hI kk)
    · exact v_tabIn (z := 27) (off := 1069) (tgt := 1102) C dL_law_33 rfl (by decide) (by decide) rfl (by decide) (law_27 C hX hL9 h6 hhb hI kk)
    · exact v_tabIn (z := 28) (off := 1092) (tgt := 1125) C dL_law_33 rfl (by decide) (by decide) rfl (by decide) (law_28 C hX hL9 h6 hhb hI kk)
    · exact v_tabIn (z := 29) (off := 1125) (tgt := 1158) C dL_law_33 rfl (by decide) (by decide) rfl (by decide) (law_29 C hX hL9 h6 hhb hI kk)
    · exact v_tabIn (z := 30) (off := 1138) (tgt := 1171) C dL_law_33 rfl (by decide) (by decide) rfl (by decide) (law_30 C hX hL9 h6 hhb hI kk)
    · exact v_tabIn (z := 31) (off := 1151) (tgt := 1184) C dL_law_33 rfl (by decide) (by decide) rfl (by decide) (law_31 C hX hL9 h6 hhb hI kk)
    · exact v_tabIn (z := 32) (off := 1184) (tgt := 1217) C dL_law_33 rfl (by decide) (by decide) rfl (by decide) (law_32 C hX hL9 h6 hhb hI kk)
    · exact v_tabIn (z := 33) (off := 1217) (tgt := 1250) C dL_law_33 rfl (by decide) (by decide) rfl (by decide) (law_33 C hX hL9 h6 hhb hI kk)
    · exact v_tabIn (z := 34) (off := 1260) (tgt := 1293) C dL_law_33 rfl (by decide) (by decide) rfl (by decide) (law_34 C hX hL9 h6 hhb hI kk)
    · exact v_tabIn (z := 35) (off := 1303) (tgt := 1336) C dL_law_33 rfl (by decide) (by decide) rfl (by decide) (law_35 C hX hL9 h6 hhb hI kk)
    · exact v_tabIn (z := 36) (off := 1366) (tgt := 1399) C dL_law_33 rfl (by decide) (by decide) rfl (by decide) (law_36 C hX hL9 h6 hhb hI kk)
    · exact v_tabIn (z := 37) (off := 1389) (tgt := 1422) C dL_law_33 rfl (by decide) (by decide) rfl (by decide) (law_37 C hX hL9 h6 hhb hI kk)
    · exact v_tabIn (z := 38) (off := 1412) (tgt := 1445) C dL_law_33 rfl (by decide) (by decide) rfl (by decide) (law_38 C hX hL9 h6 hhb hI kk)
    · exact v_tabIn (z := 39) (off := 1425) (tgt := 1458) C dL_law_33 rfl (by decide) (by decide) rfl (by decide) (law_39 C hX hL9 h6 hhb hI kk)
    · exact v_tabIn (z := 40) (off := 1438) (tgt := 1471) C dL_law_33 rfl (by decide) (by decide) rfl (by decide) (law_40 C hX hL9 h6 hhb hI kk)
    · exact v_tabIn (z := 41) (off := 1451) (tgt := 1484) C dL_law_33 rfl (by decide) (by decide) rfl (by decide) (law_41 C hX hL9 h6 hhb hI kk)
    · exact v_tabIn (z := 42) (off := 1474) (tgt := 1507) C dL_law_33 rfl (by decide) (by decide) rfl (by decide) (law_42 C hX hL9 h6 hhb hI kk)
    · refine v_tabOut (tgt := 1530) C dL_law_33 (Or.inr ?_) (by decide) (kk _ _ _ _ _ (hI.mono (by omega)))
      rw [nI_toInt (by omega)]
      omega
end LAWL
