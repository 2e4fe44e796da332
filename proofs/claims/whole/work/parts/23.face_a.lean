def fX3_tell (κ : St2) (v1 : Int32) : Option (Int32 × St2) := (some ((-1000001) - v1)).bind fun w1 => (fX3_within w1 0 6).bind fun y2 => if y2 = 0 then (some (v1, κ)) else ((rd (κ 1) 7 w1).bind fun a3 => (wr κ 1 7 w1 (a3 + 1)).bind fun κ4 => some (v1, κ4))
set_option maxHeartbeats 4000000 in
set_option maxRecDepth 100000 in
theorem tX3_tell {E : EE} {B : BB} {l : Launch} {L : St2 → St2} {κ : St2} {v1 : Int32} {res : (Int32 × St2)} (C : Cx E B l cX3_tell RX3 (some .int) 3 1 22) (hL : LnC L) (hQ : Fin9 E B (some (.int res.1)) (L res.2)) (hf : fX3_tell κ v1 = some res) : V E B (L κ) 0 [(0, .ref (ad B 0)), (1, .int v1)] [] := by
  unfold fX3_tell at hf
  refine v_ldc C wd_144 dX3_tell_0 ?_
  refine v_iload_n C 1 dX3_tell_2 rfl rfl ?_
  refine v_isub C dX3_tell_3 ?_
  refine v_top hf (fun w1 hf => ?_)
  refine v_istore_n (lv' := [(0, .ref (ad B 0)), (1, .int v1), (2, .int w1)]) C [1, 2, 0] dX3_tell_4 rfl (by decide) rfl ?_
  refine v_iload_n C 2 dX3_tell_5 rfl rfl ?_
  refine v_iconst (v := 0) C dX3_tell_6 (by decide) ?_
  refine v_bipush (v := 6) C dX3_tell_7 (by decide) ?_
  obtain ⟨y2, hy2, hf⟩ := bnd hf
  refine v_callS (r := some (.int y2)) (As := [.int w1, .int 0, .int 6]) (rest := []) C (mX3_within  hy2) cw_X3_within wd_141 ⟨Nat.le_of_ble_eq_true rfl, Nat.le_of_ble_eq_true rfl⟩ rfl rfl (Nat.le_of_ble_eq_true rfl) dX3_tell_9 ?_
  refine v_if_eq (tgt := 25) C dX3_tell_12 (by decide) hf (fun hf => ?_) (fun hf => ?_)
  · refine v_iload_n C 1 dX3_tell_25 rfl rfl ?_
    exact v_iret C dX3_tell_26 (fin_im hf hQ)
  · refine v_aload_n C 0 dX3_tell_15 rfl rfl ?_
    refine g_getR (K := 0) (i := 6) (j := 1) C (by decide) rfl rfl inX3 (by decide) rfl wd_118 dX3_tell_16 ?_
    refine v_iload_n C 2 dX3_tell_19 rfl rfl ?_
    refine v_dup2 C dX3_tell_20 rfl rfl ?_
    refine c_ald (k := 1) C hL (by decide) rfl dX3_tell_21 hf (fun a3 hf => ?_)
    refine v_iconst (v := 1) C dX3_tell_22 (by decide) ?_
    refine v_iadd C dX3_tell_23 ?_
    refine c_ast (k := 1) C hL (by decide) rfl dX3_tell_24 hf (fun κ4 hf => ?_)
    refine v_iload_n C 1 dX3_tell_25 rfl rfl ?_
    exact v_iret C dX3_tell_26 (fin_im hf hQ)
theorem mX3_tell {B : BB} {l : Launch} {L : St2 → St2} {κ : St2} {v1 : Int32} {res : (Int32 × St2)} (hL : LnC L) (hf : fX3_tell κ v1 = some res) : Ret l B yX3_tell cX3_tell 3 (some .int) 1 22 [.ref (ad B 0), .int v1] (L κ) (some (.int res.1)) (L res.2) := ret_of (own := RX3) (by decide) rfl (Nat.le_of_ble_eq_true rfl) (fun E C hQ => tX3_tell C hL hQ hf)
def fX3_cell (N : Nat) (κ : St2) (v1 : Int32) (v2 : Int32) : Option (Int32 × St2) := (fX3_isCell v1).bind fun y1 => if y1 = 0 then ((fX3_tell κ (-1000001)).bind fun y2 => some (y2.1, y2.2)) else ((fX3_within v2 0 3).bind fun y3 => if y3 = 0 then ((fX3_tell κ (-1000001)).bind fun y7 => some (y7.1, y7.2)) else (if 3 ≤ v2 then ((fX1_walkersAt N (vw κ 12) v1).bind fun y4 => some (y4, κ)) else ((ck v2 3).bind fun r5 => (rd (κ (12 + (2 + r5))) 24 v1).bind fun a6 => some (a6, κ))))
set_option maxHeartbeats 4000000 in
set_option maxRecDepth 100000 in
theorem tX3_cell {E : EE} {B : BB} {l : Launch} {L : St2 → St2} {N : Nat} {κ : St2} {v1 : Int32} {v2 : Int32} {res : (Int32 × St2)} (C : Cx E B l cX3_cell RX3 (some .int) 3 2 44) (hL : LnC L) (hQ : Fin9 E B (some (.int res.1)) (L res.2)) (hf : fX3_cell N κ v1 v2 = some res) : V E B (L κ) 0 [(0, .ref (ad B 0)), (1, .int v1), (2, .int v2)] [] := by
  unfold fX3_cell at hf
  refine v_iload_n C 1 dX3_cell_0 rfl rfl ?_
  obtain ⟨y1, hy1, hf⟩ := bnd hf
  refine v_callS (r := some (.int y1)) (As := [.int v1]) (rest := []) C (mX3_isCell  hy1) cw_X3_isCell wd_138 ⟨Nat.le_of_ble_eq_true rfl, Nat.le_of_ble_eq_true rfl⟩ rfl rfl (Nat.le_of_ble_eq_true rfl) dX3_cell_1 ?_
  refine v_if_eq (tgt := 16) C dX3_cell_4 (by decide) hf (fun hf => ?_) (fun hf => ?_)
  · refine v_aload_n C 0 dX3_cell_16 rfl rfl ?_
    refine v_ldc C wd_144 dX3_cell_17 ?_
    obtain ⟨y2, hy2, hf⟩ := bnd hf
    refine v_callV (r := some (.int y2.1)) (As := [.int (-1000001)]) (rest := []) (K := 0) C (mX3_tell hL hy2) cw_X3_tell wd_145 (by decide) rfl rfl ⟨Nat.le_of_ble_eq_true rfl, Nat.le_of_ble_eq_true rfl⟩ rfl rfl (Nat.le_of_ble_eq_true rfl) dX3_cell_19 ?_
    exact v_iret C dX3_cell_22 (fin_im hf hQ)
  · refine v_iload_n C 2 dX3_cell_7 rfl rfl ?_
    refine v_iconst (v := 0) C dX3_cell_8 (by decide) ?_
    refine v_iconst (v := 3) C dX3_cell_9 (by decide) ?_
    obtain ⟨y3, hy3, hf⟩ := bnd hf
    refine v_callS (r := some (.int y3)) (As := [.int v2, .int 0, .int 3]) (rest := []) C (mX3_within  hy3) cw_X3_within wd_141 ⟨Nat.le_of_ble_eq_true rfl, Nat.le_of_ble_eq_true rfl⟩ rfl rfl (Nat.le_of_ble_eq_true rfl) dX3_cell_10 ?_
    refine v_if_ne (tgt := 23) C dX3_cell_13 (by decide) hf (fun hf => ?_) (fun hf => ?_)
    · refine v_iload_n C 2 dX3_cell_23 rfl rfl ?_
      refine v_iconst (v := 3) C dX3_cell_24 (by decide) ?_
      refine v_icmp_ge (tgt := 40) C dX3_cell_25 (by decide) hf (fun hf => ?_) (fun hf => ?_)
      · refine v_aload_n C 0 dX3_cell_40 rfl rfl ?_
        refine g_getR (K := 0) (i := 0) (j := 12) C (by decide) rfl rfl inX3 (by decide) rfl wd_112 dX3_cell_41 ?_
        refine v_iload_n C 1 dX3_cell_44 rfl rfl ?_
        obtain ⟨y4, hy4, hf⟩ := bnd hf
        refine v_callV (r := some (.int y4)) (As := [.int v1]) (rest := []) (K := 12) C (nX1_walkersAt hL sb12 hy4) cw_X1_walkersAt wd_149 (by decide) (tb_o sb12) rfl ⟨Nat.le_of_ble_eq_true rfl, Nat.le_of_ble_eq_true rfl⟩ rfl rfl (Nat.le_of_ble_eq_true rfl) dX3_cell_45 ?_
        exact v_iret C dX3_cell_48 (fin_im hf hQ)
      · refine v_aload_n C 0 dX3_cell_28 rfl rfl ?_
        refine g_getR (K := 0) (i := 0) (j := 12) C (by decide) rfl rfl inX3 (by decide) rfl wd_112 dX3_cell_29 ?_
        refine sh_getR (i := 0) (j := 12 + 1) C sb12 (by decide) rfl wd_30 dX3_cell_32 ?_
        refine v_iload_n C 2 dX3_cell_35 rfl rfl ?_
        refine sh_prD C sb12 dX3_cell_36 hf (fun r5 hr5 hf => ?_)
        refine v_iload_n C 1 dX3_cell_37 rfl rfl ?_
        refine c_ald (k := 12 + (2 + r5)) C hL (by omega) (tb_pr sb12 hr5) dX3_cell_38 hf (fun a6 hf => ?_)
        exact v_iret C dX3_cell_39 (fin_im hf hQ)
    · refine v_aload_n C 0 dX3_cell_16 rfl rfl ?_
      refine v_ldc C wd_144 dX3_cell_17 ?_
      obtain ⟨y7, hy7, hf⟩ := bnd hf
      refine v_callV (r := some (.int y7.1)) (As := [.int (-1000001)]) (rest := []) (K := 0) C (mX3_tell hL hy7) cw_X3_tell wd_145 (by decide) rfl rfl ⟨Nat.le_of_ble_eq_true rfl, Nat.le_of_ble_eq_true rfl⟩ rfl rfl (Nat.le_of_ble_eq_true rfl) dX3_cell_19 ?_
      exact v_iret C dX3_cell_22 (fin_im hf hQ)
theorem mX3_cell {B : BB} {l : Launch} {L : St2 → St2} {N : Nat} {κ : St2} {v1 : Int32} {v2 : Int32} {res : (Int32 × St2)} (hL : LnC L) (hf : fX3_cell N κ v1 v2 = some res) : Ret l B yX3_cell cX3_cell 3 (some .int) 2 44 [.ref (ad B 0), .int v1, .int v2] (L κ) (some (.int res.1)) (L res.2) := ret_of (own := RX3) (by decide) rfl (Nat.le_of_ble_eq_true rfl) (fun E C hQ => tX3_cell C hL hQ hf)
def fX3_print (κ : St2) (v1 : Int32) (v2 : Int32) (v3 : Int32) : Option (Int32 × St2) := (fX3_isCell v1).bind fun y1 => if y1 = 0 then ((fX3_tell κ (-1000001)).bind fun y2 => some (y2.1, y2.2)) else ((fX1_isWalkerOrNobody (vw κ 12) v2).bind fun y3 => if y3 = 0 then ((fX3_tell κ (-1000001)).bind fun y4 => some (y4.1, y4.2)) else ((fX3_within v3 0 9).bind fun y5 => if y5 = 0 then ((fX3_tell κ (-1000001)).bind fun y12 => some (y12.1, y12.2)) else ((rd (κ (12 + (2 + 0))) 24 v1).bind fun a6 => if v2 = (-1) then ((fX1_clear (vw κ 12) v1).bind fun y10 => (some (putS κ 12 y10)).bind fun κ11 => some (a6, κ11)) else ((rd (κ (12 + (6 + 2))) 8 v2).bind fun a7 => (fX1_put (vw κ 12) v1 v2 v3 a7).bind fun y8 => (some (putS κ 12 y8)).bind fun κ9 => some (a6, κ9)))))
set_option maxHeartbeats 4000000 in
set_option maxRecDepth 100000 in
theorem tX3_print {E : EE} {B : BB} {l : Launch} {L : St2 → St2} {κ : St2} {v1 : Int32} {v2 : Int32} {v3 : Int32} {res : (Int32 × St2)} (C : Cx E B l cX3_print RX3 (some .int) 5 2 45) (hL : LnC L) (hQ : Fin9 E B (some (.int res.1)) (L res.2)) (hf : fX3_print κ v1 v2 v3 = some res) : V E B (L κ) 0 [(0, .ref (ad B 0)), (1, .int v1), (2, .int v2), (3, .int v3)] [] := by
  unfold fX3_print at hf
  refine v_iload_n C 1 dX3_print_0 rfl rfl ?_
  obtain ⟨y1, hy1, hf⟩ := bnd hf
  refine v_callS (r := some (.int y1)) (As := [.int v1]) (rest := []) C (mX3_isCell  hy1) cw_X3_isCell wd_138 ⟨Nat.le_of_ble_eq_true rfl, Nat.le_of_ble_eq_true rfl⟩ rfl rfl (Nat.le_of_ble_eq_true rfl) dX3_print_1 ?_
  refine v_if_eq (tgt := 28) C dX3_print_4 (by decide) hf (fun hf => ?_) (fun hf => ?_)
  · refine v_aload_n C 0 dX3_print_28 rfl rfl ?_
    refine v_ldc C wd_144 dX3_print_29 ?_
    obtain ⟨y2, hy2, hf⟩ := bnd hf
    refine v_callV (r := some (.int y2.1)) (As := [.int (-1000001)]) (rest := []) (K := 0) C (mX3_tell hL hy2) cw_X3_tell wd_145 (by decide) rfl rfl ⟨Nat.le_of_ble_eq_true rfl, Nat.le_of_ble_eq_true rfl⟩ rfl rfl (Nat.le_of_ble_eq_true rfl) dX3_print_31 ?_
    exact v_iret C dX3_print_34 (fin_im hf hQ)
  · refine v_aload_n C 0 dX3_print_7 rfl rfl ?_
    refine g_getR (K := 0) (i := 0) (j := 12) C (by decide) rfl rfl inX3 (by decide) rfl wd_112 dX3_print_8 ?_
    refine v_iload_n C 2 dX3_print_11 rfl rfl ?_
    obtain ⟨y3, hy3, hf⟩ := bnd hf
    refine v_callV (r := some (.int y3)) (As := [.int v2]) (rest := []) (K := 12) C (nX1_isWalkerOrNobody hL sb12 hy3) cw_X1_isWalkerOrNobody wd_157 (by decide) (tb_o sb12) rfl ⟨Nat.le_of_ble_eq_true rfl, Nat.le_of_ble_eq_true rfl⟩ rfl rfl (Nat.le_of_ble_eq_true rfl) dX3_print_12 ?_
    refine v_if_eq (tgt := 28) C dX3_print_15 (by decide) hf (fun hf => ?_) (fun hf => ?_)
    · refine v_aload_n C 0 dX3_print_28 rfl rfl ?_
      refine v_ldc C wd_144 dX3_print_29 ?_
      obtain ⟨y4, hy4, hf⟩ := bnd hf
      refine v_callV (r := some (.int y4.1)) (As := [.int (-1000001)]) (rest := []) (K := 0) C (mX3_tell hL hy4) cw_X3_tell wd_145 (by decide) rfl rfl ⟨Nat.le_of_ble_eq_true rfl, Nat.le_of_ble_eq_true rfl⟩ rfl rfl (Nat.le_of_ble_eq_true rfl) dX3_print_31 ?_
      exact v_iret C dX3_print_34 (fin_im hf hQ)
    · refine v_iload_n C 3 dX3_print_18 rfl rfl ?_
      refine v_iconst (v := 0) C dX3_print_19 (by decide) ?_
      refine v_bipush (v := 9) C dX3_print_20 (by decide) ?_
      obtain ⟨y5, hy5, hf⟩ := bnd hf
      refine v_callS (r := some (.int y5)) (As := [.int v3, .int 0, .int 9]) (rest := []) C (mX3_within  hy5) cw_X3_within wd_141 ⟨Nat.le_of_ble_eq_true rfl, Nat.le_of_ble_eq_true rfl⟩ rfl rfl (Nat.le_of_ble_eq_true rfl) dX3_print_22 ?_
      refine v_if_ne (tgt := 35) C dX3_print_25 (by decide) hf (fun hf => ?_) (fun hf => ?_)
      · refine v_aload_n C 0 dX3_print_35 rfl rfl ?_
        refine g_getR (K := 0) (i := 0) (j := 12) C (by decide) rfl rfl inX3 (by decide) rfl wd_112 dX3_print_36 ?_
        refine sh_getR (i := 0) (j := 12 + 1) C sb12 (by decide) rfl wd_30 dX3_print_39 ?_
        refine v_iconst (v := 0) C dX3_print_42 (by decide) ?_
        refine sh_prS C 0 sb12 rfl (by decide) dX3_print_43 ?_
        refine v_iload_n C 1 dX3_print_44 rfl rfl ?_
        refine c_ald (k := 12 + (2 + 0)) C hL (by decide) (tb_pr sb12 (r := 0) (by decide)) dX3_print_45 hf (fun a6 hf => ?_)
        refine v_istore (lv' := [(0, .ref (ad B 0)), (1, .int v1), (2, .int v2), (3, .int v3), (4, .int a6)]) C [1, 2, 3, 4, 0] dX3_print_46 (by decide) rfl ?_
        refine v_iload_n C 2 dX3_print_48 rfl rfl ?_
        refine v_iconst (v := (-1)) C dX3_print_49 (by decide) ?_
        refine v_icmp_ne (tgt := 64) C dX3_print_50 (by decide) hf (fun hf => ?_) (fun hf => ?_)
        · refine v_aload_n C 0 dX3_print_64 rfl rfl ?_
          refine g_getR (K := 0) (i := 0) (j := 12) C (by decide) rfl rfl inX3 (by decide) rfl wd_112 dX3_print_65 ?_
          refine v_iload_n C 1 dX3_print_68 rfl rfl ?_
          refine v_iload_n C 2 dX3_print_69 rfl rfl ?_
          refine v_iload_n C 3 dX3_print_70 rfl rfl ?_
          refine v_aload_n C 0 dX3_print_71 rfl rfl ?_
          refine g_getR (K := 0) (i := 0) (j := 12) C (by decide) rfl rfl inX3 (by decide) rfl wd_112 dX3_print_72 ?_
          refine sh_getR (i := 1) (j := 12 + 5) C sb12 (by decide) rfl wd_32 dX3_print_75 ?_
          refine v_iconst (v := 2) C dX3_print_78 (by decide) ?_
          refine sh_trS C 2 sb12 rfl (by decide) dX3_print_79 ?_
          refine v_iload_n C 2 dX3_print_80 rfl rfl ?_
          refine c_ald (k := 12 + (6 + 2)) C hL (by decide) (tb_tr sb12 (r := 2) (by decide)) dX3_print_81 hf (fun a7 hf => ?_)
          obtain ⟨y8, hy8, hf⟩ := bnd hf
          refine v_callV (r := none) (As := [.int v1, .int v2, .int v3, .int a7]) (rest := []) (K := 12) C (nX1_put hL sb12 hy8) cw_X1_put wd_170 (by decide) (tb_o sb12) rfl ⟨Nat.le_of_ble_eq_true rfl, Nat.le_of_ble_eq_true rfl⟩ rfl rfl (Nat.le_of_ble_eq_true rfl) dX3_print_82 ?_
          obtain ⟨κ9, he, hf⟩ := bnd hf
          rw [Option.some.inj he]
          refine v_iload C 4 dX3_print_85 rfl ?_
          exact v_iret C dX3_print_87 (fin_im hf hQ)
        · refine v_aload_n C 0 dX3_print_53 rfl rfl ?_
          refine g_getR (K := 0) (i := 0) (j := 12) C (by decide) rfl rfl inX3 (by decide) rfl wd_112 dX3_print_54 ?_
          refine v_iload_n C 1 dX3_print_57 rfl rfl ?_
          obtain ⟨y10, hy10, hf⟩ := bnd hf
          refine v_callV (r := none) (As := [.int v1]) (rest := []) (K := 12) C (nX1_clear hL sb12 hy10) cw_X1_clear wd_162 (by decide) (tb_o sb12) rfl ⟨Nat.le_of_ble_eq_true rfl, Nat.le_of_ble_eq_true rfl⟩ rfl rfl (Nat.le_of_ble_eq_true rfl) dX3_print_58 ?_
          obtain ⟨κ11, he, hf⟩ := bnd hf
          rw [Option.some.inj he]
          refine v_goto (tgt := 85) C dX3_print_61 (by decide) ?_
          refine v_iload C 4 dX3_print_85 rfl ?_
          exact v_iret C dX3_print_87 (fin_im hf hQ)
      · refine v_aload_n C 0 dX3_print_28 rfl rfl ?_
        refine v_ldc C wd_144 dX3_print_29 ?_
        obtain ⟨y12, hy12, hf⟩ := bnd hf
        refine v_callV (r := some (.int y12.1)) (As := [.int (-1000001)]) (rest := []) (K := 0) C (mX3_tell hL hy12) cw_X3_tell wd_145 (by decide) rfl rfl ⟨Nat.le_of_ble_eq_true rfl, Nat.le_of_ble_eq_true rfl⟩ rfl rfl (Nat.le_of_ble_eq_true rfl) dX3_print_31 ?_
        exact v_iret C dX3_print_34 (fin_im hf hQ)
theorem mX3_print {B : BB} {l : Launch} {L : St2 → St2} {κ : St2} {v1 : Int32} {v2 : Int32} {v3 : Int32} {res : (Int32 × St2)} (hL : LnC L) (hf : fX3_print κ v1 v2 v3 = some res) : Ret l B yX3_print cX3_print 5 (some .int) 2 45 [.ref (ad B 0), .int v1, .int v2, .int v3] (L κ) (some (.int res.1)) (L res.2) := ret_of (own := RX3) (by decide) rfl (Nat.le_of_ble_eq_true rfl) (fun E C hQ => tX3_print C hL hQ hf)
def fX3_reach (κ : St2) (v1 : Int32) : Option (Int32 × St2) := (fX3_within v1 0 24).bind fun y1 => if y1 = 0 then ((fX3_tell κ (-1000001)).bind fun y4 => some (y4.1, y4.2)) else ((some (κ 12 4)).bind fun w2 => (pf κ 12 4 v1).bind fun κ3 => some (w2, κ3))
set_option maxHeartbeats 4000000 in
set_option maxRecDepth 100000 in
theorem tX3_reach {E : EE} {B : BB} {l : Launch} {L : St2 → St2} {κ : St2} {v1 : Int32} {res : (Int32 × St2)} (C : Cx E B l cX3_reach RX3 (some .int) 3 2 44) (hL : LnC L) (hQ : Fin9 E B (some (.int res.1)) (L res.2)) (hf : fX3_reach κ v1 = some res) : V E B (L κ) 0 [(0, .ref (ad B 0)), (1, .int v1)] [] := by
  unfold fX3_reach at hf
  refine v_iload_n C 1 dX3_reach_0 rfl rfl ?_
  refine v_iconst (v := 0) C dX3_reach_1 (by decide) ?_
  refine v_bipush (v := 24) C dX3_reach_2 (by decide) ?_
  obtain ⟨y1, hy1, hf⟩ := bnd hf
  refine v_callS (r := some (.int y1)) (As := [.int v1, .int 0, .int 24]) (rest := []) C (mX3_within  hy1) cw_X3_within wd_141 ⟨Nat.le_of_ble_eq_true rfl, Nat.le_of_ble_eq_true rfl⟩ rfl rfl (Nat.le_of_ble_eq_true rfl) dX3_reach_4 ?_
  refine v_if_ne (tgt := 17) C dX3_reach_7 (by decide) hf (fun hf => ?_) (fun hf => ?_)
  · refine v_aload_n C 0 dX3_reach_17 rfl rfl ?_
    refine g_getR (K := 0) (i := 0) (j := 12) C (by decide) rfl rfl inX3 (by decide) rfl wd_112 dX3_reach_18 ?_
    refine shC_getI (i := 4) C sb12 hL (by decide) rfl wd_40 dX3_reach_21 ?_
    refine v_top hf (fun w2 hf => ?_)
    refine v_istore_n (lv' := [(0, .ref (ad B 0)), (1, .int v1), (2, .int w2)]) C [1, 2, 0] dX3_reach_24 rfl (by decide) rfl ?_
    refine v_aload_n C 0 dX3_reach_25 rfl rfl ?_
    refine g_getR (K := 0) (i := 0) (j := 12) C (by decide) rfl rfl inX3 (by decide) rfl wd_112 dX3_reach_26 ?_
    refine v_iload_n C 1 dX3_reach_29 rfl rfl ?_
    refine shC_putI (i := 4) C sb12 hL (by decide) rfl wd_40 rfl (by decide +kernel) dX3_reach_30 hf (fun κ3 hf => ?_)
    refine v_iload_n C 2 dX3_reach_33 rfl rfl ?_
    exact v_iret C dX3_reach_34 (fin_im hf hQ)
  · refine v_aload_n C 0 dX3_reach_10 rfl rfl ?_
    refine v_ldc C wd_144 dX3_reach_11 ?_
    obtain ⟨y4, hy4, hf⟩ := bnd hf
    refine v_callV (r := some (.int y4.1)) (As := [.int (-1000001)]) (rest := []) (K := 0) C (mX3_tell hL hy4) cw_X3_tell wd_145 (by decide) rfl rfl ⟨Nat.le_of_ble_eq_true rfl, Nat.le_of_ble_eq_true rfl⟩ rfl rfl (Nat.le_of_ble_eq_true rfl) dX3_reach_13 ?_
    exact v_iret C dX3_reach_16 (fin_im hf hQ)
theorem mX3_reach {B : BB} {l : Launch} {L : St2 → St2} {κ : St2} {v1 : Int32} {res : (Int32 × St2)} (hL : LnC L) (hf : fX3_reach κ v1 = some res) : Ret l B yX3_reach cX3_reach 3 (some .int) 2 44 [.ref (ad B 0), .int v1] (L κ) (some (.int res.1)) (L res.2) := ret_of (own := RX3) (by decide) rfl (Nat.le_of_ble_eq_true rfl) (fun E C hQ => tX3_reach C hL hQ hf)
def fX3_tide (N : Nat) (κ : St2) : Option (Int32 × St2) := (fX1_comeTide N (vw κ 12)).bind fun y1 => (some (putS κ 12 y1.2)).bind fun κ2 => some (y1.1, κ2)
set_option maxHeartbeats 4000000 in
set_option maxRecDepth 100000 in
theorem tX3_tide {E : EE} {B : BB} {l : Launch} {L : St2 → St2} {N : Nat} {κ : St2} {res : (Int32 × St2)} (C : Cx E B l cX3_tide RX3 (some .int) 1 3 67) (hL : LnC L) (hQ : Fin9 E B (some (.int res.1)) (L res.2)) (hf : fX3_tide N κ = some res) : V E B (L κ) 0 [(0, .ref (ad B 0))] [] := by
  unfold fX3_tide at hf
  refine v_aload_n C 0 dX3_tide_0 rfl rfl ?_
  refine g_getR (K := 0) (i := 0) (j := 12) C (by decide) rfl rfl inX3 (by decide) rfl wd_112 dX3_tide_1 ?_
  obtain ⟨y1, hy1, hf⟩ := bnd hf
  refine v_callV (r := some (.int y1.1)) (As := []) (rest := []) (K := 12) C (nX1_comeTide hL sb12 hy1) cw_X1_comeTide wd_179 (by decide) (tb_o sb12) rfl ⟨Nat.le_of_ble_eq_true rfl, Nat.le_of_ble_eq_true rfl⟩ rfl rfl (Nat.le_of_ble_eq_true rfl) dX3_tide_4 ?_
  obtain ⟨κ2, he, hf⟩ := bnd hf
  rw [Option.some.inj he]
  exact v_iret C dX3_tide_7 (fin_im hf hQ)
theorem mX3_tide {B : BB} {l : Launch} {L : St2 → St2} {N : Nat} {κ : St2} {res : (Int32 × St2)} (hL : LnC L) (hf : fX3_tide N κ = some res) : Ret l B yX3_tide cX3_tide 1 (some .int) 3 67 [.ref (ad B 0)] (L κ) (some (.int res.1)) (L res.2) := ret_of (own := RX3) (by decide) rfl (Nat.le_of_ble_eq_true rfl) (fun E C hQ => tX3_tide C hL hQ hf)
def fX3_walker (κ : St2) (v1 : Int32) (v2 : Int32) : Option (Int32 × St2) := (fX3_within v1 0 6).bind fun y1 => if y1 = 0 then ((fX3_tell κ (-1000001)).bind fun y2 => some (y2.1, y2.2)) else ((fX3_isCell v2).bind fun y3 => if y3 = 0 then ((fX3_tell κ (-1000001)).bind fun y8 => some (y8.1, y8.2)) else ((fX1_hasRoom (vw κ 12)).bind fun y4 => if y4 = 0 then ((fX3_tell κ (-1000002)).bind fun y7 => some (y7.1, y7.2)) else ((fX1_add (vw κ 12) v1 v2).bind fun y5 => (some (putS κ 12 y5.2)).bind fun κ6 => some (y5.1, κ6))))
set_option maxHeartbeats 4000000 in
set_option maxRecDepth 100000 in
theorem tX3_walker {E : EE} {B : BB} {l : Launch} {L : St2 → St2} {κ : St2} {v1 : Int32} {v2 : Int32} {res : (Int32 × St2)} (C : Cx E B l cX3_walker RX3 (some .int) 3 2 44) (hL : LnC L) (hQ : Fin9 E B (some (.int res.1)) (L res.2)) (hf : fX3_walker κ v1 v2 = some res) : V E B (L κ) 0 [(0, .ref (ad B 0)), (1, .int v1), (2, .int v2)] [] := by
  unfold fX3_walker at hf
  refine v_iload_n C 1 dX3_walker_0 rfl rfl ?_
  refine v_iconst (v := 0) C dX3_walker_1 (by decide) ?_
  refine v_bipush (v := 6) C dX3_walker_2 (by decide) ?_
  obtain ⟨y1, hy1, hf⟩ := bnd hf
  refine v_callS (r := some (.int y1)) (As := [.int v1, .int 0, .int 6]) (rest := []) C (mX3_within  hy1) cw_X3_within wd_141 ⟨Nat.le_of_ble_eq_true rfl, Nat.le_of_ble_eq_true rfl⟩ rfl rfl (Nat.le_of_ble_eq_true rfl) dX3_walker_4 ?_
  refine v_if_eq (tgt := 17) C dX3_walker_7 (by decide) hf (fun hf => ?_) (fun hf => ?_)
  · refine v_aload_n C 0 dX3_walker_17 rfl rfl ?_
    refine v_ldc C wd_144 dX3_walker_18 ?_
    obtain ⟨y2, hy2, hf⟩ := bnd hf
    refine v_callV (r := some (.int y2.1)) (As := [.int (-1000001)]) (rest := []) (K := 0) C (mX3_tell hL hy2) cw_X3_tell wd_145 (by decide) rfl rfl ⟨Nat.le_of_ble_eq_true rfl, Nat.le_of_ble_eq_true rfl⟩ rfl rfl (Nat.le_of_ble_eq_true rfl) dX3_walker_20 ?_
    exact v_iret C dX3_walker_23 (fin_im hf hQ)
  · refine v_iload_n C 2 dX3_walker_10 rfl rfl ?_
    obtain ⟨y3, hy3, hf⟩ := bnd hf
    refine v_callS (r := some (.int y3)) (As := [.int v2]) (rest := []) C (mX3_isCell  hy3) cw_X3_isCell wd_138 ⟨Nat.le_of_ble_eq_true rfl, Nat.le_of_ble_eq_true rfl⟩ rfl rfl (Nat.le_of_ble_eq_true rfl) dX3_walker_11 ?_
    refine v_if_ne (tgt := 24) C dX3_walker_14 (by decide) hf (fun hf => ?_) (fun hf => ?_)
    · refine v_aload_n C 0 dX3_walker_24 rfl rfl ?_
      refine g_getR (K := 0) (i := 0) (j := 12) C (by decide) rfl rfl inX3 (by decide) rfl wd_112 dX3_walker_25 ?_
      obtain ⟨y4, hy4, hf⟩ := bnd hf
      refine v_callV (r := some (.int y4)) (As := []) (rest := []) (K := 12) C (nX1_hasRoom hL sb12 hy4) cw_X1_hasRoom wd_188 (by decide) (tb_o sb12) rfl ⟨Nat.le_of_ble_eq_true rfl, Nat.le_of_ble_eq_true rfl⟩ rfl rfl (Nat.le_of_ble_eq_true rfl) dX3_walker_28 ?_
      refine v_if_ne (tgt := 41) C dX3_walker_31 (by decide) hf (fun hf => ?_) (fun hf => ?_)
      · refine v_aload_n C 0 dX3_walker_41 rfl rfl ?_
        refine g_getR (K := 0) (i := 0) (j := 12) C (by decide) rfl rfl inX3 (by decide) rfl wd_112 dX3_walker_42 ?_
        refine v_iload_n C 1 dX3_walker_45 rfl rfl ?_
        refine v_iload_n C 2 dX3_walker_46 rfl rfl ?_
        obtain ⟨y5, hy5, hf⟩ := bnd hf
        refine v_callV (r := some (.int y5.1)) (As := [.int v1, .int v2]) (rest := []) (K := 12) C (nX1_add hL sb12 hy5) cw_X1_add wd_193 (by decide) (tb_o sb12) rfl ⟨Nat.le_of_ble_eq_true rfl, Nat.le_of_ble_eq_true rfl⟩ rfl rfl (Nat.le_of_ble_eq_true rfl) dX3_walker_47 ?_
        obtain ⟨κ6, he, hf⟩ := bnd hf
        rw [Option.some.inj he]
        exact v_iret C dX3_walker_50 (fin_im hf hQ)
      · refine v_aload_n C 0 dX3_walker_34 rfl rfl ?_
        refine v_ldc C wd_192 dX3_walker_35 ?_
        obtain ⟨y7, hy7, hf⟩ := bnd hf
        refine v_callV (r := some (.int y7.1)) (As := [.int (-1000002)]) (rest := []) (K := 0) C (mX3_tell hL hy7) cw_X3_tell wd_145 (by decide) rfl rfl ⟨Nat.le_of_ble_eq_true rfl, Nat.le_of_ble_eq_true rfl⟩ rfl rfl (Nat.le_of_ble_eq_true rfl) dX3_walker_37 ?_
        exact v_iret C dX3_walker_40 (fin_im hf hQ)
    · refine v_aload_n C 0 dX3_walker_17 rfl rfl ?_
      refine v_ldc C wd_144 dX3_walker_18 ?_
      obtain ⟨y8, hy8, hf⟩ := bnd hf
      refine v_callV (r := some (.int y8.1)) (As := [.int (-1000001)]) (rest := []) (K := 0) C (mX3_tell hL hy8) cw_X3_tell wd_145 (by decide) rfl rfl ⟨Nat.le_of_ble_eq_true rfl, Nat.le_of_ble_eq_true rfl⟩ rfl rfl (Nat.le_of_ble_eq_true rfl) dX3_walker_20 ?_
      exact v_iret C dX3_walker_23 (fin_im hf hQ)
theorem mX3_walker {B : BB} {l : Launch} {L : St2 → St2} {κ : St2} {v1 : Int32} {v2 : Int32} {res : (Int32 × St2)} (hL : LnC L) (hf : fX3_walker κ v1 v2 = some res) : Ret l B yX3_walker cX3_walker 3 (some .int) 2 44 [.ref (ad B 0), .int v1, .int v2] (L κ) (some (.int res.1)) (L res.2) := ret_of (own := RX3) (by decide) rfl (Nat.le_of_ble_eq_true rfl) (fun E C hQ => tX3_walker C hL hQ hf)
def fX3_of (N : Nat) (κ : St2) (v1 : Int32) (v2 : Int32) : Option (Int32 × St2) := (fX1_isWalker (vw κ 12) v1).bind fun y1 => if y1 = 0 then ((fX3_tell κ (-1000001)).bind fun y2 => some (y2.1, y2.2)) else ((fX3_within v2 0 9).bind fun y3 => if y3 = 0 then ((fX3_tell κ (-1000001)).bind fun y10 => some (y10.1, y10.2)) else (if v2 = 6 then ((fX1_strides (vw κ 12) v1).bind fun y4 => some (y4, κ)) else (if v2 = 7 then ((fX1_presses (vw κ 12) v1).bind fun y5 => some (y5, κ)) else (if v2 = 8 then ((fX1_looks (vw κ 12) v1).bind fun y6 => some (y6, κ)) else (if v2 = 9 then ((fX1_workSet N (vw κ 12) v1).bind fun y7 => some (y7, κ)) else ((ck v2 6).bind fun r8 => (rd (κ (12 + (6 + r8))) 8 v1).bind fun a9 => some (a9, κ)))))))
set_option maxHeartbeats 4000000 in
set_option maxRecDepth 100000 in
theorem tX3_of {E : EE} {B : BB} {l : Launch} {L : St2 → St2} {N : Nat} {κ : St2} {v1 : Int32} {v2 : Int32} {res : (Int32 × St2)} (C : Cx E B l cX3_of RX3 (some .int) 3 2 44) (hL : LnC L) (hQ : Fin9 E B (some (.int res.1)) (L res.2)) (hf : fX3_of N κ v1 v2 = some res) : V E B (L κ) 0 [(0, .ref (ad B 0)), (1, .int v1), (2, .int v2)] [] := by
  unfold fX3_of at hf
  refine v_aload_n C 0 dX3_of_0 rfl rfl ?_
  refine g_getR (K := 0) (i := 0) (j := 12) C (by decide) rfl rfl inX3 (by decide) rfl wd_112 dX3_of_1 ?_
  refine v_iload_n C 1 dX3_of_4 rfl rfl ?_
  obtain ⟨y1, hy1, hf⟩ := bnd hf
  refine v_callV (r := some (.int y1)) (As := [.int v1]) (rest := []) (K := 12) C (nX1_isWalker hL sb12 hy1) cw_X1_isWalker wd_201 (by decide) (tb_o sb12) rfl ⟨Nat.le_of_ble_eq_true rfl, Nat.le_of_ble_eq_true rfl⟩ rfl rfl (Nat.le_of_ble_eq_true rfl) dX3_of_5 ?_
  refine v_if_eq (tgt := 21) C dX3_of_8 (by decide) hf (fun hf => ?_) (fun hf => ?_)
  · refine v_aload_n C 0 dX3_of_21 rfl rfl ?_
    refine v_ldc C wd_144 dX3_of_22 ?_
    obtain ⟨y2, hy2, hf⟩ := bnd hf
    refine v_callV (r := some (.int y2.1)) (As := [.int (-1000001)]) (rest := []) (K := 0) C (mX3_tell hL hy2) cw_X3_tell wd_145 (by decide) rfl rfl ⟨Nat.le_of_ble_eq_true rfl, Nat.le_of_ble_eq_true rfl⟩ rfl rfl (Nat.le_of_ble_eq_true rfl) dX3_of_24 ?_
    exact v_iret C dX3_of_27 (fin_im hf hQ)
  · refine v_iload_n C 2 dX3_of_11 rfl rfl ?_
    refine v_iconst (v := 0) C dX3_of_12 (by decide) ?_
    refine v_bipush (v := 9) C dX3_of_13 (by decide) ?_
    obtain ⟨y3, hy3, hf⟩ := bnd hf
    refine v_callS (r := some (.int y3)) (As := [.int v2, .int 0, .int 9]) (rest := []) C (mX3_within  hy3) cw_X3_within wd_141 ⟨Nat.le_of_ble_eq_true rfl, Nat.le_of_ble_eq_true rfl⟩ rfl rfl (Nat.le_of_ble_eq_true rfl) dX3_of_15 ?_
    refine v_if_ne (tgt := 28) C dX3_of_18 (by decide) hf (fun hf => ?_) (fun hf => ?_)
    · refine v_iload_n C 2 dX3_of_28 rfl rfl ?_
      by_cases hc29_6 : v2 = 6
      · rw [if_pos hc29_6] at hf
        refine v_tabIn (tgt := 60) C dX3_of_29 hc29_6 (by decide) (by decide) rfl (by decide) ?_
        refine v_aload_n C 0 dX3_of_60 rfl rfl ?_
        refine g_getR (K := 0) (i := 0) (j := 12) C (by decide) rfl rfl inX3 (by decide) rfl wd_112 dX3_of_61 ?_
        refine v_iload_n C 1 dX3_of_64 rfl rfl ?_
        obtain ⟨y4, hy4, hf⟩ := bnd hf
        refine v_callV (r := some (.int y4)) (As := [.int v1]) (rest := []) (K := 12) C (nX1_strides hL sb12 hy4) cw_X1_strides wd_205 (by decide) (tb_o sb12) rfl ⟨Nat.le_of_ble_eq_true rfl, Nat.le_of_ble_eq_true rfl⟩ rfl rfl (Nat.le_of_ble_eq_true rfl) dX3_of_65 ?_
        exact v_iret C dX3_of_68 (fin_im hf hQ)
      · rw [if_neg hc29_6] at hf
        by_cases hc29_7 : v2 = 7
        · rw [if_pos hc29_7] at hf
          refine v_tabIn (tgt := 69) C dX3_of_29 hc29_7 (by decide) (by decide) rfl (by decide) ?_
          refine v_aload_n C 0 dX3_of_69 rfl rfl ?_
          refine g_getR (K := 0) (i := 0) (j := 12) C (by decide) rfl rfl inX3 (by decide) rfl wd_112 dX3_of_70 ?_
          refine v_iload_n C 1 dX3_of_73 rfl rfl ?_
          obtain ⟨y5, hy5, hf⟩ := bnd hf
          refine v_callV (r := some (.int y5)) (As := [.int v1]) (rest := []) (K := 12) C (nX1_presses hL sb12 hy5) cw_X1_presses wd_209 (by decide) (tb_o sb12) rfl ⟨Nat.le_of_ble_eq_true rfl, Nat.le_of_ble_eq_true rfl⟩ rfl rfl (Nat.le_of_ble_eq_true rfl) dX3_of_74 ?_
          exact v_iret C dX3_of_77 (fin_im hf hQ)
        · rw [if_neg hc29_7] at hf
          by_cases hc29_8 : v2 = 8
          · rw [if_pos hc29_8] at hf
            refine v_tabIn (tgt := 78) C dX3_of_29 hc29_8 (by decide) (by decide) rfl (by decide) ?_
            refine v_aload_n C 0 dX3_of_78 rfl rfl ?_
            refine g_getR (K := 0) (i := 0) (j := 12) C (by decide) rfl rfl inX3 (by decide) rfl wd_112 dX3_of_79 ?_
            refine v_iload_n C 1 dX3_of_82 rfl rfl ?_
            obtain ⟨y6, hy6, hf⟩ := bnd hf
            refine v_callV (r := some (.int y6)) (As := [.int v1]) (rest := []) (K := 12) C (nX1_looks hL sb12 hy6) cw_X1_looks wd_219 (by decide) (tb_o sb12) rfl ⟨Nat.le_of_ble_eq_true rfl, Nat.le_of_ble_eq_true rfl⟩ rfl rfl (Nat.le_of_ble_eq_true rfl) dX3_of_83 ?_
            exact v_iret C dX3_of_86 (fin_im hf hQ)
          · rw [if_neg hc29_8] at hf
            by_cases hc29_9 : v2 = 9
            · rw [if_pos hc29_9] at hf
              refine v_tabIn (tgt := 87) C dX3_of_29 hc29_9 (by decide) (by decide) rfl (by decide) ?_
              refine v_aload_n C 0 dX3_of_87 rfl rfl ?_
              refine g_getR (K := 0) (i := 0) (j := 12) C (by decide) rfl rfl inX3 (by decide) rfl wd_112 dX3_of_88 ?_
              refine v_iload_n C 1 dX3_of_91 rfl rfl ?_
              obtain ⟨y7, hy7, hf⟩ := bnd hf
              refine v_callV (r := some (.int y7)) (As := [.int v1]) (rest := []) (K := 12) C (nX1_workSet hL sb12 hy7) cw_X1_workSet wd_223 (by decide) (tb_o sb12) rfl ⟨Nat.le_of_ble_eq_true rfl, Nat.le_of_ble_eq_true rfl⟩ rfl rfl (Nat.le_of_ble_eq_true rfl) dX3_of_92 ?_
              exact v_iret C dX3_of_95 (fin_im hf hQ)
            · rw [if_neg hc29_9] at hf
              have e29_6 : v2.toInt ≠ 6 := ne_ti (y := 6) hc29_6
              have e29_7 : v2.toInt ≠ 7 := ne_ti (y := 7) hc29_7
              have e29_8 : v2.toInt ≠ 8 := ne_ti (y := 8) hc29_8
              have e29_9 : v2.toInt ≠ 9 := ne_ti (y := 9) hc29_9
              refine v_tabOut (tgt := 96) C dX3_of_29 (by omega) (by decide) ?_
              refine v_aload_n C 0 dX3_of_96 rfl rfl ?_
              refine g_getR (K := 0) (i := 0) (j := 12) C (by decide) rfl rfl inX3 (by decide) rfl wd_112 dX3_of_97 ?_
              refine sh_getR (i := 1) (j := 12 + 5) C sb12 (by decide) rfl wd_32 dX3_of_100 ?_
              refine v_iload_n C 2 dX3_of_103 rfl rfl ?_
              refine sh_trD C sb12 dX3_of_104 hf (fun r8 hr8 hf => ?_)
              refine v_iload_n C 1 dX3_of_105 rfl rfl ?_
              refine c_ald (k := 12 + (6 + r8)) C hL (by omega) (tb_tr sb12 hr8) dX3_of_106 hf (fun a9 hf => ?_)
              exact v_iret C dX3_of_107 (fin_im hf hQ)
    · refine v_aload_n C 0 dX3_of_21 rfl rfl ?_
      refine v_ldc C wd_144 dX3_of_22 ?_
      obtain ⟨y10, hy10, hf⟩ := bnd hf
      refine v_callV (r := some (.int y10.1)) (As := [.int (-1000001)]) (rest := []) (K := 0) C (mX3_tell hL hy10) cw_X3_tell wd_145 (by decide) rfl rfl ⟨Nat.le_of_ble_eq_true rfl, Nat.le_of_ble_eq_true rfl⟩ rfl rfl (Nat.le_of_ble_eq_true rfl) dX3_of_24 ?_
      exact v_iret C dX3_of_27 (fin_im hf hQ)
theorem mX3_of {B : BB} {l : Launch} {L : St2 → St2} {N : Nat} {κ : St2} {v1 : Int32} {v2 : Int32} {res : (Int32 × St2)} (hL : LnC L) (hf : fX3_of N κ v1 v2 = some res) : Ret l B yX3_of cX3_of 3 (some .int) 2 44 [.ref (ad B 0), .int v1, .int v2] (L κ) (some (.int res.1)) (L res.2) := ret_of (own := RX3) (by decide) rfl (Nat.le_of_ble_eq_true rfl) (fun E C hQ => tX3_of C hL hQ hf)
def fX3_change (κ : St2) (v1 : Int32) (v2 : Int32) (v3 : Int32) : Option (Int32 × St2) := (fX1_isWalker (vw κ 12) v1).bind fun y1 => if y1 = 0 then ((fX3_tell κ (-1000001)).bind fun y2 => some (y2.1, y2.2)) else ((fX3_within v2 0 5).bind fun y3 => if y3 = 0 then ((fX3_tell κ (-1000001)).bind fun y4 => some (y4.1, y4.2)) else ((rd (tv 1) 6 v2).bind fun a5 => (rd (tv 2) 6 v2).bind fun a6 => (fX3_within v3 a5 a6).bind fun y7 => if y7 = 0 then ((fX3_tell κ (-1000001)).bind fun y12 => some (y12.1, y12.2)) else ((ck v2 6).bind fun r8 => (rd (κ (12 + (6 + r8))) 8 v1).bind fun a9 => (ck v2 6).bind fun r10 => (wr κ (12 + (6 + r10)) 8 v1 v3).bind fun κ11 => some (a9, κ11))))
set_option maxHeartbeats 4000000 in
set_option maxRecDepth 100000 in
theorem tX3_change {E : EE} {B : BB} {l : Launch} {L : St2 → St2} {κ : St2} {v1 : Int32} {v2 : Int32} {v3 : Int32} {res : (Int32 × St2)} (C : Cx E B l cX3_change RX3 (some .int) 5 2 44) (hL : LnC L) (hQ : Fin9 E B (some (.int res.1)) (L res.2)) (hf : fX3_change κ v1 v2 v3 = some res) : V E B (L κ) 0 [(0, .ref (ad B 0)), (1, .int v1), (2, .int v2), (3, .int v3)] [] := by
  unfold fX3_change at hf
  refine v_aload_n C 0 dX3_change_0 rfl rfl ?_
  refine g_getR (K := 0) (i := 0) (j := 12) C (by decide) rfl rfl inX3 (by decide) rfl wd_112 dX3_change_1 ?_
  refine v_iload_n C 1 dX3_change_4 rfl rfl ?_
  obtain ⟨y1, hy1, hf⟩ := bnd hf
  refine v_callV (r := some (.int y1)) (As := [.int v1]) (rest := []) (K := 12) C (nX1_isWalker hL sb12 hy1) cw_X1_isWalker wd_201 (by decide) (tb_o sb12) rfl ⟨Nat.le_of_ble_eq_true rfl, Nat.le_of_ble_eq_true rfl⟩ rfl rfl (Nat.le_of_ble_eq_true rfl) dX3_change_5 ?_
  refine v_if_eq (tgt := 37) C dX3_change_8 (by decide) hf (fun hf => ?_) (fun hf => ?_)
  · refine v_aload_n C 0 dX3_change_37 rfl rfl ?_
    refine v_ldc C wd_144 dX3_change_38 ?_
    obtain ⟨y2, hy2, hf⟩ := bnd hf
    refine v_callV (r := some (.int y2.1)) (As := [.int (-1000001)]) (rest := []) (K := 0) C (mX3_tell hL hy2) cw_X3_tell wd_145 (by decide) rfl rfl ⟨Nat.le_of_ble_eq_true rfl, Nat.le_of_ble_eq_true rfl⟩ rfl rfl (Nat.le_of_ble_eq_true rfl) dX3_change_40 ?_
    exact v_iret C dX3_change_43 (fin_im hf hQ)
  · refine v_iload_n C 2 dX3_change_11 rfl rfl ?_
    refine v_iconst (v := 0) C dX3_change_12 (by decide) ?_
    refine v_iconst (v := 5) C dX3_change_13 (by decide) ?_
    obtain ⟨y3, hy3, hf⟩ := bnd hf
    refine v_callS (r := some (.int y3)) (As := [.int v2, .int 0, .int 5]) (rest := []) C (mX3_within  hy3) cw_X3_within wd_141 ⟨Nat.le_of_ble_eq_true rfl, Nat.le_of_ble_eq_true rfl⟩ rfl rfl (Nat.le_of_ble_eq_true rfl) dX3_change_14 ?_
    refine v_if_eq (tgt := 37) C dX3_change_17 (by decide) hf (fun hf => ?_) (fun hf => ?_)
    · refine v_aload_n C 0 dX3_change_37 rfl rfl ?_
      refine v_ldc C wd_144 dX3_change_38 ?_
      obtain ⟨y4, hy4, hf⟩ := bnd hf
      refine v_callV (r := some (.int y4.1)) (As := [.int (-1000001)]) (rest := []) (K := 0) C (mX3_tell hL hy4) cw_X3_tell wd_145 (by decide) rfl rfl ⟨Nat.le_of_ble_eq_true rfl, Nat.le_of_ble_eq_true rfl⟩ rfl rfl (Nat.le_of_ble_eq_true rfl) dX3_change_40 ?_
      exact v_iret C dX3_change_43 (fin_im hf hQ)
    · refine v_iload_n C 3 dX3_change_20 rfl rfl ?_
      refine g_gets C (sz1 B) wd_231 dX3_change_21 ?_
      refine v_iload_n C 2 dX3_change_24 rfl rfl ?_
      refine t_ld1 C dX3_change_25 hf (fun a5 hf => ?_)
      refine g_gets C (sz2 B) wd_233 dX3_change_26 ?_
      refine v_iload_n C 2 dX3_change_29 rfl rfl ?_
      refine t_ld2 C dX3_change_30 hf (fun a6 hf => ?_)
      obtain ⟨y7, hy7, hf⟩ := bnd hf
      refine v_callS (r := some (.int y7)) (As := [.int v3, .int a5, .int a6]) (rest := []) C (mX3_within  hy7) cw_X3_within wd_141 ⟨Nat.le_of_ble_eq_true rfl, Nat.le_of_ble_eq_true rfl⟩ rfl rfl (Nat.le_of_ble_eq_true rfl) dX3_change_31 ?_
      refine v_if_ne (tgt := 44) C dX3_change_34 (by decide) hf (fun hf => ?_) (fun hf => ?_)
      · refine v_aload_n C 0 dX3_change_44 rfl rfl ?_
        refine g_getR (K := 0) (i := 0) (j := 12) C (by decide) rfl rfl inX3 (by decide) rfl wd_112 dX3_change_45 ?_
        refine sh_getR (i := 1) (j := 12 + 5) C sb12 (by decide) rfl wd_32 dX3_change_48 ?_
        refine v_iload_n C 2 dX3_change_51 rfl rfl ?_
        refine sh_trD C sb12 dX3_change_52 hf (fun r8 hr8 hf => ?_)
        refine v_iload_n C 1 dX3_change_53 rfl rfl ?_
        refine c_ald (k := 12 + (6 + r8)) C hL (by omega) (tb_tr sb12 hr8) dX3_change_54 hf (fun a9 hf => ?_)
        refine v_istore (lv' := [(0, .ref (ad B 0)), (1, .int v1), (2, .int v2), (3, .int v3), (4, .int a9)]) C [1, 2, 3, 4, 0] dX3_change_55 (by decide) rfl ?_
        refine v_aload_n C 0 dX3_change_57 rfl rfl ?_
        refine g_getR (K := 0) (i := 0) (j := 12) C (by decide) rfl rfl inX3 (by decide) rfl wd_112 dX3_change_58 ?_
        refine sh_getR (i := 1) (j := 12 + 5) C sb12 (by decide) rfl wd_32 dX3_change_61 ?_
        refine v_iload_n C 2 dX3_change_64 rfl rfl ?_
        refine sh_trD C sb12 dX3_change_65 hf (fun r10 hr10 hf => ?_)
        refine v_iload_n C 1 dX3_change_66 rfl rfl ?_
        refine v_iload_n C 3 dX3_change_67 rfl rfl ?_
        refine c_ast (k := 12 + (6 + r10)) C hL (by omega) (tb_tr sb12 hr10) dX3_change_68 hf (fun κ11 hf => ?_)
        refine v_iload C 4 dX3_change_69 rfl ?_
        exact v_iret C dX3_change_71 (fin_im hf hQ)
      · refine v_aload_n C 0 dX3_change_37 rfl rfl ?_
        refine v_ldc C wd_144 dX3_change_38 ?_
        obtain ⟨y12, hy12, hf⟩ := bnd hf
        refine v_callV (r := some (.int y12.1)) (As := [.int (-1000001)]) (rest := []) (K := 0) C (mX3_tell hL hy12) cw_X3_tell wd_145 (by decide) rfl rfl ⟨Nat.le_of_ble_eq_true rfl, Nat.le_of_ble_eq_true rfl⟩ rfl rfl (Nat.le_of_ble_eq_true rfl) dX3_change_40 ?_
        exact v_iret C dX3_change_43 (fin_im hf hQ)
theorem mX3_change {B : BB} {l : Launch} {L : St2 → St2} {κ : St2} {v1 : Int32} {v2 : Int32} {v3 : Int32} {res : (Int32 × St2)} (hL : LnC L) (hf : fX3_change κ v1 v2 v3 = some res) : Ret l B yX3_change cX3_change 5 (some .int) 2 44 [.ref (ad B 0), .int v1, .int v2, .int v3] (L κ) (some (.int res.1)) (L res.2) := ret_of (own := RX3) (by decide) rfl (Nat.le_of_ble_eq_true rfl) (fun E C hQ => tX3_change C hL hQ hf)
def fX3_go (N : Nat) (κ : St2) (v1 : Int32) : Option (Int32 × St2) := (fX3_within v1 1 60).bind fun y1 => if y1 = 0 then ((fX3_tell κ (-1000001)).bind fun y6 => some (y6.1, y6.2)) else (if ((κ 12 6) + v1) ≤ 99999 then ((fX1_passHours N (vw κ 12) v1 0).bind fun y2 => (some (putS κ 12 y2)).bind fun κ3 => (fX1_printCount N (vw κ3 12)).bind fun y4 => some (y4, κ3)) else ((fX3_tell κ (-1000005)).bind fun y5 => some (y5.1, y5.2)))
set_option maxHeartbeats 4000000 in
set_option maxRecDepth 100000 in
theorem tX3_go {E : EE} {B : BB} {l : Launch} {L : St2 → St2} {N : Nat} {κ : St2} {v1 : Int32} {res : (Int32 × St2)} (C : Cx E B l cX3_go RX3 (some .int) 2 5 113) (hL : LnC L) (hQ : Fin9 E B (some (.int res.1)) (L res.2)) (hf : fX3_go N κ v1 = some res) : V E B (L κ) 0 [(0, .ref (ad B 0)), (1, .int v1)] [] := by
  unfold fX3_go at hf
  refine v_iload_n C 1 dX3_go_0 rfl rfl ?_
  refine v_iconst (v := 1) C dX3_go_1 (by decide) ?_
  refine v_bipush (v := 60) C dX3_go_2 (by decide) ?_
  obtain ⟨y1, hy1, hf⟩ := bnd hf
  refine v_callS (r := some (.int y1)) (As := [.int v1, .int 1, .int 60]) (rest := []) C (mX3_within  hy1) cw_X3_within wd_141 ⟨Nat.le_of_ble_eq_true rfl, Nat.le_of_ble_eq_true rfl⟩ rfl rfl (Nat.le_of_ble_eq_true rfl) dX3_go_4 ?_
  refine v_if_ne (tgt := 17) C dX3_go_7 (by decide) hf (fun hf => ?_) (fun hf => ?_)
  · refine v_aload_n C 0 dX3_go_17 rfl rfl ?_
    refine g_getR (K := 0) (i := 0) (j := 12) C (by decide) rfl rfl inX3 (by decide) rfl wd_112 dX3_go_18 ?_
    refine shC_getI (i := 6) C sb12 hL (by decide) rfl wd_45 dX3_go_21 ?_
    refine v_iload_n C 1 dX3_go_24 rfl rfl ?_
    refine v_iadd C dX3_go_25 ?_
    refine v_ldc C wd_239 dX3_go_26 ?_
    refine v_icmp_le (tgt := 38) C dX3_go_28 (by decide) hf (fun hf => ?_) (fun hf => ?_)
    · refine v_aload_n C 0 dX3_go_38 rfl rfl ?_
      refine g_getR (K := 0) (i := 0) (j := 12) C (by decide) rfl rfl inX3 (by decide) rfl wd_112 dX3_go_39 ?_
      refine v_iload_n C 1 dX3_go_42 rfl rfl ?_
      refine v_iconst (v := 0) C dX3_go_43 (by decide) ?_
      obtain ⟨y2, hy2, hf⟩ := bnd hf
      refine v_callV (r := none) (As := [.int v1, .int 0]) (rest := []) (K := 12) C (nX1_passHours hL sb12 hy2) cw_X1_passHours wd_241 (by decide) (tb_o sb12) rfl ⟨Nat.le_of_ble_eq_true rfl, Nat.le_of_ble_eq_true rfl⟩ rfl rfl (Nat.le_of_ble_eq_true rfl) dX3_go_44 ?_
      obtain ⟨κ3, he, hf⟩ := bnd hf
      rw [Option.some.inj he]
      refine v_aload_n C 0 dX3_go_47 rfl rfl ?_
      refine g_getR (K := 0) (i := 0) (j := 12) C (by decide) rfl rfl inX3 (by decide) rfl wd_112 dX3_go_48 ?_
      obtain ⟨y4, hy4, hf⟩ := bnd hf
      refine v_callV (r := some (.int y4)) (As := []) (rest := []) (K := 12) C (nX1_printCount hL sb12 hy4) cw_X1_printCount wd_258 (by decide) (tb_o sb12) rfl ⟨Nat.le_of_ble_eq_true rfl, Nat.le_of_ble_eq_true rfl⟩ rfl rfl (Nat.le_of_ble_eq_true rfl) dX3_go_51 ?_
      exact v_iret C dX3_go_54 (fin_im hf hQ)
    · refine v_aload_n C 0 dX3_go_31 rfl rfl ?_
      refine v_ldc C wd_240 dX3_go_32 ?_
      obtain ⟨y5, hy5, hf⟩ := bnd hf
      refine v_callV (r := some (.int y5.1)) (As := [.int (-1000005)]) (rest := []) (K := 0) C (mX3_tell hL hy5) cw_X3_tell wd_145 (by decide) rfl rfl ⟨Nat.le_of_ble_eq_true rfl, Nat.le_of_ble_eq_true rfl⟩ rfl rfl (Nat.le_of_ble_eq_true rfl) dX3_go_34 ?_
      exact v_iret C dX3_go_37 (fin_im hf hQ)
  · refine v_aload_n C 0 dX3_go_10 rfl rfl ?_
    refine v_ldc C wd_144 dX3_go_11 ?_
    obtain ⟨y6, hy6, hf⟩ := bnd hf
    refine v_callV (r := some (.int y6.1)) (As := [.int (-1000001)]) (rest := []) (K := 0) C (mX3_tell hL hy6) cw_X3_tell wd_145 (by decide) rfl rfl ⟨Nat.le_of_ble_eq_true rfl, Nat.le_of_ble_eq_true rfl⟩ rfl rfl (Nat.le_of_ble_eq_true rfl) dX3_go_13 ?_
    exact v_iret C dX3_go_16 (fin_im hf hQ)
theorem mX3_go {B : BB} {l : Launch} {L : St2 → St2} {N : Nat} {κ : St2} {v1 : Int32} {res : (Int32 × St2)} (hL : LnC L) (hf : fX3_go N κ v1 = some res) : Ret l B yX3_go cX3_go 2 (some .int) 5 113 [.ref (ad B 0), .int v1] (L κ) (some (.int res.1)) (L res.2) := ret_of (own := RX3) (by decide) rfl (Nat.le_of_ble_eq_true rfl) (fun E C hQ => tX3_go C hL hQ hf)
def fX3_now (N : Nat) (κ : St2) (v1 : Int32) : Option (Int32 × St2) := if v1 = 0 then (some ((κ 12 6), κ)) else (if v1 = 1 then ((fX1_printCount N (vw κ 12)).bind fun y1 => some (y1, κ)) else (if v1 = 2 then (some ((κ 12 5), κ)) else (if v1 = 3 then ((fX1_printSet N (vw κ 12)).bind fun y2 => some (y2, κ)) else (if v1 = 4 then ((fX1_depthSum N (vw κ 12)).bind fun y3 => some (y3, κ)) else (if v1 = 5 then ((fX1_greatestAuthor N (vw κ 12)).bind fun y4 => some (y4, κ)) else (if v1 = 6 then ((fX1_stepSum N (vw κ 12)).bind fun y5 => some (y5, κ)) else ((fX3_tell κ (-1000001)).bind fun y6 => some (y6.1, y6.2))))))))
set_option maxHeartbeats 4000000 in
set_option maxRecDepth 100000 in
theorem tX3_now {E : EE} {B : BB} {l : Launch} {L : St2 → St2} {N : Nat} {κ : St2} {v1 : Int32} {res : (Int32 × St2)} (C : Cx E B l cX3_now RX3 (some .int) 2 3 68) (hL : LnC L) (hQ : Fin9 E B (some (.int res.1)) (L res.2)) (hf : fX3_now N κ v1 = some res) : V E B (L κ) 0 [(0, .ref (ad B 0)), (1, .int v1)] [] := by
  unfold fX3_now at hf
  refine v_iload_n C 1 dX3_now_0 rfl rfl ?_
  by_cases hc1_0 : v1 = 0
  · rw [if_pos hc1_0] at hf
    refine v_tabIn (tgt := 44) C dX3_now_1 hc1_0 (by decide) (by decide) rfl (by decide) ?_
    refine v_aload_n C 0 dX3_now_44 rfl rfl ?_
    refine g_getR (K := 0) (i := 0) (j := 12) C (by decide) rfl rfl inX3 (by decide) rfl wd_112 dX3_now_45 ?_
    refine shC_getI (i := 6) C sb12 hL (by decide) rfl wd_45 dX3_now_48 ?_
    exact v_iret C dX3_now_51 (fin_im hf hQ)
  · rw [if_neg hc1_0] at hf
    by_cases hc1_1 : v1 = 1
    · rw [if_pos hc1_1] at hf
      refine v_tabIn (tgt := 52) C dX3_now_1 hc1_1 (by decide) (by decide) rfl (by decide) ?_
      refine v_aload_n C 0 dX3_now_52 rfl rfl ?_
      refine g_getR (K := 0) (i := 0) (j := 12) C (by decide) rfl rfl inX3 (by decide) rfl wd_112 dX3_now_53 ?_
      obtain ⟨y1, hy1, hf⟩ := bnd hf
      refine v_callV (r := some (.int y1)) (As := []) (rest := []) (K := 12) C (nX1_printCount hL sb12 hy1) cw_X1_printCount wd_258 (by decide) (tb_o sb12) rfl ⟨Nat.le_of_ble_eq_true rfl, Nat.le_of_ble_eq_true rfl⟩ rfl rfl (Nat.le_of_ble_eq_true rfl) dX3_now_56 ?_
      exact v_iret C dX3_now_59 (fin_im hf hQ)
    · rw [if_neg hc1_1] at hf
      by_cases hc1_2 : v1 = 2
      · rw [if_pos hc1_2] at hf
        refine v_tabIn (tgt := 60) C dX3_now_1 hc1_2 (by decide) (by decide) rfl (by decide) ?_
        refine v_aload_n C 0 dX3_now_60 rfl rfl ?_
        refine g_getR (K := 0) (i := 0) (j := 12) C (by decide) rfl rfl inX3 (by decide) rfl wd_112 dX3_now_61 ?_
        refine shC_getI (i := 5) C sb12 hL (by decide) rfl wd_43 dX3_now_64 ?_
        exact v_iret C dX3_now_67 (fin_im hf hQ)
      · rw [if_neg hc1_2] at hf
        by_cases hc1_3 : v1 = 3
        · rw [if_pos hc1_3] at hf
          refine v_tabIn (tgt := 68) C dX3_now_1 hc1_3 (by decide) (by decide) rfl (by decide) ?_
          refine v_aload_n C 0 dX3_now_68 rfl rfl ?_
          refine g_getR (K := 0) (i := 0) (j := 12) C (by decide) rfl rfl inX3 (by decide) rfl wd_112 dX3_now_69 ?_
          obtain ⟨y2, hy2, hf⟩ := bnd hf
          refine v_callV (r := some (.int y2)) (As := []) (rest := []) (K := 12) C (nX1_printSet hL sb12 hy2) cw_X1_printSet wd_278 (by decide) (tb_o sb12) rfl ⟨Nat.le_of_ble_eq_true rfl, Nat.le_of_ble_eq_true rfl⟩ rfl rfl (Nat.le_of_ble_eq_true rfl) dX3_now_72 ?_
          exact v_iret C dX3_now_75 (fin_im hf hQ)
        · rw [if_neg hc1_3] at hf
          by_cases hc1_4 : v1 = 4
          · rw [if_pos hc1_4] at hf
            refine v_tabIn (tgt := 76) C dX3_now_1 hc1_4 (by decide) (by decide) rfl (by decide) ?_
            refine v_aload_n C 0 dX3_now_76 rfl rfl ?_
            refine g_getR (K := 0) (i := 0) (j := 12) C (by decide) rfl rfl inX3 (by decide) rfl wd_112 dX3_now_77 ?_
            obtain ⟨y3, hy3, hf⟩ := bnd hf
            refine v_callV (r := some (.int y3)) (As := []) (rest := []) (K := 12) C (nX1_depthSum hL sb12 hy3) cw_X1_depthSum wd_279 (by decide) (tb_o sb12) rfl ⟨Nat.le_of_ble_eq_true rfl, Nat.le_of_ble_eq_true rfl⟩ rfl rfl (Nat.le_of_ble_eq_true rfl) dX3_now_80 ?_
            exact v_iret C dX3_now_83 (fin_im hf hQ)
          · rw [if_neg hc1_4] at hf
            by_cases hc1_5 : v1 = 5
            · rw [if_pos hc1_5] at hf
              refine v_tabIn (tgt := 84) C dX3_now_1 hc1_5 (by decide) (by decide) rfl (by decide) ?_
              refine v_aload_n C 0 dX3_now_84 rfl rfl ?_
              refine g_getR (K := 0) (i := 0) (j := 12) C (by decide) rfl rfl inX3 (by decide) rfl wd_112 dX3_now_85 ?_
              obtain ⟨y4, hy4, hf⟩ := bnd hf
              refine v_callV (r := some (.int y4)) (As := []) (rest := []) (K := 12) C (nX1_greatestAuthor hL sb12 hy4) cw_X1_greatestAuthor wd_283 (by decide) (tb_o sb12) rfl ⟨Nat.le_of_ble_eq_true rfl, Nat.le_of_ble_eq_true rfl⟩ rfl rfl (Nat.le_of_ble_eq_true rfl) dX3_now_88 ?_
              exact v_iret C dX3_now_91 (fin_im hf hQ)
            · rw [if_neg hc1_5] at hf
              by_cases hc1_6 : v1 = 6
              · rw [if_pos hc1_6] at hf
                refine v_tabIn (tgt := 92) C dX3_now_1 hc1_6 (by decide) (by decide) rfl (by decide) ?_
                refine v_aload_n C 0 dX3_now_92 rfl rfl ?_
                refine g_getR (K := 0) (i := 0) (j := 12) C (by decide) rfl rfl inX3 (by decide) rfl wd_112 dX3_now_93 ?_
                obtain ⟨y5, hy5, hf⟩ := bnd hf
                refine v_callV (r := some (.int y5)) (As := []) (rest := []) (K := 12) C (nX1_stepSum hL sb12 hy5) cw_X1_stepSum wd_291 (by decide) (tb_o sb12) rfl ⟨Nat.le_of_ble_eq_true rfl, Nat.le_of_ble_eq_true rfl⟩ rfl rfl (Nat.le_of_ble_eq_true rfl) dX3_now_96 ?_
                exact v_iret C dX3_now_99 (fin_im hf hQ)
              · rw [if_neg hc1_6] at hf
                have e1_0 : v1.toInt ≠ 0 := ne_ti (y := 0) hc1_0
                have e1_1 : v1.toInt ≠ 1 := ne_ti (y := 1) hc1_1
                have e1_2 : v1.toInt ≠ 2 := ne_ti (y := 2) hc1_2
                have e1_3 : v1.toInt ≠ 3 := ne_ti (y := 3) hc1_3
                have e1_4 : v1.toInt ≠ 4 := ne_ti (y := 4) hc1_4
                have e1_5 : v1.toInt ≠ 5 := ne_ti (y := 5) hc1_5
                have e1_6 : v1.toInt ≠ 6 := ne_ti (y := 6) hc1_6
                refine v_tabOut (tgt := 100) C dX3_now_1 (by omega) (by decide) ?_
                refine v_aload_n C 0 dX3_now_100 rfl rfl ?_
                refine v_ldc C wd_144 dX3_now_101 ?_
                obtain ⟨y6, hy6, hf⟩ := bnd hf
                refine v_callV (r := some (.int y6.1)) (As := [.int (-1000001)]) (rest := []) (K := 0) C (mX3_tell hL hy6) cw_X3_tell wd_145 (by decide) rfl rfl ⟨Nat.le_of_ble_eq_true rfl, Nat.le_of_ble_eq_true rfl⟩ rfl rfl (Nat.le_of_ble_eq_true rfl) dX3_now_103 ?_
                exact v_iret C dX3_now_106 (fin_im hf hQ)
theorem mX3_now {B : BB} {l : Launch} {L : St2 → St2} {N : Nat} {κ : St2} {v1 : Int32} {res : (Int32 × St2)} (hL : LnC L) (hf : fX3_now N κ v1 = some res) : Ret l B yX3_now cX3_now 2 (some .int) 3 68 [.ref (ad B 0), .int v1] (L κ) (some (.int res.1)) (L res.2) := ret_of (own := RX3) (by decide) rfl (Nat.le_of_ble_eq_true rfl) (fun E C hQ => tX3_now C hL hQ hf)
def fX3_line (N : Nat) (κ : St2) (v1 : Int32) : Option (Int32 × St2) := (fX1_isWalker (vw κ 12) v1).bind fun y1 => if y1 = 0 then ((fX3_tell κ (-1000001)).bind fun y3 => some (y3.1, y3.2)) else ((fX1_longestLine N (vw κ 12) v1).bind fun y2 => some (y2, κ))
set_option maxHeartbeats 4000000 in
set_option maxRecDepth 100000 in
theorem tX3_line {E : EE} {B : BB} {l : Launch} {L : St2 → St2} {N : Nat} {κ : St2} {v1 : Int32} {res : (Int32 × St2)} (C : Cx E B l cX3_line RX3 (some .int) 2 2 45) (hL : LnC L) (hQ : Fin9 E B (some (.int res.1)) (L res.2)) (hf : fX3_line N κ v1 = some res) : V E B (L κ) 0 [(0, .ref (ad B 0)), (1, .int v1)] [] := by
  unfold fX3_line at hf
  refine v_aload_n C 0 dX3_line_0 rfl rfl ?_
  refine g_getR (K := 0) (i := 0) (j := 12) C (by decide) rfl rfl inX3 (by decide) rfl wd_112 dX3_line_1 ?_
  refine v_iload_n C 1 dX3_line_4 rfl rfl ?_
  obtain ⟨y1, hy1, hf⟩ := bnd hf
  refine v_callV (r := some (.int y1)) (As := [.int v1]) (rest := []) (K := 12) C (nX1_isWalker hL sb12 hy1) cw_X1_isWalker wd_201 (by decide) (tb_o sb12) rfl ⟨Nat.le_of_ble_eq_true rfl, Nat.le_of_ble_eq_true rfl⟩ rfl rfl (Nat.le_of_ble_eq_true rfl) dX3_line_5 ?_
  refine v_if_ne (tgt := 18) C dX3_line_8 (by decide) hf (fun hf => ?_) (fun hf => ?_)
  · refine v_aload_n C 0 dX3_line_18 rfl rfl ?_
    refine g_getR (K := 0) (i := 0) (j := 12) C (by decide) rfl rfl inX3 (by decide) rfl wd_112 dX3_line_19 ?_
    refine v_iload_n C 1 dX3_line_22 rfl rfl ?_
    obtain ⟨y2, hy2, hf⟩ := bnd hf
    refine v_callV (r := some (.int y2)) (As := [.int v1]) (rest := []) (K := 12) C (nX1_longestLine hL sb12 hy2) cw_X1_longestLine wd_299 (by decide) (tb_o sb12) rfl ⟨Nat.le_of_ble_eq_true rfl, Nat.le_of_ble_eq_true rfl⟩ rfl rfl (Nat.le_of_ble_eq_true rfl) dX3_line_23 ?_
    exact v_iret C dX3_line_26 (fin_im hf hQ)
  · refine v_aload_n C 0 dX3_line_11 rfl rfl ?_
    refine v_ldc C wd_144 dX3_line_12 ?_
    obtain ⟨y3, hy3, hf⟩ := bnd hf
    refine v_callV (r := some (.int y3.1)) (As := [.int (-1000001)]) (rest := []) (K := 0) C (mX3_tell hL hy3) cw_X3_tell wd_145 (by decide) rfl rfl ⟨Nat.le_of_ble_eq_true rfl, Nat.le_of_ble_eq_true rfl⟩ rfl rfl (Nat.le_of_ble_eq_true rfl) dX3_line_14 ?_
    exact v_iret C dX3_line_17 (fin_im hf hQ)
theorem mX3_line {B : BB} {l : Launch} {L : St2 → St2} {N : Nat} {κ : St2} {v1 : Int32} {res : (Int32 × St2)} (hL : LnC L) (hf : fX3_line N κ v1 = some res) : Ret l B yX3_line cX3_line 2 (some .int) 2 45 [.ref (ad B 0), .int v1] (L κ) (some (.int res.1)) (L res.2) := ret_of (own := RX3) (by decide) rfl (Nat.le_of_ble_eq_true rfl) (fun E C hQ => tX3_line C hL hQ hf)
def fX3_ahead (N : Nat) (κ : St2) (v1 : Int32) (v2 : Int32) (v3 : Int32) : Option (Int32 × St2) := (fX3_isCell v1).bind fun y1 => if y1 = 0 then ((fX3_tell κ (-1000001)).bind fun y2 => some (y2.1, y2.2)) else ((fX3_within v2 0 2).bind fun y3 => if y3 = 0 then ((fX3_tell κ (-1000001)).bind fun y4 => some (y4.1, y4.2)) else ((fX3_within v3 0 100).bind fun y5 => if y5 = 0 then ((fX3_tell κ (-1000001)).bind fun y11 => some (y11.1, y11.2)) else ((fX1_become N 25 12 κ).bind fun y6 => (fX1_passHours N (vw y6 25) v3 0).bind fun y7 => (some (putS y6 25 y7)).bind fun κ8 => (ck v2 3).bind fun r9 => (rd (κ8 (25 + (2 + r9))) 24 v1).bind fun a10 => some (a10, κ8))))
set_option maxHeartbeats 4000000 in
set_option maxRecDepth 100000 in
theorem tX3_ahead {E : EE} {B : BB} {l : Launch} {L : St2 → St2} {N : Nat} {κ : St2} {v1 : Int32} {v2 : Int32} {v3 : Int32} {res : (Int32 × St2)} (C : Cx E B l cX3_ahead RX3 (some .int) 4 5 113) (hL : LnC L) (hQ : Fin9 E B (some (.int res.1)) (L res.2)) (hf : fX3_ahead N κ v1 v2 v3 = some res) : V E B (L κ) 0 [(0, .ref (ad B 0)), (1, .int v1), (2, .int v2), (3, .int v3)] [] := by
  unfold fX3_ahead at hf
  refine v_iload_n C 1 dX3_ahead_0 rfl rfl ?_
  obtain ⟨y1, hy1, hf⟩ := bnd hf
  refine v_callS (r := some (.int y1)) (As := [.int v1]) (rest := []) C (mX3_isCell  hy1) cw_X3_isCell wd_138 ⟨Nat.le_of_ble_eq_true rfl, Nat.le_of_ble_eq_true rfl⟩ rfl rfl (Nat.le_of_ble_eq_true rfl) dX3_ahead_1 ?_
  refine v_if_eq (tgt := 26) C dX3_ahead_4 (by decide) hf (fun hf => ?_) (fun hf => ?_)
  · refine v_aload_n C 0 dX3_ahead_26 rfl rfl ?_
    refine v_ldc C wd_144 dX3_ahead_27 ?_
    obtain ⟨y2, hy2, hf⟩ := bnd hf
    refine v_callV (r := some (.int y2.1)) (As := [.int (-1000001)]) (rest := []) (K := 0) C (mX3_tell hL hy2) cw_X3_tell wd_145 (by decide) rfl rfl ⟨Nat.le_of_ble_eq_true rfl, Nat.le_of_ble_eq_true rfl⟩ rfl rfl (Nat.le_of_ble_eq_true rfl) dX3_ahead_29 ?_
    exact v_iret C dX3_ahead_32 (fin_im hf hQ)
  · refine v_iload_n C 2 dX3_ahead_7 rfl rfl ?_
    refine v_iconst (v := 0) C dX3_ahead_8 (by decide) ?_
    refine v_iconst (v := 2) C dX3_ahead_9 (by decide) ?_
    obtain ⟨y3, hy3, hf⟩ := bnd hf
    refine v_callS (r := some (.int y3)) (As := [.int v2, .int 0, .int 2]) (rest := []) C (mX3_within  hy3) cw_X3_within wd_141 ⟨Nat.le_of_ble_eq_true rfl, Nat.le_of_ble_eq_true rfl⟩ rfl rfl (Nat.le_of_ble_eq_true rfl) dX3_ahead_10 ?_
    refine v_if_eq (tgt := 26) C dX3_ahead_13 (by decide) hf (fun hf => ?_) (fun hf => ?_)
    · refine v_aload_n C 0 dX3_ahead_26 rfl rfl ?_
      refine v_ldc C wd_144 dX3_ahead_27 ?_
      obtain ⟨y4, hy4, hf⟩ := bnd hf
      refine v_callV (r := some (.int y4.1)) (As := [.int (-1000001)]) (rest := []) (K := 0) C (mX3_tell hL hy4) cw_X3_tell wd_145 (by decide) rfl rfl ⟨Nat.le_of_ble_eq_true rfl, Nat.le_of_ble_eq_true rfl⟩ rfl rfl (Nat.le_of_ble_eq_true rfl) dX3_ahead_29 ?_
      exact v_iret C dX3_ahead_32 (fin_im hf hQ)
    · refine v_iload_n C 3 dX3_ahead_16 rfl rfl ?_
      refine v_iconst (v := 0) C dX3_ahead_17 (by decide) ?_
      refine v_bipush (v := 100) C dX3_ahead_18 (by decide) ?_
      obtain ⟨y5, hy5, hf⟩ := bnd hf
      refine v_callS (r := some (.int y5)) (As := [.int v3, .int 0, .int 100]) (rest := []) C (mX3_within  hy5) cw_X3_within wd_141 ⟨Nat.le_of_ble_eq_true rfl, Nat.le_of_ble_eq_true rfl⟩ rfl rfl (Nat.le_of_ble_eq_true rfl) dX3_ahead_20 ?_
      refine v_if_ne (tgt := 33) C dX3_ahead_23 (by decide) hf (fun hf => ?_) (fun hf => ?_)
      · refine v_aload_n C 0 dX3_ahead_33 rfl rfl ?_
        refine g_getR (K := 0) (i := 1) (j := 25) C (by decide) rfl rfl inX3 (by decide) rfl wd_113 dX3_ahead_34 ?_
        refine v_aload_n C 0 dX3_ahead_37 rfl rfl ?_
        refine g_getR (K := 0) (i := 0) (j := 12) C (by decide) rfl rfl inX3 (by decide) rfl wd_112 dX3_ahead_38 ?_
        obtain ⟨y6, hy6, hf⟩ := bnd hf
        refine v_callV (r := none) (As := [.ref (ad B 12)]) (rest := []) (K := 25) C (mX1_become hL sb25 sb12 hy6) cw_X1_become wd_307 (by decide) (tb_o sb25) rfl ⟨Nat.le_of_ble_eq_true rfl, Nat.le_of_ble_eq_true rfl⟩ rfl rfl (Nat.le_of_ble_eq_true rfl) dX3_ahead_41 ?_
        refine v_aload_n C 0 dX3_ahead_44 rfl rfl ?_
        refine g_getR (K := 0) (i := 1) (j := 25) C (by decide) rfl rfl inX3 (by decide) rfl wd_113 dX3_ahead_45 ?_
        refine v_iload_n C 3 dX3_ahead_48 rfl rfl ?_
        refine v_iconst (v := 0) C dX3_ahead_49 (by decide) ?_
        obtain ⟨y7, hy7, hf⟩ := bnd hf
        refine v_callV (r := none) (As := [.int v3, .int 0]) (rest := []) (K := 25) C (nX1_passHours hL sb25 hy7) cw_X1_passHours wd_241 (by decide) (tb_o sb25) rfl ⟨Nat.le_of_ble_eq_true rfl, Nat.le_of_ble_eq_true rfl⟩ rfl rfl (Nat.le_of_ble_eq_true rfl) dX3_ahead_50 ?_
        obtain ⟨κ8, he, hf⟩ := bnd hf
        rw [Option.some.inj he]
        refine v_aload_n C 0 dX3_ahead_53 rfl rfl ?_
        refine g_getR (K := 0) (i := 1) (j := 25) C (by decide) rfl rfl inX3 (by decide) rfl wd_113 dX3_ahead_54 ?_
        refine sh_getR (i := 0) (j := 25 + 1) C sb25 (by decide) rfl wd_30 dX3_ahead_57 ?_
        refine v_iload_n C 2 dX3_ahead_60 rfl rfl ?_
        refine sh_prD C sb25 dX3_ahead_61 hf (fun r9 hr9 hf => ?_)
        refine v_iload_n C 1 dX3_ahead_62 rfl rfl ?_
        refine c_ald (k := 25 + (2 + r9)) C hL (by omega) (tb_pr sb25 hr9) dX3_ahead_63 hf (fun a10 hf => ?_)
        exact v_iret C dX3_ahead_64 (fin_im hf hQ)
      · refine v_aload_n C 0 dX3_ahead_26 rfl rfl ?_
        refine v_ldc C wd_144 dX3_ahead_27 ?_
        obtain ⟨y11, hy11, hf⟩ := bnd hf
        refine v_callV (r := some (.int y11.1)) (As := [.int (-1000001)]) (rest := []) (K := 0) C (mX3_tell hL hy11) cw_X3_tell wd_145 (by decide) rfl rfl ⟨Nat.le_of_ble_eq_true rfl, Nat.le_of_ble_eq_true rfl⟩ rfl rfl (Nat.le_of_ble_eq_true rfl) dX3_ahead_29 ?_
        exact v_iret C dX3_ahead_32 (fin_im hf hQ)
theorem mX3_ahead {B : BB} {l : Launch} {L : St2 → St2} {N : Nat} {κ : St2} {v1 : Int32} {v2 : Int32} {v3 : Int32} {res : (Int32 × St2)} (hL : LnC L) (hf : fX3_ahead N κ v1 v2 v3 = some res) : Ret l B yX3_ahead cX3_ahead 4 (some .int) 5 113 [.ref (ad B 0), .int v1, .int v2, .int v3] (L κ) (some (.int res.1)) (L res.2) := ret_of (own := RX3) (by decide) rfl (Nat.le_of_ble_eq_true rfl) (fun E C hQ => tX3_ahead C hL hQ hf)
def fX3_work (N : Nat) (κ : St2) (v1 : Int32) (v2 : Int32) : Option (Int32 × St2) := (fX1_isWalker (vw κ 12) v1).bind fun y1 => if y1 = 0 then ((fX3_tell κ (-1000001)).bind fun y2 => some (y2.1, y2.2)) else ((fX3_within v2 0 100).bind fun y3 => if y3 = 0 then ((fX3_tell κ (-1000001)).bind fun y8 => some (y8.1, y8.2)) else ((fX1_become N 25 12 κ).bind fun y4 => (fX1_passHours N (vw y4 25) v2 0).bind fun y5 => (some (putS y4 25 y5)).bind fun κ6 => (fX1_workSize N (vw κ6 25) v1).bind fun y7 => some (y7, κ6)))
set_option maxHeartbeats 4000000 in
set_option maxRecDepth 100000 in
theorem tX3_work {E : EE} {B : BB} {l : Launch} {L : St2 → St2} {N : Nat} {κ : St2} {v1 : Int32} {v2 : Int32} {res : (Int32 × St2)} (C : Cx E B l cX3_work RX3 (some .int) 3 5 113) (hL : LnC L) (hQ : Fin9 E B (some (.int res.1)) (L res.2)) (hf : fX3_work N κ v1 v2 = some res) : V E B (L κ) 0 [(0, .ref (ad B 0)), (1, .int v1), (2, .int v2)] [] := by
  unfold fX3_work at hf
  refine v_aload_n C 0 dX3_work_0 rfl rfl ?_
  refine g_getR (K := 0) (i := 0) (j := 12) C (by decide) rfl rfl inX3 (by decide) rfl wd_112 dX3_work_1 ?_
  refine v_iload_n C 1 dX3_work_4 rfl rfl ?_
  obtain ⟨y1, hy1, hf⟩ := bnd hf
  refine v_callV (r := some (.int y1)) (As := [.int v1]) (rest := []) (K := 12) C (nX1_isWalker hL sb12 hy1) cw_X1_isWalker wd_201 (by decide) (tb_o sb12) rfl ⟨Nat.le_of_ble_eq_true rfl, Nat.le_of_ble_eq_true rfl⟩ rfl rfl (Nat.le_of_ble_eq_true rfl) dX3_work_5 ?_
  refine v_if_eq (tgt := 21) C dX3_work_8 (by decide) hf (fun hf => ?_) (fun hf => ?_)
  · refine v_aload_n C 0 dX3_work_21 rfl rfl ?_
    refine v_ldc C wd_144 dX3_work_22 ?_
    obtain ⟨y2, hy2, hf⟩ := bnd hf
    refine v_callV (r := some (.int y2.1)) (As := [.int (-1000001)]) (rest := []) (K := 0) C (mX3_tell hL hy2) cw_X3_tell wd_145 (by decide) rfl rfl ⟨Nat.le_of_ble_eq_true rfl, Nat.le_of_ble_eq_true rfl⟩ rfl rfl (Nat.le_of_ble_eq_true rfl) dX3_work_24 ?_
    exact v_iret C dX3_work_27 (fin_im hf hQ)
  · refine v_iload_n C 2 dX3_work_11 rfl rfl ?_
    refine v_iconst (v := 0) C dX3_work_12 (by decide) ?_
    refine v_bipush (v := 100) C dX3_work_13 (by decide) ?_
    obtain ⟨y3, hy3, hf⟩ := bnd hf
    refine v_callS (r := some (.int y3)) (As := [.int v2, .int 0, .int 100]) (rest := []) C (mX3_within  hy3) cw_X3_within wd_141 ⟨Nat.le_of_ble_eq_true rfl, Nat.le_of_ble_eq_true rfl⟩ rfl rfl (Nat.le_of_ble_eq_true rfl) dX3_work_15 ?_
    refine v_if_ne (tgt := 28) C dX3_work_18 (by decide) hf (fun hf => ?_) (fun hf => ?_)
    · refine v_aload_n C 0 dX3_work_28 rfl rfl ?_
      refine g_getR (K := 0) (i := 1) (j := 25) C (by decide) rfl rfl inX3 (by decide) rfl wd_113 dX3_work_29 ?_
      refine v_aload_n C 0 dX3_work_32 rfl rfl ?_
      refine g_getR (K := 0) (i := 0) (j := 12) C (by decide) rfl rfl inX3 (by decide) rfl wd_112 dX3_work_33 ?_
      obtain ⟨y4, hy4, hf⟩ := bnd hf
      refine v_callV (r := none) (As := [.ref (ad B 12)]) (rest := []) (K := 25) C (mX1_become hL sb25 sb12 hy4) cw_X1_become wd_307 (by decide) (tb_o sb25) rfl ⟨Nat.le_of_ble_eq_true rfl, Nat.le_of_ble_eq_true rfl⟩ rfl rfl (Nat.le_of_ble_eq_true rfl) dX3_work_36 ?_
      refine v_aload_n C 0 dX3_work_39 rfl rfl ?_
      refine g_getR (K := 0) (i := 1) (j := 25) C (by decide) rfl rfl inX3 (by decide) rfl wd_113 dX3_work_40 ?_
      refine v_iload_n C 2 dX3_work_43 rfl rfl ?_
      refine v_iconst (v := 0) C dX3_work_44 (by decide) ?_
      obtain ⟨y5, hy5, hf⟩ := bnd hf
      refine v_callV (r := none) (As := [.int v2, .int 0]) (rest := []) (K := 25) C (nX1_passHours hL sb25 hy5) cw_X1_passHours wd_241 (by decide) (tb_o sb25) rfl ⟨Nat.le_of_ble_eq_true rfl, Nat.le_of_ble_eq_true rfl⟩ rfl rfl (Nat.le_of_ble_eq_true rfl) dX3_work_45 ?_
      obtain ⟨κ6, he, hf⟩ := bnd hf
      rw [Option.some.inj he]
      refine v_aload_n C 0 dX3_work_48 rfl rfl ?_
      refine g_getR (K := 0) (i := 1) (j := 25) C (by decide) rfl rfl inX3 (by decide) rfl wd_113 dX3_work_49 ?_
      refine v_iload_n C 1 dX3_work_52 rfl rfl ?_
      obtain ⟨y7, hy7, hf⟩ := bnd hf
      refine v_callV (r := some (.int y7)) (As := [.int v1]) (rest := []) (K := 25) C (nX1_workSize hL sb25 hy7) cw_X1_workSize wd_318 (by decide) (tb_o sb25) rfl ⟨Nat.le_of_ble_eq_true rfl, Nat.le_of_ble_eq_true rfl⟩ rfl rfl (Nat.le_of_ble_eq_true rfl) dX3_work_53 ?_
      exact v_iret C dX3_work_56 (fin_im hf hQ)
    · refine v_aload_n C 0 dX3_work_21 rfl rfl ?_
      refine v_ldc C wd_144 dX3_work_22 ?_
      obtain ⟨y8, hy8, hf⟩ := bnd hf
      refine v_callV (r := some (.int y8.1)) (As := [.int (-1000001)]) (rest := []) (K := 0) C (mX3_tell hL hy8) cw_X3_tell wd_145 (by decide) rfl rfl ⟨Nat.le_of_ble_eq_true rfl, Nat.le_of_ble_eq_true rfl⟩ rfl rfl (Nat.le_of_ble_eq_true rfl) dX3_work_24 ?_
      exact v_iret C dX3_work_27 (fin_im hf hQ)
theorem mX3_work {B : BB} {l : Launch} {L : St2 → St2} {N : Nat} {κ : St2} {v1 : Int32} {v2 : Int32} {res : (Int32 × St2)} (hL : LnC L) (hf : fX3_work N κ v1 v2 = some res) : Ret l B yX3_work cX3_work 3 (some .int) 5 113 [.ref (ad B 0), .int v1, .int v2] (L κ) (some (.int res.1)) (L res.2) := ret_of (own := RX3) (by decide) rfl (Nat.le_of_ble_eq_true rfl) (fun E C hQ => tX3_work C hL hQ hf)
def fX3_hoursUntilWhose_13 (N : Nat) (v1 : Int32) (v2 : Int32) : Nat → St2 → Int32 → Option (Int32 × St2)
  | 0, _, _ => none
  | n + 1, κ, v3 => if 200 < v3 then ((fX3_tell κ (-1000004)).bind fun y2 => some (y2.1, y2.2)) else ((rd (κ (25 + (2 + 0))) 24 v1).bind fun a3 => if a3 = v2 then (some (v3, κ)) else ((fX1_passHour N (vw κ 25) 0).bind fun y4 => (some (putS κ 25 y4)).bind fun κ5 => (fX3_hoursUntilWhose_13 N v1 v2 n) κ5 (v3 + 1)))
set_option maxHeartbeats 4000000 in
set_option maxRecDepth 100000 in
theorem tX3_hoursUntilWhose_13 {E : EE} {B : BB} {l : Launch} {L : St2 → St2} {N : Nat} {v1 : Int32} {v2 : Int32} {res : (Int32 × St2)} (C : Cx E B l cX3_hoursUntilWhose RX3 (some .int) 4 4 90) (hL : LnC L) (hQ : Fin9 E B (some (.int res.1)) (L res.2)) : ∀ (n : Nat) (κ : St2) (v3 : Int32), fX3_hoursUntilWhose_13 N v1 v2 n κ v3 = some res → V E B (L κ) 13 [(0, .ref (ad B 0)), (1, .int v1), (2, .int v2), (3, .int v3)] [] := by
  intro n
  induction n with
  | zero =>
    intro κ v3 hf
    cases hf
  | succ n ih =>
    intro κ v3 hf
    rw [fX3_hoursUntilWhose_13] at hf
    refine v_iload_n C 3 dX3_hoursUntilWhose_13 rfl rfl ?_
    refine v_sipush (v := 200) C dX3_hoursUntilWhose_14 (by decide) ?_
    refine v_icmp_gt (tgt := 51) C dX3_hoursUntilWhose_17 (by decide) hf (fun hf => ?_) (fun hf => ?_)
    · refine v_aload_n C 0 dX3_hoursUntilWhose_51 rfl rfl ?_
      refine v_ldc C wd_328 dX3_hoursUntilWhose_52 ?_
      obtain ⟨y2, hy2, hf⟩ := bnd hf
      refine v_callV (r := some (.int y2.1)) (As := [.int (-1000004)]) (rest := []) (K := 0) C (mX3_tell hL hy2) cw_X3_tell wd_145 (by decide) rfl rfl ⟨Nat.le_of_ble_eq_true rfl, Nat.le_of_ble_eq_true rfl⟩ rfl rfl (Nat.le_of_ble_eq_true rfl) dX3_hoursUntilWhose_54 ?_
      exact v_iret C dX3_hoursUntilWhose_57 (fin_im hf hQ)
    · refine v_aload_n C 0 dX3_hoursUntilWhose_20 rfl rfl ?_
      refine g_getR (K := 0) (i := 1) (j := 25) C (by decide) rfl rfl inX3 (by decide) rfl wd_113 dX3_hoursUntilWhose_21 ?_
      refine sh_getR (i := 0) (j := 25 + 1) C sb25 (by decide) rfl wd_30 dX3_hoursUntilWhose_24 ?_
      refine v_iconst (v := 0) C dX3_hoursUntilWhose_27 (by decide) ?_
      refine sh_prS C 0 sb25 rfl (by decide) dX3_hoursUntilWhose_28 ?_
      refine v_iload_n C 1 dX3_hoursUntilWhose_29 rfl rfl ?_
      refine c_ald (k := 25 + (2 + 0)) C hL (by decide) (tb_pr sb25 (r := 0) (by decide)) dX3_hoursUntilWhose_30 hf (fun a3 hf => ?_)
      refine v_iload_n C 2 dX3_hoursUntilWhose_31 rfl rfl ?_
      refine v_icmp_ne (tgt := 37) C dX3_hoursUntilWhose_32 (by decide) hf (fun hf => ?_) (fun hf => ?_)
      · refine v_aload_n C 0 dX3_hoursUntilWhose_37 rfl rfl ?_
        refine g_getR (K := 0) (i := 1) (j := 25) C (by decide) rfl rfl inX3 (by decide) rfl wd_113 dX3_hoursUntilWhose_38 ?_
        refine v_iconst (v := 0) C dX3_hoursUntilWhose_41 (by decide) ?_
        obtain ⟨y4, hy4, hf⟩ := bnd hf
        refine v_callV (r := none) (As := [.int 0]) (rest := []) (K := 25) C (nX1_passHour hL sb25 hy4) cw_X1_passHour wd_327 (by decide) (tb_o sb25) rfl ⟨Nat.le_of_ble_eq_true rfl, Nat.le_of_ble_eq_true rfl⟩ rfl rfl (Nat.le_of_ble_eq_true rfl) dX3_hoursUntilWhose_42 ?_
        obtain ⟨κ5, he, hf⟩ := bnd hf
        rw [Option.some.inj he]
        refine v_iinc (q := 3) (v := v3 + 1) (lv' := [(0, .ref (ad B 0)), (1, .int v1), (2, .int v2), (3, .int (v3 + 1))]) C [1, 2, 3, 0] dX3_hoursUntilWhose_45 rfl rfl (by decide) rfl ?_
        refine v_goto (tgt := 13) C dX3_hoursUntilWhose_48 (by decide) ?_
        exact ih κ5 (v3 + 1) hf
      · refine v_iload_n C 3 dX3_hoursUntilWhose_35 rfl rfl ?_
        exact v_iret C dX3_hoursUntilWhose_36 (fin_im hf hQ)
def fX3_hoursUntilWhose (N : Nat) (κ : St2) (v1 : Int32) (v2 : Int32) : Option (Int32 × St2) := (fX1_become N 25 12 κ).bind fun y1 => fX3_hoursUntilWhose_13 N v1 v2 N y1 0
set_option maxHeartbeats 4000000 in
set_option maxRecDepth 100000 in
theorem tX3_hoursUntilWhose {E : EE} {B : BB} {l : Launch} {L : St2 → St2} {N : Nat} {κ : St2} {v1 : Int32} {v2 : Int32} {res : (Int32 × St2)} (C : Cx E B l cX3_hoursUntilWhose RX3 (some .int) 4 4 90) (hL : LnC L) (hQ : Fin9 E B (some (.int res.1)) (L res.2)) (hf : fX3_hoursUntilWhose N κ v1 v2 = some res) : V E B (L κ) 0 [(0, .ref (ad B 0)), (1, .int v1), (2, .int v2)] [] := by
  unfold fX3_hoursUntilWhose at hf
  refine v_aload_n C 0 dX3_hoursUntilWhose_0 rfl rfl ?_
  refine g_getR (K := 0) (i := 1) (j := 25) C (by decide) rfl rfl inX3 (by decide) rfl wd_113 dX3_hoursUntilWhose_1 ?_
  refine v_aload_n C 0 dX3_hoursUntilWhose_4 rfl rfl ?_
  refine g_getR (K := 0) (i := 0) (j := 12) C (by decide) rfl rfl inX3 (by decide) rfl wd_112 dX3_hoursUntilWhose_5 ?_
  obtain ⟨y1, hy1, hf⟩ := bnd hf
  refine v_callV (r := none) (As := [.ref (ad B 12)]) (rest := []) (K := 25) C (mX1_become hL sb25 sb12 hy1) cw_X1_become wd_307 (by decide) (tb_o sb25) rfl ⟨Nat.le_of_ble_eq_true rfl, Nat.le_of_ble_eq_true rfl⟩ rfl rfl (Nat.le_of_ble_eq_true rfl) dX3_hoursUntilWhose_8 ?_
  refine v_iconst (v := 0) C dX3_hoursUntilWhose_11 (by decide) ?_
  refine v_istore_n (lv' := [(0, .ref (ad B 0)), (1, .int v1), (2, .int v2), (3, .int 0)]) C [1, 2, 3, 0] dX3_hoursUntilWhose_12 rfl (by decide) rfl ?_
  exact tX3_hoursUntilWhose_13 C hL hQ N y1 0 hf
theorem mX3_hoursUntilWhose {B : BB} {l : Launch} {L : St2 → St2} {N : Nat} {κ : St2} {v1 : Int32} {v2 : Int32} {res : (Int32 × St2)} (hL : LnC L) (hf : fX3_hoursUntilWhose N κ v1 v2 = some res) : Ret l B yX3_hoursUntilWhose cX3_hoursUntilWhose 4 (some .int) 4 90 [.ref (ad B 0), .int v1, .int v2] (L κ) (some (.int res.1)) (L res.2) := ret_of (own := RX3) (by decide) rfl (Nat.le_of_ble_eq_true rfl) (fun E C hQ => tX3_hoursUntilWhose C hL hQ hf)
def fX3_when (N : Nat) (κ : St2) (v1 : Int32) (v2 : Int32) : Option (Int32 × St2) := (fX1_isWalker (vw κ 12) v1).bind fun y1 => if y1 = 0 then ((fX3_tell κ (-1000001)).bind fun y2 => some (y2.1, y2.2)) else ((fX3_isCell v2).bind fun y3 => if y3 = 0 then ((fX3_tell κ (-1000001)).bind fun y5 => some (y5.1, y5.2)) else ((fX3_hoursUntilWhose N κ v2 v1).bind fun y4 => some (y4.1, y4.2)))
set_option maxHeartbeats 4000000 in
set_option maxRecDepth 100000 in
theorem tX3_when {E : EE} {B : BB} {l : Launch} {L : St2 → St2} {N : Nat} {κ : St2} {v1 : Int32} {v2 : Int32} {res : (Int32 × St2)} (C : Cx E B l cX3_when RX3 (some .int) 3 5 113) (hL : LnC L) (hQ : Fin9 E B (some (.int res.1)) (L res.2)) (hf : fX3_when N κ v1 v2 = some res) : V E B (L κ) 0 [(0, .ref (ad B 0)), (1, .int v1), (2, .int v2)] [] := by
  unfold fX3_when at hf
  refine v_aload_n C 0 dX3_when_0 rfl rfl ?_
  refine g_getR (K := 0) (i := 0) (j := 12) C (by decide) rfl rfl inX3 (by decide) rfl wd_112 dX3_when_1 ?_
  refine v_iload_n C 1 dX3_when_4 rfl rfl ?_
  obtain ⟨y1, hy1, hf⟩ := bnd hf
  refine v_callV (r := some (.int y1)) (As := [.int v1]) (rest := []) (K := 12) C (nX1_isWalker hL sb12 hy1) cw_X1_isWalker wd_201 (by decide) (tb_o sb12) rfl ⟨Nat.le_of_ble_eq_true rfl, Nat.le_of_ble_eq_true rfl⟩ rfl rfl (Nat.le_of_ble_eq_true rfl) dX3_when_5 ?_
  refine v_if_eq (tgt := 18) C dX3_when_8 (by decide) hf (fun hf => ?_) (fun hf => ?_)
  · refine v_aload_n C 0 dX3_when_18 rfl rfl ?_
    refine v_ldc C wd_144 dX3_when_19 ?_
    obtain ⟨y2, hy2, hf⟩ := bnd hf
    refine v_callV (r := some (.int y2.1)) (As := [.int (-1000001)]) (rest := []) (K := 0) C (mX3_tell hL hy2) cw_X3_tell wd_145 (by decide) rfl rfl ⟨Nat.le_of_ble_eq_true rfl, Nat.le_of_ble_eq_true rfl⟩ rfl rfl (Nat.le_of_ble_eq_true rfl) dX3_when_21 ?_
    exact v_iret C dX3_when_24 (fin_im hf hQ)
  · refine v_iload_n C 2 dX3_when_11 rfl rfl ?_
    obtain ⟨y3, hy3, hf⟩ := bnd hf
    refine v_callS (r := some (.int y3)) (As := [.int v2]) (rest := []) C (mX3_isCell  hy3) cw_X3_isCell wd_138 ⟨Nat.le_of_ble_eq_true rfl, Nat.le_of_ble_eq_true rfl⟩ rfl rfl (Nat.le_of_ble_eq_true rfl) dX3_when_12 ?_
    refine v_if_ne (tgt := 25) C dX3_when_15 (by decide) hf (fun hf => ?_) (fun hf => ?_)
    · refine v_aload_n C 0 dX3_when_25 rfl rfl ?_
      refine v_iload_n C 2 dX3_when_26 rfl rfl ?_
      refine v_iload_n C 1 dX3_when_27 rfl rfl ?_
      obtain ⟨y4, hy4, hf⟩ := bnd hf
      refine v_callV (r := some (.int y4.1)) (As := [.int v2, .int v1]) (rest := []) (K := 0) C (mX3_hoursUntilWhose hL hy4) cw_X3_hoursUntilWhose wd_323 (by decide) rfl rfl ⟨Nat.le_of_ble_eq_true rfl, Nat.le_of_ble_eq_true rfl⟩ rfl rfl (Nat.le_of_ble_eq_true rfl) dX3_when_28 ?_
      exact v_iret C dX3_when_31 (fin_im hf hQ)
    · refine v_aload_n C 0 dX3_when_18 rfl rfl ?_
      refine v_ldc C wd_144 dX3_when_19 ?_
      obtain ⟨y5, hy5, hf⟩ := bnd hf
      refine v_callV (r := some (.int y5.1)) (As := [.int (-1000001)]) (rest := []) (K := 0) C (mX3_tell hL hy5) cw_X3_tell wd_145 (by decide) rfl rfl ⟨Nat.le_of_ble_eq_true rfl, Nat.le_of_ble_eq_true rfl⟩ rfl rfl (Nat.le_of_ble_eq_true rfl) dX3_when_21 ?_
      exact v_iret C dX3_when_24 (fin_im hf hQ)
theorem mX3_when {B : BB} {l : Launch} {L : St2 → St2} {N : Nat} {κ : St2} {v1 : Int32} {v2 : Int32} {res : (Int32 × St2)} (hL : LnC L) (hf : fX3_when N κ v1 v2 = some res) : Ret l B yX3_when cX3_when 3 (some .int) 5 113 [.ref (ad B 0), .int v1, .int v2] (L κ) (some (.int res.1)) (L res.2) := ret_of (own := RX3) (by decide) rfl (Nat.le_of_ble_eq_true rfl) (fun E C hQ => tX3_when C hL hQ hf)
def fX3_gone (N : Nat) (κ : St2) (v1 : Int32) : Option (Int32 × St2) := (fX3_isCell v1).bind fun y1 => if y1 = 0 then ((fX3_tell κ (-1000001)).bind fun y3 => some (y3.1, y3.2)) else ((fX3_hoursUntilWhose N κ v1 (-1)).bind fun y2 => some (y2.1, y2.2))
set_option maxHeartbeats 4000000 in
set_option maxRecDepth 100000 in
theorem tX3_gone {E : EE} {B : BB} {l : Launch} {L : St2 → St2} {N : Nat} {κ : St2} {v1 : Int32} {res : (Int32 × St2)} (C : Cx E B l cX3_gone RX3 (some .int) 2 5 113) (hL : LnC L) (hQ : Fin9 E B (some (.int res.1)) (L res.2)) (hf : fX3_gone N κ v1 = some res) : V E B (L κ) 0 [(0, .ref (ad B 0)), (1, .int v1)] [] := by
  unfold fX3_gone at hf
  refine v_iload_n C 1 dX3_gone_0 rfl rfl ?_
  obtain ⟨y1, hy1, hf⟩ := bnd hf
  refine v_callS (r := some (.int y1)) (As := [.int v1]) (rest := []) C (mX3_isCell  hy1) cw_X3_isCell wd_138 ⟨Nat.le_of_ble_eq_true rfl, Nat.le_of_ble_eq_true rfl⟩ rfl rfl (Nat.le_of_ble_eq_true rfl) dX3_gone_1 ?_
  refine v_if_ne (tgt := 14) C dX3_gone_4 (by decide) hf (fun hf => ?_) (fun hf => ?_)
  · refine v_aload_n C 0 dX3_gone_14 rfl rfl ?_
    refine v_iload_n C 1 dX3_gone_15 rfl rfl ?_
    refine v_iconst (v := (-1)) C dX3_gone_16 (by decide) ?_
    obtain ⟨y2, hy2, hf⟩ := bnd hf
    refine v_callV (r := some (.int y2.1)) (As := [.int v1, .int (-1)]) (rest := []) (K := 0) C (mX3_hoursUntilWhose hL hy2) cw_X3_hoursUntilWhose wd_323 (by decide) rfl rfl ⟨Nat.le_of_ble_eq_true rfl, Nat.le_of_ble_eq_true rfl⟩ rfl rfl (Nat.le_of_ble_eq_true rfl) dX3_gone_17 ?_
    exact v_iret C dX3_gone_20 (fin_im hf hQ)
  · refine v_aload_n C 0 dX3_gone_7 rfl rfl ?_
    refine v_ldc C wd_144 dX3_gone_8 ?_
    obtain ⟨y3, hy3, hf⟩ := bnd hf
    refine v_callV (r := some (.int y3.1)) (As := [.int (-1000001)]) (rest := []) (K := 0) C (mX3_tell hL hy3) cw_X3_tell wd_145 (by decide) rfl rfl ⟨Nat.le_of_ble_eq_true rfl, Nat.le_of_ble_eq_true rfl⟩ rfl rfl (Nat.le_of_ble_eq_true rfl) dX3_gone_10 ?_
    exact v_iret C dX3_gone_13 (fin_im hf hQ)
theorem mX3_gone {B : BB} {l : Launch} {L : St2 → St2} {N : Nat} {κ : St2} {v1 : Int32} {res : (Int32 × St2)} (hL : LnC L) (hf : fX3_gone N κ v1 = some res) : Ret l B yX3_gone cX3_gone 2 (some .int) 5 113 [.ref (ad B 0), .int v1] (L κ) (some (.int res.1)) (L res.2) := ret_of (own := RX3) (by decide) rfl (Nat.le_of_ble_eq_true rfl) (fun E C hQ => tX3_gone C hL hQ hf)
def fX3_meet_47 (N : Nat) (v1 : Int32) (v2 : Int32) : Nat → St2 → Int32 → Option (Int32 × St2)
  | 0, _, _ => none
  | n + 1, κ, v3 => if 200 < v3 then ((fX3_tell κ (-1000004)).bind fun y6 => some (y6.1, y6.2)) else ((rd (κ (25 + (6 + 1))) 8 v1).bind fun a7 => (rd (κ (25 + (6 + 1))) 8 v2).bind fun a8 => if a7 = a8 then (some (v3, κ)) else ((fX1_passHour N (vw κ 25) 0).bind fun y9 => (some (putS κ 25 y9)).bind fun κ10 => (fX3_meet_47 N v1 v2 n) κ10 (v3 + 1)))
set_option maxHeartbeats 4000000 in
set_option maxRecDepth 100000 in
theorem tX3_meet_47 {E : EE} {B : BB} {l : Launch} {L : St2 → St2} {N : Nat} {v1 : Int32} {v2 : Int32} {res : (Int32 × St2)} (C : Cx E B l cX3_meet RX3 (some .int) 4 4 90) (hL : LnC L) (hQ : Fin9 E B (some (.int res.1)) (L res.2)) : ∀ (n : Nat) (κ : St2) (v3 : Int32), fX3_meet_47 N v1 v2 n κ v3 = some res → V E B (L κ) 47 [(0, .ref (ad B 0)), (1, .int v1), (2, .int v2), (3, .int v3)] [] := by
  intro n
  induction n with
  | zero =>
    intro κ v3 hf
    cases hf
  | succ n ih =>
    intro κ v3 hf
    rw [fX3_meet_47] at hf
    refine v_iload_n C 3 dX3_meet_47 rfl rfl ?_
    refine v_sipush (v := 200) C dX3_meet_48 (by decide) ?_
    refine v_icmp_gt (tgt := 95) C dX3_meet_51 (by decide) hf (fun hf => ?_) (fun hf => ?_)
    · refine v_aload_n C 0 dX3_meet_95 rfl rfl ?_
      refine v_ldc C wd_328 dX3_meet_96 ?_
      obtain ⟨y6, hy6, hf⟩ := bnd hf
      refine v_callV (r := some (.int y6.1)) (As := [.int (-1000004)]) (rest := []) (K := 0) C (mX3_tell hL hy6) cw_X3_tell wd_145 (by decide) rfl rfl ⟨Nat.le_of_ble_eq_true rfl, Nat.le_of_ble_eq_true rfl⟩ rfl rfl (Nat.le_of_ble_eq_true rfl) dX3_meet_98 ?_
      exact v_iret C dX3_meet_101 (fin_im hf hQ)
    · refine v_aload_n C 0 dX3_meet_54 rfl rfl ?_
      refine g_getR (K := 0) (i := 1) (j := 25) C (by decide) rfl rfl inX3 (by decide) rfl wd_113 dX3_meet_55 ?_
      refine sh_getR (i := 1) (j := 25 + 5) C sb25 (by decide) rfl wd_32 dX3_meet_58 ?_
      refine v_iconst (v := 1) C dX3_meet_61 (by decide) ?_
      refine sh_trS C 1 sb25 rfl (by decide) dX3_meet_62 ?_
      refine v_iload_n C 1 dX3_meet_63 rfl rfl ?_
      refine c_ald (k := 25 + (6 + 1)) C hL (by decide) (tb_tr sb25 (r := 1) (by decide)) dX3_meet_64 hf (fun a7 hf => ?_)
      refine v_aload_n C 0 dX3_meet_65 rfl rfl ?_
      refine g_getR (K := 0) (i := 1) (j := 25) C (by decide) rfl rfl inX3 (by decide) rfl wd_113 dX3_meet_66 ?_
      refine sh_getR (i := 1) (j := 25 + 5) C sb25 (by decide) rfl wd_32 dX3_meet_69 ?_
      refine v_iconst (v := 1) C dX3_meet_72 (by decide) ?_
      refine sh_trS C 1 sb25 rfl (by decide) dX3_meet_73 ?_
      refine v_iload_n C 2 dX3_meet_74 rfl rfl ?_
      refine c_ald (k := 25 + (6 + 1)) C hL (by decide) (tb_tr sb25 (r := 1) (by decide)) dX3_meet_75 hf (fun a8 hf => ?_)
      refine v_icmp_ne (tgt := 81) C dX3_meet_76 (by decide) hf (fun hf => ?_) (fun hf => ?_)
      · refine v_aload_n C 0 dX3_meet_81 rfl rfl ?_
        refine g_getR (K := 0) (i := 1) (j := 25) C (by decide) rfl rfl inX3 (by decide) rfl wd_113 dX3_meet_82 ?_
        refine v_iconst (v := 0) C dX3_meet_85 (by decide) ?_
        obtain ⟨y9, hy9, hf⟩ := bnd hf
        refine v_callV (r := none) (As := [.int 0]) (rest := []) (K := 25) C (nX1_passHour hL sb25 hy9) cw_X1_passHour wd_327 (by decide) (tb_o sb25) rfl ⟨Nat.le_of_ble_eq_true rfl, Nat.le_of_ble_eq_true rfl⟩ rfl rfl (Nat.le_of_ble_eq_true rfl) dX3_meet_86 ?_
        obtain ⟨κ10, he, hf⟩ := bnd hf
        rw [Option.some.inj he]
        refine v_iinc (q := 3) (v := v3 + 1) (lv' := [(0, .ref (ad B 0)), (1, .int v1), (2, .int v2), (3, .int (v3 + 1))]) C [1, 2, 3, 0] dX3_meet_89 rfl rfl (by decide) rfl ?_
        refine v_goto (tgt := 47) C dX3_meet_92 (by decide) ?_
        exact ih κ10 (v3 + 1) hf
      · refine v_iload_n C 3 dX3_meet_79 rfl rfl ?_
        exact v_iret C dX3_meet_80 (fin_im hf hQ)
def fX3_meet (N : Nat) (κ : St2) (v1 : Int32) (v2 : Int32) : Option (Int32 × St2) := (fX1_isWalker (vw κ 12) v1).bind fun y1 => if y1 = 0 then ((fX3_tell κ (-1000001)).bind fun y2 => some (y2.1, y2.2)) else ((fX1_isWalker (vw κ 12) v2).bind fun y3 => if y3 = 0 then ((fX3_tell κ (-1000001)).bind fun y4 => some (y4.1, y4.2)) else (if v1 = v2 then ((fX3_tell κ (-1000001)).bind fun y12 => some (y12.1, y12.2)) else ((fX1_become N 25 12 κ).bind fun y5 => fX3_meet_47 N v1 v2 N y5 0)))
set_option maxHeartbeats 4000000 in
set_option maxRecDepth 100000 in
theorem tX3_meet {E : EE} {B : BB} {l : Launch} {L : St2 → St2} {N : Nat} {κ : St2} {v1 : Int32} {v2 : Int32} {res : (Int32 × St2)} (C : Cx E B l cX3_meet RX3 (some .int) 4 4 90) (hL : LnC L) (hQ : Fin9 E B (some (.int res.1)) (L res.2)) (hf : fX3_meet N κ v1 v2 = some res) : V E B (L κ) 0 [(0, .ref (ad B 0)), (1, .int v1), (2, .int v2)] [] := by
  unfold fX3_meet at hf
  refine v_aload_n C 0 dX3_meet_0 rfl rfl ?_
  refine g_getR (K := 0) (i := 0) (j := 12) C (by decide) rfl rfl inX3 (by decide) rfl wd_112 dX3_meet_1 ?_
  refine v_iload_n C 1 dX3_meet_4 rfl rfl ?_
  obtain ⟨y1, hy1, hf⟩ := bnd hf
  refine v_callV (r := some (.int y1)) (As := [.int v1]) (rest := []) (K := 12) C (nX1_isWalker hL sb12 hy1) cw_X1_isWalker wd_201 (by decide) (tb_o sb12) rfl ⟨Nat.le_of_ble_eq_true rfl, Nat.le_of_ble_eq_true rfl⟩ rfl rfl (Nat.le_of_ble_eq_true rfl) dX3_meet_5 ?_
  refine v_if_eq (tgt := 27) C dX3_meet_8 (by decide) hf (fun hf => ?_) (fun hf => ?_)
  · refine v_aload_n C 0 dX3_meet_27 rfl rfl ?_
    refine v_ldc C wd_144 dX3_meet_28 ?_
    obtain ⟨y2, hy2, hf⟩ := bnd hf
    refine v_callV (r := some (.int y2.1)) (As := [.int (-1000001)]) (rest := []) (K := 0) C (mX3_tell hL hy2) cw_X3_tell wd_145 (by decide) rfl rfl ⟨Nat.le_of_ble_eq_true rfl, Nat.le_of_ble_eq_true rfl⟩ rfl rfl (Nat.le_of_ble_eq_true rfl) dX3_meet_30 ?_
    exact v_iret C dX3_meet_33 (fin_im hf hQ)
  · refine v_aload_n C 0 dX3_meet_11 rfl rfl ?_
    refine g_getR (K := 0) (i := 0) (j := 12) C (by decide) rfl rfl inX3 (by decide) rfl wd_112 dX3_meet_12 ?_
    refine v_iload_n C 2 dX3_meet_15 rfl rfl ?_
    obtain ⟨y3, hy3, hf⟩ := bnd hf
    refine v_callV (r := some (.int y3)) (As := [.int v2]) (rest := []) (K := 12) C (nX1_isWalker hL sb12 hy3) cw_X1_isWalker wd_201 (by decide) (tb_o sb12) rfl ⟨Nat.le_of_ble_eq_true rfl, Nat.le_of_ble_eq_true rfl⟩ rfl rfl (Nat.le_of_ble_eq_true rfl) dX3_meet_16 ?_
    refine v_if_eq (tgt := 27) C dX3_meet_19 (by decide) hf (fun hf => ?_) (fun hf => ?_)
    · refine v_aload_n C 0 dX3_meet_27 rfl rfl ?_
      refine v_ldc C wd_144 dX3_meet_28 ?_
      obtain ⟨y4, hy4, hf⟩ := bnd hf
      refine v_callV (r := some (.int y4.1)) (As := [.int (-1000001)]) (rest := []) (K := 0) C (mX3_tell hL hy4) cw_X3_tell wd_145 (by decide) rfl rfl ⟨Nat.le_of_ble_eq_true rfl, Nat.le_of_ble_eq_true rfl⟩ rfl rfl (Nat.le_of_ble_eq_true rfl) dX3_meet_30 ?_
      exact v_iret C dX3_meet_33 (fin_im hf hQ)
    · refine v_iload_n C 1 dX3_meet_22 rfl rfl ?_
      refine v_iload_n C 2 dX3_meet_23 rfl rfl ?_
      refine v_icmp_ne (tgt := 34) C dX3_meet_24 (by decide) hf (fun hf => ?_) (fun hf => ?_)
      · refine v_aload_n C 0 dX3_meet_34 rfl rfl ?_
        refine g_getR (K := 0) (i := 1) (j := 25) C (by decide) rfl rfl inX3 (by decide) rfl wd_113 dX3_meet_35 ?_
        refine v_aload_n C 0 dX3_meet_38 rfl rfl ?_
        refine g_getR (K := 0) (i := 0) (j := 12) C (by decide) rfl rfl inX3 (by decide) rfl wd_112 dX3_meet_39 ?_
        obtain ⟨y5, hy5, hf⟩ := bnd hf
        refine v_callV (r := none) (As := [.ref (ad B 12)]) (rest := []) (K := 25) C (mX1_become hL sb25 sb12 hy5) cw_X1_become wd_307 (by decide) (tb_o sb25) rfl ⟨Nat.le_of_ble_eq_true rfl, Nat.le_of_ble_eq_true rfl⟩ rfl rfl (Nat.le_of_ble_eq_true rfl) dX3_meet_42 ?_
        refine v_iconst (v := 0) C dX3_meet_45 (by decide) ?_
        refine v_istore_n (lv' := [(0, .ref (ad B 0)), (1, .int v1), (2, .int v2), (3, .int 0)]) C [1, 2, 3, 0] dX3_meet_46 rfl (by decide) rfl ?_
        exact tX3_meet_47 C hL hQ N y5 0 hf
      · refine v_aload_n C 0 dX3_meet_27 rfl rfl ?_
        refine v_ldc C wd_144 dX3_meet_28 ?_
        obtain ⟨y12, hy12, hf⟩ := bnd hf
        refine v_callV (r := some (.int y12.1)) (As := [.int (-1000001)]) (rest := []) (K := 0) C (mX3_tell hL hy12) cw_X3_tell wd_145 (by decide) rfl rfl ⟨Nat.le_of_ble_eq_true rfl, Nat.le_of_ble_eq_true rfl⟩ rfl rfl (Nat.le_of_ble_eq_true rfl) dX3_meet_30 ?_
        exact v_iret C dX3_meet_33 (fin_im hf hQ)
theorem mX3_meet {B : BB} {l : Launch} {L : St2 → St2} {N : Nat} {κ : St2} {v1 : Int32} {v2 : Int32} {res : (Int32 × St2)} (hL : LnC L) (hf : fX3_meet N κ v1 v2 = some res) : Ret l B yX3_meet cX3_meet 4 (some .int) 4 90 [.ref (ad B 0), .int v1, .int v2] (L κ) (some (.int res.1)) (L res.2) := ret_of (own := RX3) (by decide) rfl (Nat.le_of_ble_eq_true rfl) (fun E C hQ => tX3_meet C hL hQ hf)
def fX3_tryTrait (N : Nat) (κ : St2) (v1 : Int32) (v2 : Int32) (v3 : Int32) (v4 : Int32) : Option St2 := (fX1_become N 25 12 κ).bind fun y1 => (ck v2 6).bind fun r2 => (wr y1 (25 + (6 + r2)) 8 v1 v3).bind fun κ3 => (fX1_passHours N (vw κ3 25) v4 0).bind fun y4 => (some (putS κ3 25 y4)).bind fun κ5 => some κ5
set_option maxHeartbeats 4000000 in
set_option maxRecDepth 100000 in
theorem tX3_tryTrait {E : EE} {B : BB} {l : Launch} {L : St2 → St2} {N : Nat} {κ : St2} {v1 : Int32} {v2 : Int32} {v3 : Int32} {v4 : Int32} {res : St2} (C : Cx E B l cX3_tryTrait RX3 none 5 5 113) (hL : LnC L) (hQ : Fin9 E B none (L res)) (hf : fX3_tryTrait N κ v1 v2 v3 v4 = some res) : V E B (L κ) 0 [(0, .ref (ad B 0)), (1, .int v1), (2, .int v2), (3, .int v3), (4, .int v4)] [] := by
  unfold fX3_tryTrait at hf
  refine v_aload_n C 0 dX3_tryTrait_0 rfl rfl ?_
  refine g_getR (K := 0) (i := 1) (j := 25) C (by decide) rfl rfl inX3 (by decide) rfl wd_113 dX3_tryTrait_1 ?_
  refine v_aload_n C 0 dX3_tryTrait_4 rfl rfl ?_
  refine g_getR (K := 0) (i := 0) (j := 12) C (by decide) rfl rfl inX3 (by decide) rfl wd_112 dX3_tryTrait_5 ?_
  obtain ⟨y1, hy1, hf⟩ := bnd hf
  refine v_callV (r := none) (As := [.ref (ad B 12)]) (rest := []) (K := 25) C (mX1_become hL sb25 sb12 hy1) cw_X1_become wd_307 (by decide) (tb_o sb25) rfl ⟨Nat.le_of_ble_eq_true rfl, Nat.le_of_ble_eq_true rfl⟩ rfl rfl (Nat.le_of_ble_eq_true rfl) dX3_tryTrait_8 ?_
  refine v_aload_n C 0 dX3_tryTrait_11 rfl rfl ?_
  refine g_getR (K := 0) (i := 1) (j := 25) C (by decide) rfl rfl inX3 (by decide) rfl wd_113 dX3_tryTrait_12 ?_
  refine sh_getR (i := 1) (j := 25 + 5) C sb25 (by decide) rfl wd_32 dX3_tryTrait_15 ?_
  refine v_iload_n C 2 dX3_tryTrait_18 rfl rfl ?_
  refine sh_trD C sb25 dX3_tryTrait_19 hf (fun r2 hr2 hf => ?_)
  refine v_iload_n C 1 dX3_tryTrait_20 rfl rfl ?_
  refine v_iload_n C 3 dX3_tryTrait_21 rfl rfl ?_
  refine c_ast (k := 25 + (6 + r2)) C hL (by omega) (tb_tr sb25 hr2) dX3_tryTrait_22 hf (fun κ3 hf => ?_)
  refine v_aload_n C 0 dX3_tryTrait_23 rfl rfl ?_
  refine g_getR (K := 0) (i := 1) (j := 25) C (by decide) rfl rfl inX3 (by decide) rfl wd_113 dX3_tryTrait_24 ?_
  refine v_iload C 4 dX3_tryTrait_27 rfl ?_
  refine v_iconst (v := 0) C dX3_tryTrait_29 (by decide) ?_
  obtain ⟨y4, hy4, hf⟩ := bnd hf
  refine v_callV (r := none) (As := [.int v4, .int 0]) (rest := []) (K := 25) C (nX1_passHours hL sb25 hy4) cw_X1_passHours wd_241 (by decide) (tb_o sb25) rfl ⟨Nat.le_of_ble_eq_true rfl, Nat.le_of_ble_eq_true rfl⟩ rfl rfl (Nat.le_of_ble_eq_true rfl) dX3_tryTrait_30 ?_
  obtain ⟨κ5, he, hf⟩ := bnd hf
  rw [Option.some.inj he]
  exact v_vret C dX3_tryTrait_33 (fin_v hf hQ)
theorem mX3_tryTrait {B : BB} {l : Launch} {L : St2 → St2} {N : Nat} {κ : St2} {v1 : Int32} {v2 : Int32} {v3 : Int32} {v4 : Int32} {res : St2} (hL : LnC L) (hf : fX3_tryTrait N κ v1 v2 v3 v4 = some res) : Ret l B yX3_tryTrait cX3_tryTrait 5 none 5 113 [.ref (ad B 0), .int v1, .int v2, .int v3, .int v4] (L κ) none (L res) := ret_of (own := RX3) (by decide) rfl (Nat.le_of_ble_eq_true rfl) (fun E C hQ => tX3_tryTrait C hL hQ hf)
def fX3_traitForMostWork_89 (N : Nat) (k45 : St2 → Int32 → Int32 → Int32 → Option (Int32 × St2)) (κ : St2) (v1 : Int32) (v2 : Int32) (v3 : Int32) (v4 : Int32) (v5 : Int32) (v6 : Int32) : Option (Int32 × St2) := k45 κ v4 v5 (v6 + 1)
set_option maxHeartbeats 4000000 in
set_option maxRecDepth 100000 in
theorem tX3_traitForMostWork_89 {E : EE} {B : BB} {l : Launch} {L : St2 → St2} {N : Nat} {k45 : St2 → Int32 → Int32 → Int32 → Option (Int32 × St2)} {κ : St2} {v1 : Int32} {v2 : Int32} {v3 : Int32} {v4 : Int32} {v5 : Int32} {v6 : Int32} {res : (Int32 × St2)} (C : Cx E B l cX3_traitForMostWork RX3 (some .int) 8 6 137) (hL : LnC L) (hQ : Fin9 E B (some (.int res.1)) (L res.2)) (hk45 : ∀ (κ : St2) (v4 : Int32) (v5 : Int32) (v6 : Int32), k45 κ v4 v5 v6 = some res → V E B (L κ) 45 [(0, .ref (ad B 0)), (1, .int v1), (2, .int v2), (3, .int v3), (4, .int v4), (5, .int v5), (6, .int v6)] []) (hf : fX3_traitForMostWork_89 N k45 κ v1 v2 v3 v4 v5 v6 = some res) : V E B (L κ) 89 [(0, .ref (ad B 0)), (1, .int v1), (2, .int v2), (3, .int v3), (4, .int v4), (5, .int v5), (6, .int v6)] [] := by
  unfold fX3_traitForMostWork_89 at hf
  refine v_iinc (q := 6) (v := v6 + 1) (lv' := [(0, .ref (ad B 0)), (1, .int v1), (2, .int v2), (3, .int v3), (4, .int v4), (5, .int v5), (6, .int (v6 + 1))]) C [1, 2, 3, 4, 5, 6, 0] dX3_traitForMostWork_89 rfl rfl (by decide) rfl ?_
  refine v_goto (tgt := 45) C dX3_traitForMostWork_92 (by decide) ?_
  exact hk45 κ v4 v5 (v6 + 1) hf
def fX3_traitForMostWork_45 (N : Nat) (v1 : Int32) (v2 : Int32) (v3 : Int32) : Nat → St2 → Int32 → Int32 → Int32 → Option (Int32 × St2)
  | 0, _, _, _, _ => none
  | n + 1, κ, v4, v5, v6 => (rd (tv 2) 6 v2).bind fun a6 => if a6 < v6 then (some (v4, κ)) else ((fX3_tryTrait N κ v1 v2 v6 v3).bind fun y7 => (fX1_workSize N (vw y7 25) v1).bind fun y8 => if y8 ≤ v5 then (fX3_traitForMostWork_89 N (fX3_traitForMostWork_45 N v1 v2 v3 n) y7 v1 v2 v3 v4 v5 v6) else (fX3_traitForMostWork_89 N (fX3_traitForMostWork_45 N v1 v2 v3 n) y7 v1 v2 v3 v6 y8 v6))
set_option maxHeartbeats 4000000 in
set_option maxRecDepth 100000 in
theorem tX3_traitForMostWork_45 {E : EE} {B : BB} {l : Launch} {L : St2 → St2} {N : Nat} {v1 : Int32} {v2 : Int32} {v3 : Int32} {res : (Int32 × St2)} (C : Cx E B l cX3_traitForMostWork RX3 (some .int) 8 6 137) (hL : LnC L) (hQ : Fin9 E B (some (.int res.1)) (L res.2)) : ∀ (n : Nat) (κ : St2) (v4 : Int32) (v5 : Int32) (v6 : Int32), fX3_traitForMostWork_45 N v1 v2 v3 n κ v4 v5 v6 = some res → V E B (L κ) 45 [(0, .ref (ad B 0)), (1, .int v1), (2, .int v2), (3, .int v3), (4, .int v4), (5, .int v5), (6, .int v6)] [] := by
  intro n
  induction n with
  | zero =>
    intro κ v4 v5 v6 hf
    cases hf
  | succ n ih =>
    intro κ v4 v5 v6 hf
    rw [fX3_traitForMostWork_45] at hf
    refine v_iload C 6 dX3_traitForMostWork_45 rfl ?_
    refine g_gets C (sz2 B) wd_233 dX3_traitForMostWork_47 ?_
    refine v_iload_n C 2 dX3_traitForMostWork_50 rfl rfl ?_
    refine t_ld2 C dX3_traitForMostWork_51 hf (fun a6 hf => ?_)
    refine v_icmp_gt (tgt := 95) C dX3_traitForMostWork_52 (by decide) hf (fun hf => ?_) (fun hf => ?_)
    · refine v_iload C 4 dX3_traitForMostWork_95 rfl ?_
      exact v_iret C dX3_traitForMostWork_97 (fin_im hf hQ)
    · refine v_aload_n C 0 dX3_traitForMostWork_55 rfl rfl ?_
      refine v_iload_n C 1 dX3_traitForMostWork_56 rfl rfl ?_
      refine v_iload_n C 2 dX3_traitForMostWork_57 rfl rfl ?_
      refine v_iload C 6 dX3_traitForMostWork_58 rfl ?_
      refine v_iload_n C 3 dX3_traitForMostWork_60 rfl rfl ?_
      obtain ⟨y7, hy7, hf⟩ := bnd hf
      refine v_callV (r := none) (As := [.int v1, .int v2, .int v6, .int v3]) (rest := []) (K := 0) C (mX3_tryTrait hL hy7) cw_X3_tryTrait wd_345 (by decide) rfl rfl ⟨Nat.le_of_ble_eq_true rfl, Nat.le_of_ble_eq_true rfl⟩ rfl rfl (Nat.le_of_ble_eq_true rfl) dX3_traitForMostWork_61 ?_
      refine v_aload_n C 0 dX3_traitForMostWork_64 rfl rfl ?_
      refine g_getR (K := 0) (i := 1) (j := 25) C (by decide) rfl rfl inX3 (by decide) rfl wd_113 dX3_traitForMostWork_65 ?_
      refine v_iload_n C 1 dX3_traitForMostWork_68 rfl rfl ?_
      obtain ⟨y8, hy8, hf⟩ := bnd hf
      refine v_callV (r := some (.int y8)) (As := [.int v1]) (rest := []) (K := 25) C (nX1_workSize hL sb25 hy8) cw_X1_workSize wd_318 (by decide) (tb_o sb25) rfl ⟨Nat.le_of_ble_eq_true rfl, Nat.le_of_ble_eq_true rfl⟩ rfl rfl (Nat.le_of_ble_eq_true rfl) dX3_traitForMostWork_69 ?_
      refine v_istore (lv' := [(0, .ref (ad B 0)), (1, .int v1), (2, .int v2), (3, .int v3), (4, .int v4), (5, .int v5), (6, .int v6), (7, .int y8)]) C [1, 2, 3, 4, 5, 6, 7, 0] dX3_traitForMostWork_72 (by decide) rfl ?_
      refine v_iload C 7 dX3_traitForMostWork_74 rfl ?_
      refine v_iload C 5 dX3_traitForMostWork_76 rfl ?_
      refine v_icmp_le (tgt := 89) C dX3_traitForMostWork_78 (by decide) hf (fun hf => ?_) (fun hf => ?_)
      · refine v_sub [0, 1, 2, 3, 4, 5, 6] rfl ?_
        exact tX3_traitForMostWork_89 C hL hQ ih hf
      · refine v_iload C 7 dX3_traitForMostWork_81 rfl ?_
        refine v_istore (lv' := [(0, .ref (ad B 0)), (1, .int v1), (2, .int v2), (3, .int v3), (4, .int v4), (5, .int y8), (6, .int v6), (7, .int y8)]) C [1, 2, 3, 4, 5, 0, 6, 7] dX3_traitForMostWork_83 (by decide) rfl ?_
        refine v_iload C 6 dX3_traitForMostWork_85 rfl ?_
        refine v_istore (lv' := [(0, .ref (ad B 0)), (1, .int v1), (2, .int v2), (3, .int v3), (4, .int v6), (5, .int y8), (6, .int v6), (7, .int y8)]) C [1, 2, 3, 4, 0, 5, 6, 7] dX3_traitForMostWork_87 (by decide) rfl ?_
        refine v_sub [0, 1, 2, 3, 4, 5, 6] rfl ?_
        exact tX3_traitForMostWork_89 C hL hQ ih hf
def fX3_traitForMostWork (N : Nat) (κ : St2) (v1 : Int32) (v2 : Int32) (v3 : Int32) : Option (Int32 × St2) := (fX1_isWalker (vw κ 12) v1).bind fun y1 => if y1 = 0 then ((fX3_tell κ (-1000001)).bind fun y2 => some (y2.1, y2.2)) else ((fX3_within v3 0 40).bind fun y3 => if y3 = 0 then ((fX3_tell κ (-1000001)).bind fun y10 => some (y10.1, y10.2)) else ((rd (tv 1) 6 v2).bind fun a4 => (rd (tv 1) 6 v2).bind fun a5 => fX3_traitForMostWork_45 N v1 v2 v3 N κ a4 (-1) a5))
set_option maxHeartbeats 4000000 in
set_option maxRecDepth 100000 in
theorem tX3_traitForMostWork {E : EE} {B : BB} {l : Launch} {L : St2 → St2} {N : Nat} {κ : St2} {v1 : Int32} {v2 : Int32} {v3 : Int32} {res : (Int32 × St2)} (C : Cx E B l cX3_traitForMostWork RX3 (some .int) 8 6 137) (hL : LnC L) (hQ : Fin9 E B (some (.int res.1)) (L res.2)) (hf : fX3_traitForMostWork N κ v1 v2 v3 = some res) : V E B (L κ) 0 [(0, .ref (ad B 0)), (1, .int v1), (2, .int v2), (3, .int v3)] [] := by
  unfold fX3_traitForMostWork at hf
  refine v_aload_n C 0 dX3_traitForMostWork_0 rfl rfl ?_
  refine g_getR (K := 0) (i := 0) (j := 12) C (by decide) rfl rfl inX3 (by decide) rfl wd_112 dX3_traitForMostWork_1 ?_
  refine v_iload_n C 1 dX3_traitForMostWork_4 rfl rfl ?_
  obtain ⟨y1, hy1, hf⟩ := bnd hf
  refine v_callV (r := some (.int y1)) (As := [.int v1]) (rest := []) (K := 12) C (nX1_isWalker hL sb12 hy1) cw_X1_isWalker wd_201 (by decide) (tb_o sb12) rfl ⟨Nat.le_of_ble_eq_true rfl, Nat.le_of_ble_eq_true rfl⟩ rfl rfl (Nat.le_of_ble_eq_true rfl) dX3_traitForMostWork_5 ?_
  refine v_if_eq (tgt := 21) C dX3_traitForMostWork_8 (by decide) hf (fun hf => ?_) (fun hf => ?_)
  · refine v_aload_n C 0 dX3_traitForMostWork_21 rfl rfl ?_
    refine v_ldc C wd_144 dX3_traitForMostWork_22 ?_
    obtain ⟨y2, hy2, hf⟩ := bnd hf
    refine v_callV (r := some (.int y2.1)) (As := [.int (-1000001)]) (rest := []) (K := 0) C (mX3_tell hL hy2) cw_X3_tell wd_145 (by decide) rfl rfl ⟨Nat.le_of_ble_eq_true rfl, Nat.le_of_ble_eq_true rfl⟩ rfl rfl (Nat.le_of_ble_eq_true rfl) dX3_traitForMostWork_24 ?_
    exact v_iret C dX3_traitForMostWork_27 (fin_im hf hQ)
  · refine v_iload_n C 3 dX3_traitForMostWork_11 rfl rfl ?_
    refine v_iconst (v := 0) C dX3_traitForMostWork_12 (by decide) ?_
    refine v_bipush (v := 40) C dX3_traitForMostWork_13 (by decide) ?_
    obtain ⟨y3, hy3, hf⟩ := bnd hf
    refine v_callS (r := some (.int y3)) (As := [.int v3, .int 0, .int 40]) (rest := []) C (mX3_within  hy3) cw_X3_within wd_141 ⟨Nat.le_of_ble_eq_true rfl, Nat.le_of_ble_eq_true rfl⟩ rfl rfl (Nat.le_of_ble_eq_true rfl) dX3_traitForMostWork_15 ?_
    refine v_if_ne (tgt := 28) C dX3_traitForMostWork_18 (by decide) hf (fun hf => ?_) (fun hf => ?_)
    · refine g_gets C (sz1 B) wd_231 dX3_traitForMostWork_28 ?_
      refine v_iload_n C 2 dX3_traitForMostWork_31 rfl rfl ?_
      refine t_ld1 C dX3_traitForMostWork_32 hf (fun a4 hf => ?_)
      refine v_istore (lv' := [(0, .ref (ad B 0)), (1, .int v1), (2, .int v2), (3, .int v3), (4, .int a4)]) C [1, 2, 3, 4, 0] dX3_traitForMostWork_33 (by decide) rfl ?_
      refine v_iconst (v := (-1)) C dX3_traitForMostWork_35 (by decide) ?_
      refine v_istore (lv' := [(0, .ref (ad B 0)), (1, .int v1), (2, .int v2), (3, .int v3), (4, .int a4), (5, .int (-1))]) C [1, 2, 3, 4, 5, 0] dX3_traitForMostWork_36 (by decide) rfl ?_
      refine g_gets C (sz1 B) wd_231 dX3_traitForMostWork_38 ?_
      refine v_iload_n C 2 dX3_traitForMostWork_41 rfl rfl ?_
      refine t_ld1 C dX3_traitForMostWork_42 hf (fun a5 hf => ?_)
      refine v_istore (lv' := [(0, .ref (ad B 0)), (1, .int v1), (2, .int v2), (3, .int v3), (4, .int a4), (5, .int (-1)), (6, .int a5)]) C [1, 2, 3, 4, 5, 6, 0] dX3_traitForMostWork_43 (by decide) rfl ?_
      exact tX3_traitForMostWork_45 C hL hQ N κ a4 (-1) a5 hf
    · refine v_aload_n C 0 dX3_traitForMostWork_21 rfl rfl ?_
      refine v_ldc C wd_144 dX3_traitForMostWork_22 ?_
      obtain ⟨y10, hy10, hf⟩ := bnd hf
      refine v_callV (r := some (.int y10.1)) (As := [.int (-1000001)]) (rest := []) (K := 0) C (mX3_tell hL hy10) cw_X3_tell wd_145 (by decide) rfl rfl ⟨Nat.le_of_ble_eq_true rfl, Nat.le_of_ble_eq_true rfl⟩ rfl rfl (Nat.le_of_ble_eq_true rfl) dX3_traitForMostWork_24 ?_
      exact v_iret C dX3_traitForMostWork_27 (fin_im hf hQ)
theorem mX3_traitForMostWork {B : BB} {l : Launch} {L : St2 → St2} {N : Nat} {κ : St2} {v1 : Int32} {v2 : Int32} {v3 : Int32} {res : (Int32 × St2)} (hL : LnC L) (hf : fX3_traitForMostWork N κ v1 v2 v3 = some res) : Ret l B yX3_traitForMostWork cX3_traitForMostWork 8 (some .int) 6 137 [.ref (ad B 0), .int v1, .int v2, .int v3] (L κ) (some (.int res.1)) (L res.2) := ret_of (own := RX3) (by decide) rfl (Nat.le_of_ble_eq_true rfl) (fun E C hQ => tX3_traitForMostWork C hL hQ hf)
def fX3_strideFor (N : Nat) (κ : St2) (v1 : Int32) (v2 : Int32) : Option (Int32 × St2) := (fX3_traitForMostWork N κ v1 3 v2).bind fun y1 => some (y1.1, y1.2)
set_option maxHeartbeats 4000000 in
set_option maxRecDepth 100000 in
theorem tX3_strideFor {E : EE} {B : BB} {l : Launch} {L : St2 → St2} {N : Nat} {κ : St2} {v1 : Int32} {v2 : Int32} {res : (Int32 × St2)} (C : Cx E B l cX3_strideFor RX3 (some .int) 3 7 164) (hL : LnC L) (hQ : Fin9 E B (some (.int res.1)) (L res.2)) (hf : fX3_strideFor N κ v1 v2 = some res) : V E B (L κ) 0 [(0, .ref (ad B 0)), (1, .int v1), (2, .int v2)] [] := by
  unfold fX3_strideFor at hf
  refine v_aload_n C 0 dX3_strideFor_0 rfl rfl ?_
  refine v_iload_n C 1 dX3_strideFor_1 rfl rfl ?_
  refine v_iconst (v := 3) C dX3_strideFor_2 (by decide) ?_
  refine v_iload_n C 2 dX3_strideFor_3 rfl rfl ?_
  obtain ⟨y1, hy1, hf⟩ := bnd hf
  refine v_callV (r := some (.int y1.1)) (As := [.int v1, .int 3, .int v2]) (rest := []) (K := 0) C (mX3_traitForMostWork hL hy1) cw_X3_traitForMostWork wd_341 (by decide) rfl rfl ⟨Nat.le_of_ble_eq_true rfl, Nat.le_of_ble_eq_true rfl⟩ rfl rfl (Nat.le_of_ble_eq_true rfl) dX3_strideFor_4 ?_
  exact v_iret C dX3_strideFor_7 (fin_im hf hQ)
theorem mX3_strideFor {B : BB} {l : Launch} {L : St2 → St2} {N : Nat} {κ : St2} {v1 : Int32} {v2 : Int32} {res : (Int32 × St2)} (hL : LnC L) (hf : fX3_strideFor N κ v1 v2 = some res) : Ret l B yX3_strideFor cX3_strideFor 3 (some .int) 7 164 [.ref (ad B 0), .int v1, .int v2] (L κ) (some (.int res.1)) (L res.2) := ret_of (own := RX3) (by decide) rfl (Nat.le_of_ble_eq_true rfl) (fun E C hQ => tX3_strideFor C hL hQ hf)
def fX3_start (N : Nat) (κ : St2) (v1 : Int32) (v2 : Int32) : Option (Int32 × St2) := (fX3_traitForMostWork N κ v1 1 v2).bind fun y1 => some (y1.1, y1.2)
set_option maxHeartbeats 4000000 in
set_option maxRecDepth 100000 in
theorem tX3_start {E : EE} {B : BB} {l : Launch} {L : St2 → St2} {N : Nat} {κ : St2} {v1 : Int32} {v2 : Int32} {res : (Int32 × St2)} (C : Cx E B l cX3_start RX3 (some .int) 3 7 164) (hL : LnC L) (hQ : Fin9 E B (some (.int res.1)) (L res.2)) (hf : fX3_start N κ v1 v2 = some res) : V E B (L κ) 0 [(0, .ref (ad B 0)), (1, .int v1), (2, .int v2)] [] := by
  unfold fX3_start at hf
  refine v_aload_n C 0 dX3_start_0 rfl rfl ?_
  refine v_iload_n C 1 dX3_start_1 rfl rfl ?_
  refine v_iconst (v := 1) C dX3_start_2 (by decide) ?_
  refine v_iload_n C 2 dX3_start_3 rfl rfl ?_
  obtain ⟨y1, hy1, hf⟩ := bnd hf
  refine v_callV (r := some (.int y1.1)) (As := [.int v1, .int 1, .int v2]) (rest := []) (K := 0) C (mX3_traitForMostWork hL hy1) cw_X3_traitForMostWork wd_341 (by decide) rfl rfl ⟨Nat.le_of_ble_eq_true rfl, Nat.le_of_ble_eq_true rfl⟩ rfl rfl (Nat.le_of_ble_eq_true rfl) dX3_start_4 ?_
  exact v_iret C dX3_start_7 (fin_im hf hQ)
theorem mX3_start {B : BB} {l : Launch} {L : St2 → St2} {N : Nat} {κ : St2} {v1 : Int32} {v2 : Int32} {res : (Int32 × St2)} (hL : LnC L) (hf : fX3_start N κ v1 v2 = some res) : Ret l B yX3_start cX3_start 3 (some .int) 7 164 [.ref (ad B 0), .int v1, .int v2] (L κ) (some (.int res.1)) (L res.2) := ret_of (own := RX3) (by decide) rfl (Nat.le_of_ble_eq_true rfl) (fun E C hQ => tX3_start C hL hQ hf)
def fX3_kindFor (N : Nat) (κ : St2) (v1 : Int32) (v2 : Int32) : Option (Int32 × St2) := (fX3_traitForMostWork N κ v1 0 v2).bind fun y1 => some (y1.1, y1.2)
set_option maxHeartbeats 4000000 in
set_option maxRecDepth 100000 in
theorem tX3_kindFor {E : EE} {B : BB} {l : Launch} {L : St2 → St2} {N : Nat} {κ : St2} {v1 : Int32} {v2 : Int32} {res : (Int32 × St2)} (C : Cx E B l cX3_kindFor RX3 (some .int) 3 7 164) (hL : LnC L) (hQ : Fin9 E B (some (.int res.1)) (L res.2)) (hf : fX3_kindFor N κ v1 v2 = some res) : V E B (L κ) 0 [(0, .ref (ad B 0)), (1, .int v1), (2, .int v2)] [] := by
  unfold fX3_kindFor at hf
  refine v_aload_n C 0 dX3_kindFor_0 rfl rfl ?_
  refine v_iload_n C 1 dX3_kindFor_1 rfl rfl ?_
  refine v_iconst (v := 0) C dX3_kindFor_2 (by decide) ?_
  refine v_iload_n C 2 dX3_kindFor_3 rfl rfl ?_
  obtain ⟨y1, hy1, hf⟩ := bnd hf
  refine v_callV (r := some (.int y1.1)) (As := [.int v1, .int 0, .int v2]) (rest := []) (K := 0) C (mX3_traitForMostWork hL hy1) cw_X3_traitForMostWork wd_341 (by decide) rfl rfl ⟨Nat.le_of_ble_eq_true rfl, Nat.le_of_ble_eq_true rfl⟩ rfl rfl (Nat.le_of_ble_eq_true rfl) dX3_kindFor_4 ?_
  exact v_iret C dX3_kindFor_7 (fin_im hf hQ)
theorem mX3_kindFor {B : BB} {l : Launch} {L : St2 → St2} {N : Nat} {κ : St2} {v1 : Int32} {v2 : Int32} {res : (Int32 × St2)} (hL : LnC L) (hf : fX3_kindFor N κ v1 v2 = some res) : Ret l B yX3_kindFor cX3_kindFor 3 (some .int) 7 164 [.ref (ad B 0), .int v1, .int v2] (L κ) (some (.int res.1)) (L res.2) := ret_of (own := RX3) (by decide) rfl (Nat.le_of_ble_eq_true rfl) (fun E C hQ => tX3_kindFor C hL hQ hf)
def fX3_reachFor_27 (N : Nat) (v1 : Int32) (v2 : Int32) : Nat → St2 → Int32 → Option (Int32 × St2)
  | 0, _, _ => none
  | n + 1, κ, v3 => if v3 < 0 then ((fX3_tell κ (-1000004)).bind fun y4 => some (y4.1, y4.2)) else ((fX1_become N 25 12 κ).bind fun y5 => (pf y5 25 4 v3).bind fun κ6 => (fX1_passHours N (vw κ6 25) v2 0).bind fun y7 => (some (putS κ6 25 y7)).bind fun κ8 => (rd (κ8 (25 + (2 + 0))) 24 v1).bind fun a9 => if a9 = (-1) then ((fX3_reachFor_27 N v1 v2 n) κ8 (v3 + (-1))) else (some (v3, κ8)))
set_option maxHeartbeats 4000000 in
set_option maxRecDepth 100000 in
theorem tX3_reachFor_27 {E : EE} {B : BB} {l : Launch} {L : St2 → St2} {N : Nat} {v1 : Int32} {v2 : Int32} {res : (Int32 × St2)} (C : Cx E B l cX3_reachFor RX3 (some .int) 4 5 113) (hL : LnC L) (hQ : Fin9 E B (some (.int res.1)) (L res.2)) : ∀ (n : Nat) (κ : St2) (v3 : Int32), fX3_reachFor_27 N v1 v2 n κ v3 = some res → V E B (L κ) 27 [(0, .ref (ad B 0)), (1, .int v1), (2, .int v2), (3, .int v3)] [] := by
  intro n
  induction n with
  | zero =>
    intro κ v3 hf
    cases hf
  | succ n ih =>
    intro κ v3 hf
    rw [fX3_reachFor_27] at hf
    refine v_iload_n C 3 dX3_reachFor_27 rfl rfl ?_
    refine v_if_lt (tgt := 82) C dX3_reachFor_28 (by decide) hf (fun hf => ?_) (fun hf => ?_)
    · refine v_aload_n C 0 dX3_reachFor_82 rfl rfl ?_
      refine v_ldc C wd_328 dX3_reachFor_83 ?_
      obtain ⟨y4, hy4, hf⟩ := bnd hf
      refine v_callV (r := some (.int y4.1)) (As := [.int (-1000004)]) (rest := []) (K := 0) C (mX3_tell hL hy4) cw_X3_tell wd_145 (by decide) rfl rfl ⟨Nat.le_of_ble_eq_true rfl, Nat.le_of_ble_eq_true rfl⟩ rfl rfl (Nat.le_of_ble_eq_true rfl) dX3_reachFor_85 ?_
      exact v_iret C dX3_reachFor_88 (fin_im hf hQ)
    · refine v_aload_n C 0 dX3_reachFor_31 rfl rfl ?_
      refine g_getR (K := 0) (i := 1) (j := 25) C (by decide) rfl rfl inX3 (by decide) rfl wd_113 dX3_reachFor_32 ?_
      refine v_aload_n C 0 dX3_reachFor_35 rfl rfl ?_
      refine g_getR (K := 0) (i := 0) (j := 12) C (by decide) rfl rfl inX3 (by decide) rfl wd_112 dX3_reachFor_36 ?_
      obtain ⟨y5, hy5, hf⟩ := bnd hf
      refine v_callV (r := none) (As := [.ref (ad B 12)]) (rest := []) (K := 25) C (mX1_become hL sb25 sb12 hy5) cw_X1_become wd_307 (by decide) (tb_o sb25) rfl ⟨Nat.le_of_ble_eq_true rfl, Nat.le_of_ble_eq_true rfl⟩ rfl rfl (Nat.le_of_ble_eq_true rfl) dX3_reachFor_39 ?_
      refine v_aload_n C 0 dX3_reachFor_42 rfl rfl ?_
      refine g_getR (K := 0) (i := 1) (j := 25) C (by decide) rfl rfl inX3 (by decide) rfl wd_113 dX3_reachFor_43 ?_
      refine v_iload_n C 3 dX3_reachFor_46 rfl rfl ?_
      refine shC_putI (i := 4) C sb25 hL (by decide) rfl wd_40 rfl (by decide +kernel) dX3_reachFor_47 hf (fun κ6 hf => ?_)
      refine v_aload_n C 0 dX3_reachFor_50 rfl rfl ?_
      refine g_getR (K := 0) (i := 1) (j := 25) C (by decide) rfl rfl inX3 (by decide) rfl wd_113 dX3_reachFor_51 ?_
      refine v_iload_n C 2 dX3_reachFor_54 rfl rfl ?_
      refine v_iconst (v := 0) C dX3_reachFor_55 (by decide) ?_
      obtain ⟨y7, hy7, hf⟩ := bnd hf
      refine v_callV (r := none) (As := [.int v2, .int 0]) (rest := []) (K := 25) C (nX1_passHours hL sb25 hy7) cw_X1_passHours wd_241 (by decide) (tb_o sb25) rfl ⟨Nat.le_of_ble_eq_true rfl, Nat.le_of_ble_eq_true rfl⟩ rfl rfl (Nat.le_of_ble_eq_true rfl) dX3_reachFor_56 ?_
      obtain ⟨κ8, he, hf⟩ := bnd hf
      rw [Option.some.inj he]
      refine v_aload_n C 0 dX3_reachFor_59 rfl rfl ?_
      refine g_getR (K := 0) (i := 1) (j := 25) C (by decide) rfl rfl inX3 (by decide) rfl wd_113 dX3_reachFor_60 ?_
      refine sh_getR (i := 0) (j := 25 + 1) C sb25 (by decide) rfl wd_30 dX3_reachFor_63 ?_
      refine v_iconst (v := 0) C dX3_reachFor_66 (by decide) ?_
      refine sh_prS C 0 sb25 rfl (by decide) dX3_reachFor_67 ?_
      refine v_iload_n C 1 dX3_reachFor_68 rfl rfl ?_
      refine c_ald (k := 25 + (2 + 0)) C hL (by decide) (tb_pr sb25 (r := 0) (by decide)) dX3_reachFor_69 hf (fun a9 hf => ?_)
      refine v_iconst (v := (-1)) C dX3_reachFor_70 (by decide) ?_
      refine v_icmp_eq (tgt := 76) C dX3_reachFor_71 (by decide) hf (fun hf => ?_) (fun hf => ?_)
      · refine v_iinc (q := 3) (v := v3 + (-1)) (lv' := [(0, .ref (ad B 0)), (1, .int v1), (2, .int v2), (3, .int (v3 + (-1)))]) C [1, 2, 3, 0] dX3_reachFor_76 rfl rfl (by decide) rfl ?_
        refine v_goto (tgt := 27) C dX3_reachFor_79 (by decide) ?_
        exact ih κ8 (v3 + (-1)) hf
      · refine v_iload_n C 3 dX3_reachFor_74 rfl rfl ?_
        exact v_iret C dX3_reachFor_75 (fin_im hf hQ)
def fX3_reachFor (N : Nat) (κ : St2) (v1 : Int32) (v2 : Int32) : Option (Int32 × St2) := (fX3_isCell v1).bind fun y1 => if y1 = 0 then ((fX3_tell κ (-1000001)).bind fun y2 => some (y2.1, y2.2)) else ((fX3_within v2 0 40).bind fun y3 => if y3 = 0 then ((fX3_tell κ (-1000001)).bind fun y11 => some (y11.1, y11.2)) else (fX3_reachFor_27 N v1 v2 N κ 24))
set_option maxHeartbeats 4000000 in
set_option maxRecDepth 100000 in
theorem tX3_reachFor {E : EE} {B : BB} {l : Launch} {L : St2 → St2} {N : Nat} {κ : St2} {v1 : Int32} {v2 : Int32} {res : (Int32 × St2)} (C : Cx E B l cX3_reachFor RX3 (some .int) 4 5 113) (hL : LnC L) (hQ : Fin9 E B (some (.int res.1)) (L res.2)) (hf : fX3_reachFor N κ v1 v2 = some res) : V E B (L κ) 0 [(0, .ref (ad B 0)), (1, .int v1), (2, .int v2)] [] := by
  unfold fX3_reachFor at hf
  refine v_iload_n C 1 dX3_reachFor_0 rfl rfl ?_
  obtain ⟨y1, hy1, hf⟩ := bnd hf
  refine v_callS (r := some (.int y1)) (As := [.int v1]) (rest := []) C (mX3_isCell  hy1) cw_X3_isCell wd_138 ⟨Nat.le_of_ble_eq_true rfl, Nat.le_of_ble_eq_true rfl⟩ rfl rfl (Nat.le_of_ble_eq_true rfl) dX3_reachFor_1 ?_
  refine v_if_eq (tgt := 17) C dX3_reachFor_4 (by decide) hf (fun hf => ?_) (fun hf => ?_)
  · refine v_aload_n C 0 dX3_reachFor_17 rfl rfl ?_
    refine v_ldc C wd_144 dX3_reachFor_18 ?_
    obtain ⟨y2, hy2, hf⟩ := bnd hf
    refine v_callV (r := some (.int y2.1)) (As := [.int (-1000001)]) (rest := []) (K := 0) C (mX3_tell hL hy2) cw_X3_tell wd_145 (by decide) rfl rfl ⟨Nat.le_of_ble_eq_true rfl, Nat.le_of_ble_eq_true rfl⟩ rfl rfl (Nat.le_of_ble_eq_true rfl) dX3_reachFor_20 ?_
    exact v_iret C dX3_reachFor_23 (fin_im hf hQ)
  · refine v_iload_n C 2 dX3_reachFor_7 rfl rfl ?_
    refine v_iconst (v := 0) C dX3_reachFor_8 (by decide) ?_
    refine v_bipush (v := 40) C dX3_reachFor_9 (by decide) ?_
    obtain ⟨y3, hy3, hf⟩ := bnd hf
    refine v_callS (r := some (.int y3)) (As := [.int v2, .int 0, .int 40]) (rest := []) C (mX3_within  hy3) cw_X3_within wd_141 ⟨Nat.le_of_ble_eq_true rfl, Nat.le_of_ble_eq_true rfl⟩ rfl rfl (Nat.le_of_ble_eq_true rfl) dX3_reachFor_11 ?_
    refine v_if_ne (tgt := 24) C dX3_reachFor_14 (by decide) hf (fun hf => ?_) (fun hf => ?_)
    · refine v_bipush (v := 24) C dX3_reachFor_24 (by decide) ?_
      refine v_istore_n (lv' := [(0, .ref (ad B 0)), (1, .int v1), (2, .int v2), (3, .int 24)]) C [1, 2, 3, 0] dX3_reachFor_26 rfl (by decide) rfl ?_
      exact tX3_reachFor_27 C hL hQ N κ 24 hf
    · refine v_aload_n C 0 dX3_reachFor_17 rfl rfl ?_
      refine v_ldc C wd_144 dX3_reachFor_18 ?_
      obtain ⟨y11, hy11, hf⟩ := bnd hf
      refine v_callV (r := some (.int y11.1)) (As := [.int (-1000001)]) (rest := []) (K := 0) C (mX3_tell hL hy11) cw_X3_tell wd_145 (by decide) rfl rfl ⟨Nat.le_of_ble_eq_true rfl, Nat.le_of_ble_eq_true rfl⟩ rfl rfl (Nat.le_of_ble_eq_true rfl) dX3_reachFor_20 ?_
      exact v_iret C dX3_reachFor_23 (fin_im hf hQ)
theorem mX3_reachFor {B : BB} {l : Launch} {L : St2 → St2} {N : Nat} {κ : St2} {v1 : Int32} {v2 : Int32} {res : (Int32 × St2)} (hL : LnC L) (hf : fX3_reachFor N κ v1 v2 = some res) : Ret l B yX3_reachFor cX3_reachFor 4 (some .int) 5 113 [.ref (ad B 0), .int v1, .int v2] (L κ) (some (.int res.1)) (L res.2) := ret_of (own := RX3) (by decide) rfl (Nat.le_of_ble_eq_true rfl) (fun E C hQ => tX3_reachFor C hL hQ hf)
def fX3_weightFor_42 (N : Nat) (v1 : Int32) (v2 : Int32) (v3 : Int32) : Nat → St2 → Int32 → Option (Int32 × St2)
  | 0, _, _ => none
  | n + 1, κ, v4 => (rd (tv 2) 6 4).bind fun a7 => if a7 < v4 then ((fX3_tell κ (-1000004)).bind fun y8 => some (y8.1, y8.2)) else ((fX3_tryTrait N κ v1 4 v4 v3).bind fun y9 => (rd (y9 (25 + (2 + 0))) 24 v2).bind fun a10 => if a10 = v1 then (some (v4, y9)) else ((fX3_weightFor_42 N v1 v2 v3 n) y9 (v4 + 1)))
set_option maxHeartbeats 4000000 in
set_option maxRecDepth 100000 in
theorem tX3_weightFor_42 {E : EE} {B : BB} {l : Launch} {L : St2 → St2} {N : Nat} {v1 : Int32} {v2 : Int32} {v3 : Int32} {res : (Int32 × St2)} (C : Cx E B l cX3_weightFor RX3 (some .int) 5 6 137) (hL : LnC L) (hQ : Fin9 E B (some (.int res.1)) (L res.2)) : ∀ (n : Nat) (κ : St2) (v4 : Int32), fX3_weightFor_42 N v1 v2 v3 n κ v4 = some res → V E B (L κ) 42 [(0, .ref (ad B 0)), (1, .int v1), (2, .int v2), (3, .int v3), (4, .int v4)] [] := by
  intro n
  induction n with
  | zero =>
    intro κ v4 hf
    cases hf
  | succ n ih =>
    intro κ v4 hf
    rw [fX3_weightFor_42] at hf
    refine v_iload C 4 dX3_weightFor_42 rfl ?_
    refine g_gets C (sz2 B) wd_233 dX3_weightFor_44 ?_
    refine v_iconst (v := 4) C dX3_weightFor_47 (by decide) ?_
    refine t_ld2 C dX3_weightFor_48 hf (fun a7 hf => ?_)
    refine v_icmp_gt (tgt := 85) C dX3_weightFor_49 (by decide) hf (fun hf => ?_) (fun hf => ?_)
    · refine v_aload_n C 0 dX3_weightFor_85 rfl rfl ?_
      refine v_ldc C wd_328 dX3_weightFor_86 ?_
      obtain ⟨y8, hy8, hf⟩ := bnd hf
      refine v_callV (r := some (.int y8.1)) (As := [.int (-1000004)]) (rest := []) (K := 0) C (mX3_tell hL hy8) cw_X3_tell wd_145 (by decide) rfl rfl ⟨Nat.le_of_ble_eq_true rfl, Nat.le_of_ble_eq_true rfl⟩ rfl rfl (Nat.le_of_ble_eq_true rfl) dX3_weightFor_88 ?_
      exact v_iret C dX3_weightFor_91 (fin_im hf hQ)
    · refine v_aload_n C 0 dX3_weightFor_52 rfl rfl ?_
      refine v_iload_n C 1 dX3_weightFor_53 rfl rfl ?_
      refine v_iconst (v := 4) C dX3_weightFor_54 (by decide) ?_
      refine v_iload C 4 dX3_weightFor_55 rfl ?_
      refine v_iload_n C 3 dX3_weightFor_57 rfl rfl ?_
      obtain ⟨y9, hy9, hf⟩ := bnd hf
      refine v_callV (r := none) (As := [.int v1, .int 4, .int v4, .int v3]) (rest := []) (K := 0) C (mX3_tryTrait hL hy9) cw_X3_tryTrait wd_345 (by decide) rfl rfl ⟨Nat.le_of_ble_eq_true rfl, Nat.le_of_ble_eq_true rfl⟩ rfl rfl (Nat.le_of_ble_eq_true rfl) dX3_weightFor_58 ?_
      refine v_aload_n C 0 dX3_weightFor_61 rfl rfl ?_
      refine g_getR (K := 0) (i := 1) (j := 25) C (by decide) rfl rfl inX3 (by decide) rfl wd_113 dX3_weightFor_62 ?_
      refine sh_getR (i := 0) (j := 25 + 1) C sb25 (by decide) rfl wd_30 dX3_weightFor_65 ?_
      refine v_iconst (v := 0) C dX3_weightFor_68 (by decide) ?_
      refine sh_prS C 0 sb25 rfl (by decide) dX3_weightFor_69 ?_
      refine v_iload_n C 2 dX3_weightFor_70 rfl rfl ?_
      refine c_ald (k := 25 + (2 + 0)) C hL (by decide) (tb_pr sb25 (r := 0) (by decide)) dX3_weightFor_71 hf (fun a10 hf => ?_)
      refine v_iload_n C 1 dX3_weightFor_72 rfl rfl ?_
      refine v_icmp_ne (tgt := 79) C dX3_weightFor_73 (by decide) hf (fun hf => ?_) (fun hf => ?_)
      · refine v_iinc (q := 4) (v := v4 + 1) (lv' := [(0, .ref (ad B 0)), (1, .int v1), (2, .int v2), (3, .int v3), (4, .int (v4 + 1))]) C [1, 2, 3, 4, 0] dX3_weightFor_79 rfl rfl (by decide) rfl ?_
        refine v_goto (tgt := 42) C dX3_weightFor_82 (by decide) ?_
        exact ih y9 (v4 + 1) hf
      · refine v_iload C 4 dX3_weightFor_76 rfl ?_
        exact v_iret C dX3_weightFor_78 (fin_im hf hQ)
def fX3_weightFor (N : Nat) (κ : St2) (v1 : Int32) (v2 : Int32) (v3 : Int32) : Option (Int32 × St2) := (fX1_isWalker (vw κ 12) v1).bind fun y1 => if y1 = 0 then ((fX3_tell κ (-1000001)).bind fun y2 => some (y2.1, y2.2)) else ((fX3_isCell v2).bind fun y3 => if y3 = 0 then ((fX3_tell κ (-1000001)).bind fun y4 => some (y4.1, y4.2)) else ((fX3_within v3 0 40).bind fun y5 => if y5 = 0 then ((fX3_tell κ (-1000001)).bind fun y12 => some (y12.1, y12.2)) else ((rd (tv 1) 6 4).bind fun a6 => fX3_weightFor_42 N v1 v2 v3 N κ a6)))
set_option maxHeartbeats 4000000 in
set_option maxRecDepth 100000 in
theorem tX3_weightFor {E : EE} {B : BB} {l : Launch} {L : St2 → St2} {N : Nat} {κ : St2} {v1 : Int32} {v2 : Int32} {v3 : Int32} {res : (Int32 × St2)} (C : Cx E B l cX3_weightFor RX3 (some .int) 5 6 137) (hL : LnC L) (hQ : Fin9 E B (some (.int res.1)) (L res.2)) (hf : fX3_weightFor N κ v1 v2 v3 = some res) : V E B (L κ) 0 [(0, .ref (ad B 0)), (1, .int v1), (2, .int v2), (3, .int v3)] [] := by
  unfold fX3_weightFor at hf
  refine v_aload_n C 0 dX3_weightFor_0 rfl rfl ?_
  refine g_getR (K := 0) (i := 0) (j := 12) C (by decide) rfl rfl inX3 (by decide) rfl wd_112 dX3_weightFor_1 ?_
  refine v_iload_n C 1 dX3_weightFor_4 rfl rfl ?_
  obtain ⟨y1, hy1, hf⟩ := bnd hf
  refine v_callV (r := some (.int y1)) (As := [.int v1]) (rest := []) (K := 12) C (nX1_isWalker hL sb12 hy1) cw_X1_isWalker wd_201 (by decide) (tb_o sb12) rfl ⟨Nat.le_of_ble_eq_true rfl, Nat.le_of_ble_eq_true rfl⟩ rfl rfl (Nat.le_of_ble_eq_true rfl) dX3_weightFor_5 ?_
  refine v_if_eq (tgt := 28) C dX3_weightFor_8 (by decide) hf (fun hf => ?_) (fun hf => ?_)
  · refine v_aload_n C 0 dX3_weightFor_28 rfl rfl ?_
    refine v_ldc C wd_144 dX3_weightFor_29 ?_
    obtain ⟨y2, hy2, hf⟩ := bnd hf
    refine v_callV (r := some (.int y2.1)) (As := [.int (-1000001)]) (rest := []) (K := 0) C (mX3_tell hL hy2) cw_X3_tell wd_145 (by decide) rfl rfl ⟨Nat.le_of_ble_eq_true rfl, Nat.le_of_ble_eq_true rfl⟩ rfl rfl (Nat.le_of_ble_eq_true rfl) dX3_weightFor_31 ?_
    exact v_iret C dX3_weightFor_34 (fin_im hf hQ)
  · refine v_iload_n C 2 dX3_weightFor_11 rfl rfl ?_
    obtain ⟨y3, hy3, hf⟩ := bnd hf
    refine v_callS (r := some (.int y3)) (As := [.int v2]) (rest := []) C (mX3_isCell  hy3) cw_X3_isCell wd_138 ⟨Nat.le_of_ble_eq_true rfl, Nat.le_of_ble_eq_true rfl⟩ rfl rfl (Nat.le_of_ble_eq_true rfl) dX3_weightFor_12 ?_
    refine v_if_eq (tgt := 28) C dX3_weightFor_15 (by decide) hf (fun hf => ?_) (fun hf => ?_)
    · refine v_aload_n C 0 dX3_weightFor_28 rfl rfl ?_
      refine v_ldc C wd_144 dX3_weightFor_29 ?_
      obtain ⟨y4, hy4, hf⟩ := bnd hf
      refine v_callV (r := some (.int y4.1)) (As := [.int (-1000001)]) (rest := []) (K := 0) C (mX3_tell hL hy4) cw_X3_tell wd_145 (by decide) rfl rfl ⟨Nat.le_of_ble_eq_true rfl, Nat.le_of_ble_eq_true rfl⟩ rfl rfl (Nat.le_of_ble_eq_true rfl) dX3_weightFor_31 ?_
      exact v_iret C dX3_weightFor_34 (fin_im hf hQ)
    · refine v_iload_n C 3 dX3_weightFor_18 rfl rfl ?_
      refine v_iconst (v := 0) C dX3_weightFor_19 (by decide) ?_
      refine v_bipush (v := 40) C dX3_weightFor_20 (by decide) ?_
      obtain ⟨y5, hy5, hf⟩ := bnd hf
      refine v_callS (r := some (.int y5)) (As := [.int v3, .int 0, .int 40]) (rest := []) C (mX3_within  hy5) cw_X3_within wd_141 ⟨Nat.le_of_ble_eq_true rfl, Nat.le_of_ble_eq_true rfl⟩ rfl rfl (Nat.le_of_ble_eq_true rfl) dX3_weightFor_22 ?_
      refine v_if_ne (tgt := 35) C dX3_weightFor_25 (by decide) hf (fun hf => ?_) (fun hf => ?_)
      · refine g_gets C (sz1 B) wd_231 dX3_weightFor_35 ?_
        refine v_iconst (v := 4) C dX3_weightFor_38 (by decide) ?_
        refine t_ld1 C dX3_weightFor_39 hf (fun a6 hf => ?_)
        refine v_istore (lv' := [(0, .ref (ad B 0)), (1, .int v1), (2, .int v2), (3, .int v3), (4, .int a6)]) C [1, 2, 3, 4, 0] dX3_weightFor_40 (by decide) rfl ?_
        exact tX3_weightFor_42 C hL hQ N κ a6 hf
      · refine v_aload_n C 0 dX3_weightFor_28 rfl rfl ?_
        refine v_ldc C wd_144 dX3_weightFor_29 ?_
        obtain ⟨y12, hy12, hf⟩ := bnd hf
        refine v_callV (r := some (.int y12.1)) (As := [.int (-1000001)]) (rest := []) (K := 0) C (mX3_tell hL hy12) cw_X3_tell wd_145 (by decide) rfl rfl ⟨Nat.le_of_ble_eq_true rfl, Nat.le_of_ble_eq_true rfl⟩ rfl rfl (Nat.le_of_ble_eq_true rfl) dX3_weightFor_31 ?_
        exact v_iret C dX3_weightFor_34 (fin_im hf hQ)
theorem mX3_weightFor {B : BB} {l : Launch} {L : St2 → St2} {N : Nat} {κ : St2} {v1 : Int32} {v2 : Int32} {v3 : Int32} {res : (Int32 × St2)} (hL : LnC L) (hf : fX3_weightFor N κ v1 v2 v3 = some res) : Ret l B yX3_weightFor cX3_weightFor 5 (some .int) 6 137 [.ref (ad B 0), .int v1, .int v2, .int v3] (L κ) (some (.int res.1)) (L res.2) := ret_of (own := RX3) (by decide) rfl (Nat.le_of_ble_eq_true rfl) (fun E C hQ => tX3_weightFor C hL hQ hf)
def fX3_staysWithout (N : Nat) (κ : St2) (v1 : Int32) (v2 : Int32) (v3 : Int32) : Option (Int32 × St2) := (fX1_become N 25 12 κ).bind fun y1 => (fX1_passHours N (vw y1 25) v3 v1).bind fun y2 => (some (putS y1 25 y2)).bind fun κ3 => (rd (κ3 (25 + (2 + 0))) 24 v2).bind fun a4 => (rd (κ3 (12 + (2 + 0))) 24 v2).bind fun a5 => if a4 = a5 then (some (1, κ3)) else (some (0, κ3))
set_option maxHeartbeats 4000000 in
set_option maxRecDepth 100000 in
theorem tX3_staysWithout {E : EE} {B : BB} {l : Launch} {L : St2 → St2} {N : Nat} {κ : St2} {v1 : Int32} {v2 : Int32} {v3 : Int32} {res : (Int32 × St2)} (C : Cx E B l cX3_staysWithout RX3 (some .boolean) 4 5 113) (hL : LnC L) (hQ : Fin9 E B (some (.int res.1)) (L res.2)) (hf : fX3_staysWithout N κ v1 v2 v3 = some res) : V E B (L κ) 0 [(0, .ref (ad B 0)), (1, .int v1), (2, .int v2), (3, .int v3)] [] := by
  unfold fX3_staysWithout at hf
  refine v_aload_n C 0 dX3_staysWithout_0 rfl rfl ?_
  refine g_getR (K := 0) (i := 1) (j := 25) C (by decide) rfl rfl inX3 (by decide) rfl wd_113 dX3_staysWithout_1 ?_
  refine v_aload_n C 0 dX3_staysWithout_4 rfl rfl ?_
  refine g_getR (K := 0) (i := 0) (j := 12) C (by decide) rfl rfl inX3 (by decide) rfl wd_112 dX3_staysWithout_5 ?_
  obtain ⟨y1, hy1, hf⟩ := bnd hf
  refine v_callV (r := none) (As := [.ref (ad B 12)]) (rest := []) (K := 25) C (mX1_become hL sb25 sb12 hy1) cw_X1_become wd_307 (by decide) (tb_o sb25) rfl ⟨Nat.le_of_ble_eq_true rfl, Nat.le_of_ble_eq_true rfl⟩ rfl rfl (Nat.le_of_ble_eq_true rfl) dX3_staysWithout_8 ?_
  refine v_aload_n C 0 dX3_staysWithout_11 rfl rfl ?_
  refine g_getR (K := 0) (i := 1) (j := 25) C (by decide) rfl rfl inX3 (by decide) rfl wd_113 dX3_staysWithout_12 ?_
  refine v_iload_n C 3 dX3_staysWithout_15 rfl rfl ?_
  refine v_iload_n C 1 dX3_staysWithout_16 rfl rfl ?_
  obtain ⟨y2, hy2, hf⟩ := bnd hf
  refine v_callV (r := none) (As := [.int v3, .int v1]) (rest := []) (K := 25) C (nX1_passHours hL sb25 hy2) cw_X1_passHours wd_241 (by decide) (tb_o sb25) rfl ⟨Nat.le_of_ble_eq_true rfl, Nat.le_of_ble_eq_true rfl⟩ rfl rfl (Nat.le_of_ble_eq_true rfl) dX3_staysWithout_17 ?_
  obtain ⟨κ3, he, hf⟩ := bnd hf
  rw [Option.some.inj he]
  refine v_aload_n C 0 dX3_staysWithout_20 rfl rfl ?_
  refine g_getR (K := 0) (i := 1) (j := 25) C (by decide) rfl rfl inX3 (by decide) rfl wd_113 dX3_staysWithout_21 ?_
  refine sh_getR (i := 0) (j := 25 + 1) C sb25 (by decide) rfl wd_30 dX3_staysWithout_24 ?_
  refine v_iconst (v := 0) C dX3_staysWithout_27 (by decide) ?_
  refine sh_prS C 0 sb25 rfl (by decide) dX3_staysWithout_28 ?_
  refine v_iload_n C 2 dX3_staysWithout_29 rfl rfl ?_
  refine c_ald (k := 25 + (2 + 0)) C hL (by decide) (tb_pr sb25 (r := 0) (by decide)) dX3_staysWithout_30 hf (fun a4 hf => ?_)
  refine v_aload_n C 0 dX3_staysWithout_31 rfl rfl ?_
  refine g_getR (K := 0) (i := 0) (j := 12) C (by decide) rfl rfl inX3 (by decide) rfl wd_112 dX3_staysWithout_32 ?_
  refine sh_getR (i := 0) (j := 12 + 1) C sb12 (by decide) rfl wd_30 dX3_staysWithout_35 ?_
  refine v_iconst (v := 0) C dX3_staysWithout_38 (by decide) ?_
  refine sh_prS C 0 sb12 rfl (by decide) dX3_staysWithout_39 ?_
  refine v_iload_n C 2 dX3_staysWithout_40 rfl rfl ?_
  refine c_ald (k := 12 + (2 + 0)) C hL (by decide) (tb_pr sb12 (r := 0) (by decide)) dX3_staysWithout_41 hf (fun a5 hf => ?_)
  refine v_icmp_ne (tgt := 49) C dX3_staysWithout_42 (by decide) hf (fun hf => ?_) (fun hf => ?_)
  · refine v_iconst (v := 0) C dX3_staysWithout_49 (by decide) ?_
    exact v_zret C (Or.inl rfl) dX3_staysWithout_50 (fin_im hf hQ)
  · refine v_iconst (v := 1) C dX3_staysWithout_45 (by decide) ?_
    refine v_goto (tgt := 50) C dX3_staysWithout_46 (by decide) ?_
    exact v_zret C (Or.inr rfl) dX3_staysWithout_50 (fin_im hf hQ)
theorem mX3_staysWithout {B : BB} {l : Launch} {L : St2 → St2} {N : Nat} {κ : St2} {v1 : Int32} {v2 : Int32} {v3 : Int32} {res : (Int32 × St2)} (hL : LnC L) (hf : fX3_staysWithout N κ v1 v2 v3 = some res) : Ret l B yX3_staysWithout cX3_staysWithout 4 (some .boolean) 5 113 [.ref (ad B 0), .int v1, .int v2, .int v3] (L κ) (some (.int res.1)) (L res.2) := ret_of (own := RX3) (by decide) rfl (Nat.le_of_ble_eq_true rfl) (fun E C hQ => tX3_staysWithout C hL hQ hf)
def fX3_away_92 (N : Nat) (k40 : St2 → Int32 → Int32 → Option (Int32 × St2)) (κ : St2) (v1 : Int32) (v2 : Int32) (v3 : Int32) (v4 : Int32) (v5 : Int32) : Option (Int32 × St2) := k40 κ v4 (v5 + 1)
set_option maxHeartbeats 4000000 in
set_option maxRecDepth 100000 in
theorem tX3_away_92 {E : EE} {B : BB} {l : Launch} {L : St2 → St2} {N : Nat} {k40 : St2 → Int32 → Int32 → Option (Int32 × St2)} {κ : St2} {v1 : Int32} {v2 : Int32} {v3 : Int32} {v4 : Int32} {v5 : Int32} {res : (Int32 × St2)} (C : Cx E B l cX3_away RX3 (some .int) 7 6 136) (hL : LnC L) (hQ : Fin9 E B (some (.int res.1)) (L res.2)) (hk40 : ∀ (κ : St2) (v4 : Int32) (v5 : Int32), k40 κ v4 v5 = some res → V E B (L κ) 40 [(0, .ref (ad B 0)), (1, .int v1), (2, .int v2), (3, .int v3), (4, .int v4), (5, .int v5)] []) (hf : fX3_away_92 N k40 κ v1 v2 v3 v4 v5 = some res) : V E B (L κ) 92 [(0, .ref (ad B 0)), (1, .int v1), (2, .int v2), (3, .int v3), (4, .int v4), (5, .int v5)] [] := by
  unfold fX3_away_92 at hf
  refine v_iinc (q := 5) (v := v5 + 1) (lv' := [(0, .ref (ad B 0)), (1, .int v1), (2, .int v2), (3, .int v3), (4, .int v4), (5, .int (v5 + 1))]) C [1, 2, 3, 4, 5, 0] dX3_away_92 rfl rfl (by decide) rfl ?_
  refine v_goto (tgt := 40) C dX3_away_95 (by decide) ?_
  exact hk40 κ v4 (v5 + 1) hf
def fX3_away_70 (N : Nat) (k40 : St2 → Int32 → Int32 → Option (Int32 × St2)) (κ : St2) (v1 : Int32) (v2 : Int32) (v3 : Int32) (v4 : Int32) (v5 : Int32) (s0 : Int32) : Option (Int32 × St2) := if s0 = 0 then (fX3_away_92 N k40 κ v1 v2 v3 v4 v5) else ((fX3_staysWithout N κ v5 v1 v2).bind fun y7 => if y7.1 = 0 then (fX3_away_92 N k40 y7.2 v1 v2 v3 v4 v5) else (fX3_away_92 N k40 y7.2 v1 v2 v3 v5 v5))
set_option maxHeartbeats 4000000 in
set_option maxRecDepth 100000 in
theorem tX3_away_70 {E : EE} {B : BB} {l : Launch} {L : St2 → St2} {N : Nat} {k40 : St2 → Int32 → Int32 → Option (Int32 × St2)} {κ : St2} {v1 : Int32} {v2 : Int32} {v3 : Int32} {v4 : Int32} {v5 : Int32} {s0 : Int32} {res : (Int32 × St2)} (C : Cx E B l cX3_away RX3 (some .int) 7 6 136) (hL : LnC L) (hQ : Fin9 E B (some (.int res.1)) (L res.2)) (hk40 : ∀ (κ : St2) (v4 : Int32) (v5 : Int32), k40 κ v4 v5 = some res → V E B (L κ) 40 [(0, .ref (ad B 0)), (1, .int v1), (2, .int v2), (3, .int v3), (4, .int v4), (5, .int v5)] []) (hf : fX3_away_70 N k40 κ v1 v2 v3 v4 v5 s0 = some res) : V E B (L κ) 70 [(0, .ref (ad B 0)), (1, .int v1), (2, .int v2), (3, .int v3), (4, .int v4), (5, .int v5)] [.int s0] := by
  unfold fX3_away_70 at hf
  refine v_istore (lv' := [(0, .ref (ad B 0)), (1, .int v1), (2, .int v2), (3, .int v3), (4, .int v4), (5, .int v5), (6, .int s0)]) C [1, 2, 3, 4, 5, 6, 0] dX3_away_70 (by decide) rfl ?_
  refine v_iload C 6 dX3_away_72 rfl ?_
  refine v_if_eq (tgt := 92) C dX3_away_74 (by decide) hf (fun hf => ?_) (fun hf => ?_)
  · refine v_sub [0, 1, 2, 3, 4, 5] rfl ?_
    exact tX3_away_92 C hL hQ hk40 hf
  · refine v_aload_n C 0 dX3_away_77 rfl rfl ?_
    refine v_iload C 5 dX3_away_78 rfl ?_
    refine v_iload_n C 1 dX3_away_80 rfl rfl ?_
    refine v_iload_n C 2 dX3_away_81 rfl rfl ?_
    obtain ⟨y7, hy7, hf⟩ := bnd hf
    refine v_callV (r := some (.int y7.1)) (As := [.int v5, .int v1, .int v2]) (rest := []) (K := 0) C (mX3_staysWithout hL hy7) cw_X3_staysWithout wd_370 (by decide) rfl rfl ⟨Nat.le_of_ble_eq_true rfl, Nat.le_of_ble_eq_true rfl⟩ rfl rfl (Nat.le_of_ble_eq_true rfl) dX3_away_82 ?_
    refine v_if_eq (tgt := 92) C dX3_away_85 (by decide) hf (fun hf => ?_) (fun hf => ?_)
    · refine v_sub [0, 1, 2, 3, 4, 5] rfl ?_
      exact tX3_away_92 C hL hQ hk40 hf
    · refine v_iload C 5 dX3_away_88 rfl ?_
      refine v_istore (lv' := [(0, .ref (ad B 0)), (1, .int v1), (2, .int v2), (3, .int v3), (4, .int v5), (5, .int v5), (6, .int s0)]) C [1, 2, 3, 4, 0, 5, 6] dX3_away_90 (by decide) rfl ?_
      refine v_sub [0, 1, 2, 3, 4, 5] rfl ?_
      exact tX3_away_92 C hL hQ hk40 hf
def fX3_away_65 (N : Nat) (k40 : St2 → Int32 → Int32 → Option (Int32 × St2)) (κ : St2) (v1 : Int32) (v2 : Int32) (v3 : Int32) (v4 : Int32) (v5 : Int32) : Option (Int32 × St2) := fX3_away_70 N k40 κ v1 v2 v3 v4 v5 1
set_option maxHeartbeats 4000000 in
set_option maxRecDepth 100000 in
theorem tX3_away_65 {E : EE} {B : BB} {l : Launch} {L : St2 → St2} {N : Nat} {k40 : St2 → Int32 → Int32 → Option (Int32 × St2)} {κ : St2} {v1 : Int32} {v2 : Int32} {v3 : Int32} {v4 : Int32} {v5 : Int32} {res : (Int32 × St2)} (C : Cx E B l cX3_away RX3 (some .int) 7 6 136) (hL : LnC L) (hQ : Fin9 E B (some (.int res.1)) (L res.2)) (hk40 : ∀ (κ : St2) (v4 : Int32) (v5 : Int32), k40 κ v4 v5 = some res → V E B (L κ) 40 [(0, .ref (ad B 0)), (1, .int v1), (2, .int v2), (3, .int v3), (4, .int v4), (5, .int v5)] []) (hf : fX3_away_65 N k40 κ v1 v2 v3 v4 v5 = some res) : V E B (L κ) 65 [(0, .ref (ad B 0)), (1, .int v1), (2, .int v2), (3, .int v3), (4, .int v4), (5, .int v5)] [] := by
  unfold fX3_away_65 at hf
  refine v_iconst (v := 1) C dX3_away_65 (by decide) ?_
  refine v_goto (tgt := 70) C dX3_away_66 (by decide) ?_
  exact tX3_away_70 C hL hQ hk40 hf
def fX3_away_40 (N : Nat) (v1 : Int32) (v2 : Int32) (v3 : Int32) : Nat → St2 → Int32 → Int32 → Option (Int32 × St2)
  | 0, _, _, _ => none
  | n + 1, κ, v4, v5 => if v3 ≤ v5 then (if v4 = (-1) then ((fX3_tell κ (-1000004)).bind fun y5 => some (y5.1, y5.2)) else (some (v4, κ))) else (if v4 = (-1) then (fX3_away_65 N (fX3_away_40 N v1 v2 v3 n) κ v1 v2 v3 v4 v5) else ((fJ6_bitCount_0f7a4 v5).bind fun y8 => (fJ6_bitCount_0f7a4 v4).bind fun y9 => if y9 ≤ y8 then (fX3_away_70 N (fX3_away_40 N v1 v2 v3 n) κ v1 v2 v3 v4 v5 0) else (fX3_away_65 N (fX3_away_40 N v1 v2 v3 n) κ v1 v2 v3 v4 v5)))
set_option maxHeartbeats 4000000 in
set_option maxRecDepth 100000 in
theorem tX3_away_40 {E : EE} {B : BB} {l : Launch} {L : St2 → St2} {N : Nat} {v1 : Int32} {v2 : Int32} {v3 : Int32} {res : (Int32 × St2)} (C : Cx E B l cX3_away RX3 (some .int) 7 6 136) (hL : LnC L) (hQ : Fin9 E B (some (.int res.1)) (L res.2)) : ∀ (n : Nat) (κ : St2) (v4 : Int32) (v5 : Int32), fX3_away_40 N v1 v2 v3 n κ v4 v5 = some res → V E B (L κ) 40 [(0, .ref (ad B 0)), (1, .int v1), (2, .int v2), (3, .int v3), (4, .int v4), (5, .int v5)] [] := by
  intro n
  induction n with
  | zero =>
    intro κ v4 v5 hf
    cases hf
  | succ n ih =>
    intro κ v4 v5 hf
    rw [fX3_away_40] at hf
    refine v_iload C 5 dX3_away_40 rfl ?_
    refine v_iload_n C 3 dX3_away_42 rfl rfl ?_
    refine v_icmp_ge (tgt := 98) C dX3_away_43 (by decide) hf (fun hf => ?_) (fun hf => ?_)
    · refine v_iload C 4 dX3_away_98 rfl ?_
      refine v_iconst (v := (-1)) C dX3_away_100 (by decide) ?_
      refine v_icmp_ne (tgt := 113) C dX3_away_101 (by decide) hf (fun hf => ?_) (fun hf => ?_)
      · refine v_iload C 4 dX3_away_113 rfl ?_
        exact v_iret C dX3_away_115 (fin_im hf hQ)
      · refine v_aload_n C 0 dX3_away_104 rfl rfl ?_
        refine v_ldc C wd_328 dX3_away_105 ?_
        obtain ⟨y5, hy5, hf⟩ := bnd hf
        refine v_callV (r := some (.int y5.1)) (As := [.int (-1000004)]) (rest := []) (K := 0) C (mX3_tell hL hy5) cw_X3_tell wd_145 (by decide) rfl rfl ⟨Nat.le_of_ble_eq_true rfl, Nat.le_of_ble_eq_true rfl⟩ rfl rfl (Nat.le_of_ble_eq_true rfl) dX3_away_107 ?_
        refine v_goto (tgt := 115) C dX3_away_110 (by decide) ?_
        exact v_iret C dX3_away_115 (fin_im hf hQ)
    · refine v_iload C 4 dX3_away_46 rfl ?_
      refine v_iconst (v := (-1)) C dX3_away_48 (by decide) ?_
      refine v_icmp_eq (tgt := 65) C dX3_away_49 (by decide) hf (fun hf => ?_) (fun hf => ?_)
      · exact tX3_away_65 C hL hQ ih hf
      · refine v_iload C 5 dX3_away_52 rfl ?_
        obtain ⟨y8, hy8, hf⟩ := bnd hf
        refine v_callS (r := some (.int y8)) (As := [.int v5]) (rest := []) C (mJ6_bitCount_0f7a4  hy8) cw_J6_bitCount_0f7a4 wd_369 ⟨Nat.le_of_ble_eq_true rfl, Nat.le_of_ble_eq_true rfl⟩ rfl rfl (Nat.le_of_ble_eq_true rfl) dX3_away_54 ?_
        refine v_iload C 4 dX3_away_57 rfl ?_
        obtain ⟨y9, hy9, hf⟩ := bnd hf
        refine v_callS (r := some (.int y9)) (As := [.int v4]) (rest := [.int y8]) C (mJ6_bitCount_0f7a4  hy9) cw_J6_bitCount_0f7a4 wd_369 ⟨Nat.le_of_ble_eq_true rfl, Nat.le_of_ble_eq_true rfl⟩ rfl rfl (Nat.le_of_ble_eq_true rfl) dX3_away_59 ?_
        refine v_icmp_ge (tgt := 69) C dX3_away_62 (by decide) hf (fun hf => ?_) (fun hf => ?_)
        · refine v_iconst (v := 0) C dX3_away_69 (by decide) ?_
          exact tX3_away_70 C hL hQ ih hf
        · exact tX3_away_65 C hL hQ ih hf
def fX3_away (N : Nat) (κ : St2) (v1 : Int32) (v2 : Int32) : Option (Int32 × St2) := (fX3_isCell v1).bind fun y1 => if y1 = 0 then ((fX3_tell κ (-1000001)).bind fun y2 => some (y2.1, y2.2)) else ((fX3_within v2 0 20).bind fun y3 => if y3 = 0 then ((fX3_tell κ (-1000001)).bind fun y10 => some (y10.1, y10.2)) else ((some (1 <<< ((κ 12 3) &&& 31))).bind fun w4 => fX3_away_40 N v1 v2 w4 N κ (-1) 0))
set_option maxHeartbeats 4000000 in
set_option maxRecDepth 100000 in
theorem tX3_away {E : EE} {B : BB} {l : Launch} {L : St2 → St2} {N : Nat} {κ : St2} {v1 : Int32} {v2 : Int32} {res : (Int32 × St2)} (C : Cx E B l cX3_away RX3 (some .int) 7 6 136) (hL : LnC L) (hQ : Fin9 E B (some (.int res.1)) (L res.2)) (hf : fX3_away N κ v1 v2 = some res) : V E B (L κ) 0 [(0, .ref (ad B 0)), (1, .int v1), (2, .int v2)] [] := by
  unfold fX3_away at hf
  refine v_iload_n C 1 dX3_away_0 rfl rfl ?_
  obtain ⟨y1, hy1, hf⟩ := bnd hf
  refine v_callS (r := some (.int y1)) (As := [.int v1]) (rest := []) C (mX3_isCell  hy1) cw_X3_isCell wd_138 ⟨Nat.le_of_ble_eq_true rfl, Nat.le_of_ble_eq_true rfl⟩ rfl rfl (Nat.le_of_ble_eq_true rfl) dX3_away_1 ?_
  refine v_if_eq (tgt := 17) C dX3_away_4 (by decide) hf (fun hf => ?_) (fun hf => ?_)
  · refine v_aload_n C 0 dX3_away_17 rfl rfl ?_
    refine v_ldc C wd_144 dX3_away_18 ?_
    obtain ⟨y2, hy2, hf⟩ := bnd hf
    refine v_callV (r := some (.int y2.1)) (As := [.int (-1000001)]) (rest := []) (K := 0) C (mX3_tell hL hy2) cw_X3_tell wd_145 (by decide) rfl rfl ⟨Nat.le_of_ble_eq_true rfl, Nat.le_of_ble_eq_true rfl⟩ rfl rfl (Nat.le_of_ble_eq_true rfl) dX3_away_20 ?_
    exact v_iret C dX3_away_23 (fin_im hf hQ)
  · refine v_iload_n C 2 dX3_away_7 rfl rfl ?_
    refine v_iconst (v := 0) C dX3_away_8 (by decide) ?_
    refine v_bipush (v := 20) C dX3_away_9 (by decide) ?_
    obtain ⟨y3, hy3, hf⟩ := bnd hf
    refine v_callS (r := some (.int y3)) (As := [.int v2, .int 0, .int 20]) (rest := []) C (mX3_within  hy3) cw_X3_within wd_141 ⟨Nat.le_of_ble_eq_true rfl, Nat.le_of_ble_eq_true rfl⟩ rfl rfl (Nat.le_of_ble_eq_true rfl) dX3_away_11 ?_
    refine v_if_ne (tgt := 24) C dX3_away_14 (by decide) hf (fun hf => ?_) (fun hf => ?_)
    · refine v_iconst (v := 1) C dX3_away_24 (by decide) ?_
      refine v_aload_n C 0 dX3_away_25 rfl rfl ?_
      refine g_getR (K := 0) (i := 0) (j := 12) C (by decide) rfl rfl inX3 (by decide) rfl wd_112 dX3_away_26 ?_
      refine shC_getI (i := 3) C sb12 hL (by decide) rfl wd_38 dX3_away_29 ?_
      refine v_ishl C dX3_away_32 ?_
      refine v_top hf (fun w4 hf => ?_)
      refine v_istore_n (lv' := [(0, .ref (ad B 0)), (1, .int v1), (2, .int v2), (3, .int w4)]) C [1, 2, 3, 0] dX3_away_33 rfl (by decide) rfl ?_
      refine v_iconst (v := (-1)) C dX3_away_34 (by decide) ?_
      refine v_istore (lv' := [(0, .ref (ad B 0)), (1, .int v1), (2, .int v2), (3, .int w4), (4, .int (-1))]) C [1, 2, 3, 4, 0] dX3_away_35 (by decide) rfl ?_
      refine v_iconst (v := 0) C dX3_away_37 (by decide) ?_
      refine v_istore (lv' := [(0, .ref (ad B 0)), (1, .int v1), (2, .int v2), (3, .int w4), (4, .int (-1)), (5, .int 0)]) C [1, 2, 3, 4, 5, 0] dX3_away_38 (by decide) rfl ?_
      exact tX3_away_40 C hL hQ N κ (-1) 0 hf
    · refine v_aload_n C 0 dX3_away_17 rfl rfl ?_
      refine v_ldc C wd_144 dX3_away_18 ?_
      obtain ⟨y10, hy10, hf⟩ := bnd hf
      refine v_callV (r := some (.int y10.1)) (As := [.int (-1000001)]) (rest := []) (K := 0) C (mX3_tell hL hy10) cw_X3_tell wd_145 (by decide) rfl rfl ⟨Nat.le_of_ble_eq_true rfl, Nat.le_of_ble_eq_true rfl⟩ rfl rfl (Nat.le_of_ble_eq_true rfl) dX3_away_20 ?_
      exact v_iret C dX3_away_23 (fin_im hf hQ)
theorem mX3_away {B : BB} {l : Launch} {L : St2 → St2} {N : Nat} {κ : St2} {v1 : Int32} {v2 : Int32} {res : (Int32 × St2)} (hL : LnC L) (hf : fX3_away N κ v1 v2 = some res) : Ret l B yX3_away cX3_away 7 (some .int) 6 136 [.ref (ad B 0), .int v1, .int v2] (L κ) (some (.int res.1)) (L res.2) := ret_of (own := RX3) (by decide) rfl (Nat.le_of_ble_eq_true rfl) (fun E C hQ => tX3_away C hL hQ hf)
def fX3_censor_99 (N : Nat) (k42 : St2 → Int32 → Int32 → Int32 → Option (Int32 × St2)) (κ : St2) (v1 : Int32) (v2 : Int32) (v3 : Int32) (v4 : Int32) : Option (Int32 × St2) := k42 κ v2 v3 (v4 + 1)
set_option maxHeartbeats 4000000 in
set_option maxRecDepth 100000 in
theorem tX3_censor_99 {E : EE} {B : BB} {l : Launch} {L : St2 → St2} {N : Nat} {k42 : St2 → Int32 → Int32 → Int32 → Option (Int32 × St2)} {κ : St2} {v1 : Int32} {v2 : Int32} {v3 : Int32} {v4 : Int32} {res : (Int32 × St2)} (C : Cx E B l cX3_censor RX3 (some .int) 5 5 113) (hL : LnC L) (hQ : Fin9 E B (some (.int res.1)) (L res.2)) (hk42 : ∀ (κ : St2) (v2 : Int32) (v3 : Int32) (v4 : Int32), k42 κ v2 v3 v4 = some res → V E B (L κ) 42 [(0, .ref (ad B 0)), (1, .int v1), (2, .int v2), (3, .int v3), (4, .int v4)] []) (hf : fX3_censor_99 N k42 κ v1 v2 v3 v4 = some res) : V E B (L κ) 99 [(0, .ref (ad B 0)), (1, .int v1), (2, .int v2), (3, .int v3), (4, .int v4)] [] := by
  unfold fX3_censor_99 at hf
  refine v_iinc (q := 4) (v := v4 + 1) (lv' := [(0, .ref (ad B 0)), (1, .int v1), (2, .int v2), (3, .int v3), (4, .int (v4 + 1))]) C [1, 2, 3, 4, 0] dX3_censor_99 rfl rfl (by decide) rfl ?_
  refine v_goto (tgt := 42) C dX3_censor_102 (by decide) ?_
  exact hk42 κ v2 v3 (v4 + 1) hf
def fX3_censor_42 (N : Nat) (v1 : Int32) : Nat → St2 → Int32 → Int32 → Int32 → Option (Int32 × St2)
  | 0, _, _, _, _ => none
  | n + 1, κ, v2, v3, v4 => if (κ 12 3) ≤ v4 then (some (v2, κ)) else ((fX1_become N 25 12 κ).bind fun y2 => (fX1_passHours N (vw y2 25) v1 (1 <<< (v4 &&& 31))).bind fun y3 => (some (putS y2 25 y3)).bind fun κ4 => if v3 ≤ (κ4 25 5) then (fX3_censor_99 N (fX3_censor_42 N v1 n) κ4 v1 v2 v3 v4) else ((some (κ4 25 5)).bind fun w6 => fX3_censor_99 N (fX3_censor_42 N v1 n) κ4 v1 v4 w6 v4))
set_option maxHeartbeats 4000000 in
set_option maxRecDepth 100000 in
theorem tX3_censor_42 {E : EE} {B : BB} {l : Launch} {L : St2 → St2} {N : Nat} {v1 : Int32} {res : (Int32 × St2)} (C : Cx E B l cX3_censor RX3 (some .int) 5 5 113) (hL : LnC L) (hQ : Fin9 E B (some (.int res.1)) (L res.2)) : ∀ (n : Nat) (κ : St2) (v2 : Int32) (v3 : Int32) (v4 : Int32), fX3_censor_42 N v1 n κ v2 v3 v4 = some res → V E B (L κ) 42 [(0, .ref (ad B 0)), (1, .int v1), (2, .int v2), (3, .int v3), (4, .int v4)] [] := by
  intro n
  induction n with
  | zero =>
    intro κ v2 v3 v4 hf
    cases hf
  | succ n ih =>
    intro κ v2 v3 v4 hf
    rw [fX3_censor_42] at hf
    refine v_iload C 4 dX3_censor_42 rfl ?_
    refine v_aload_n C 0 dX3_censor_44 rfl rfl ?_
    refine g_getR (K := 0) (i := 0) (j := 12) C (by decide) rfl rfl inX3 (by decide) rfl wd_112 dX3_censor_45 ?_
    refine shC_getI (i := 3) C sb12 hL (by decide) rfl wd_38 dX3_censor_48 ?_
    refine v_icmp_ge (tgt := 105) C dX3_censor_51 (by decide) hf (fun hf => ?_) (fun hf => ?_)
    · refine v_iload_n C 2 dX3_censor_105 rfl rfl ?_
      exact v_iret C dX3_censor_106 (fin_im hf hQ)
    · refine v_aload_n C 0 dX3_censor_54 rfl rfl ?_
      refine g_getR (K := 0) (i := 1) (j := 25) C (by decide) rfl rfl inX3 (by decide) rfl wd_113 dX3_censor_55 ?_
      refine v_aload_n C 0 dX3_censor_58 rfl rfl ?_
      refine g_getR (K := 0) (i := 0) (j := 12) C (by decide) rfl rfl inX3 (by decide) rfl wd_112 dX3_censor_59 ?_
      obtain ⟨y2, hy2, hf⟩ := bnd hf
      refine v_callV (r := none) (As := [.ref (ad B 12)]) (rest := []) (K := 25) C (mX1_become hL sb25 sb12 hy2) cw_X1_become wd_307 (by decide) (tb_o sb25) rfl ⟨Nat.le_of_ble_eq_true rfl, Nat.le_of_ble_eq_true rfl⟩ rfl rfl (Nat.le_of_ble_eq_true rfl) dX3_censor_62 ?_
      refine v_aload_n C 0 dX3_censor_65 rfl rfl ?_
      refine g_getR (K := 0) (i := 1) (j := 25) C (by decide) rfl rfl inX3 (by decide) rfl wd_113 dX3_censor_66 ?_
      refine v_iload_n C 1 dX3_censor_69 rfl rfl ?_
      refine v_iconst (v := 1) C dX3_censor_70 (by decide) ?_
      refine v_iload C 4 dX3_censor_71 rfl ?_
      refine v_ishl C dX3_censor_73 ?_
      obtain ⟨y3, hy3, hf⟩ := bnd hf
      refine v_callV (r := none) (As := [.int v1, .int (1 <<< (v4 &&& 31))]) (rest := []) (K := 25) C (nX1_passHours hL sb25 hy3) cw_X1_passHours wd_241 (by decide) (tb_o sb25) rfl ⟨Nat.le_of_ble_eq_true rfl, Nat.le_of_ble_eq_true rfl⟩ rfl rfl (Nat.le_of_ble_eq_true rfl) dX3_censor_74 ?_
      obtain ⟨κ4, he, hf⟩ := bnd hf
      rw [Option.some.inj he]
      refine v_aload_n C 0 dX3_censor_77 rfl rfl ?_
      refine g_getR (K := 0) (i := 1) (j := 25) C (by decide) rfl rfl inX3 (by decide) rfl wd_113 dX3_censor_78 ?_
      refine shC_getI (i := 5) C sb25 hL (by decide) rfl wd_43 dX3_censor_81 ?_
      refine v_iload_n C 3 dX3_censor_84 rfl rfl ?_
      refine v_icmp_ge (tgt := 99) C dX3_censor_85 (by decide) hf (fun hf => ?_) (fun hf => ?_)
      · exact tX3_censor_99 C hL hQ ih hf
      · refine v_aload_n C 0 dX3_censor_88 rfl rfl ?_
        refine g_getR (K := 0) (i := 1) (j := 25) C (by decide) rfl rfl inX3 (by decide) rfl wd_113 dX3_censor_89 ?_
        refine shC_getI (i := 5) C sb25 hL (by decide) rfl wd_43 dX3_censor_92 ?_
        refine v_top hf (fun w6 hf => ?_)
        refine v_istore_n (lv' := [(0, .ref (ad B 0)), (1, .int v1), (2, .int v2), (3, .int w6), (4, .int v4)]) C [1, 2, 3, 0, 4] dX3_censor_95 rfl (by decide) rfl ?_
        refine v_iload C 4 dX3_censor_96 rfl ?_
        refine v_istore_n (lv' := [(0, .ref (ad B 0)), (1, .int v1), (2, .int v4), (3, .int w6), (4, .int v4)]) C [1, 2, 0, 3, 4] dX3_censor_98 rfl (by decide) rfl ?_
        exact tX3_censor_99 C hL hQ ih hf
def fX3_censor (N : Nat) (κ : St2) (v1 : Int32) : Option (Int32 × St2) := (fX3_within v1 0 40).bind fun y1 => if y1 = 0 then ((fX3_tell κ (-1000001)).bind fun y8 => some (y8.1, y8.2)) else (if (κ 12 3) = 0 then ((fX3_tell κ (-1000004)).bind fun y7 => some (y7.1, y7.2)) else (fX3_censor_42 N v1 N κ 0 100000 0))
set_option maxHeartbeats 4000000 in
set_option maxRecDepth 100000 in
theorem tX3_censor {E : EE} {B : BB} {l : Launch} {L : St2 → St2} {N : Nat} {κ : St2} {v1 : Int32} {res : (Int32 × St2)} (C : Cx E B l cX3_censor RX3 (some .int) 5 5 113) (hL : LnC L) (hQ : Fin9 E B (some (.int res.1)) (L res.2)) (hf : fX3_censor N κ v1 = some res) : V E B (L κ) 0 [(0, .ref (ad B 0)), (1, .int v1)] [] := by
  unfold fX3_censor at hf
  refine v_iload_n C 1 dX3_censor_0 rfl rfl ?_
  refine v_iconst (v := 0) C dX3_censor_1 (by decide) ?_
  refine v_bipush (v := 40) C dX3_censor_2 (by decide) ?_
  obtain ⟨y1, hy1, hf⟩ := bnd hf
  refine v_callS (r := some (.int y1)) (As := [.int v1, .int 0, .int 40]) (rest := []) C (mX3_within  hy1) cw_X3_within wd_141 ⟨Nat.le_of_ble_eq_true rfl, Nat.le_of_ble_eq_true rfl⟩ rfl rfl (Nat.le_of_ble_eq_true rfl) dX3_censor_4 ?_
  refine v_if_ne (tgt := 17) C dX3_censor_7 (by decide) hf (fun hf => ?_) (fun hf => ?_)
  · refine v_aload_n C 0 dX3_censor_17 rfl rfl ?_
    refine g_getR (K := 0) (i := 0) (j := 12) C (by decide) rfl rfl inX3 (by decide) rfl wd_112 dX3_censor_18 ?_
    refine shC_getI (i := 3) C sb12 hL (by decide) rfl wd_38 dX3_censor_21 ?_
    refine v_if_ne (tgt := 34) C dX3_censor_24 (by decide) hf (fun hf => ?_) (fun hf => ?_)
    · refine v_iconst (v := 0) C dX3_censor_34 (by decide) ?_
      refine v_istore_n (lv' := [(0, .ref (ad B 0)), (1, .int v1), (2, .int 0)]) C [1, 2, 0] dX3_censor_35 rfl (by decide) rfl ?_
      refine v_ldc C wd_378 dX3_censor_36 ?_
      refine v_istore_n (lv' := [(0, .ref (ad B 0)), (1, .int v1), (2, .int 0), (3, .int 100000)]) C [1, 2, 3, 0] dX3_censor_38 rfl (by decide) rfl ?_
      refine v_iconst (v := 0) C dX3_censor_39 (by decide) ?_
      refine v_istore (lv' := [(0, .ref (ad B 0)), (1, .int v1), (2, .int 0), (3, .int 100000), (4, .int 0)]) C [1, 2, 3, 4, 0] dX3_censor_40 (by decide) rfl ?_
      exact tX3_censor_42 C hL hQ N κ 0 100000 0 hf
    · refine v_aload_n C 0 dX3_censor_27 rfl rfl ?_
      refine v_ldc C wd_328 dX3_censor_28 ?_
      obtain ⟨y7, hy7, hf⟩ := bnd hf
      refine v_callV (r := some (.int y7.1)) (As := [.int (-1000004)]) (rest := []) (K := 0) C (mX3_tell hL hy7) cw_X3_tell wd_145 (by decide) rfl rfl ⟨Nat.le_of_ble_eq_true rfl, Nat.le_of_ble_eq_true rfl⟩ rfl rfl (Nat.le_of_ble_eq_true rfl) dX3_censor_30 ?_
      exact v_iret C dX3_censor_33 (fin_im hf hQ)
  · refine v_aload_n C 0 dX3_censor_10 rfl rfl ?_
    refine v_ldc C wd_144 dX3_censor_11 ?_
    obtain ⟨y8, hy8, hf⟩ := bnd hf
    refine v_callV (r := some (.int y8.1)) (As := [.int (-1000001)]) (rest := []) (K := 0) C (mX3_tell hL hy8) cw_X3_tell wd_145 (by decide) rfl rfl ⟨Nat.le_of_ble_eq_true rfl, Nat.le_of_ble_eq_true rfl⟩ rfl rfl (Nat.le_of_ble_eq_true rfl) dX3_censor_13 ?_
    exact v_iret C dX3_censor_16 (fin_im hf hQ)
theorem mX3_censor {B : BB} {l : Launch} {L : St2 → St2} {N : Nat} {κ : St2} {v1 : Int32} {res : (Int32 × St2)} (hL : LnC L) (hf : fX3_censor N κ v1 = some res) : Ret l B yX3_censor cX3_censor 5 (some .int) 5 113 [.ref (ad B 0), .int v1] (L κ) (some (.int res.1)) (L res.2) := ret_of (own := RX3) (by decide) rfl (Nat.le_of_ble_eq_true rfl) (fun E C hQ => tX3_censor C hL hQ hf)
