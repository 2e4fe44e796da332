def fX4_orNone (N : Nat) (x : St2) (v1 : Int32) (v2 : Int32) : Option (Int32 × St2) := (fX4_laysBack N x).bind fun y1 => if v2 < v1 then ((fX4_finds y1 3).bind fun y2 => some (y2.1, y2.2)) else (some (v1, y1))
set_option maxHeartbeats 4000000 in
set_option maxRecDepth 100000 in
theorem tX4_orNone {E : EE} {B : BB} {l : Launch} {L : St2 → St2} {N : Nat} {x : St2} {v1 : Int32} {v2 : Int32} {res : (Int32 × St2)} (C : Cx E B l cX4_orNone RX4 (some .int) 3 2 42) (hL : Ln 51 10 L) (hQ : Fin9 E B (some (.int res.1)) (L res.2)) (hf : fX4_orNone N x v1 v2 = some res) : V E B (L x) 0 [(0, .ref (ad B 51)), (1, .int v1), (2, .int v2)] [] := by
  unfold fX4_orNone at hf
  refine v_aload_n C 0 dX4_orNone_0 rfl rfl ?_
  obtain ⟨y1, hy1, hf⟩ := bnd hf
  refine v_callV (r := none) (As := []) (rest := []) (K := 51) C (mX4_laysBack hL hy1) cw_X4_laysBack wd_875 (by decide) rfl rfl ⟨Nat.le_of_ble_eq_true rfl, Nat.le_of_ble_eq_true rfl⟩ rfl rfl (Nat.le_of_ble_eq_true rfl) dX4_orNone_1 ?_
  refine v_iload_n C 1 dX4_orNone_4 rfl rfl ?_
  refine v_iload_n C 2 dX4_orNone_5 rfl rfl ?_
  refine v_icmp_gt (tgt := 13) C dX4_orNone_6 (by decide) hf (fun hf => ?_) (fun hf => ?_)
  · refine v_aload_n C 0 dX4_orNone_13 rfl rfl ?_
    refine v_iconst (v := 3) C dX4_orNone_14 (by decide) ?_
    obtain ⟨y2, hy2, hf⟩ := bnd hf
    refine v_callV (r := some (.int y2.1)) (As := [.int 3]) (rest := []) (K := 51) C (mX4_finds hL hy2) cw_X4_finds wd_725 (by decide) rfl rfl ⟨Nat.le_of_ble_eq_true rfl, Nat.le_of_ble_eq_true rfl⟩ rfl rfl (Nat.le_of_ble_eq_true rfl) dX4_orNone_15 ?_
    exact v_iret C dX4_orNone_18 (fin_im hf hQ)
  · refine v_iload_n C 1 dX4_orNone_9 rfl rfl ?_
    refine v_goto (tgt := 18) C dX4_orNone_10 (by decide) ?_
    exact v_iret C dX4_orNone_18 (fin_im hf hQ)
theorem mX4_orNone {B : BB} {l : Launch} {L : St2 → St2} {N : Nat} {x : St2} {v1 : Int32} {v2 : Int32} {res : (Int32 × St2)} (hL : Ln 51 10 L) (hf : fX4_orNone N x v1 v2 = some res) : Ret l B yX4_orNone cX4_orNone 3 (some .int) 2 42 [.ref (ad B 51), .int v1, .int v2] (L x) (some (.int res.1)) (L res.2) := ret_of (own := RX4) (by decide) rfl (Nat.le_of_ble_eq_true rfl) (fun E C hQ => tX4_orNone C hL hQ hf)
def fX4_ahead (N : Nat) (x : St2) (v1 : Int32) (v2 : Int32) (v3 : Int32) : Option (Int32 × St2) := (fX4_isCell v1).bind fun y1 => if y1 = 0 then ((fX4_finds x 0).bind fun y2 => some (y2.1, y2.2)) else ((fX4_in v2.toInt64 0 2).bind fun y3 => if y3 = 0 then ((fX4_finds x 0).bind fun y4 => some (y4.1, y4.2)) else ((fX4_isAhead v3).bind fun y5 => if y5 = 0 then ((fX4_finds x 0).bind fun y10 => some (y10.1, y10.2)) else ((fX4_lends N x).bind fun y6 => (fX4_hours N y6 v3).bind fun y7 => (rd (y7 1) 135 ((5 + (24 * v2)) + v1)).bind fun a8 => (fX4_laysBack N y7).bind fun y9 => some (a8, y9))))
set_option maxHeartbeats 4000000 in
set_option maxRecDepth 100000 in
theorem tX4_ahead {E : EE} {B : BB} {l : Launch} {L : St2 → St2} {N : Nat} {x : St2} {v1 : Int32} {v2 : Int32} {v3 : Int32} {res : (Int32 × St2)} (C : Cx E B l cX4_ahead RX4 (some .int) 5 5 112) (hL : Ln 51 10 L) (hQ : Fin9 E B (some (.int res.1)) (L res.2)) (hf : fX4_ahead N x v1 v2 v3 = some res) : V E B (L x) 0 [(0, .ref (ad B 51)), (1, .int v1), (2, .int v2), (3, .int v3)] [] := by
  unfold fX4_ahead at hf
  refine v_iload_n C 1 dX4_ahead_0 rfl rfl ?_
  obtain ⟨y1, hy1, hf⟩ := bnd hf
  refine v_callS (r := some (.int y1)) (As := [.int v1]) (rest := []) C (mX4_isCell  hy1) cw_X4_isCell wd_717 ⟨Nat.le_of_ble_eq_true rfl, Nat.le_of_ble_eq_true rfl⟩ rfl rfl (Nat.le_of_ble_eq_true rfl) dX4_ahead_1 ?_
  refine v_if_eq (tgt := 26) C dX4_ahead_4 (by decide) hf (fun hf => ?_) (fun hf => ?_)
  · refine v_aload_n C 0 dX4_ahead_26 rfl rfl ?_
    refine v_iconst (v := 0) C dX4_ahead_27 (by decide) ?_
    obtain ⟨y2, hy2, hf⟩ := bnd hf
    refine v_callV (r := some (.int y2.1)) (As := [.int 0]) (rest := []) (K := 51) C (mX4_finds hL hy2) cw_X4_finds wd_725 (by decide) rfl rfl ⟨Nat.le_of_ble_eq_true rfl, Nat.le_of_ble_eq_true rfl⟩ rfl rfl (Nat.le_of_ble_eq_true rfl) dX4_ahead_28 ?_
    exact v_iret C dX4_ahead_31 (fin_im hf hQ)
  · refine v_iload_n C 2 dX4_ahead_7 rfl rfl ?_
    refine v_i2l C dX4_ahead_8 ?_
    refine v_lconst (v := 0) C dX4_ahead_9 (by decide) ?_
    refine v_ldc2 C wd_863 dX4_ahead_10 ?_
    obtain ⟨y3, hy3, hf⟩ := bnd hf
    refine v_callS (r := some (.int y3)) (As := [.long v2.toInt64, .long 0, .long 2]) (rest := []) C (mX4_in  hy3) cw_X4_in wd_721 ⟨Nat.le_of_ble_eq_true rfl, Nat.le_of_ble_eq_true rfl⟩ rfl rfl (Nat.le_of_ble_eq_true rfl) dX4_ahead_13 ?_
    refine v_if_eq (tgt := 26) C dX4_ahead_16 (by decide) hf (fun hf => ?_) (fun hf => ?_)
    · refine v_aload_n C 0 dX4_ahead_26 rfl rfl ?_
      refine v_iconst (v := 0) C dX4_ahead_27 (by decide) ?_
      obtain ⟨y4, hy4, hf⟩ := bnd hf
      refine v_callV (r := some (.int y4.1)) (As := [.int 0]) (rest := []) (K := 51) C (mX4_finds hL hy4) cw_X4_finds wd_725 (by decide) rfl rfl ⟨Nat.le_of_ble_eq_true rfl, Nat.le_of_ble_eq_true rfl⟩ rfl rfl (Nat.le_of_ble_eq_true rfl) dX4_ahead_28 ?_
      exact v_iret C dX4_ahead_31 (fin_im hf hQ)
    · refine v_iload_n C 3 dX4_ahead_19 rfl rfl ?_
      obtain ⟨y5, hy5, hf⟩ := bnd hf
      refine v_callS (r := some (.int y5)) (As := [.int v3]) (rest := []) C (mX4_isAhead  hy5) cw_X4_isAhead wd_864 ⟨Nat.le_of_ble_eq_true rfl, Nat.le_of_ble_eq_true rfl⟩ rfl rfl (Nat.le_of_ble_eq_true rfl) dX4_ahead_20 ?_
      refine v_if_ne (tgt := 32) C dX4_ahead_23 (by decide) hf (fun hf => ?_) (fun hf => ?_)
      · refine v_aload_n C 0 dX4_ahead_32 rfl rfl ?_
        obtain ⟨y6, hy6, hf⟩ := bnd hf
        refine v_callV (r := none) (As := []) (rest := []) (K := 51) C (mX4_lends hL hy6) cw_X4_lends wd_868 (by decide) rfl rfl ⟨Nat.le_of_ble_eq_true rfl, Nat.le_of_ble_eq_true rfl⟩ rfl rfl (Nat.le_of_ble_eq_true rfl) dX4_ahead_33 ?_
        refine v_aload_n C 0 dX4_ahead_36 rfl rfl ?_
        refine v_iload_n C 3 dX4_ahead_37 rfl rfl ?_
        obtain ⟨y7, hy7, hf⟩ := bnd hf
        refine v_callV (r := none) (As := [.int v3]) (rest := []) (K := 51) C (mX4_hours hL hy7) cw_X4_hours wd_820 (by decide) rfl rfl ⟨Nat.le_of_ble_eq_true rfl, Nat.le_of_ble_eq_true rfl⟩ rfl rfl (Nat.le_of_ble_eq_true rfl) dX4_ahead_38 ?_
        refine v_aload_n C 0 dX4_ahead_41 rfl rfl ?_
        refine g_getR (K := 51) (i := 0) (j := 51 + 1) C (by decide) rfl rfl inX4 (by decide) rfl wd_667 dX4_ahead_42 ?_
        refine v_iconst (v := 5) C dX4_ahead_45 (by decide) ?_
        refine v_bipush (v := 24) C dX4_ahead_46 (by decide) ?_
        refine v_iload_n C 2 dX4_ahead_48 rfl rfl ?_
        refine v_imul C dX4_ahead_49 ?_
        refine v_iadd C dX4_ahead_50 ?_
        refine v_iload_n C 1 dX4_ahead_51 rfl rfl ?_
        refine v_iadd C dX4_ahead_52 ?_
        refine s_ald (k := 1) C hL (by decide) rfl dX4_ahead_53 hf (fun a8 hf => ?_)
        refine v_istore (lv' := [(0, .ref (ad B 51)), (1, .int v1), (2, .int v2), (3, .int v3), (4, .int a8)]) C [1, 2, 3, 4, 0] dX4_ahead_54 (by decide) rfl ?_
        refine v_aload_n C 0 dX4_ahead_56 rfl rfl ?_
        obtain ⟨y9, hy9, hf⟩ := bnd hf
        refine v_callV (r := none) (As := []) (rest := []) (K := 51) C (mX4_laysBack hL hy9) cw_X4_laysBack wd_875 (by decide) rfl rfl ⟨Nat.le_of_ble_eq_true rfl, Nat.le_of_ble_eq_true rfl⟩ rfl rfl (Nat.le_of_ble_eq_true rfl) dX4_ahead_57 ?_
        refine v_iload C 4 dX4_ahead_60 rfl ?_
        exact v_iret C dX4_ahead_62 (fin_im hf hQ)
      · refine v_aload_n C 0 dX4_ahead_26 rfl rfl ?_
        refine v_iconst (v := 0) C dX4_ahead_27 (by decide) ?_
        obtain ⟨y10, hy10, hf⟩ := bnd hf
        refine v_callV (r := some (.int y10.1)) (As := [.int 0]) (rest := []) (K := 51) C (mX4_finds hL hy10) cw_X4_finds wd_725 (by decide) rfl rfl ⟨Nat.le_of_ble_eq_true rfl, Nat.le_of_ble_eq_true rfl⟩ rfl rfl (Nat.le_of_ble_eq_true rfl) dX4_ahead_28 ?_
        exact v_iret C dX4_ahead_31 (fin_im hf hQ)
theorem mX4_ahead {B : BB} {l : Launch} {L : St2 → St2} {N : Nat} {x : St2} {v1 : Int32} {v2 : Int32} {v3 : Int32} {res : (Int32 × St2)} (hL : Ln 51 10 L) (hf : fX4_ahead N x v1 v2 v3 = some res) : Ret l B yX4_ahead cX4_ahead 5 (some .int) 5 112 [.ref (ad B 51), .int v1, .int v2, .int v3] (L x) (some (.int res.1)) (L res.2) := ret_of (own := RX4) (by decide) rfl (Nat.le_of_ble_eq_true rfl) (fun E C hQ => tX4_ahead C hL hQ hf)
def fX4_workIn (N : Nat) (x : St2) (v1 : Int32) (v2 : Int32) : Option (Int32 × St2) := (fX4_hours N x v2).bind fun y1 => (fX4_workOf N y1 v1).bind fun y2 => (fX4_ones N y2).bind fun y3 => (fX4_laysBack N y1).bind fun y4 => some (y3, y4)
set_option maxHeartbeats 4000000 in
set_option maxRecDepth 100000 in
theorem tX4_workIn {E : EE} {B : BB} {l : Launch} {L : St2 → St2} {N : Nat} {x : St2} {v1 : Int32} {v2 : Int32} {res : (Int32 × St2)} (C : Cx E B l cX4_workIn RX4 (some .int) 4 5 112) (hL : Ln 51 10 L) (hQ : Fin9 E B (some (.int res.1)) (L res.2)) (hf : fX4_workIn N x v1 v2 = some res) : V E B (L x) 0 [(0, .ref (ad B 51)), (1, .int v1), (2, .int v2)] [] := by
  unfold fX4_workIn at hf
  refine v_aload_n C 0 dX4_workIn_0 rfl rfl ?_
  refine v_iload_n C 2 dX4_workIn_1 rfl rfl ?_
  obtain ⟨y1, hy1, hf⟩ := bnd hf
  refine v_callV (r := none) (As := [.int v2]) (rest := []) (K := 51) C (mX4_hours hL hy1) cw_X4_hours wd_820 (by decide) rfl rfl ⟨Nat.le_of_ble_eq_true rfl, Nat.le_of_ble_eq_true rfl⟩ rfl rfl (Nat.le_of_ble_eq_true rfl) dX4_workIn_2 ?_
  refine v_aload_n C 0 dX4_workIn_5 rfl rfl ?_
  refine v_iload_n C 1 dX4_workIn_6 rfl rfl ?_
  obtain ⟨y2, hy2, hf⟩ := bnd hf
  refine v_callV (r := some (.int y2)) (As := [.int v1]) (rest := []) (K := 51) C (mX4_workOf hL hy2) cw_X4_workOf wd_802 (by decide) rfl rfl ⟨Nat.le_of_ble_eq_true rfl, Nat.le_of_ble_eq_true rfl⟩ rfl rfl (Nat.le_of_ble_eq_true rfl) dX4_workIn_7 ?_
  obtain ⟨y3, hy3, hf⟩ := bnd hf
  refine v_callS (r := some (.int y3)) (As := [.int y2]) (rest := []) C (mX4_ones  hy3) cw_X4_ones wd_836 ⟨Nat.le_of_ble_eq_true rfl, Nat.le_of_ble_eq_true rfl⟩ rfl rfl (Nat.le_of_ble_eq_true rfl) dX4_workIn_10 ?_
  refine v_istore_n (lv' := [(0, .ref (ad B 51)), (1, .int v1), (2, .int v2), (3, .int y3)]) C [1, 2, 3, 0] dX4_workIn_13 rfl (by decide) rfl ?_
  refine v_aload_n C 0 dX4_workIn_14 rfl rfl ?_
  obtain ⟨y4, hy4, hf⟩ := bnd hf
  refine v_callV (r := none) (As := []) (rest := []) (K := 51) C (mX4_laysBack hL hy4) cw_X4_laysBack wd_875 (by decide) rfl rfl ⟨Nat.le_of_ble_eq_true rfl, Nat.le_of_ble_eq_true rfl⟩ rfl rfl (Nat.le_of_ble_eq_true rfl) dX4_workIn_15 ?_
  refine v_iload_n C 3 dX4_workIn_18 rfl rfl ?_
  exact v_iret C dX4_workIn_19 (fin_im hf hQ)
theorem mX4_workIn {B : BB} {l : Launch} {L : St2 → St2} {N : Nat} {x : St2} {v1 : Int32} {v2 : Int32} {res : (Int32 × St2)} (hL : Ln 51 10 L) (hf : fX4_workIn N x v1 v2 = some res) : Ret l B yX4_workIn cX4_workIn 4 (some .int) 5 112 [.ref (ad B 51), .int v1, .int v2] (L x) (some (.int res.1)) (L res.2) := ret_of (own := RX4) (by decide) rfl (Nat.le_of_ble_eq_true rfl) (fun E C hQ => tX4_workIn C hL hQ hf)
def fX4_work (N : Nat) (x : St2) (v1 : Int32) (v2 : Int32) : Option (Int32 × St2) := (fX4_isWalker x v1).bind fun y1 => if y1 = 0 then ((fX4_finds x 0).bind fun y2 => some (y2.1, y2.2)) else ((fX4_isAhead v2).bind fun y3 => if y3 = 0 then ((fX4_finds x 0).bind fun y6 => some (y6.1, y6.2)) else ((fX4_lends N x).bind fun y4 => (fX4_workIn N y4 v1 v2).bind fun y5 => some (y5.1, y5.2)))
set_option maxHeartbeats 4000000 in
set_option maxRecDepth 100000 in
theorem tX4_work {E : EE} {B : BB} {l : Launch} {L : St2 → St2} {N : Nat} {x : St2} {v1 : Int32} {v2 : Int32} {res : (Int32 × St2)} (C : Cx E B l cX4_work RX4 (some .int) 3 6 135) (hL : Ln 51 10 L) (hQ : Fin9 E B (some (.int res.1)) (L res.2)) (hf : fX4_work N x v1 v2 = some res) : V E B (L x) 0 [(0, .ref (ad B 51)), (1, .int v1), (2, .int v2)] [] := by
  unfold fX4_work at hf
  refine v_aload_n C 0 dX4_work_0 rfl rfl ?_
  refine v_iload_n C 1 dX4_work_1 rfl rfl ?_
  obtain ⟨y1, hy1, hf⟩ := bnd hf
  refine v_callV (r := some (.int y1)) (As := [.int v1]) (rest := []) (K := 51) C (mX4_isWalker hL hy1) cw_X4_isWalker wd_742 (by decide) rfl rfl ⟨Nat.le_of_ble_eq_true rfl, Nat.le_of_ble_eq_true rfl⟩ rfl rfl (Nat.le_of_ble_eq_true rfl) dX4_work_2 ?_
  refine v_if_eq (tgt := 15) C dX4_work_5 (by decide) hf (fun hf => ?_) (fun hf => ?_)
  · refine v_aload_n C 0 dX4_work_15 rfl rfl ?_
    refine v_iconst (v := 0) C dX4_work_16 (by decide) ?_
    obtain ⟨y2, hy2, hf⟩ := bnd hf
    refine v_callV (r := some (.int y2.1)) (As := [.int 0]) (rest := []) (K := 51) C (mX4_finds hL hy2) cw_X4_finds wd_725 (by decide) rfl rfl ⟨Nat.le_of_ble_eq_true rfl, Nat.le_of_ble_eq_true rfl⟩ rfl rfl (Nat.le_of_ble_eq_true rfl) dX4_work_17 ?_
    exact v_iret C dX4_work_20 (fin_im hf hQ)
  · refine v_iload_n C 2 dX4_work_8 rfl rfl ?_
    obtain ⟨y3, hy3, hf⟩ := bnd hf
    refine v_callS (r := some (.int y3)) (As := [.int v2]) (rest := []) C (mX4_isAhead  hy3) cw_X4_isAhead wd_864 ⟨Nat.le_of_ble_eq_true rfl, Nat.le_of_ble_eq_true rfl⟩ rfl rfl (Nat.le_of_ble_eq_true rfl) dX4_work_9 ?_
    refine v_if_ne (tgt := 21) C dX4_work_12 (by decide) hf (fun hf => ?_) (fun hf => ?_)
    · refine v_aload_n C 0 dX4_work_21 rfl rfl ?_
      obtain ⟨y4, hy4, hf⟩ := bnd hf
      refine v_callV (r := none) (As := []) (rest := []) (K := 51) C (mX4_lends hL hy4) cw_X4_lends wd_868 (by decide) rfl rfl ⟨Nat.le_of_ble_eq_true rfl, Nat.le_of_ble_eq_true rfl⟩ rfl rfl (Nat.le_of_ble_eq_true rfl) dX4_work_22 ?_
      refine v_aload_n C 0 dX4_work_25 rfl rfl ?_
      refine v_iload_n C 1 dX4_work_26 rfl rfl ?_
      refine v_iload_n C 2 dX4_work_27 rfl rfl ?_
      obtain ⟨y5, hy5, hf⟩ := bnd hf
      refine v_callV (r := some (.int y5.1)) (As := [.int v1, .int v2]) (rest := []) (K := 51) C (mX4_workIn hL hy5) cw_X4_workIn wd_883 (by decide) rfl rfl ⟨Nat.le_of_ble_eq_true rfl, Nat.le_of_ble_eq_true rfl⟩ rfl rfl (Nat.le_of_ble_eq_true rfl) dX4_work_28 ?_
      exact v_iret C dX4_work_31 (fin_im hf hQ)
    · refine v_aload_n C 0 dX4_work_15 rfl rfl ?_
      refine v_iconst (v := 0) C dX4_work_16 (by decide) ?_
      obtain ⟨y6, hy6, hf⟩ := bnd hf
      refine v_callV (r := some (.int y6.1)) (As := [.int 0]) (rest := []) (K := 51) C (mX4_finds hL hy6) cw_X4_finds wd_725 (by decide) rfl rfl ⟨Nat.le_of_ble_eq_true rfl, Nat.le_of_ble_eq_true rfl⟩ rfl rfl (Nat.le_of_ble_eq_true rfl) dX4_work_17 ?_
      exact v_iret C dX4_work_20 (fin_im hf hQ)
theorem mX4_work {B : BB} {l : Launch} {L : St2 → St2} {N : Nat} {x : St2} {v1 : Int32} {v2 : Int32} {res : (Int32 × St2)} (hL : Ln 51 10 L) (hf : fX4_work N x v1 v2 = some res) : Ret l B yX4_work cX4_work 3 (some .int) 6 135 [.ref (ad B 51), .int v1, .int v2] (L x) (some (.int res.1)) (L res.2) := ret_of (own := RX4) (by decide) rfl (Nat.le_of_ble_eq_true rfl) (fun E C hQ => tX4_work C hL hQ hf)
def fX4_when_27 (N : Nat) (v1 : Int32) (v2 : Int32) : Nat → St2 → Int32 → Option (Int32 × St2)
  | 0, _, _ => none
  | n + 1, x, v3 => if 200 < v3 then ((fX4_orNone N x v3 200).bind fun y5 => some (y5.1, y5.2)) else ((rd (x 1) 135 (5 + v2)).bind fun a6 => if a6 = v1 then ((fX4_orNone N x v3 200).bind fun y7 => some (y7.1, y7.2)) else ((fX4_anHour N x).bind fun y8 => (fX4_when_27 N v1 v2 n) y8 (v3 + 1)))
set_option maxHeartbeats 4000000 in
set_option maxRecDepth 100000 in
theorem tX4_when_27 {E : EE} {B : BB} {l : Launch} {L : St2 → St2} {N : Nat} {v1 : Int32} {v2 : Int32} {res : (Int32 × St2)} (C : Cx E B l cX4_when RX4 (some .int) 4 4 90) (hL : Ln 51 10 L) (hQ : Fin9 E B (some (.int res.1)) (L res.2)) : ∀ (n : Nat) (x : St2) (v3 : Int32), fX4_when_27 N v1 v2 n x v3 = some res → V E B (L x) 27 [(0, .ref (ad B 51)), (1, .int v1), (2, .int v2), (3, .int v3)] [] := by
  intro n
  induction n with
  | zero =>
    intro x v3 hf
    cases hf
  | succ n ih =>
    intro x v3 hf
    rw [fX4_when_27] at hf
    refine v_iload_n C 3 dX4_when_27 rfl rfl ?_
    refine v_sipush (v := 200) C dX4_when_28 (by decide) ?_
    refine v_icmp_gt (tgt := 56) C dX4_when_31 (by decide) hf (fun hf => ?_) (fun hf => ?_)
    · refine v_aload_n C 0 dX4_when_56 rfl rfl ?_
      refine v_iload_n C 3 dX4_when_57 rfl rfl ?_
      refine v_sipush (v := 200) C dX4_when_58 (by decide) ?_
      obtain ⟨y5, hy5, hf⟩ := bnd hf
      refine v_callV (r := some (.int y5.1)) (As := [.int v3, .int 200]) (rest := []) (K := 51) C (mX4_orNone hL hy5) cw_X4_orNone wd_891 (by decide) rfl rfl ⟨Nat.le_of_ble_eq_true rfl, Nat.le_of_ble_eq_true rfl⟩ rfl rfl (Nat.le_of_ble_eq_true rfl) dX4_when_61 ?_
      exact v_iret C dX4_when_64 (fin_im hf hQ)
    · refine v_aload_n C 0 dX4_when_34 rfl rfl ?_
      refine g_getR (K := 51) (i := 0) (j := 51 + 1) C (by decide) rfl rfl inX4 (by decide) rfl wd_667 dX4_when_35 ?_
      refine v_iconst (v := 5) C dX4_when_38 (by decide) ?_
      refine v_iload_n C 2 dX4_when_39 rfl rfl ?_
      refine v_iadd C dX4_when_40 ?_
      refine s_ald (k := 1) C hL (by decide) rfl dX4_when_41 hf (fun a6 hf => ?_)
      refine v_iload_n C 1 dX4_when_42 rfl rfl ?_
      refine v_icmp_eq (tgt := 56) C dX4_when_43 (by decide) hf (fun hf => ?_) (fun hf => ?_)
      · refine v_aload_n C 0 dX4_when_56 rfl rfl ?_
        refine v_iload_n C 3 dX4_when_57 rfl rfl ?_
        refine v_sipush (v := 200) C dX4_when_58 (by decide) ?_
        obtain ⟨y7, hy7, hf⟩ := bnd hf
        refine v_callV (r := some (.int y7.1)) (As := [.int v3, .int 200]) (rest := []) (K := 51) C (mX4_orNone hL hy7) cw_X4_orNone wd_891 (by decide) rfl rfl ⟨Nat.le_of_ble_eq_true rfl, Nat.le_of_ble_eq_true rfl⟩ rfl rfl (Nat.le_of_ble_eq_true rfl) dX4_when_61 ?_
        exact v_iret C dX4_when_64 (fin_im hf hQ)
      · refine v_aload_n C 0 dX4_when_46 rfl rfl ?_
        obtain ⟨y8, hy8, hf⟩ := bnd hf
        refine v_callV (r := none) (As := []) (rest := []) (K := 51) C (mX4_anHour hL hy8) cw_X4_anHour wd_824 (by decide) rfl rfl ⟨Nat.le_of_ble_eq_true rfl, Nat.le_of_ble_eq_true rfl⟩ rfl rfl (Nat.le_of_ble_eq_true rfl) dX4_when_47 ?_
        refine v_iinc (q := 3) (v := v3 + 1) (lv' := [(0, .ref (ad B 51)), (1, .int v1), (2, .int v2), (3, .int (v3 + 1))]) C [1, 2, 3, 0] dX4_when_50 rfl rfl (by decide) rfl ?_
        refine v_goto (tgt := 27) C dX4_when_53 (by decide) ?_
        exact ih y8 (v3 + 1) hf
def fX4_when (N : Nat) (x : St2) (v1 : Int32) (v2 : Int32) : Option (Int32 × St2) := (fX4_isWalker x v1).bind fun y1 => if y1 = 0 then ((fX4_finds x 0).bind fun y2 => some (y2.1, y2.2)) else ((fX4_isCell v2).bind fun y3 => if y3 = 0 then ((fX4_finds x 0).bind fun y10 => some (y10.1, y10.2)) else ((fX4_lends N x).bind fun y4 => fX4_when_27 N v1 v2 N y4 0))
set_option maxHeartbeats 4000000 in
set_option maxRecDepth 100000 in
theorem tX4_when {E : EE} {B : BB} {l : Launch} {L : St2 → St2} {N : Nat} {x : St2} {v1 : Int32} {v2 : Int32} {res : (Int32 × St2)} (C : Cx E B l cX4_when RX4 (some .int) 4 4 90) (hL : Ln 51 10 L) (hQ : Fin9 E B (some (.int res.1)) (L res.2)) (hf : fX4_when N x v1 v2 = some res) : V E B (L x) 0 [(0, .ref (ad B 51)), (1, .int v1), (2, .int v2)] [] := by
  unfold fX4_when at hf
  refine v_aload_n C 0 dX4_when_0 rfl rfl ?_
  refine v_iload_n C 1 dX4_when_1 rfl rfl ?_
  obtain ⟨y1, hy1, hf⟩ := bnd hf
  refine v_callV (r := some (.int y1)) (As := [.int v1]) (rest := []) (K := 51) C (mX4_isWalker hL hy1) cw_X4_isWalker wd_742 (by decide) rfl rfl ⟨Nat.le_of_ble_eq_true rfl, Nat.le_of_ble_eq_true rfl⟩ rfl rfl (Nat.le_of_ble_eq_true rfl) dX4_when_2 ?_
  refine v_if_eq (tgt := 15) C dX4_when_5 (by decide) hf (fun hf => ?_) (fun hf => ?_)
  · refine v_aload_n C 0 dX4_when_15 rfl rfl ?_
    refine v_iconst (v := 0) C dX4_when_16 (by decide) ?_
    obtain ⟨y2, hy2, hf⟩ := bnd hf
    refine v_callV (r := some (.int y2.1)) (As := [.int 0]) (rest := []) (K := 51) C (mX4_finds hL hy2) cw_X4_finds wd_725 (by decide) rfl rfl ⟨Nat.le_of_ble_eq_true rfl, Nat.le_of_ble_eq_true rfl⟩ rfl rfl (Nat.le_of_ble_eq_true rfl) dX4_when_17 ?_
    exact v_iret C dX4_when_20 (fin_im hf hQ)
  · refine v_iload_n C 2 dX4_when_8 rfl rfl ?_
    obtain ⟨y3, hy3, hf⟩ := bnd hf
    refine v_callS (r := some (.int y3)) (As := [.int v2]) (rest := []) C (mX4_isCell  hy3) cw_X4_isCell wd_717 ⟨Nat.le_of_ble_eq_true rfl, Nat.le_of_ble_eq_true rfl⟩ rfl rfl (Nat.le_of_ble_eq_true rfl) dX4_when_9 ?_
    refine v_if_ne (tgt := 21) C dX4_when_12 (by decide) hf (fun hf => ?_) (fun hf => ?_)
    · refine v_aload_n C 0 dX4_when_21 rfl rfl ?_
      obtain ⟨y4, hy4, hf⟩ := bnd hf
      refine v_callV (r := none) (As := []) (rest := []) (K := 51) C (mX4_lends hL hy4) cw_X4_lends wd_868 (by decide) rfl rfl ⟨Nat.le_of_ble_eq_true rfl, Nat.le_of_ble_eq_true rfl⟩ rfl rfl (Nat.le_of_ble_eq_true rfl) dX4_when_22 ?_
      refine v_iconst (v := 0) C dX4_when_25 (by decide) ?_
      refine v_istore_n (lv' := [(0, .ref (ad B 51)), (1, .int v1), (2, .int v2), (3, .int 0)]) C [1, 2, 3, 0] dX4_when_26 rfl (by decide) rfl ?_
      exact tX4_when_27 C hL hQ N y4 0 hf
    · refine v_aload_n C 0 dX4_when_15 rfl rfl ?_
      refine v_iconst (v := 0) C dX4_when_16 (by decide) ?_
      obtain ⟨y10, hy10, hf⟩ := bnd hf
      refine v_callV (r := some (.int y10.1)) (As := [.int 0]) (rest := []) (K := 51) C (mX4_finds hL hy10) cw_X4_finds wd_725 (by decide) rfl rfl ⟨Nat.le_of_ble_eq_true rfl, Nat.le_of_ble_eq_true rfl⟩ rfl rfl (Nat.le_of_ble_eq_true rfl) dX4_when_17 ?_
      exact v_iret C dX4_when_20 (fin_im hf hQ)
theorem mX4_when {B : BB} {l : Launch} {L : St2 → St2} {N : Nat} {x : St2} {v1 : Int32} {v2 : Int32} {res : (Int32 × St2)} (hL : Ln 51 10 L) (hf : fX4_when N x v1 v2 = some res) : Ret l B yX4_when cX4_when 4 (some .int) 4 90 [.ref (ad B 51), .int v1, .int v2] (L x) (some (.int res.1)) (L res.2) := ret_of (own := RX4) (by decide) rfl (Nat.le_of_ble_eq_true rfl) (fun E C hQ => tX4_when C hL hQ hf)
def fX4_gone_19 (N : Nat) (v1 : Int32) : Nat → St2 → Int32 → Option (Int32 × St2)
  | 0, _, _ => none
  | n + 1, x, v2 => if 200 < v2 then ((fX4_orNone N x v2 200).bind fun y3 => some (y3.1, y3.2)) else ((rd (x 1) 135 (5 + v1)).bind fun a4 => if a4 < 0 then ((fX4_orNone N x v2 200).bind fun y5 => some (y5.1, y5.2)) else ((fX4_anHour N x).bind fun y6 => (fX4_gone_19 N v1 n) y6 (v2 + 1)))
set_option maxHeartbeats 4000000 in
set_option maxRecDepth 100000 in
theorem tX4_gone_19 {E : EE} {B : BB} {l : Launch} {L : St2 → St2} {N : Nat} {v1 : Int32} {res : (Int32 × St2)} (C : Cx E B l cX4_gone RX4 (some .int) 3 4 90) (hL : Ln 51 10 L) (hQ : Fin9 E B (some (.int res.1)) (L res.2)) : ∀ (n : Nat) (x : St2) (v2 : Int32), fX4_gone_19 N v1 n x v2 = some res → V E B (L x) 19 [(0, .ref (ad B 51)), (1, .int v1), (2, .int v2)] [] := by
  intro n
  induction n with
  | zero =>
    intro x v2 hf
    cases hf
  | succ n ih =>
    intro x v2 hf
    rw [fX4_gone_19] at hf
    refine v_iload_n C 2 dX4_gone_19 rfl rfl ?_
    refine v_sipush (v := 200) C dX4_gone_20 (by decide) ?_
    refine v_icmp_gt (tgt := 47) C dX4_gone_23 (by decide) hf (fun hf => ?_) (fun hf => ?_)
    · refine v_aload_n C 0 dX4_gone_47 rfl rfl ?_
      refine v_iload_n C 2 dX4_gone_48 rfl rfl ?_
      refine v_sipush (v := 200) C dX4_gone_49 (by decide) ?_
      obtain ⟨y3, hy3, hf⟩ := bnd hf
      refine v_callV (r := some (.int y3.1)) (As := [.int v2, .int 200]) (rest := []) (K := 51) C (mX4_orNone hL hy3) cw_X4_orNone wd_891 (by decide) rfl rfl ⟨Nat.le_of_ble_eq_true rfl, Nat.le_of_ble_eq_true rfl⟩ rfl rfl (Nat.le_of_ble_eq_true rfl) dX4_gone_52 ?_
      exact v_iret C dX4_gone_55 (fin_im hf hQ)
    · refine v_aload_n C 0 dX4_gone_26 rfl rfl ?_
      refine g_getR (K := 51) (i := 0) (j := 51 + 1) C (by decide) rfl rfl inX4 (by decide) rfl wd_667 dX4_gone_27 ?_
      refine v_iconst (v := 5) C dX4_gone_30 (by decide) ?_
      refine v_iload_n C 1 dX4_gone_31 rfl rfl ?_
      refine v_iadd C dX4_gone_32 ?_
      refine s_ald (k := 1) C hL (by decide) rfl dX4_gone_33 hf (fun a4 hf => ?_)
      refine v_if_lt (tgt := 47) C dX4_gone_34 (by decide) hf (fun hf => ?_) (fun hf => ?_)
      · refine v_aload_n C 0 dX4_gone_47 rfl rfl ?_
        refine v_iload_n C 2 dX4_gone_48 rfl rfl ?_
        refine v_sipush (v := 200) C dX4_gone_49 (by decide) ?_
        obtain ⟨y5, hy5, hf⟩ := bnd hf
        refine v_callV (r := some (.int y5.1)) (As := [.int v2, .int 200]) (rest := []) (K := 51) C (mX4_orNone hL hy5) cw_X4_orNone wd_891 (by decide) rfl rfl ⟨Nat.le_of_ble_eq_true rfl, Nat.le_of_ble_eq_true rfl⟩ rfl rfl (Nat.le_of_ble_eq_true rfl) dX4_gone_52 ?_
        exact v_iret C dX4_gone_55 (fin_im hf hQ)
      · refine v_aload_n C 0 dX4_gone_37 rfl rfl ?_
        obtain ⟨y6, hy6, hf⟩ := bnd hf
        refine v_callV (r := none) (As := []) (rest := []) (K := 51) C (mX4_anHour hL hy6) cw_X4_anHour wd_824 (by decide) rfl rfl ⟨Nat.le_of_ble_eq_true rfl, Nat.le_of_ble_eq_true rfl⟩ rfl rfl (Nat.le_of_ble_eq_true rfl) dX4_gone_38 ?_
        refine v_iinc (q := 2) (v := v2 + 1) (lv' := [(0, .ref (ad B 51)), (1, .int v1), (2, .int (v2 + 1))]) C [1, 2, 0] dX4_gone_41 rfl rfl (by decide) rfl ?_
        refine v_goto (tgt := 19) C dX4_gone_44 (by decide) ?_
        exact ih y6 (v2 + 1) hf
def fX4_gone (N : Nat) (x : St2) (v1 : Int32) : Option (Int32 × St2) := (fX4_isCell v1).bind fun y1 => if y1 = 0 then ((fX4_finds x 0).bind fun y8 => some (y8.1, y8.2)) else ((fX4_lends N x).bind fun y2 => fX4_gone_19 N v1 N y2 0)
set_option maxHeartbeats 4000000 in
set_option maxRecDepth 100000 in
theorem tX4_gone {E : EE} {B : BB} {l : Launch} {L : St2 → St2} {N : Nat} {x : St2} {v1 : Int32} {res : (Int32 × St2)} (C : Cx E B l cX4_gone RX4 (some .int) 3 4 90) (hL : Ln 51 10 L) (hQ : Fin9 E B (some (.int res.1)) (L res.2)) (hf : fX4_gone N x v1 = some res) : V E B (L x) 0 [(0, .ref (ad B 51)), (1, .int v1)] [] := by
  unfold fX4_gone at hf
  refine v_iload_n C 1 dX4_gone_0 rfl rfl ?_
  obtain ⟨y1, hy1, hf⟩ := bnd hf
  refine v_callS (r := some (.int y1)) (As := [.int v1]) (rest := []) C (mX4_isCell  hy1) cw_X4_isCell wd_717 ⟨Nat.le_of_ble_eq_true rfl, Nat.le_of_ble_eq_true rfl⟩ rfl rfl (Nat.le_of_ble_eq_true rfl) dX4_gone_1 ?_
  refine v_if_ne (tgt := 13) C dX4_gone_4 (by decide) hf (fun hf => ?_) (fun hf => ?_)
  · refine v_aload_n C 0 dX4_gone_13 rfl rfl ?_
    obtain ⟨y2, hy2, hf⟩ := bnd hf
    refine v_callV (r := none) (As := []) (rest := []) (K := 51) C (mX4_lends hL hy2) cw_X4_lends wd_868 (by decide) rfl rfl ⟨Nat.le_of_ble_eq_true rfl, Nat.le_of_ble_eq_true rfl⟩ rfl rfl (Nat.le_of_ble_eq_true rfl) dX4_gone_14 ?_
    refine v_iconst (v := 0) C dX4_gone_17 (by decide) ?_
    refine v_istore_n (lv' := [(0, .ref (ad B 51)), (1, .int v1), (2, .int 0)]) C [1, 2, 0] dX4_gone_18 rfl (by decide) rfl ?_
    exact tX4_gone_19 C hL hQ N y2 0 hf
  · refine v_aload_n C 0 dX4_gone_7 rfl rfl ?_
    refine v_iconst (v := 0) C dX4_gone_8 (by decide) ?_
    obtain ⟨y8, hy8, hf⟩ := bnd hf
    refine v_callV (r := some (.int y8.1)) (As := [.int 0]) (rest := []) (K := 51) C (mX4_finds hL hy8) cw_X4_finds wd_725 (by decide) rfl rfl ⟨Nat.le_of_ble_eq_true rfl, Nat.le_of_ble_eq_true rfl⟩ rfl rfl (Nat.le_of_ble_eq_true rfl) dX4_gone_9 ?_
    exact v_iret C dX4_gone_12 (fin_im hf hQ)
theorem mX4_gone {B : BB} {l : Launch} {L : St2 → St2} {N : Nat} {x : St2} {v1 : Int32} {res : (Int32 × St2)} (hL : Ln 51 10 L) (hf : fX4_gone N x v1 = some res) : Ret l B yX4_gone cX4_gone 3 (some .int) 4 90 [.ref (ad B 51), .int v1] (L x) (some (.int res.1)) (L res.2) := ret_of (own := RX4) (by decide) rfl (Nat.le_of_ble_eq_true rfl) (fun E C hQ => tX4_gone C hL hQ hf)
def fX4_meet_33 (N : Nat) (v1 : Int32) (v2 : Int32) : Nat → St2 → Int32 → Option (Int32 × St2)
  | 0, _, _ => none
  | n + 1, x, v3 => if 200 < v3 then ((fX4_orNone N x v3 200).bind fun y6 => some (y6.1, y6.2)) else ((fX4_its x v1 1).bind fun y7 => (fX4_its x v2 1).bind fun y8 => if y7 = y8 then ((fX4_orNone N x v3 200).bind fun y9 => some (y9.1, y9.2)) else ((fX4_anHour N x).bind fun y10 => (fX4_meet_33 N v1 v2 n) y10 (v3 + 1)))
set_option maxHeartbeats 4000000 in
set_option maxRecDepth 100000 in
theorem tX4_meet_33 {E : EE} {B : BB} {l : Launch} {L : St2 → St2} {N : Nat} {v1 : Int32} {v2 : Int32} {res : (Int32 × St2)} (C : Cx E B l cX4_meet RX4 (some .int) 4 4 90) (hL : Ln 51 10 L) (hQ : Fin9 E B (some (.int res.1)) (L res.2)) : ∀ (n : Nat) (x : St2) (v3 : Int32), fX4_meet_33 N v1 v2 n x v3 = some res → V E B (L x) 33 [(0, .ref (ad B 51)), (1, .int v1), (2, .int v2), (3, .int v3)] [] := by
  intro n
  induction n with
  | zero =>
    intro x v3 hf
    cases hf
  | succ n ih =>
    intro x v3 hf
    rw [fX4_meet_33] at hf
    refine v_iload_n C 3 dX4_meet_33 rfl rfl ?_
    refine v_sipush (v := 200) C dX4_meet_34 (by decide) ?_
    refine v_icmp_gt (tgt := 65) C dX4_meet_37 (by decide) hf (fun hf => ?_) (fun hf => ?_)
    · refine v_aload_n C 0 dX4_meet_65 rfl rfl ?_
      refine v_iload_n C 3 dX4_meet_66 rfl rfl ?_
      refine v_sipush (v := 200) C dX4_meet_67 (by decide) ?_
      obtain ⟨y6, hy6, hf⟩ := bnd hf
      refine v_callV (r := some (.int y6.1)) (As := [.int v3, .int 200]) (rest := []) (K := 51) C (mX4_orNone hL hy6) cw_X4_orNone wd_891 (by decide) rfl rfl ⟨Nat.le_of_ble_eq_true rfl, Nat.le_of_ble_eq_true rfl⟩ rfl rfl (Nat.le_of_ble_eq_true rfl) dX4_meet_70 ?_
      exact v_iret C dX4_meet_73 (fin_im hf hQ)
    · refine v_aload_n C 0 dX4_meet_40 rfl rfl ?_
      refine v_iload_n C 1 dX4_meet_41 rfl rfl ?_
      refine v_iconst (v := 1) C dX4_meet_42 (by decide) ?_
      obtain ⟨y7, hy7, hf⟩ := bnd hf
      refine v_callV (r := some (.int y7)) (As := [.int v1, .int 1]) (rest := []) (K := 51) C (mX4_its hL hy7) cw_X4_its wd_734 (by decide) rfl rfl ⟨Nat.le_of_ble_eq_true rfl, Nat.le_of_ble_eq_true rfl⟩ rfl rfl (Nat.le_of_ble_eq_true rfl) dX4_meet_43 ?_
      refine v_aload_n C 0 dX4_meet_46 rfl rfl ?_
      refine v_iload_n C 2 dX4_meet_47 rfl rfl ?_
      refine v_iconst (v := 1) C dX4_meet_48 (by decide) ?_
      obtain ⟨y8, hy8, hf⟩ := bnd hf
      refine v_callV (r := some (.int y8)) (As := [.int v2, .int 1]) (rest := [.int y7]) (K := 51) C (mX4_its hL hy8) cw_X4_its wd_734 (by decide) rfl rfl ⟨Nat.le_of_ble_eq_true rfl, Nat.le_of_ble_eq_true rfl⟩ rfl rfl (Nat.le_of_ble_eq_true rfl) dX4_meet_49 ?_
      refine v_icmp_eq (tgt := 65) C dX4_meet_52 (by decide) hf (fun hf => ?_) (fun hf => ?_)
      · refine v_aload_n C 0 dX4_meet_65 rfl rfl ?_
        refine v_iload_n C 3 dX4_meet_66 rfl rfl ?_
        refine v_sipush (v := 200) C dX4_meet_67 (by decide) ?_
        obtain ⟨y9, hy9, hf⟩ := bnd hf
        refine v_callV (r := some (.int y9.1)) (As := [.int v3, .int 200]) (rest := []) (K := 51) C (mX4_orNone hL hy9) cw_X4_orNone wd_891 (by decide) rfl rfl ⟨Nat.le_of_ble_eq_true rfl, Nat.le_of_ble_eq_true rfl⟩ rfl rfl (Nat.le_of_ble_eq_true rfl) dX4_meet_70 ?_
        exact v_iret C dX4_meet_73 (fin_im hf hQ)
      · refine v_aload_n C 0 dX4_meet_55 rfl rfl ?_
        obtain ⟨y10, hy10, hf⟩ := bnd hf
        refine v_callV (r := none) (As := []) (rest := []) (K := 51) C (mX4_anHour hL hy10) cw_X4_anHour wd_824 (by decide) rfl rfl ⟨Nat.le_of_ble_eq_true rfl, Nat.le_of_ble_eq_true rfl⟩ rfl rfl (Nat.le_of_ble_eq_true rfl) dX4_meet_56 ?_
        refine v_iinc (q := 3) (v := v3 + 1) (lv' := [(0, .ref (ad B 51)), (1, .int v1), (2, .int v2), (3, .int (v3 + 1))]) C [1, 2, 3, 0] dX4_meet_59 rfl rfl (by decide) rfl ?_
        refine v_goto (tgt := 33) C dX4_meet_62 (by decide) ?_
        exact ih y10 (v3 + 1) hf
def fX4_meet (N : Nat) (x : St2) (v1 : Int32) (v2 : Int32) : Option (Int32 × St2) := (fX4_isWalker x v1).bind fun y1 => if y1 = 0 then ((fX4_finds x 0).bind fun y2 => some (y2.1, y2.2)) else ((fX4_isWalker x v2).bind fun y3 => if y3 = 0 then ((fX4_finds x 0).bind fun y4 => some (y4.1, y4.2)) else (if v1 = v2 then ((fX4_finds x 0).bind fun y12 => some (y12.1, y12.2)) else ((fX4_lends N x).bind fun y5 => fX4_meet_33 N v1 v2 N y5 0)))
set_option maxHeartbeats 4000000 in
set_option maxRecDepth 100000 in
theorem tX4_meet {E : EE} {B : BB} {l : Launch} {L : St2 → St2} {N : Nat} {x : St2} {v1 : Int32} {v2 : Int32} {res : (Int32 × St2)} (C : Cx E B l cX4_meet RX4 (some .int) 4 4 90) (hL : Ln 51 10 L) (hQ : Fin9 E B (some (.int res.1)) (L res.2)) (hf : fX4_meet N x v1 v2 = some res) : V E B (L x) 0 [(0, .ref (ad B 51)), (1, .int v1), (2, .int v2)] [] := by
  unfold fX4_meet at hf
  refine v_aload_n C 0 dX4_meet_0 rfl rfl ?_
  refine v_iload_n C 1 dX4_meet_1 rfl rfl ?_
  obtain ⟨y1, hy1, hf⟩ := bnd hf
  refine v_callV (r := some (.int y1)) (As := [.int v1]) (rest := []) (K := 51) C (mX4_isWalker hL hy1) cw_X4_isWalker wd_742 (by decide) rfl rfl ⟨Nat.le_of_ble_eq_true rfl, Nat.le_of_ble_eq_true rfl⟩ rfl rfl (Nat.le_of_ble_eq_true rfl) dX4_meet_2 ?_
  refine v_if_eq (tgt := 21) C dX4_meet_5 (by decide) hf (fun hf => ?_) (fun hf => ?_)
  · refine v_aload_n C 0 dX4_meet_21 rfl rfl ?_
    refine v_iconst (v := 0) C dX4_meet_22 (by decide) ?_
    obtain ⟨y2, hy2, hf⟩ := bnd hf
    refine v_callV (r := some (.int y2.1)) (As := [.int 0]) (rest := []) (K := 51) C (mX4_finds hL hy2) cw_X4_finds wd_725 (by decide) rfl rfl ⟨Nat.le_of_ble_eq_true rfl, Nat.le_of_ble_eq_true rfl⟩ rfl rfl (Nat.le_of_ble_eq_true rfl) dX4_meet_23 ?_
    exact v_iret C dX4_meet_26 (fin_im hf hQ)
  · refine v_aload_n C 0 dX4_meet_8 rfl rfl ?_
    refine v_iload_n C 2 dX4_meet_9 rfl rfl ?_
    obtain ⟨y3, hy3, hf⟩ := bnd hf
    refine v_callV (r := some (.int y3)) (As := [.int v2]) (rest := []) (K := 51) C (mX4_isWalker hL hy3) cw_X4_isWalker wd_742 (by decide) rfl rfl ⟨Nat.le_of_ble_eq_true rfl, Nat.le_of_ble_eq_true rfl⟩ rfl rfl (Nat.le_of_ble_eq_true rfl) dX4_meet_10 ?_
    refine v_if_eq (tgt := 21) C dX4_meet_13 (by decide) hf (fun hf => ?_) (fun hf => ?_)
    · refine v_aload_n C 0 dX4_meet_21 rfl rfl ?_
      refine v_iconst (v := 0) C dX4_meet_22 (by decide) ?_
      obtain ⟨y4, hy4, hf⟩ := bnd hf
      refine v_callV (r := some (.int y4.1)) (As := [.int 0]) (rest := []) (K := 51) C (mX4_finds hL hy4) cw_X4_finds wd_725 (by decide) rfl rfl ⟨Nat.le_of_ble_eq_true rfl, Nat.le_of_ble_eq_true rfl⟩ rfl rfl (Nat.le_of_ble_eq_true rfl) dX4_meet_23 ?_
      exact v_iret C dX4_meet_26 (fin_im hf hQ)
    · refine v_iload_n C 1 dX4_meet_16 rfl rfl ?_
      refine v_iload_n C 2 dX4_meet_17 rfl rfl ?_
      refine v_icmp_ne (tgt := 27) C dX4_meet_18 (by decide) hf (fun hf => ?_) (fun hf => ?_)
      · refine v_aload_n C 0 dX4_meet_27 rfl rfl ?_
        obtain ⟨y5, hy5, hf⟩ := bnd hf
        refine v_callV (r := none) (As := []) (rest := []) (K := 51) C (mX4_lends hL hy5) cw_X4_lends wd_868 (by decide) rfl rfl ⟨Nat.le_of_ble_eq_true rfl, Nat.le_of_ble_eq_true rfl⟩ rfl rfl (Nat.le_of_ble_eq_true rfl) dX4_meet_28 ?_
        refine v_iconst (v := 0) C dX4_meet_31 (by decide) ?_
        refine v_istore_n (lv' := [(0, .ref (ad B 51)), (1, .int v1), (2, .int v2), (3, .int 0)]) C [1, 2, 3, 0] dX4_meet_32 rfl (by decide) rfl ?_
        exact tX4_meet_33 C hL hQ N y5 0 hf
      · refine v_aload_n C 0 dX4_meet_21 rfl rfl ?_
        refine v_iconst (v := 0) C dX4_meet_22 (by decide) ?_
        obtain ⟨y12, hy12, hf⟩ := bnd hf
        refine v_callV (r := some (.int y12.1)) (As := [.int 0]) (rest := []) (K := 51) C (mX4_finds hL hy12) cw_X4_finds wd_725 (by decide) rfl rfl ⟨Nat.le_of_ble_eq_true rfl, Nat.le_of_ble_eq_true rfl⟩ rfl rfl (Nat.le_of_ble_eq_true rfl) dX4_meet_23 ?_
        exact v_iret C dX4_meet_26 (fin_im hf hQ)
theorem mX4_meet {B : BB} {l : Launch} {L : St2 → St2} {N : Nat} {x : St2} {v1 : Int32} {v2 : Int32} {res : (Int32 × St2)} (hL : Ln 51 10 L) (hf : fX4_meet N x v1 v2 = some res) : Ret l B yX4_meet cX4_meet 4 (some .int) 4 90 [.ref (ad B 51), .int v1, .int v2] (L x) (some (.int res.1)) (L res.2) := ret_of (own := RX4) (by decide) rfl (Nat.le_of_ble_eq_true rfl) (fun E C hQ => tX4_meet C hL hQ hf)
def fX4_bestBy_51 (N : Nat) (k9 : St2 → Int32 → Int32 → Int32 → Option (Int32 × St2)) (x : St2) (v1 : Int32) (v2 : Int32) (v4 : Int32) (v5 : Int32) (v7 : Int32) (v8 : Int32) (v9 : Int32) (s0 : Int32) : Option (Int32 × St2) := (some (imax v7 v9)).bind fun w4 => k9 x s0 w4 (v8 + 1)
set_option maxHeartbeats 4000000 in
set_option maxRecDepth 100000 in
theorem tX4_bestBy_51 {E : EE} {B : BB} {l : Launch} {L : St2 → St2} {N : Nat} {k9 : St2 → Int32 → Int32 → Int32 → Option (Int32 × St2)} {x : St2} {v1 : Int32} {v2 : Int32} {v4 : Int32} {v5 : Int32} {v7 : Int32} {v8 : Int32} {v9 : Int32} {s0 : Int32} {res : (Int32 × St2)} (C : Cx E B l cX4_bestBy RX4 (some .int) 10 6 135) (hL : Ln 51 10 L) (hQ : Fin9 E B (some (.int res.1)) (L res.2)) (hk9 : ∀ (x : St2) (v6 : Int32) (v7 : Int32) (v8 : Int32), k9 x v6 v7 v8 = some res → V E B (L x) 9 [(0, .ref (ad B 51)), (1, .int v1), (2, .int v2), (4, .int v4), (5, .int v5), (6, .int v6), (7, .int v7), (8, .int v8)] []) (hf : fX4_bestBy_51 N k9 x v1 v2 v4 v5 v7 v8 v9 s0 = some res) : V E B (L x) 51 [(0, .ref (ad B 51)), (1, .int v1), (2, .int v2), (4, .int v4), (5, .int v5), (7, .int v7), (8, .int v8), (9, .int v9)] [.int s0] := by
  unfold fX4_bestBy_51 at hf
  refine v_istore (lv' := [(0, .ref (ad B 51)), (1, .int v1), (2, .int v2), (4, .int v4), (5, .int v5), (6, .int s0), (7, .int v7), (8, .int v8), (9, .int v9)]) C [1, 2, 3, 4, 5, 0, 6, 7, 8] dX4_bestBy_51 (by decide) rfl ?_
  refine v_iload C 6 dX4_bestBy_53 rfl ?_
  refine v_iload C 8 dX4_bestBy_55 rfl ?_
  refine w_mmax C wd_796 (by decide) (Nat.le_of_ble_eq_true rfl) dX4_bestBy_57 ?_
  refine v_top hf (fun w4 hf => ?_)
  refine v_istore (lv' := [(0, .ref (ad B 51)), (1, .int v1), (2, .int v2), (4, .int v4), (5, .int v5), (6, .int s0), (7, .int w4), (8, .int v8), (9, .int v9)]) C [1, 2, 3, 4, 5, 6, 0, 7, 8] dX4_bestBy_60 (by decide) rfl ?_
  refine v_iinc (q := 7) (v := v8 + 1) (lv' := [(0, .ref (ad B 51)), (1, .int v1), (2, .int v2), (4, .int v4), (5, .int v5), (6, .int s0), (7, .int w4), (8, .int (v8 + 1)), (9, .int v9)]) C [1, 2, 3, 4, 5, 6, 7, 0, 8] dX4_bestBy_62 rfl rfl (by decide) rfl ?_
  refine v_goto (tgt := 9) C dX4_bestBy_65 (by decide) ?_
  refine v_sub [0, 1, 2, 3, 4, 5, 6, 7] rfl ?_
  exact hk9 x s0 w4 (v8 + 1) hf
def fX4_bestBy_9 (N : Nat) (v1 : Int32) (v2 : Int32) (v4 : Int32) (v5 : Int32) : Nat → St2 → Int32 → Int32 → Int32 → Option (Int32 × St2)
  | 0, _, _, _, _ => none
  | n + 1, x, v6, v7, v8 => if v4 < v8 then (some (v6, x)) else ((fX4_lends N x).bind fun y1 => (fX4_sets y1 v1 v2 v8).bind fun y2 => (fX4_workIn N y2 v1 v5).bind fun y3 => if y3.1 ≤ v7 then (fX4_bestBy_51 N (fX4_bestBy_9 N v1 v2 v4 v5 n) y3.2 v1 v2 v4 v5 v7 v8 y3.1 v6) else (fX4_bestBy_51 N (fX4_bestBy_9 N v1 v2 v4 v5 n) y3.2 v1 v2 v4 v5 v7 v8 y3.1 v8))
set_option maxHeartbeats 4000000 in
set_option maxRecDepth 100000 in
theorem tX4_bestBy_9 {E : EE} {B : BB} {l : Launch} {L : St2 → St2} {N : Nat} {v1 : Int32} {v2 : Int32} {v4 : Int32} {v5 : Int32} {res : (Int32 × St2)} (C : Cx E B l cX4_bestBy RX4 (some .int) 10 6 135) (hL : Ln 51 10 L) (hQ : Fin9 E B (some (.int res.1)) (L res.2)) : ∀ (n : Nat) (x : St2) (v6 : Int32) (v7 : Int32) (v8 : Int32), fX4_bestBy_9 N v1 v2 v4 v5 n x v6 v7 v8 = some res → V E B (L x) 9 [(0, .ref (ad B 51)), (1, .int v1), (2, .int v2), (4, .int v4), (5, .int v5), (6, .int v6), (7, .int v7), (8, .int v8)] [] := by
  intro n
  induction n with
  | zero =>
    intro x v6 v7 v8 hf
    cases hf
  | succ n ih =>
    intro x v6 v7 v8 hf
    rw [fX4_bestBy_9] at hf
    refine v_iload C 7 dX4_bestBy_9 rfl ?_
    refine v_iload C 3 dX4_bestBy_11 rfl ?_
    refine v_icmp_gt (tgt := 68) C dX4_bestBy_13 (by decide) hf (fun hf => ?_) (fun hf => ?_)
    · refine v_iload C 5 dX4_bestBy_68 rfl ?_
      exact v_iret C dX4_bestBy_70 (fin_im hf hQ)
    · refine v_aload_n C 0 dX4_bestBy_16 rfl rfl ?_
      obtain ⟨y1, hy1, hf⟩ := bnd hf
      refine v_callV (r := none) (As := []) (rest := []) (K := 51) C (mX4_lends hL hy1) cw_X4_lends wd_868 (by decide) rfl rfl ⟨Nat.le_of_ble_eq_true rfl, Nat.le_of_ble_eq_true rfl⟩ rfl rfl (Nat.le_of_ble_eq_true rfl) dX4_bestBy_17 ?_
      refine v_aload_n C 0 dX4_bestBy_20 rfl rfl ?_
      refine v_iload_n C 1 dX4_bestBy_21 rfl rfl ?_
      refine v_iload_n C 2 dX4_bestBy_22 rfl rfl ?_
      refine v_iload C 7 dX4_bestBy_23 rfl ?_
      obtain ⟨y2, hy2, hf⟩ := bnd hf
      refine v_callV (r := none) (As := [.int v1, .int v2, .int v8]) (rest := []) (K := 51) C (mX4_sets hL hy2) cw_X4_sets wd_780 (by decide) rfl rfl ⟨Nat.le_of_ble_eq_true rfl, Nat.le_of_ble_eq_true rfl⟩ rfl rfl (Nat.le_of_ble_eq_true rfl) dX4_bestBy_25 ?_
      refine v_aload_n C 0 dX4_bestBy_28 rfl rfl ?_
      refine v_iload_n C 1 dX4_bestBy_29 rfl rfl ?_
      refine v_iload C 4 dX4_bestBy_30 rfl ?_
      obtain ⟨y3, hy3, hf⟩ := bnd hf
      refine v_callV (r := some (.int y3.1)) (As := [.int v1, .int v5]) (rest := []) (K := 51) C (mX4_workIn hL hy3) cw_X4_workIn wd_883 (by decide) rfl rfl ⟨Nat.le_of_ble_eq_true rfl, Nat.le_of_ble_eq_true rfl⟩ rfl rfl (Nat.le_of_ble_eq_true rfl) dX4_bestBy_32 ?_
      refine v_istore (lv' := [(0, .ref (ad B 51)), (1, .int v1), (2, .int v2), (4, .int v4), (5, .int v5), (6, .int v6), (7, .int v7), (8, .int v8), (9, .int y3.1)]) C [1, 2, 3, 4, 5, 6, 7, 8, 0] dX4_bestBy_35 (by decide) rfl ?_
      refine v_iload C 8 dX4_bestBy_37 rfl ?_
      refine v_iload C 6 dX4_bestBy_39 rfl ?_
      refine v_icmp_le (tgt := 49) C dX4_bestBy_41 (by decide) hf (fun hf => ?_) (fun hf => ?_)
      · refine v_iload C 5 dX4_bestBy_49 rfl ?_
        refine v_sub [0, 1, 2, 3, 4, 6, 7, 8] rfl ?_
        exact tX4_bestBy_51 C hL hQ ih hf
      · refine v_iload C 7 dX4_bestBy_44 rfl ?_
        refine v_goto (tgt := 51) C dX4_bestBy_46 (by decide) ?_
        refine v_sub [0, 1, 2, 3, 4, 6, 7, 8] rfl ?_
        exact tX4_bestBy_51 C hL hQ ih hf
def fX4_bestBy (N : Nat) (x : St2) (v1 : Int32) (v2 : Int32) (v3 : Int32) (v4 : Int32) (v5 : Int32) : Option (Int32 × St2) := fX4_bestBy_9 N v1 v2 v4 v5 N x (-1) (-1) v3
set_option maxHeartbeats 4000000 in
set_option maxRecDepth 100000 in
theorem tX4_bestBy {E : EE} {B : BB} {l : Launch} {L : St2 → St2} {N : Nat} {x : St2} {v1 : Int32} {v2 : Int32} {v3 : Int32} {v4 : Int32} {v5 : Int32} {res : (Int32 × St2)} (C : Cx E B l cX4_bestBy RX4 (some .int) 10 6 135) (hL : Ln 51 10 L) (hQ : Fin9 E B (some (.int res.1)) (L res.2)) (hf : fX4_bestBy N x v1 v2 v3 v4 v5 = some res) : V E B (L x) 0 [(0, .ref (ad B 51)), (1, .int v1), (2, .int v2), (3, .int v3), (4, .int v4), (5, .int v5)] [] := by
  unfold fX4_bestBy at hf
  refine v_iconst (v := (-1)) C dX4_bestBy_0 (by decide) ?_
  refine v_istore (lv' := [(0, .ref (ad B 51)), (1, .int v1), (2, .int v2), (3, .int v3), (4, .int v4), (5, .int v5), (6, .int (-1))]) C [1, 2, 3, 4, 5, 6, 0] dX4_bestBy_1 (by decide) rfl ?_
  refine v_iconst (v := (-1)) C dX4_bestBy_3 (by decide) ?_
  refine v_istore (lv' := [(0, .ref (ad B 51)), (1, .int v1), (2, .int v2), (3, .int v3), (4, .int v4), (5, .int v5), (6, .int (-1)), (7, .int (-1))]) C [1, 2, 3, 4, 5, 6, 7, 0] dX4_bestBy_4 (by decide) rfl ?_
  refine v_iload_n C 3 dX4_bestBy_6 rfl rfl ?_
  refine v_istore (lv' := [(0, .ref (ad B 51)), (1, .int v1), (2, .int v2), (3, .int v3), (4, .int v4), (5, .int v5), (6, .int (-1)), (7, .int (-1)), (8, .int v3)]) C [1, 2, 3, 4, 5, 6, 7, 8, 0] dX4_bestBy_7 (by decide) rfl ?_
  refine v_sub [0, 1, 2, 4, 5, 6, 7, 8] rfl ?_
  exact tX4_bestBy_9 C hL hQ N x (-1) (-1) v3 hf
theorem mX4_bestBy {B : BB} {l : Launch} {L : St2 → St2} {N : Nat} {x : St2} {v1 : Int32} {v2 : Int32} {v3 : Int32} {v4 : Int32} {v5 : Int32} {res : (Int32 × St2)} (hL : Ln 51 10 L) (hf : fX4_bestBy N x v1 v2 v3 v4 v5 = some res) : Ret l B yX4_bestBy cX4_bestBy 10 (some .int) 6 135 [.ref (ad B 51), .int v1, .int v2, .int v3, .int v4, .int v5] (L x) (some (.int res.1)) (L res.2) := ret_of (own := RX4) (by decide) rfl (Nat.le_of_ble_eq_true rfl) (fun E C hQ => tX4_bestBy C hL hQ hf)
def fX4_isAsked (x : St2) (v1 : Int32) (v2 : Int32) : Option Int32 := (fX4_isWalker x v1).bind fun y1 => if y1 = 0 then (some 0) else ((fX4_isSoon v2).bind fun y2 => if y2 = 0 then (some 0) else (some 1))
set_option maxHeartbeats 4000000 in
set_option maxRecDepth 100000 in
theorem tX4_isAsked {E : EE} {B : BB} {l : Launch} {L : St2 → St2} {x : St2} {v1 : Int32} {v2 : Int32} {res : Int32} (C : Cx E B l cX4_isAsked RX4 (some .boolean) 3 2 46) (hL : Ln 51 10 L) (hQ : Fin9 E B (some (.int res)) (L x)) (hf : fX4_isAsked x v1 v2 = some res) : V E B (L x) 0 [(0, .ref (ad B 51)), (1, .int v1), (2, .int v2)] [] := by
  unfold fX4_isAsked at hf
  refine v_aload_n C 0 dX4_isAsked_0 rfl rfl ?_
  refine v_iload_n C 1 dX4_isAsked_1 rfl rfl ?_
  obtain ⟨y1, hy1, hf⟩ := bnd hf
  refine v_callV (r := some (.int y1)) (As := [.int v1]) (rest := []) (K := 51) C (mX4_isWalker hL hy1) cw_X4_isWalker wd_742 (by decide) rfl rfl ⟨Nat.le_of_ble_eq_true rfl, Nat.le_of_ble_eq_true rfl⟩ rfl rfl (Nat.le_of_ble_eq_true rfl) dX4_isAsked_2 ?_
  refine v_if_eq (tgt := 19) C dX4_isAsked_5 (by decide) hf (fun hf => ?_) (fun hf => ?_)
  · refine v_iconst (v := 0) C dX4_isAsked_19 (by decide) ?_
    exact v_zret C (Or.inl rfl) dX4_isAsked_20 (fin_i hf hQ)
  · refine v_iload_n C 2 dX4_isAsked_8 rfl rfl ?_
    obtain ⟨y2, hy2, hf⟩ := bnd hf
    refine v_callS (r := some (.int y2)) (As := [.int v2]) (rest := []) C (mX4_isSoon  hy2) cw_X4_isSoon wd_911 ⟨Nat.le_of_ble_eq_true rfl, Nat.le_of_ble_eq_true rfl⟩ rfl rfl (Nat.le_of_ble_eq_true rfl) dX4_isAsked_9 ?_
    refine v_if_eq (tgt := 19) C dX4_isAsked_12 (by decide) hf (fun hf => ?_) (fun hf => ?_)
    · refine v_iconst (v := 0) C dX4_isAsked_19 (by decide) ?_
      exact v_zret C (Or.inl rfl) dX4_isAsked_20 (fin_i hf hQ)
    · refine v_iconst (v := 1) C dX4_isAsked_15 (by decide) ?_
      refine v_goto (tgt := 20) C dX4_isAsked_16 (by decide) ?_
      exact v_zret C (Or.inr rfl) dX4_isAsked_20 (fin_i hf hQ)
theorem mX4_isAsked {B : BB} {l : Launch} {L : St2 → St2} {x : St2} {v1 : Int32} {v2 : Int32} {res : Int32} (hL : Ln 51 10 L) (hf : fX4_isAsked x v1 v2 = some res) : Ret l B yX4_isAsked cX4_isAsked 3 (some .boolean) 2 46 [.ref (ad B 51), .int v1, .int v2] (L x) (some (.int res)) (L x) := ret_of (own := RX4) (by decide) rfl (Nat.le_of_ble_eq_true rfl) (fun E C hQ => tX4_isAsked C hL hQ hf)
def fX4_strideFor (N : Nat) (x : St2) (v1 : Int32) (v2 : Int32) : Option (Int32 × St2) := (fX4_isAsked x v1 v2).bind fun y1 => if y1 = 0 then ((fX4_finds x 0).bind fun y2 => some (y2.1, y2.2)) else ((fX4_bestBy N x v1 3 1 6 v2).bind fun y3 => some (y3.1, y3.2))
set_option maxHeartbeats 4000000 in
set_option maxRecDepth 100000 in
theorem tX4_strideFor {E : EE} {B : BB} {l : Launch} {L : St2 → St2} {N : Nat} {x : St2} {v1 : Int32} {v2 : Int32} {res : (Int32 × St2)} (C : Cx E B l cX4_strideFor RX4 (some .int) 3 7 164) (hL : Ln 51 10 L) (hQ : Fin9 E B (some (.int res.1)) (L res.2)) (hf : fX4_strideFor N x v1 v2 = some res) : V E B (L x) 0 [(0, .ref (ad B 51)), (1, .int v1), (2, .int v2)] [] := by
  unfold fX4_strideFor at hf
  refine v_aload_n C 0 dX4_strideFor_0 rfl rfl ?_
  refine v_iload_n C 1 dX4_strideFor_1 rfl rfl ?_
  refine v_iload_n C 2 dX4_strideFor_2 rfl rfl ?_
  obtain ⟨y1, hy1, hf⟩ := bnd hf
  refine v_callV (r := some (.int y1)) (As := [.int v1, .int v2]) (rest := []) (K := 51) C (mX4_isAsked hL hy1) cw_X4_isAsked wd_907 (by decide) rfl rfl ⟨Nat.le_of_ble_eq_true rfl, Nat.le_of_ble_eq_true rfl⟩ rfl rfl (Nat.le_of_ble_eq_true rfl) dX4_strideFor_3 ?_
  refine v_if_eq (tgt := 22) C dX4_strideFor_6 (by decide) hf (fun hf => ?_) (fun hf => ?_)
  · refine v_aload_n C 0 dX4_strideFor_22 rfl rfl ?_
    refine v_iconst (v := 0) C dX4_strideFor_23 (by decide) ?_
    obtain ⟨y2, hy2, hf⟩ := bnd hf
    refine v_callV (r := some (.int y2.1)) (As := [.int 0]) (rest := []) (K := 51) C (mX4_finds hL hy2) cw_X4_finds wd_725 (by decide) rfl rfl ⟨Nat.le_of_ble_eq_true rfl, Nat.le_of_ble_eq_true rfl⟩ rfl rfl (Nat.le_of_ble_eq_true rfl) dX4_strideFor_24 ?_
    exact v_iret C dX4_strideFor_27 (fin_im hf hQ)
  · refine v_aload_n C 0 dX4_strideFor_9 rfl rfl ?_
    refine v_iload_n C 1 dX4_strideFor_10 rfl rfl ?_
    refine v_iconst (v := 3) C dX4_strideFor_11 (by decide) ?_
    refine v_iconst (v := 1) C dX4_strideFor_12 (by decide) ?_
    refine v_bipush (v := 6) C dX4_strideFor_13 (by decide) ?_
    refine v_iload_n C 2 dX4_strideFor_15 rfl rfl ?_
    obtain ⟨y3, hy3, hf⟩ := bnd hf
    refine v_callV (r := some (.int y3.1)) (As := [.int v1, .int 3, .int 1, .int 6, .int v2]) (rest := []) (K := 51) C (mX4_bestBy hL hy3) cw_X4_bestBy wd_915 (by decide) rfl rfl ⟨Nat.le_of_ble_eq_true rfl, Nat.le_of_ble_eq_true rfl⟩ rfl rfl (Nat.le_of_ble_eq_true rfl) dX4_strideFor_16 ?_
    refine v_goto (tgt := 27) C dX4_strideFor_19 (by decide) ?_
    exact v_iret C dX4_strideFor_27 (fin_im hf hQ)
theorem mX4_strideFor {B : BB} {l : Launch} {L : St2 → St2} {N : Nat} {x : St2} {v1 : Int32} {v2 : Int32} {res : (Int32 × St2)} (hL : Ln 51 10 L) (hf : fX4_strideFor N x v1 v2 = some res) : Ret l B yX4_strideFor cX4_strideFor 3 (some .int) 7 164 [.ref (ad B 51), .int v1, .int v2] (L x) (some (.int res.1)) (L res.2) := ret_of (own := RX4) (by decide) rfl (Nat.le_of_ble_eq_true rfl) (fun E C hQ => tX4_strideFor C hL hQ hf)
def fX4_start (N : Nat) (x : St2) (v1 : Int32) (v2 : Int32) : Option (Int32 × St2) := (fX4_isAsked x v1 v2).bind fun y1 => if y1 = 0 then ((fX4_finds x 0).bind fun y2 => some (y2.1, y2.2)) else ((fX4_bestBy N x v1 1 0 23 v2).bind fun y3 => some (y3.1, y3.2))
set_option maxHeartbeats 4000000 in
set_option maxRecDepth 100000 in
theorem tX4_start {E : EE} {B : BB} {l : Launch} {L : St2 → St2} {N : Nat} {x : St2} {v1 : Int32} {v2 : Int32} {res : (Int32 × St2)} (C : Cx E B l cX4_start RX4 (some .int) 3 7 164) (hL : Ln 51 10 L) (hQ : Fin9 E B (some (.int res.1)) (L res.2)) (hf : fX4_start N x v1 v2 = some res) : V E B (L x) 0 [(0, .ref (ad B 51)), (1, .int v1), (2, .int v2)] [] := by
  unfold fX4_start at hf
  refine v_aload_n C 0 dX4_start_0 rfl rfl ?_
  refine v_iload_n C 1 dX4_start_1 rfl rfl ?_
  refine v_iload_n C 2 dX4_start_2 rfl rfl ?_
  obtain ⟨y1, hy1, hf⟩ := bnd hf
  refine v_callV (r := some (.int y1)) (As := [.int v1, .int v2]) (rest := []) (K := 51) C (mX4_isAsked hL hy1) cw_X4_isAsked wd_907 (by decide) rfl rfl ⟨Nat.le_of_ble_eq_true rfl, Nat.le_of_ble_eq_true rfl⟩ rfl rfl (Nat.le_of_ble_eq_true rfl) dX4_start_3 ?_
  refine v_if_eq (tgt := 22) C dX4_start_6 (by decide) hf (fun hf => ?_) (fun hf => ?_)
  · refine v_aload_n C 0 dX4_start_22 rfl rfl ?_
    refine v_iconst (v := 0) C dX4_start_23 (by decide) ?_
    obtain ⟨y2, hy2, hf⟩ := bnd hf
    refine v_callV (r := some (.int y2.1)) (As := [.int 0]) (rest := []) (K := 51) C (mX4_finds hL hy2) cw_X4_finds wd_725 (by decide) rfl rfl ⟨Nat.le_of_ble_eq_true rfl, Nat.le_of_ble_eq_true rfl⟩ rfl rfl (Nat.le_of_ble_eq_true rfl) dX4_start_24 ?_
    exact v_iret C dX4_start_27 (fin_im hf hQ)
  · refine v_aload_n C 0 dX4_start_9 rfl rfl ?_
    refine v_iload_n C 1 dX4_start_10 rfl rfl ?_
    refine v_iconst (v := 1) C dX4_start_11 (by decide) ?_
    refine v_iconst (v := 0) C dX4_start_12 (by decide) ?_
    refine v_bipush (v := 23) C dX4_start_13 (by decide) ?_
    refine v_iload_n C 2 dX4_start_15 rfl rfl ?_
    obtain ⟨y3, hy3, hf⟩ := bnd hf
    refine v_callV (r := some (.int y3.1)) (As := [.int v1, .int 1, .int 0, .int 23, .int v2]) (rest := []) (K := 51) C (mX4_bestBy hL hy3) cw_X4_bestBy wd_915 (by decide) rfl rfl ⟨Nat.le_of_ble_eq_true rfl, Nat.le_of_ble_eq_true rfl⟩ rfl rfl (Nat.le_of_ble_eq_true rfl) dX4_start_16 ?_
    refine v_goto (tgt := 27) C dX4_start_19 (by decide) ?_
    exact v_iret C dX4_start_27 (fin_im hf hQ)
theorem mX4_start {B : BB} {l : Launch} {L : St2 → St2} {N : Nat} {x : St2} {v1 : Int32} {v2 : Int32} {res : (Int32 × St2)} (hL : Ln 51 10 L) (hf : fX4_start N x v1 v2 = some res) : Ret l B yX4_start cX4_start 3 (some .int) 7 164 [.ref (ad B 51), .int v1, .int v2] (L x) (some (.int res.1)) (L res.2) := ret_of (own := RX4) (by decide) rfl (Nat.le_of_ble_eq_true rfl) (fun E C hQ => tX4_start C hL hQ hf)
def fX4_kindFor (N : Nat) (x : St2) (v1 : Int32) (v2 : Int32) : Option (Int32 × St2) := (fX4_isAsked x v1 v2).bind fun y1 => if y1 = 0 then ((fX4_finds x 0).bind fun y2 => some (y2.1, y2.2)) else ((fX4_bestBy N x v1 0 0 6 v2).bind fun y3 => some (y3.1, y3.2))
set_option maxHeartbeats 4000000 in
set_option maxRecDepth 100000 in
theorem tX4_kindFor {E : EE} {B : BB} {l : Launch} {L : St2 → St2} {N : Nat} {x : St2} {v1 : Int32} {v2 : Int32} {res : (Int32 × St2)} (C : Cx E B l cX4_kindFor RX4 (some .int) 3 7 164) (hL : Ln 51 10 L) (hQ : Fin9 E B (some (.int res.1)) (L res.2)) (hf : fX4_kindFor N x v1 v2 = some res) : V E B (L x) 0 [(0, .ref (ad B 51)), (1, .int v1), (2, .int v2)] [] := by
  unfold fX4_kindFor at hf
  refine v_aload_n C 0 dX4_kindFor_0 rfl rfl ?_
  refine v_iload_n C 1 dX4_kindFor_1 rfl rfl ?_
  refine v_iload_n C 2 dX4_kindFor_2 rfl rfl ?_
  obtain ⟨y1, hy1, hf⟩ := bnd hf
  refine v_callV (r := some (.int y1)) (As := [.int v1, .int v2]) (rest := []) (K := 51) C (mX4_isAsked hL hy1) cw_X4_isAsked wd_907 (by decide) rfl rfl ⟨Nat.le_of_ble_eq_true rfl, Nat.le_of_ble_eq_true rfl⟩ rfl rfl (Nat.le_of_ble_eq_true rfl) dX4_kindFor_3 ?_
  refine v_if_eq (tgt := 22) C dX4_kindFor_6 (by decide) hf (fun hf => ?_) (fun hf => ?_)
  · refine v_aload_n C 0 dX4_kindFor_22 rfl rfl ?_
    refine v_iconst (v := 0) C dX4_kindFor_23 (by decide) ?_
    obtain ⟨y2, hy2, hf⟩ := bnd hf
    refine v_callV (r := some (.int y2.1)) (As := [.int 0]) (rest := []) (K := 51) C (mX4_finds hL hy2) cw_X4_finds wd_725 (by decide) rfl rfl ⟨Nat.le_of_ble_eq_true rfl, Nat.le_of_ble_eq_true rfl⟩ rfl rfl (Nat.le_of_ble_eq_true rfl) dX4_kindFor_24 ?_
    exact v_iret C dX4_kindFor_27 (fin_im hf hQ)
  · refine v_aload_n C 0 dX4_kindFor_9 rfl rfl ?_
    refine v_iload_n C 1 dX4_kindFor_10 rfl rfl ?_
    refine v_iconst (v := 0) C dX4_kindFor_11 (by decide) ?_
    refine v_iconst (v := 0) C dX4_kindFor_12 (by decide) ?_
    refine v_bipush (v := 6) C dX4_kindFor_13 (by decide) ?_
    refine v_iload_n C 2 dX4_kindFor_15 rfl rfl ?_
    obtain ⟨y3, hy3, hf⟩ := bnd hf
    refine v_callV (r := some (.int y3.1)) (As := [.int v1, .int 0, .int 0, .int 6, .int v2]) (rest := []) (K := 51) C (mX4_bestBy hL hy3) cw_X4_bestBy wd_915 (by decide) rfl rfl ⟨Nat.le_of_ble_eq_true rfl, Nat.le_of_ble_eq_true rfl⟩ rfl rfl (Nat.le_of_ble_eq_true rfl) dX4_kindFor_16 ?_
    refine v_goto (tgt := 27) C dX4_kindFor_19 (by decide) ?_
    exact v_iret C dX4_kindFor_27 (fin_im hf hQ)
theorem mX4_kindFor {B : BB} {l : Launch} {L : St2 → St2} {N : Nat} {x : St2} {v1 : Int32} {v2 : Int32} {res : (Int32 × St2)} (hL : Ln 51 10 L) (hf : fX4_kindFor N x v1 v2 = some res) : Ret l B yX4_kindFor cX4_kindFor 3 (some .int) 7 164 [.ref (ad B 51), .int v1, .int v2] (L x) (some (.int res.1)) (L res.2) := ret_of (own := RX4) (by decide) rfl (Nat.le_of_ble_eq_true rfl) (fun E C hQ => tX4_kindFor C hL hQ hf)
def fX4_whoseIn (N : Nat) (x : St2) (v1 : Int32) (v2 : Int32) : Option (Int32 × St2) := (fX4_hours N x v2).bind fun y1 => (rd (y1 1) 135 (5 + v1)).bind fun a2 => (fX4_laysBack N y1).bind fun y3 => some (a2, y3)
set_option maxHeartbeats 4000000 in
set_option maxRecDepth 100000 in
theorem tX4_whoseIn {E : EE} {B : BB} {l : Launch} {L : St2 → St2} {N : Nat} {x : St2} {v1 : Int32} {v2 : Int32} {res : (Int32 × St2)} (C : Cx E B l cX4_whoseIn RX4 (some .int) 4 5 112) (hL : Ln 51 10 L) (hQ : Fin9 E B (some (.int res.1)) (L res.2)) (hf : fX4_whoseIn N x v1 v2 = some res) : V E B (L x) 0 [(0, .ref (ad B 51)), (1, .int v1), (2, .int v2)] [] := by
  unfold fX4_whoseIn at hf
  refine v_aload_n C 0 dX4_whoseIn_0 rfl rfl ?_
  refine v_iload_n C 2 dX4_whoseIn_1 rfl rfl ?_
  obtain ⟨y1, hy1, hf⟩ := bnd hf
  refine v_callV (r := none) (As := [.int v2]) (rest := []) (K := 51) C (mX4_hours hL hy1) cw_X4_hours wd_820 (by decide) rfl rfl ⟨Nat.le_of_ble_eq_true rfl, Nat.le_of_ble_eq_true rfl⟩ rfl rfl (Nat.le_of_ble_eq_true rfl) dX4_whoseIn_2 ?_
  refine v_aload_n C 0 dX4_whoseIn_5 rfl rfl ?_
  refine g_getR (K := 51) (i := 0) (j := 51 + 1) C (by decide) rfl rfl inX4 (by decide) rfl wd_667 dX4_whoseIn_6 ?_
  refine v_iconst (v := 5) C dX4_whoseIn_9 (by decide) ?_
  refine v_iload_n C 1 dX4_whoseIn_10 rfl rfl ?_
  refine v_iadd C dX4_whoseIn_11 ?_
  refine s_ald (k := 1) C hL (by decide) rfl dX4_whoseIn_12 hf (fun a2 hf => ?_)
  refine v_istore_n (lv' := [(0, .ref (ad B 51)), (1, .int v1), (2, .int v2), (3, .int a2)]) C [1, 2, 3, 0] dX4_whoseIn_13 rfl (by decide) rfl ?_
  refine v_aload_n C 0 dX4_whoseIn_14 rfl rfl ?_
  obtain ⟨y3, hy3, hf⟩ := bnd hf
  refine v_callV (r := none) (As := []) (rest := []) (K := 51) C (mX4_laysBack hL hy3) cw_X4_laysBack wd_875 (by decide) rfl rfl ⟨Nat.le_of_ble_eq_true rfl, Nat.le_of_ble_eq_true rfl⟩ rfl rfl (Nat.le_of_ble_eq_true rfl) dX4_whoseIn_15 ?_
  refine v_iload_n C 3 dX4_whoseIn_18 rfl rfl ?_
  exact v_iret C dX4_whoseIn_19 (fin_im hf hQ)
theorem mX4_whoseIn {B : BB} {l : Launch} {L : St2 → St2} {N : Nat} {x : St2} {v1 : Int32} {v2 : Int32} {res : (Int32 × St2)} (hL : Ln 51 10 L) (hf : fX4_whoseIn N x v1 v2 = some res) : Ret l B yX4_whoseIn cX4_whoseIn 4 (some .int) 5 112 [.ref (ad B 51), .int v1, .int v2] (L x) (some (.int res.1)) (L res.2) := ret_of (own := RX4) (by decide) rfl (Nat.le_of_ble_eq_true rfl) (fun E C hQ => tX4_whoseIn C hL hQ hf)
def fX4_reachFor_59 (N : Nat) (k25 : St2 → Int32 → Int32 → Option (Int32 × St2)) (x : St2) (v1 : Int32) (v2 : Int32) (v4 : Int32) (s0 : Int32) : Option (Int32 × St2) := k25 x s0 (v4 + 1)
set_option maxHeartbeats 4000000 in
set_option maxRecDepth 100000 in
theorem tX4_reachFor_59 {E : EE} {B : BB} {l : Launch} {L : St2 → St2} {N : Nat} {k25 : St2 → Int32 → Int32 → Option (Int32 × St2)} {x : St2} {v1 : Int32} {v2 : Int32} {v4 : Int32} {s0 : Int32} {res : (Int32 × St2)} (C : Cx E B l cX4_reachFor RX4 (some .int) 5 6 135) (hL : Ln 51 10 L) (hQ : Fin9 E B (some (.int res.1)) (L res.2)) (hk25 : ∀ (x : St2) (v3 : Int32) (v4 : Int32), k25 x v3 v4 = some res → V E B (L x) 25 [(0, .ref (ad B 51)), (1, .int v1), (2, .int v2), (3, .int v3), (4, .int v4)] []) (hf : fX4_reachFor_59 N k25 x v1 v2 v4 s0 = some res) : V E B (L x) 59 [(0, .ref (ad B 51)), (1, .int v1), (2, .int v2), (4, .int v4)] [.int s0] := by
  unfold fX4_reachFor_59 at hf
  refine v_istore_n (lv' := [(0, .ref (ad B 51)), (1, .int v1), (2, .int v2), (3, .int s0), (4, .int v4)]) C [1, 2, 3, 0, 4] dX4_reachFor_59 rfl (by decide) rfl ?_
  refine v_iinc (q := 4) (v := v4 + 1) (lv' := [(0, .ref (ad B 51)), (1, .int v1), (2, .int v2), (3, .int s0), (4, .int (v4 + 1))]) C [1, 2, 3, 4, 0] dX4_reachFor_60 rfl rfl (by decide) rfl ?_
  refine v_goto (tgt := 25) C dX4_reachFor_63 (by decide) ?_
  exact hk25 x s0 (v4 + 1) hf
def fX4_reachFor_25 (N : Nat) (v1 : Int32) (v2 : Int32) : Nat → St2 → Int32 → Int32 → Option (Int32 × St2)
  | 0, _, _, _ => none
  | n + 1, x, v3, v4 => if 24 < v4 then (if 0 ≤ v3 then (some (v3, x)) else ((fX4_finds x 3).bind fun y4 => some (y4.1, y4.2))) else ((fX4_lends N x).bind fun y5 => (wr y5 1 135 3 v4).bind fun x6 => (fX4_whoseIn N x6 v1 v2).bind fun y7 => if y7.1 < 0 then (fX4_reachFor_59 N (fX4_reachFor_25 N v1 v2 n) y7.2 v1 v2 v4 v3) else (fX4_reachFor_59 N (fX4_reachFor_25 N v1 v2 n) y7.2 v1 v2 v4 v4))
set_option maxHeartbeats 4000000 in
set_option maxRecDepth 100000 in
theorem tX4_reachFor_25 {E : EE} {B : BB} {l : Launch} {L : St2 → St2} {N : Nat} {v1 : Int32} {v2 : Int32} {res : (Int32 × St2)} (C : Cx E B l cX4_reachFor RX4 (some .int) 5 6 135) (hL : Ln 51 10 L) (hQ : Fin9 E B (some (.int res.1)) (L res.2)) : ∀ (n : Nat) (x : St2) (v3 : Int32) (v4 : Int32), fX4_reachFor_25 N v1 v2 n x v3 v4 = some res → V E B (L x) 25 [(0, .ref (ad B 51)), (1, .int v1), (2, .int v2), (3, .int v3), (4, .int v4)] [] := by
  intro n
  induction n with
  | zero =>
    intro x v3 v4 hf
    cases hf
  | succ n ih =>
    intro x v3 v4 hf
    rw [fX4_reachFor_25] at hf
    refine v_iload C 4 dX4_reachFor_25 rfl ?_
    refine v_bipush (v := 24) C dX4_reachFor_27 (by decide) ?_
    refine v_icmp_gt (tgt := 66) C dX4_reachFor_29 (by decide) hf (fun hf => ?_) (fun hf => ?_)
    · refine v_iload_n C 3 dX4_reachFor_66 rfl rfl ?_
      refine v_if_ge (tgt := 78) C dX4_reachFor_67 (by decide) hf (fun hf => ?_) (fun hf => ?_)
      · refine v_iload_n C 3 dX4_reachFor_78 rfl rfl ?_
        exact v_iret C dX4_reachFor_79 (fin_im hf hQ)
      · refine v_aload_n C 0 dX4_reachFor_70 rfl rfl ?_
        refine v_iconst (v := 3) C dX4_reachFor_71 (by decide) ?_
        obtain ⟨y4, hy4, hf⟩ := bnd hf
        refine v_callV (r := some (.int y4.1)) (As := [.int 3]) (rest := []) (K := 51) C (mX4_finds hL hy4) cw_X4_finds wd_725 (by decide) rfl rfl ⟨Nat.le_of_ble_eq_true rfl, Nat.le_of_ble_eq_true rfl⟩ rfl rfl (Nat.le_of_ble_eq_true rfl) dX4_reachFor_72 ?_
        refine v_goto (tgt := 79) C dX4_reachFor_75 (by decide) ?_
        exact v_iret C dX4_reachFor_79 (fin_im hf hQ)
    · refine v_aload_n C 0 dX4_reachFor_32 rfl rfl ?_
      obtain ⟨y5, hy5, hf⟩ := bnd hf
      refine v_callV (r := none) (As := []) (rest := []) (K := 51) C (mX4_lends hL hy5) cw_X4_lends wd_868 (by decide) rfl rfl ⟨Nat.le_of_ble_eq_true rfl, Nat.le_of_ble_eq_true rfl⟩ rfl rfl (Nat.le_of_ble_eq_true rfl) dX4_reachFor_33 ?_
      refine v_aload_n C 0 dX4_reachFor_36 rfl rfl ?_
      refine g_getR (K := 51) (i := 0) (j := 51 + 1) C (by decide) rfl rfl inX4 (by decide) rfl wd_667 dX4_reachFor_37 ?_
      refine v_iconst (v := 3) C dX4_reachFor_40 (by decide) ?_
      refine v_iload C 4 dX4_reachFor_41 rfl ?_
      refine s_ast (k := 1) C hL (by decide) rfl dX4_reachFor_43 hf (fun x6 hf => ?_)
      refine v_aload_n C 0 dX4_reachFor_44 rfl rfl ?_
      refine v_iload_n C 1 dX4_reachFor_45 rfl rfl ?_
      refine v_iload_n C 2 dX4_reachFor_46 rfl rfl ?_
      obtain ⟨y7, hy7, hf⟩ := bnd hf
      refine v_callV (r := some (.int y7.1)) (As := [.int v1, .int v2]) (rest := []) (K := 51) C (mX4_whoseIn hL hy7) cw_X4_whoseIn wd_931 (by decide) rfl rfl ⟨Nat.le_of_ble_eq_true rfl, Nat.le_of_ble_eq_true rfl⟩ rfl rfl (Nat.le_of_ble_eq_true rfl) dX4_reachFor_47 ?_
      refine v_if_lt (tgt := 58) C dX4_reachFor_50 (by decide) hf (fun hf => ?_) (fun hf => ?_)
      · refine v_iload_n C 3 dX4_reachFor_58 rfl rfl ?_
        refine v_sub [0, 1, 2, 4] rfl ?_
        exact tX4_reachFor_59 C hL hQ ih hf
      · refine v_iload C 4 dX4_reachFor_53 rfl ?_
        refine v_goto (tgt := 59) C dX4_reachFor_55 (by decide) ?_
        refine v_sub [0, 1, 2, 4] rfl ?_
        exact tX4_reachFor_59 C hL hQ ih hf
def fX4_reachFor (N : Nat) (x : St2) (v1 : Int32) (v2 : Int32) : Option (Int32 × St2) := (fX4_isCell v1).bind fun y1 => if y1 = 0 then ((fX4_finds x 0).bind fun y2 => some (y2.1, y2.2)) else ((fX4_isSoon v2).bind fun y3 => if y3 = 0 then ((fX4_finds x 0).bind fun y9 => some (y9.1, y9.2)) else (fX4_reachFor_25 N v1 v2 N x (-1) 0))
set_option maxHeartbeats 4000000 in
set_option maxRecDepth 100000 in
theorem tX4_reachFor {E : EE} {B : BB} {l : Launch} {L : St2 → St2} {N : Nat} {x : St2} {v1 : Int32} {v2 : Int32} {res : (Int32 × St2)} (C : Cx E B l cX4_reachFor RX4 (some .int) 5 6 135) (hL : Ln 51 10 L) (hQ : Fin9 E B (some (.int res.1)) (L res.2)) (hf : fX4_reachFor N x v1 v2 = some res) : V E B (L x) 0 [(0, .ref (ad B 51)), (1, .int v1), (2, .int v2)] [] := by
  unfold fX4_reachFor at hf
  refine v_iload_n C 1 dX4_reachFor_0 rfl rfl ?_
  obtain ⟨y1, hy1, hf⟩ := bnd hf
  refine v_callS (r := some (.int y1)) (As := [.int v1]) (rest := []) C (mX4_isCell  hy1) cw_X4_isCell wd_717 ⟨Nat.le_of_ble_eq_true rfl, Nat.le_of_ble_eq_true rfl⟩ rfl rfl (Nat.le_of_ble_eq_true rfl) dX4_reachFor_1 ?_
  refine v_if_eq (tgt := 14) C dX4_reachFor_4 (by decide) hf (fun hf => ?_) (fun hf => ?_)
  · refine v_aload_n C 0 dX4_reachFor_14 rfl rfl ?_
    refine v_iconst (v := 0) C dX4_reachFor_15 (by decide) ?_
    obtain ⟨y2, hy2, hf⟩ := bnd hf
    refine v_callV (r := some (.int y2.1)) (As := [.int 0]) (rest := []) (K := 51) C (mX4_finds hL hy2) cw_X4_finds wd_725 (by decide) rfl rfl ⟨Nat.le_of_ble_eq_true rfl, Nat.le_of_ble_eq_true rfl⟩ rfl rfl (Nat.le_of_ble_eq_true rfl) dX4_reachFor_16 ?_
    exact v_iret C dX4_reachFor_19 (fin_im hf hQ)
  · refine v_iload_n C 2 dX4_reachFor_7 rfl rfl ?_
    obtain ⟨y3, hy3, hf⟩ := bnd hf
    refine v_callS (r := some (.int y3)) (As := [.int v2]) (rest := []) C (mX4_isSoon  hy3) cw_X4_isSoon wd_911 ⟨Nat.le_of_ble_eq_true rfl, Nat.le_of_ble_eq_true rfl⟩ rfl rfl (Nat.le_of_ble_eq_true rfl) dX4_reachFor_8 ?_
    refine v_if_ne (tgt := 20) C dX4_reachFor_11 (by decide) hf (fun hf => ?_) (fun hf => ?_)
    · refine v_iconst (v := (-1)) C dX4_reachFor_20 (by decide) ?_
      refine v_istore_n (lv' := [(0, .ref (ad B 51)), (1, .int v1), (2, .int v2), (3, .int (-1))]) C [1, 2, 3, 0] dX4_reachFor_21 rfl (by decide) rfl ?_
      refine v_iconst (v := 0) C dX4_reachFor_22 (by decide) ?_
      refine v_istore (lv' := [(0, .ref (ad B 51)), (1, .int v1), (2, .int v2), (3, .int (-1)), (4, .int 0)]) C [1, 2, 3, 4, 0] dX4_reachFor_23 (by decide) rfl ?_
      exact tX4_reachFor_25 C hL hQ N x (-1) 0 hf
    · refine v_aload_n C 0 dX4_reachFor_14 rfl rfl ?_
      refine v_iconst (v := 0) C dX4_reachFor_15 (by decide) ?_
      obtain ⟨y9, hy9, hf⟩ := bnd hf
      refine v_callV (r := some (.int y9.1)) (As := [.int 0]) (rest := []) (K := 51) C (mX4_finds hL hy9) cw_X4_finds wd_725 (by decide) rfl rfl ⟨Nat.le_of_ble_eq_true rfl, Nat.le_of_ble_eq_true rfl⟩ rfl rfl (Nat.le_of_ble_eq_true rfl) dX4_reachFor_16 ?_
      exact v_iret C dX4_reachFor_19 (fin_im hf hQ)
theorem mX4_reachFor {B : BB} {l : Launch} {L : St2 → St2} {N : Nat} {x : St2} {v1 : Int32} {v2 : Int32} {res : (Int32 × St2)} (hL : Ln 51 10 L) (hf : fX4_reachFor N x v1 v2 = some res) : Ret l B yX4_reachFor cX4_reachFor 5 (some .int) 6 135 [.ref (ad B 51), .int v1, .int v2] (L x) (some (.int res.1)) (L res.2) := ret_of (own := RX4) (by decide) rfl (Nat.le_of_ble_eq_true rfl) (fun E C hQ => tX4_reachFor C hL hQ hf)
def fX4_weightFor_70 (N : Nat) (k35 : St2 → Int32 → Int32 → Option (Int32 × St2)) (x : St2) (v1 : Int32) (v2 : Int32) (v3 : Int32) (v5 : Int32) (s0 : Int32) : Option (Int32 × St2) := k35 x s0 (v5 + (-1))
set_option maxHeartbeats 4000000 in
set_option maxRecDepth 100000 in
theorem tX4_weightFor_70 {E : EE} {B : BB} {l : Launch} {L : St2 → St2} {N : Nat} {k35 : St2 → Int32 → Int32 → Option (Int32 × St2)} {x : St2} {v1 : Int32} {v2 : Int32} {v3 : Int32} {v5 : Int32} {s0 : Int32} {res : (Int32 × St2)} (C : Cx E B l cX4_weightFor RX4 (some .int) 6 6 135) (hL : Ln 51 10 L) (hQ : Fin9 E B (some (.int res.1)) (L res.2)) (hk35 : ∀ (x : St2) (v4 : Int32) (v5 : Int32), k35 x v4 v5 = some res → V E B (L x) 35 [(0, .ref (ad B 51)), (1, .int v1), (2, .int v2), (3, .int v3), (4, .int v4), (5, .int v5)] []) (hf : fX4_weightFor_70 N k35 x v1 v2 v3 v5 s0 = some res) : V E B (L x) 70 [(0, .ref (ad B 51)), (1, .int v1), (2, .int v2), (3, .int v3), (5, .int v5)] [.int s0] := by
  unfold fX4_weightFor_70 at hf
  refine v_istore (lv' := [(0, .ref (ad B 51)), (1, .int v1), (2, .int v2), (3, .int v3), (4, .int s0), (5, .int v5)]) C [1, 2, 3, 4, 0, 5] dX4_weightFor_70 (by decide) rfl ?_
  refine v_iinc (q := 5) (v := v5 + (-1)) (lv' := [(0, .ref (ad B 51)), (1, .int v1), (2, .int v2), (3, .int v3), (4, .int s0), (5, .int (v5 + (-1)))]) C [1, 2, 3, 4, 5, 0] dX4_weightFor_72 rfl rfl (by decide) rfl ?_
  refine v_goto (tgt := 35) C dX4_weightFor_75 (by decide) ?_
  exact hk35 x s0 (v5 + (-1)) hf
def fX4_weightFor_35 (N : Nat) (v1 : Int32) (v2 : Int32) (v3 : Int32) : Nat → St2 → Int32 → Int32 → Option (Int32 × St2)
  | 0, _, _, _ => none
  | n + 1, x, v4, v5 => if v5 < 1 then (if 0 ≤ v4 then (some (v4, x)) else ((fX4_finds x 3).bind fun y6 => some (y6.1, y6.2))) else ((fX4_lends N x).bind fun y7 => (fX4_sets y7 v1 4 v5).bind fun y8 => (fX4_whoseIn N y8 v2 v3).bind fun y9 => if y9.1 = v1 then (fX4_weightFor_70 N (fX4_weightFor_35 N v1 v2 v3 n) y9.2 v1 v2 v3 v5 v5) else (fX4_weightFor_70 N (fX4_weightFor_35 N v1 v2 v3 n) y9.2 v1 v2 v3 v5 v4))
set_option maxHeartbeats 4000000 in
set_option maxRecDepth 100000 in
theorem tX4_weightFor_35 {E : EE} {B : BB} {l : Launch} {L : St2 → St2} {N : Nat} {v1 : Int32} {v2 : Int32} {v3 : Int32} {res : (Int32 × St2)} (C : Cx E B l cX4_weightFor RX4 (some .int) 6 6 135) (hL : Ln 51 10 L) (hQ : Fin9 E B (some (.int res.1)) (L res.2)) : ∀ (n : Nat) (x : St2) (v4 : Int32) (v5 : Int32), fX4_weightFor_35 N v1 v2 v3 n x v4 v5 = some res → V E B (L x) 35 [(0, .ref (ad B 51)), (1, .int v1), (2, .int v2), (3, .int v3), (4, .int v4), (5, .int v5)] [] := by
  intro n
  induction n with
  | zero =>
    intro x v4 v5 hf
    cases hf
  | succ n ih =>
    intro x v4 v5 hf
    rw [fX4_weightFor_35] at hf
    refine v_iload C 5 dX4_weightFor_35 rfl ?_
    refine v_iconst (v := 1) C dX4_weightFor_37 (by decide) ?_
    refine v_icmp_lt (tgt := 78) C dX4_weightFor_38 (by decide) hf (fun hf => ?_) (fun hf => ?_)
    · refine v_iload C 4 dX4_weightFor_78 rfl ?_
      refine v_if_ge (tgt := 91) C dX4_weightFor_80 (by decide) hf (fun hf => ?_) (fun hf => ?_)
      · refine v_iload C 4 dX4_weightFor_91 rfl ?_
        exact v_iret C dX4_weightFor_93 (fin_im hf hQ)
      · refine v_aload_n C 0 dX4_weightFor_83 rfl rfl ?_
        refine v_iconst (v := 3) C dX4_weightFor_84 (by decide) ?_
        obtain ⟨y6, hy6, hf⟩ := bnd hf
        refine v_callV (r := some (.int y6.1)) (As := [.int 3]) (rest := []) (K := 51) C (mX4_finds hL hy6) cw_X4_finds wd_725 (by decide) rfl rfl ⟨Nat.le_of_ble_eq_true rfl, Nat.le_of_ble_eq_true rfl⟩ rfl rfl (Nat.le_of_ble_eq_true rfl) dX4_weightFor_85 ?_
        refine v_goto (tgt := 93) C dX4_weightFor_88 (by decide) ?_
        exact v_iret C dX4_weightFor_93 (fin_im hf hQ)
    · refine v_aload_n C 0 dX4_weightFor_41 rfl rfl ?_
      obtain ⟨y7, hy7, hf⟩ := bnd hf
      refine v_callV (r := none) (As := []) (rest := []) (K := 51) C (mX4_lends hL hy7) cw_X4_lends wd_868 (by decide) rfl rfl ⟨Nat.le_of_ble_eq_true rfl, Nat.le_of_ble_eq_true rfl⟩ rfl rfl (Nat.le_of_ble_eq_true rfl) dX4_weightFor_42 ?_
      refine v_aload_n C 0 dX4_weightFor_45 rfl rfl ?_
      refine v_iload_n C 1 dX4_weightFor_46 rfl rfl ?_
      refine v_iconst (v := 4) C dX4_weightFor_47 (by decide) ?_
      refine v_iload C 5 dX4_weightFor_48 rfl ?_
      obtain ⟨y8, hy8, hf⟩ := bnd hf
      refine v_callV (r := none) (As := [.int v1, .int 4, .int v5]) (rest := []) (K := 51) C (mX4_sets hL hy8) cw_X4_sets wd_780 (by decide) rfl rfl ⟨Nat.le_of_ble_eq_true rfl, Nat.le_of_ble_eq_true rfl⟩ rfl rfl (Nat.le_of_ble_eq_true rfl) dX4_weightFor_50 ?_
      refine v_aload_n C 0 dX4_weightFor_53 rfl rfl ?_
      refine v_iload_n C 2 dX4_weightFor_54 rfl rfl ?_
      refine v_iload_n C 3 dX4_weightFor_55 rfl rfl ?_
      obtain ⟨y9, hy9, hf⟩ := bnd hf
      refine v_callV (r := some (.int y9.1)) (As := [.int v2, .int v3]) (rest := []) (K := 51) C (mX4_whoseIn hL hy9) cw_X4_whoseIn wd_931 (by decide) rfl rfl ⟨Nat.le_of_ble_eq_true rfl, Nat.le_of_ble_eq_true rfl⟩ rfl rfl (Nat.le_of_ble_eq_true rfl) dX4_weightFor_56 ?_
      refine v_iload_n C 1 dX4_weightFor_59 rfl rfl ?_
      refine v_icmp_ne (tgt := 68) C dX4_weightFor_60 (by decide) hf (fun hf => ?_) (fun hf => ?_)
      · refine v_iload C 4 dX4_weightFor_68 rfl ?_
        refine v_sub [0, 1, 2, 3, 5] rfl ?_
        exact tX4_weightFor_70 C hL hQ ih hf
      · refine v_iload C 5 dX4_weightFor_63 rfl ?_
        refine v_goto (tgt := 70) C dX4_weightFor_65 (by decide) ?_
        refine v_sub [0, 1, 2, 3, 5] rfl ?_
        exact tX4_weightFor_70 C hL hQ ih hf
def fX4_weightFor (N : Nat) (x : St2) (v1 : Int32) (v2 : Int32) (v3 : Int32) : Option (Int32 × St2) := (fX4_isWalker x v1).bind fun y1 => if y1 = 0 then ((fX4_finds x 0).bind fun y2 => some (y2.1, y2.2)) else ((fX4_isCell v2).bind fun y3 => if y3 = 0 then ((fX4_finds x 0).bind fun y4 => some (y4.1, y4.2)) else ((fX4_isSoon v3).bind fun y5 => if y5 = 0 then ((fX4_finds x 0).bind fun y11 => some (y11.1, y11.2)) else (fX4_weightFor_35 N v1 v2 v3 N x (-1) 9)))
set_option maxHeartbeats 4000000 in
set_option maxRecDepth 100000 in
theorem tX4_weightFor {E : EE} {B : BB} {l : Launch} {L : St2 → St2} {N : Nat} {x : St2} {v1 : Int32} {v2 : Int32} {v3 : Int32} {res : (Int32 × St2)} (C : Cx E B l cX4_weightFor RX4 (some .int) 6 6 135) (hL : Ln 51 10 L) (hQ : Fin9 E B (some (.int res.1)) (L res.2)) (hf : fX4_weightFor N x v1 v2 v3 = some res) : V E B (L x) 0 [(0, .ref (ad B 51)), (1, .int v1), (2, .int v2), (3, .int v3)] [] := by
  unfold fX4_weightFor at hf
  refine v_aload_n C 0 dX4_weightFor_0 rfl rfl ?_
  refine v_iload_n C 1 dX4_weightFor_1 rfl rfl ?_
  obtain ⟨y1, hy1, hf⟩ := bnd hf
  refine v_callV (r := some (.int y1)) (As := [.int v1]) (rest := []) (K := 51) C (mX4_isWalker hL hy1) cw_X4_isWalker wd_742 (by decide) rfl rfl ⟨Nat.le_of_ble_eq_true rfl, Nat.le_of_ble_eq_true rfl⟩ rfl rfl (Nat.le_of_ble_eq_true rfl) dX4_weightFor_2 ?_
  refine v_if_eq (tgt := 22) C dX4_weightFor_5 (by decide) hf (fun hf => ?_) (fun hf => ?_)
  · refine v_aload_n C 0 dX4_weightFor_22 rfl rfl ?_
    refine v_iconst (v := 0) C dX4_weightFor_23 (by decide) ?_
    obtain ⟨y2, hy2, hf⟩ := bnd hf
    refine v_callV (r := some (.int y2.1)) (As := [.int 0]) (rest := []) (K := 51) C (mX4_finds hL hy2) cw_X4_finds wd_725 (by decide) rfl rfl ⟨Nat.le_of_ble_eq_true rfl, Nat.le_of_ble_eq_true rfl⟩ rfl rfl (Nat.le_of_ble_eq_true rfl) dX4_weightFor_24 ?_
    exact v_iret C dX4_weightFor_27 (fin_im hf hQ)
  · refine v_iload_n C 2 dX4_weightFor_8 rfl rfl ?_
    obtain ⟨y3, hy3, hf⟩ := bnd hf
    refine v_callS (r := some (.int y3)) (As := [.int v2]) (rest := []) C (mX4_isCell  hy3) cw_X4_isCell wd_717 ⟨Nat.le_of_ble_eq_true rfl, Nat.le_of_ble_eq_true rfl⟩ rfl rfl (Nat.le_of_ble_eq_true rfl) dX4_weightFor_9 ?_
    refine v_if_eq (tgt := 22) C dX4_weightFor_12 (by decide) hf (fun hf => ?_) (fun hf => ?_)
    · refine v_aload_n C 0 dX4_weightFor_22 rfl rfl ?_
      refine v_iconst (v := 0) C dX4_weightFor_23 (by decide) ?_
      obtain ⟨y4, hy4, hf⟩ := bnd hf
      refine v_callV (r := some (.int y4.1)) (As := [.int 0]) (rest := []) (K := 51) C (mX4_finds hL hy4) cw_X4_finds wd_725 (by decide) rfl rfl ⟨Nat.le_of_ble_eq_true rfl, Nat.le_of_ble_eq_true rfl⟩ rfl rfl (Nat.le_of_ble_eq_true rfl) dX4_weightFor_24 ?_
      exact v_iret C dX4_weightFor_27 (fin_im hf hQ)
    · refine v_iload_n C 3 dX4_weightFor_15 rfl rfl ?_
      obtain ⟨y5, hy5, hf⟩ := bnd hf
      refine v_callS (r := some (.int y5)) (As := [.int v3]) (rest := []) C (mX4_isSoon  hy5) cw_X4_isSoon wd_911 ⟨Nat.le_of_ble_eq_true rfl, Nat.le_of_ble_eq_true rfl⟩ rfl rfl (Nat.le_of_ble_eq_true rfl) dX4_weightFor_16 ?_
      refine v_if_ne (tgt := 28) C dX4_weightFor_19 (by decide) hf (fun hf => ?_) (fun hf => ?_)
      · refine v_iconst (v := (-1)) C dX4_weightFor_28 (by decide) ?_
        refine v_istore (lv' := [(0, .ref (ad B 51)), (1, .int v1), (2, .int v2), (3, .int v3), (4, .int (-1))]) C [1, 2, 3, 4, 0] dX4_weightFor_29 (by decide) rfl ?_
        refine v_bipush (v := 9) C dX4_weightFor_31 (by decide) ?_
        refine v_istore (lv' := [(0, .ref (ad B 51)), (1, .int v1), (2, .int v2), (3, .int v3), (4, .int (-1)), (5, .int 9)]) C [1, 2, 3, 4, 5, 0] dX4_weightFor_33 (by decide) rfl ?_
        exact tX4_weightFor_35 C hL hQ N x (-1) 9 hf
      · refine v_aload_n C 0 dX4_weightFor_22 rfl rfl ?_
        refine v_iconst (v := 0) C dX4_weightFor_23 (by decide) ?_
        obtain ⟨y11, hy11, hf⟩ := bnd hf
        refine v_callV (r := some (.int y11.1)) (As := [.int 0]) (rest := []) (K := 51) C (mX4_finds hL hy11) cw_X4_finds wd_725 (by decide) rfl rfl ⟨Nat.le_of_ble_eq_true rfl, Nat.le_of_ble_eq_true rfl⟩ rfl rfl (Nat.le_of_ble_eq_true rfl) dX4_weightFor_24 ?_
        exact v_iret C dX4_weightFor_27 (fin_im hf hQ)
theorem mX4_weightFor {B : BB} {l : Launch} {L : St2 → St2} {N : Nat} {x : St2} {v1 : Int32} {v2 : Int32} {v3 : Int32} {res : (Int32 × St2)} (hL : Ln 51 10 L) (hf : fX4_weightFor N x v1 v2 v3 = some res) : Ret l B yX4_weightFor cX4_weightFor 6 (some .int) 6 135 [.ref (ad B 51), .int v1, .int v2, .int v3] (L x) (some (.int res.1)) (L res.2) := ret_of (own := RX4) (by decide) rfl (Nat.le_of_ble_eq_true rfl) (fun E C hQ => tX4_weightFor C hL hQ hf)
def fX4_away_93 (N : Nat) (k30 : St2 → Int32 → Int32 → Option (Int32 × St2)) (x : St2) (v1 : Int32) (v2 : Int32) (v3 : Int32) (v4 : Int32) : Option (Int32 × St2) := k30 x v3 (v4 + 1)
set_option maxHeartbeats 4000000 in
set_option maxRecDepth 100000 in
theorem tX4_away_93 {E : EE} {B : BB} {l : Launch} {L : St2 → St2} {N : Nat} {k30 : St2 → Int32 → Int32 → Option (Int32 × St2)} {x : St2} {v1 : Int32} {v2 : Int32} {v3 : Int32} {v4 : Int32} {res : (Int32 × St2)} (C : Cx E B l cX4_away RX4 (some .int) 5 6 135) (hL : Ln 51 10 L) (hQ : Fin9 E B (some (.int res.1)) (L res.2)) (hk30 : ∀ (x : St2) (v3 : Int32) (v4 : Int32), k30 x v3 v4 = some res → V E B (L x) 30 [(0, .ref (ad B 51)), (1, .int v1), (2, .int v2), (3, .int v3), (4, .int v4)] []) (hf : fX4_away_93 N k30 x v1 v2 v3 v4 = some res) : V E B (L x) 93 [(0, .ref (ad B 51)), (1, .int v1), (2, .int v2), (3, .int v3), (4, .int v4)] [] := by
  unfold fX4_away_93 at hf
  refine v_iinc (q := 4) (v := v4 + 1) (lv' := [(0, .ref (ad B 51)), (1, .int v1), (2, .int v2), (3, .int v3), (4, .int (v4 + 1))]) C [1, 2, 3, 4, 0] dX4_away_93 rfl rfl (by decide) rfl ?_
  refine v_goto (tgt := 30) C dX4_away_96 (by decide) ?_
  exact hk30 x v3 (v4 + 1) hf
def fX4_away_92 (N : Nat) (k30 : St2 → Int32 → Int32 → Option (Int32 × St2)) (x : St2) (v1 : Int32) (v2 : Int32) (v4 : Int32) (s0 : Int32) : Option (Int32 × St2) := fX4_away_93 N k30 x v1 v2 s0 v4
set_option maxHeartbeats 4000000 in
set_option maxRecDepth 100000 in
theorem tX4_away_92 {E : EE} {B : BB} {l : Launch} {L : St2 → St2} {N : Nat} {k30 : St2 → Int32 → Int32 → Option (Int32 × St2)} {x : St2} {v1 : Int32} {v2 : Int32} {v4 : Int32} {s0 : Int32} {res : (Int32 × St2)} (C : Cx E B l cX4_away RX4 (some .int) 5 6 135) (hL : Ln 51 10 L) (hQ : Fin9 E B (some (.int res.1)) (L res.2)) (hk30 : ∀ (x : St2) (v3 : Int32) (v4 : Int32), k30 x v3 v4 = some res → V E B (L x) 30 [(0, .ref (ad B 51)), (1, .int v1), (2, .int v2), (3, .int v3), (4, .int v4)] []) (hf : fX4_away_92 N k30 x v1 v2 v4 s0 = some res) : V E B (L x) 92 [(0, .ref (ad B 51)), (1, .int v1), (2, .int v2), (4, .int v4)] [.int s0] := by
  unfold fX4_away_92 at hf
  refine v_istore_n (lv' := [(0, .ref (ad B 51)), (1, .int v1), (2, .int v2), (3, .int s0), (4, .int v4)]) C [1, 2, 3, 0, 4] dX4_away_92 rfl (by decide) rfl ?_
  exact tX4_away_93 C hL hQ hk30 hf
def fX4_away_59 (N : Nat) (k30 : St2 → Int32 → Int32 → Option (Int32 × St2)) (x : St2) (v1 : Int32) (v2 : Int32) (v3 : Int32) (v4 : Int32) : Option (Int32 × St2) := (fX4_lends N x).bind fun y7 => (pf y7 0 5 v4).bind fun x8 => (fX4_whoseIn N x8 v1 v2).bind fun y9 => (rd (y9.2 1) 135 (5 + v1)).bind fun a10 => if y9.1 = a10 then (fX4_away_92 N k30 y9.2 v1 v2 v4 v4) else (fX4_away_92 N k30 y9.2 v1 v2 v4 v3)
set_option maxHeartbeats 4000000 in
set_option maxRecDepth 100000 in
theorem tX4_away_59 {E : EE} {B : BB} {l : Launch} {L : St2 → St2} {N : Nat} {k30 : St2 → Int32 → Int32 → Option (Int32 × St2)} {x : St2} {v1 : Int32} {v2 : Int32} {v3 : Int32} {v4 : Int32} {res : (Int32 × St2)} (C : Cx E B l cX4_away RX4 (some .int) 5 6 135) (hL : Ln 51 10 L) (hQ : Fin9 E B (some (.int res.1)) (L res.2)) (hk30 : ∀ (x : St2) (v3 : Int32) (v4 : Int32), k30 x v3 v4 = some res → V E B (L x) 30 [(0, .ref (ad B 51)), (1, .int v1), (2, .int v2), (3, .int v3), (4, .int v4)] []) (hf : fX4_away_59 N k30 x v1 v2 v3 v4 = some res) : V E B (L x) 59 [(0, .ref (ad B 51)), (1, .int v1), (2, .int v2), (3, .int v3), (4, .int v4)] [] := by
  unfold fX4_away_59 at hf
  refine v_aload_n C 0 dX4_away_59 rfl rfl ?_
  obtain ⟨y7, hy7, hf⟩ := bnd hf
  refine v_callV (r := none) (As := []) (rest := []) (K := 51) C (mX4_lends hL hy7) cw_X4_lends wd_868 (by decide) rfl rfl ⟨Nat.le_of_ble_eq_true rfl, Nat.le_of_ble_eq_true rfl⟩ rfl rfl (Nat.le_of_ble_eq_true rfl) dX4_away_60 ?_
  refine v_aload_n C 0 dX4_away_63 rfl rfl ?_
  refine v_iload C 4 dX4_away_64 rfl ?_
  refine s_putI (k := 0) (i := 5) C hL (by decide) rfl rfl inX4 tyX4 tyX4_ok nmX4 (by decide) rfl wd_672 rfl (by decide +kernel) dX4_away_66 hf (fun x8 hf => ?_)
  refine v_aload_n C 0 dX4_away_69 rfl rfl ?_
  refine v_iload_n C 1 dX4_away_70 rfl rfl ?_
  refine v_iload_n C 2 dX4_away_71 rfl rfl ?_
  obtain ⟨y9, hy9, hf⟩ := bnd hf
  refine v_callV (r := some (.int y9.1)) (As := [.int v1, .int v2]) (rest := []) (K := 51) C (mX4_whoseIn hL hy9) cw_X4_whoseIn wd_931 (by decide) rfl rfl ⟨Nat.le_of_ble_eq_true rfl, Nat.le_of_ble_eq_true rfl⟩ rfl rfl (Nat.le_of_ble_eq_true rfl) dX4_away_72 ?_
  refine v_aload_n C 0 dX4_away_75 rfl rfl ?_
  refine g_getR (K := 51) (i := 0) (j := 51 + 1) C (by decide) rfl rfl inX4 (by decide) rfl wd_667 dX4_away_76 ?_
  refine v_iconst (v := 5) C dX4_away_79 (by decide) ?_
  refine v_iload_n C 1 dX4_away_80 rfl rfl ?_
  refine v_iadd C dX4_away_81 ?_
  refine s_ald (k := 1) C hL (by decide) rfl dX4_away_82 hf (fun a10 hf => ?_)
  refine v_icmp_ne (tgt := 91) C dX4_away_83 (by decide) hf (fun hf => ?_) (fun hf => ?_)
  · refine v_iload_n C 3 dX4_away_91 rfl rfl ?_
    refine v_sub [0, 1, 2, 4] rfl ?_
    exact tX4_away_92 C hL hQ hk30 hf
  · refine v_iload C 4 dX4_away_86 rfl ?_
    refine v_goto (tgt := 92) C dX4_away_88 (by decide) ?_
    refine v_sub [0, 1, 2, 4] rfl ?_
    exact tX4_away_92 C hL hQ hk30 hf
def fX4_away_30 (N : Nat) (v1 : Int32) (v2 : Int32) : Nat → St2 → Int32 → Int32 → Option (Int32 × St2)
  | 0, _, _, _ => none
  | n + 1, x, v3, v4 => (rd (x 1) 135 2).bind fun a4 => if (1 <<< (a4 &&& 31)) ≤ v4 then ((pf x 0 5 0).bind fun x5 => if 0 ≤ v3 then (some (v3, x5)) else ((fX4_finds x5 3).bind fun y6 => some (y6.1, y6.2))) else (if v3 < 0 then (fX4_away_59 N (fX4_away_30 N v1 v2 n) x v1 v2 v3 v4) else ((fX4_ones N v4).bind fun y12 => (fX4_ones N v3).bind fun y13 => if y13 ≤ y12 then (fX4_away_93 N (fX4_away_30 N v1 v2 n) x v1 v2 v3 v4) else (fX4_away_59 N (fX4_away_30 N v1 v2 n) x v1 v2 v3 v4)))
set_option maxHeartbeats 4000000 in
set_option maxRecDepth 100000 in
theorem tX4_away_30 {E : EE} {B : BB} {l : Launch} {L : St2 → St2} {N : Nat} {v1 : Int32} {v2 : Int32} {res : (Int32 × St2)} (C : Cx E B l cX4_away RX4 (some .int) 5 6 135) (hL : Ln 51 10 L) (hQ : Fin9 E B (some (.int res.1)) (L res.2)) : ∀ (n : Nat) (x : St2) (v3 : Int32) (v4 : Int32), fX4_away_30 N v1 v2 n x v3 v4 = some res → V E B (L x) 30 [(0, .ref (ad B 51)), (1, .int v1), (2, .int v2), (3, .int v3), (4, .int v4)] [] := by
  intro n
  induction n with
  | zero =>
    intro x v3 v4 hf
    cases hf
  | succ n ih =>
    intro x v3 v4 hf
    rw [fX4_away_30] at hf
    refine v_iload C 4 dX4_away_30 rfl ?_
    refine v_iconst (v := 1) C dX4_away_32 (by decide) ?_
    refine v_aload_n C 0 dX4_away_33 rfl rfl ?_
    refine g_getR (K := 51) (i := 0) (j := 51 + 1) C (by decide) rfl rfl inX4 (by decide) rfl wd_667 dX4_away_34 ?_
    refine v_iconst (v := 2) C dX4_away_37 (by decide) ?_
    refine s_ald (k := 1) C hL (by decide) rfl dX4_away_38 hf (fun a4 hf => ?_)
    refine v_ishl C dX4_away_39 ?_
    refine v_icmp_ge (tgt := 99) C dX4_away_40 (by decide) hf (fun hf => ?_) (fun hf => ?_)
    · refine v_aload_n C 0 dX4_away_99 rfl rfl ?_
      refine v_iconst (v := 0) C dX4_away_100 (by decide) ?_
      refine s_putI (k := 0) (i := 5) C hL (by decide) rfl rfl inX4 tyX4 tyX4_ok nmX4 (by decide) rfl wd_672 rfl (by decide +kernel) dX4_away_101 hf (fun x5 hf => ?_)
      refine v_iload_n C 3 dX4_away_104 rfl rfl ?_
      refine v_if_ge (tgt := 116) C dX4_away_105 (by decide) hf (fun hf => ?_) (fun hf => ?_)
      · refine v_iload_n C 3 dX4_away_116 rfl rfl ?_
        exact v_iret C dX4_away_117 (fin_im hf hQ)
      · refine v_aload_n C 0 dX4_away_108 rfl rfl ?_
        refine v_iconst (v := 3) C dX4_away_109 (by decide) ?_
        obtain ⟨y6, hy6, hf⟩ := bnd hf
        refine v_callV (r := some (.int y6.1)) (As := [.int 3]) (rest := []) (K := 51) C (mX4_finds hL hy6) cw_X4_finds wd_725 (by decide) rfl rfl ⟨Nat.le_of_ble_eq_true rfl, Nat.le_of_ble_eq_true rfl⟩ rfl rfl (Nat.le_of_ble_eq_true rfl) dX4_away_110 ?_
        refine v_goto (tgt := 117) C dX4_away_113 (by decide) ?_
        exact v_iret C dX4_away_117 (fin_im hf hQ)
    · refine v_iload_n C 3 dX4_away_43 rfl rfl ?_
      refine v_if_lt (tgt := 59) C dX4_away_44 (by decide) hf (fun hf => ?_) (fun hf => ?_)
      · exact tX4_away_59 C hL hQ ih hf
      · refine v_iload C 4 dX4_away_47 rfl ?_
        obtain ⟨y12, hy12, hf⟩ := bnd hf
        refine v_callS (r := some (.int y12)) (As := [.int v4]) (rest := []) C (mX4_ones  hy12) cw_X4_ones wd_836 ⟨Nat.le_of_ble_eq_true rfl, Nat.le_of_ble_eq_true rfl⟩ rfl rfl (Nat.le_of_ble_eq_true rfl) dX4_away_49 ?_
        refine v_iload_n C 3 dX4_away_52 rfl rfl ?_
        obtain ⟨y13, hy13, hf⟩ := bnd hf
        refine v_callS (r := some (.int y13)) (As := [.int v3]) (rest := [.int y12]) C (mX4_ones  hy13) cw_X4_ones wd_836 ⟨Nat.le_of_ble_eq_true rfl, Nat.le_of_ble_eq_true rfl⟩ rfl rfl (Nat.le_of_ble_eq_true rfl) dX4_away_53 ?_
        refine v_icmp_ge (tgt := 93) C dX4_away_56 (by decide) hf (fun hf => ?_) (fun hf => ?_)
        · exact tX4_away_93 C hL hQ ih hf
        · exact tX4_away_59 C hL hQ ih hf
def fX4_away (N : Nat) (x : St2) (v1 : Int32) (v2 : Int32) : Option (Int32 × St2) := (fX4_isCell v1).bind fun y1 => if y1 = 0 then ((fX4_finds x 0).bind fun y2 => some (y2.1, y2.2)) else ((fX4_in v2.toInt64 0 20).bind fun y3 => if y3 = 0 then ((fX4_finds x 0).bind fun y14 => some (y14.1, y14.2)) else (fX4_away_30 N v1 v2 N x (-1) 0))
set_option maxHeartbeats 4000000 in
set_option maxRecDepth 100000 in
theorem tX4_away {E : EE} {B : BB} {l : Launch} {L : St2 → St2} {N : Nat} {x : St2} {v1 : Int32} {v2 : Int32} {res : (Int32 × St2)} (C : Cx E B l cX4_away RX4 (some .int) 5 6 135) (hL : Ln 51 10 L) (hQ : Fin9 E B (some (.int res.1)) (L res.2)) (hf : fX4_away N x v1 v2 = some res) : V E B (L x) 0 [(0, .ref (ad B 51)), (1, .int v1), (2, .int v2)] [] := by
  unfold fX4_away at hf
  refine v_iload_n C 1 dX4_away_0 rfl rfl ?_
  obtain ⟨y1, hy1, hf⟩ := bnd hf
  refine v_callS (r := some (.int y1)) (As := [.int v1]) (rest := []) C (mX4_isCell  hy1) cw_X4_isCell wd_717 ⟨Nat.le_of_ble_eq_true rfl, Nat.le_of_ble_eq_true rfl⟩ rfl rfl (Nat.le_of_ble_eq_true rfl) dX4_away_1 ?_
  refine v_if_eq (tgt := 19) C dX4_away_4 (by decide) hf (fun hf => ?_) (fun hf => ?_)
  · refine v_aload_n C 0 dX4_away_19 rfl rfl ?_
    refine v_iconst (v := 0) C dX4_away_20 (by decide) ?_
    obtain ⟨y2, hy2, hf⟩ := bnd hf
    refine v_callV (r := some (.int y2.1)) (As := [.int 0]) (rest := []) (K := 51) C (mX4_finds hL hy2) cw_X4_finds wd_725 (by decide) rfl rfl ⟨Nat.le_of_ble_eq_true rfl, Nat.le_of_ble_eq_true rfl⟩ rfl rfl (Nat.le_of_ble_eq_true rfl) dX4_away_21 ?_
    exact v_iret C dX4_away_24 (fin_im hf hQ)
  · refine v_iload_n C 2 dX4_away_7 rfl rfl ?_
    refine v_i2l C dX4_away_8 ?_
    refine v_lconst (v := 0) C dX4_away_9 (by decide) ?_
    refine v_ldc2 C wd_943 dX4_away_10 ?_
    obtain ⟨y3, hy3, hf⟩ := bnd hf
    refine v_callS (r := some (.int y3)) (As := [.long v2.toInt64, .long 0, .long 20]) (rest := []) C (mX4_in  hy3) cw_X4_in wd_721 ⟨Nat.le_of_ble_eq_true rfl, Nat.le_of_ble_eq_true rfl⟩ rfl rfl (Nat.le_of_ble_eq_true rfl) dX4_away_13 ?_
    refine v_if_ne (tgt := 25) C dX4_away_16 (by decide) hf (fun hf => ?_) (fun hf => ?_)
    · refine v_iconst (v := (-1)) C dX4_away_25 (by decide) ?_
      refine v_istore_n (lv' := [(0, .ref (ad B 51)), (1, .int v1), (2, .int v2), (3, .int (-1))]) C [1, 2, 3, 0] dX4_away_26 rfl (by decide) rfl ?_
      refine v_iconst (v := 0) C dX4_away_27 (by decide) ?_
      refine v_istore (lv' := [(0, .ref (ad B 51)), (1, .int v1), (2, .int v2), (3, .int (-1)), (4, .int 0)]) C [1, 2, 3, 4, 0] dX4_away_28 (by decide) rfl ?_
      exact tX4_away_30 C hL hQ N x (-1) 0 hf
    · refine v_aload_n C 0 dX4_away_19 rfl rfl ?_
      refine v_iconst (v := 0) C dX4_away_20 (by decide) ?_
      obtain ⟨y14, hy14, hf⟩ := bnd hf
      refine v_callV (r := some (.int y14.1)) (As := [.int 0]) (rest := []) (K := 51) C (mX4_finds hL hy14) cw_X4_finds wd_725 (by decide) rfl rfl ⟨Nat.le_of_ble_eq_true rfl, Nat.le_of_ble_eq_true rfl⟩ rfl rfl (Nat.le_of_ble_eq_true rfl) dX4_away_21 ?_
      exact v_iret C dX4_away_24 (fin_im hf hQ)
theorem mX4_away {B : BB} {l : Launch} {L : St2 → St2} {N : Nat} {x : St2} {v1 : Int32} {v2 : Int32} {res : (Int32 × St2)} (hL : Ln 51 10 L) (hf : fX4_away N x v1 v2 = some res) : Ret l B yX4_away cX4_away 5 (some .int) 6 135 [.ref (ad B 51), .int v1, .int v2] (L x) (some (.int res.1)) (L res.2) := ret_of (own := RX4) (by decide) rfl (Nat.le_of_ble_eq_true rfl) (fun E C hQ => tX4_away C hL hQ hf)
def fX4_censor_100 (N : Nat) (k20 : St2 → Int32 → Int32 → Int32 → Option (Int32 × St2)) (x : St2) (v1 : Int32) (v2 : Int32) (v4 : Int32) (s0 : Int32) : Option (Int32 × St2) := k20 x v2 s0 (v4 + 1)
set_option maxHeartbeats 4000000 in
set_option maxRecDepth 100000 in
theorem tX4_censor_100 {E : EE} {B : BB} {l : Launch} {L : St2 → St2} {N : Nat} {k20 : St2 → Int32 → Int32 → Int32 → Option (Int32 × St2)} {x : St2} {v1 : Int32} {v2 : Int32} {v4 : Int32} {s0 : Int32} {res : (Int32 × St2)} (C : Cx E B l cX4_censor RX4 (some .int) 7 5 112) (hL : Ln 51 10 L) (hQ : Fin9 E B (some (.int res.1)) (L res.2)) (hk20 : ∀ (x : St2) (v2 : Int32) (v3 : Int32) (v4 : Int32), k20 x v2 v3 v4 = some res → V E B (L x) 20 [(0, .ref (ad B 51)), (1, .int v1), (2, .int v2), (3, .int v3), (4, .int v4)] []) (hf : fX4_censor_100 N k20 x v1 v2 v4 s0 = some res) : V E B (L x) 100 [(0, .ref (ad B 51)), (1, .int v1), (2, .int v2), (4, .int v4)] [.int s0] := by
  unfold fX4_censor_100 at hf
  refine v_istore_n (lv' := [(0, .ref (ad B 51)), (1, .int v1), (2, .int v2), (3, .int s0), (4, .int v4)]) C [1, 2, 3, 0, 4] dX4_censor_100 rfl (by decide) rfl ?_
  refine v_iinc (q := 4) (v := v4 + 1) (lv' := [(0, .ref (ad B 51)), (1, .int v1), (2, .int v2), (3, .int s0), (4, .int (v4 + 1))]) C [1, 2, 3, 4, 0] dX4_censor_101 rfl rfl (by decide) rfl ?_
  refine v_goto (tgt := 20) C dX4_censor_104 (by decide) ?_
  exact hk20 x v2 s0 (v4 + 1) hf
def fX4_censor_88 (N : Nat) (k20 : St2 → Int32 → Int32 → Int32 → Option (Int32 × St2)) (x : St2) (v1 : Int32) (v3 : Int32) (v4 : Int32) (v5 : Int32) (v6 : Int32) (s0 : Int32) : Option (Int32 × St2) := if v6 = 0 then (fX4_censor_100 N k20 x v1 s0 v4 v3) else (fX4_censor_100 N k20 x v1 s0 v4 v5)
set_option maxHeartbeats 4000000 in
set_option maxRecDepth 100000 in
theorem tX4_censor_88 {E : EE} {B : BB} {l : Launch} {L : St2 → St2} {N : Nat} {k20 : St2 → Int32 → Int32 → Int32 → Option (Int32 × St2)} {x : St2} {v1 : Int32} {v3 : Int32} {v4 : Int32} {v5 : Int32} {v6 : Int32} {s0 : Int32} {res : (Int32 × St2)} (C : Cx E B l cX4_censor RX4 (some .int) 7 5 112) (hL : Ln 51 10 L) (hQ : Fin9 E B (some (.int res.1)) (L res.2)) (hk20 : ∀ (x : St2) (v2 : Int32) (v3 : Int32) (v4 : Int32), k20 x v2 v3 v4 = some res → V E B (L x) 20 [(0, .ref (ad B 51)), (1, .int v1), (2, .int v2), (3, .int v3), (4, .int v4)] []) (hf : fX4_censor_88 N k20 x v1 v3 v4 v5 v6 s0 = some res) : V E B (L x) 88 [(0, .ref (ad B 51)), (1, .int v1), (3, .int v3), (4, .int v4), (5, .int v5), (6, .int v6)] [.int s0] := by
  unfold fX4_censor_88 at hf
  refine v_istore_n (lv' := [(0, .ref (ad B 51)), (1, .int v1), (2, .int s0), (3, .int v3), (4, .int v4), (5, .int v5), (6, .int v6)]) C [1, 2, 0, 3, 4, 5, 6] dX4_censor_88 rfl (by decide) rfl ?_
  refine v_iload C 6 dX4_censor_89 rfl ?_
  refine v_if_eq (tgt := 99) C dX4_censor_91 (by decide) hf (fun hf => ?_) (fun hf => ?_)
  · refine v_iload_n C 3 dX4_censor_99 rfl rfl ?_
    refine v_sub [0, 1, 2, 4] rfl ?_
    exact tX4_censor_100 C hL hQ hk20 hf
  · refine v_iload C 5 dX4_censor_94 rfl ?_
    refine v_goto (tgt := 100) C dX4_censor_96 (by decide) ?_
    refine v_sub [0, 1, 2, 4] rfl ?_
    exact tX4_censor_100 C hL hQ hk20 hf
def fX4_censor_75 (N : Nat) (k20 : St2 → Int32 → Int32 → Int32 → Option (Int32 × St2)) (x : St2) (v1 : Int32) (v2 : Int32) (v3 : Int32) (v4 : Int32) (v5 : Int32) (s0 : Int32) : Option (Int32 × St2) := if s0 = 0 then (fX4_censor_88 N k20 x v1 v3 v4 v5 s0 v2) else (fX4_censor_88 N k20 x v1 v3 v4 v5 s0 v4)
set_option maxHeartbeats 4000000 in
set_option maxRecDepth 100000 in
theorem tX4_censor_75 {E : EE} {B : BB} {l : Launch} {L : St2 → St2} {N : Nat} {k20 : St2 → Int32 → Int32 → Int32 → Option (Int32 × St2)} {x : St2} {v1 : Int32} {v2 : Int32} {v3 : Int32} {v4 : Int32} {v5 : Int32} {s0 : Int32} {res : (Int32 × St2)} (C : Cx E B l cX4_censor RX4 (some .int) 7 5 112) (hL : Ln 51 10 L) (hQ : Fin9 E B (some (.int res.1)) (L res.2)) (hk20 : ∀ (x : St2) (v2 : Int32) (v3 : Int32) (v4 : Int32), k20 x v2 v3 v4 = some res → V E B (L x) 20 [(0, .ref (ad B 51)), (1, .int v1), (2, .int v2), (3, .int v3), (4, .int v4)] []) (hf : fX4_censor_75 N k20 x v1 v2 v3 v4 v5 s0 = some res) : V E B (L x) 75 [(0, .ref (ad B 51)), (1, .int v1), (2, .int v2), (3, .int v3), (4, .int v4), (5, .int v5)] [.int s0] := by
  unfold fX4_censor_75 at hf
  refine v_istore (lv' := [(0, .ref (ad B 51)), (1, .int v1), (2, .int v2), (3, .int v3), (4, .int v4), (5, .int v5), (6, .int s0)]) C [1, 2, 3, 4, 5, 6, 0] dX4_censor_75 (by decide) rfl ?_
  refine v_iload C 6 dX4_censor_77 rfl ?_
  refine v_if_eq (tgt := 87) C dX4_censor_79 (by decide) hf (fun hf => ?_) (fun hf => ?_)
  · refine v_iload_n C 2 dX4_censor_87 rfl rfl ?_
    refine v_sub [0, 1, 3, 4, 5, 6] rfl ?_
    exact tX4_censor_88 C hL hQ hk20 hf
  · refine v_iload C 4 dX4_censor_82 rfl ?_
    refine v_goto (tgt := 88) C dX4_censor_84 (by decide) ?_
    refine v_sub [0, 1, 3, 4, 5, 6] rfl ?_
    exact tX4_censor_88 C hL hQ hk20 hf
def fX4_censor_70 (N : Nat) (k20 : St2 → Int32 → Int32 → Int32 → Option (Int32 × St2)) (x : St2) (v1 : Int32) (v2 : Int32) (v3 : Int32) (v4 : Int32) (v5 : Int32) : Option (Int32 × St2) := fX4_censor_75 N k20 x v1 v2 v3 v4 v5 1
set_option maxHeartbeats 4000000 in
set_option maxRecDepth 100000 in
theorem tX4_censor_70 {E : EE} {B : BB} {l : Launch} {L : St2 → St2} {N : Nat} {k20 : St2 → Int32 → Int32 → Int32 → Option (Int32 × St2)} {x : St2} {v1 : Int32} {v2 : Int32} {v3 : Int32} {v4 : Int32} {v5 : Int32} {res : (Int32 × St2)} (C : Cx E B l cX4_censor RX4 (some .int) 7 5 112) (hL : Ln 51 10 L) (hQ : Fin9 E B (some (.int res.1)) (L res.2)) (hk20 : ∀ (x : St2) (v2 : Int32) (v3 : Int32) (v4 : Int32), k20 x v2 v3 v4 = some res → V E B (L x) 20 [(0, .ref (ad B 51)), (1, .int v1), (2, .int v2), (3, .int v3), (4, .int v4)] []) (hf : fX4_censor_70 N k20 x v1 v2 v3 v4 v5 = some res) : V E B (L x) 70 [(0, .ref (ad B 51)), (1, .int v1), (2, .int v2), (3, .int v3), (4, .int v4), (5, .int v5)] [] := by
  unfold fX4_censor_70 at hf
  refine v_iconst (v := 1) C dX4_censor_70 (by decide) ?_
  refine v_goto (tgt := 75) C dX4_censor_71 (by decide) ?_
  exact tX4_censor_75 C hL hQ hk20 hf
def fX4_censor_20 (N : Nat) (v1 : Int32) : Nat → St2 → Int32 → Int32 → Int32 → Option (Int32 × St2)
  | 0, _, _, _, _ => none
  | n + 1, x, v2, v3, v4 => (rd (x 1) 135 2).bind fun a2 => if a2 ≤ v4 then ((pf x 0 5 0).bind fun x3 => if 0 ≤ v2 then (some (v2, x3)) else ((fX4_finds x3 3).bind fun y4 => some (y4.1, y4.2))) else ((fX4_lends N x).bind fun y5 => (pf y5 0 5 (1 <<< (v4 &&& 31))).bind fun x6 => (fX4_hours N x6 v1).bind fun y7 => (rd (y7 1) 135 4).bind fun a8 => (fX4_laysBack N y7).bind fun y9 => if v2 < 0 then (fX4_censor_70 N (fX4_censor_20 N v1 n) y9 v1 v2 v3 v4 a8) else (if v3 ≤ a8 then (fX4_censor_75 N (fX4_censor_20 N v1 n) y9 v1 v2 v3 v4 a8 0) else (fX4_censor_70 N (fX4_censor_20 N v1 n) y9 v1 v2 v3 v4 a8)))
set_option maxHeartbeats 4000000 in
set_option maxRecDepth 100000 in
theorem tX4_censor_20 {E : EE} {B : BB} {l : Launch} {L : St2 → St2} {N : Nat} {v1 : Int32} {res : (Int32 × St2)} (C : Cx E B l cX4_censor RX4 (some .int) 7 5 112) (hL : Ln 51 10 L) (hQ : Fin9 E B (some (.int res.1)) (L res.2)) : ∀ (n : Nat) (x : St2) (v2 : Int32) (v3 : Int32) (v4 : Int32), fX4_censor_20 N v1 n x v2 v3 v4 = some res → V E B (L x) 20 [(0, .ref (ad B 51)), (1, .int v1), (2, .int v2), (3, .int v3), (4, .int v4)] [] := by
  intro n
  induction n with
  | zero =>
    intro x v2 v3 v4 hf
    cases hf
  | succ n ih =>
    intro x v2 v3 v4 hf
    rw [fX4_censor_20] at hf
    refine v_iload C 4 dX4_censor_20 rfl ?_
    refine v_aload_n C 0 dX4_censor_22 rfl rfl ?_
    refine g_getR (K := 51) (i := 0) (j := 51 + 1) C (by decide) rfl rfl inX4 (by decide) rfl wd_667 dX4_censor_23 ?_
    refine v_iconst (v := 2) C dX4_censor_26 (by decide) ?_
    refine s_ald (k := 1) C hL (by decide) rfl dX4_censor_27 hf (fun a2 hf => ?_)
    refine v_icmp_ge (tgt := 107) C dX4_censor_28 (by decide) hf (fun hf => ?_) (fun hf => ?_)
    · refine v_aload_n C 0 dX4_censor_107 rfl rfl ?_
      refine v_iconst (v := 0) C dX4_censor_108 (by decide) ?_
      refine s_putI (k := 0) (i := 5) C hL (by decide) rfl rfl inX4 tyX4 tyX4_ok nmX4 (by decide) rfl wd_672 rfl (by decide +kernel) dX4_censor_109 hf (fun x3 hf => ?_)
      refine v_iload_n C 2 dX4_censor_112 rfl rfl ?_
      refine v_if_ge (tgt := 124) C dX4_censor_113 (by decide) hf (fun hf => ?_) (fun hf => ?_)
      · refine v_iload_n C 2 dX4_censor_124 rfl rfl ?_
        exact v_iret C dX4_censor_125 (fin_im hf hQ)
      · refine v_aload_n C 0 dX4_censor_116 rfl rfl ?_
        refine v_iconst (v := 3) C dX4_censor_117 (by decide) ?_
        obtain ⟨y4, hy4, hf⟩ := bnd hf
        refine v_callV (r := some (.int y4.1)) (As := [.int 3]) (rest := []) (K := 51) C (mX4_finds hL hy4) cw_X4_finds wd_725 (by decide) rfl rfl ⟨Nat.le_of_ble_eq_true rfl, Nat.le_of_ble_eq_true rfl⟩ rfl rfl (Nat.le_of_ble_eq_true rfl) dX4_censor_118 ?_
        refine v_goto (tgt := 125) C dX4_censor_121 (by decide) ?_
        exact v_iret C dX4_censor_125 (fin_im hf hQ)
    · refine v_aload_n C 0 dX4_censor_31 rfl rfl ?_
      obtain ⟨y5, hy5, hf⟩ := bnd hf
      refine v_callV (r := none) (As := []) (rest := []) (K := 51) C (mX4_lends hL hy5) cw_X4_lends wd_868 (by decide) rfl rfl ⟨Nat.le_of_ble_eq_true rfl, Nat.le_of_ble_eq_true rfl⟩ rfl rfl (Nat.le_of_ble_eq_true rfl) dX4_censor_32 ?_
      refine v_aload_n C 0 dX4_censor_35 rfl rfl ?_
      refine v_iconst (v := 1) C dX4_censor_36 (by decide) ?_
      refine v_iload C 4 dX4_censor_37 rfl ?_
      refine v_ishl C dX4_censor_39 ?_
      refine s_putI (k := 0) (i := 5) C hL (by decide) rfl rfl inX4 tyX4 tyX4_ok nmX4 (by decide) rfl wd_672 rfl (by decide +kernel) dX4_censor_40 hf (fun x6 hf => ?_)
      refine v_aload_n C 0 dX4_censor_43 rfl rfl ?_
      refine v_iload_n C 1 dX4_censor_44 rfl rfl ?_
      obtain ⟨y7, hy7, hf⟩ := bnd hf
      refine v_callV (r := none) (As := [.int v1]) (rest := []) (K := 51) C (mX4_hours hL hy7) cw_X4_hours wd_820 (by decide) rfl rfl ⟨Nat.le_of_ble_eq_true rfl, Nat.le_of_ble_eq_true rfl⟩ rfl rfl (Nat.le_of_ble_eq_true rfl) dX4_censor_45 ?_
      refine v_aload_n C 0 dX4_censor_48 rfl rfl ?_
      refine g_getR (K := 51) (i := 0) (j := 51 + 1) C (by decide) rfl rfl inX4 (by decide) rfl wd_667 dX4_censor_49 ?_
      refine v_iconst (v := 4) C dX4_censor_52 (by decide) ?_
      refine s_ald (k := 1) C hL (by decide) rfl dX4_censor_53 hf (fun a8 hf => ?_)
      refine v_istore (lv' := [(0, .ref (ad B 51)), (1, .int v1), (2, .int v2), (3, .int v3), (4, .int v4), (5, .int a8)]) C [1, 2, 3, 4, 5, 0] dX4_censor_54 (by decide) rfl ?_
      refine v_aload_n C 0 dX4_censor_56 rfl rfl ?_
      obtain ⟨y9, hy9, hf⟩ := bnd hf
      refine v_callV (r := none) (As := []) (rest := []) (K := 51) C (mX4_laysBack hL hy9) cw_X4_laysBack wd_875 (by decide) rfl rfl ⟨Nat.le_of_ble_eq_true rfl, Nat.le_of_ble_eq_true rfl⟩ rfl rfl (Nat.le_of_ble_eq_true rfl) dX4_censor_57 ?_
      refine v_iload_n C 2 dX4_censor_60 rfl rfl ?_
      refine v_if_lt (tgt := 70) C dX4_censor_61 (by decide) hf (fun hf => ?_) (fun hf => ?_)
      · exact tX4_censor_70 C hL hQ ih hf
      · refine v_iload C 5 dX4_censor_64 rfl ?_
        refine v_iload_n C 3 dX4_censor_66 rfl rfl ?_
        refine v_icmp_ge (tgt := 74) C dX4_censor_67 (by decide) hf (fun hf => ?_) (fun hf => ?_)
        · refine v_iconst (v := 0) C dX4_censor_74 (by decide) ?_
          exact tX4_censor_75 C hL hQ ih hf
        · exact tX4_censor_70 C hL hQ ih hf
def fX4_censor (N : Nat) (x : St2) (v1 : Int32) : Option (Int32 × St2) := (fX4_isSoon v1).bind fun y1 => if y1 = 0 then ((fX4_finds x 0).bind fun y11 => some (y11.1, y11.2)) else (fX4_censor_20 N v1 N x (-1) 0 0)
set_option maxHeartbeats 4000000 in
set_option maxRecDepth 100000 in
theorem tX4_censor {E : EE} {B : BB} {l : Launch} {L : St2 → St2} {N : Nat} {x : St2} {v1 : Int32} {res : (Int32 × St2)} (C : Cx E B l cX4_censor RX4 (some .int) 7 5 112) (hL : Ln 51 10 L) (hQ : Fin9 E B (some (.int res.1)) (L res.2)) (hf : fX4_censor N x v1 = some res) : V E B (L x) 0 [(0, .ref (ad B 51)), (1, .int v1)] [] := by
  unfold fX4_censor at hf
  refine v_iload_n C 1 dX4_censor_0 rfl rfl ?_
  obtain ⟨y1, hy1, hf⟩ := bnd hf
  refine v_callS (r := some (.int y1)) (As := [.int v1]) (rest := []) C (mX4_isSoon  hy1) cw_X4_isSoon wd_911 ⟨Nat.le_of_ble_eq_true rfl, Nat.le_of_ble_eq_true rfl⟩ rfl rfl (Nat.le_of_ble_eq_true rfl) dX4_censor_1 ?_
  refine v_if_ne (tgt := 13) C dX4_censor_4 (by decide) hf (fun hf => ?_) (fun hf => ?_)
  · refine v_iconst (v := (-1)) C dX4_censor_13 (by decide) ?_
    refine v_istore_n (lv' := [(0, .ref (ad B 51)), (1, .int v1), (2, .int (-1))]) C [1, 2, 0] dX4_censor_14 rfl (by decide) rfl ?_
    refine v_iconst (v := 0) C dX4_censor_15 (by decide) ?_
    refine v_istore_n (lv' := [(0, .ref (ad B 51)), (1, .int v1), (2, .int (-1)), (3, .int 0)]) C [1, 2, 3, 0] dX4_censor_16 rfl (by decide) rfl ?_
    refine v_iconst (v := 0) C dX4_censor_17 (by decide) ?_
    refine v_istore (lv' := [(0, .ref (ad B 51)), (1, .int v1), (2, .int (-1)), (3, .int 0), (4, .int 0)]) C [1, 2, 3, 4, 0] dX4_censor_18 (by decide) rfl ?_
    exact tX4_censor_20 C hL hQ N x (-1) 0 0 hf
  · refine v_aload_n C 0 dX4_censor_7 rfl rfl ?_
    refine v_iconst (v := 0) C dX4_censor_8 (by decide) ?_
    obtain ⟨y11, hy11, hf⟩ := bnd hf
    refine v_callV (r := some (.int y11.1)) (As := [.int 0]) (rest := []) (K := 51) C (mX4_finds hL hy11) cw_X4_finds wd_725 (by decide) rfl rfl ⟨Nat.le_of_ble_eq_true rfl, Nat.le_of_ble_eq_true rfl⟩ rfl rfl (Nat.le_of_ble_eq_true rfl) dX4_censor_9 ?_
    exact v_iret C dX4_censor_12 (fin_im hf hQ)
theorem mX4_censor {B : BB} {l : Launch} {L : St2 → St2} {N : Nat} {x : St2} {v1 : Int32} {res : (Int32 × St2)} (hL : Ln 51 10 L) (hf : fX4_censor N x v1 = some res) : Ret l B yX4_censor cX4_censor 7 (some .int) 5 112 [.ref (ad B 51), .int v1] (L x) (some (.int res.1)) (L res.2) := ret_of (own := RX4) (by decide) rfl (Nat.le_of_ble_eq_true rfl) (fun E C hQ => tX4_censor C hL hQ hf)
def fX4_isSo_82 (N : Nat) (k11 : Int32 → Int32 → Option (Int32 × St2)) (x : St2) (v1 : Int32) (v2 : Int32) (v5 : Int32) (s0 : Int32) : Option (Int32 × St2) := k11 s0 (v5 + 1)
set_option maxHeartbeats 4000000 in
set_option maxRecDepth 100000 in
theorem tX4_isSo_82 {E : EE} {B : BB} {l : Launch} {L : St2 → St2} {N : Nat} {k11 : Int32 → Int32 → Option (Int32 × St2)} {x : St2} {v1 : Int32} {v2 : Int32} {v5 : Int32} {s0 : Int32} {res : (Int32 × St2)} (C : Cx E B l cX4_isSo RX4 (some .boolean) 7 5 112) (hL : Ln 51 10 L) (hQ : Fin9 E B (some (.int res.1)) (L res.2)) (hk11 : ∀ (v4 : Int32) (v5 : Int32), k11 v4 v5 = some res → V E B (L x) 11 [(0, .ref (ad B 51)), (1, .int v1), (2, .int v2), (4, .int v4), (5, .int v5)] []) (hf : fX4_isSo_82 N k11 x v1 v2 v5 s0 = some res) : V E B (L x) 82 [(0, .ref (ad B 51)), (1, .int v1), (2, .int v2), (5, .int v5)] [.int s0] := by
  unfold fX4_isSo_82 at hf
  refine v_istore (lv' := [(0, .ref (ad B 51)), (1, .int v1), (2, .int v2), (4, .int s0), (5, .int v5)]) C [1, 2, 3, 0, 4] dX4_isSo_82 (by decide) rfl ?_
  refine v_iinc (q := 4) (v := v5 + 1) (lv' := [(0, .ref (ad B 51)), (1, .int v1), (2, .int v2), (4, .int s0), (5, .int (v5 + 1))]) C [1, 2, 3, 4, 0] dX4_isSo_84 rfl rfl (by decide) rfl ?_
  refine v_goto (tgt := 11) C dX4_isSo_87 (by decide) ?_
  exact hk11 s0 (v5 + 1) hf
def fX4_isSo_81 (N : Nat) (k11 : Int32 → Int32 → Option (Int32 × St2)) (x : St2) (v1 : Int32) (v2 : Int32) (v5 : Int32) : Option (Int32 × St2) := fX4_isSo_82 N k11 x v1 v2 v5 0
set_option maxHeartbeats 4000000 in
set_option maxRecDepth 100000 in
theorem tX4_isSo_81 {E : EE} {B : BB} {l : Launch} {L : St2 → St2} {N : Nat} {k11 : Int32 → Int32 → Option (Int32 × St2)} {x : St2} {v1 : Int32} {v2 : Int32} {v5 : Int32} {res : (Int32 × St2)} (C : Cx E B l cX4_isSo RX4 (some .boolean) 7 5 112) (hL : Ln 51 10 L) (hQ : Fin9 E B (some (.int res.1)) (L res.2)) (hk11 : ∀ (v4 : Int32) (v5 : Int32), k11 v4 v5 = some res → V E B (L x) 11 [(0, .ref (ad B 51)), (1, .int v1), (2, .int v2), (4, .int v4), (5, .int v5)] []) (hf : fX4_isSo_81 N k11 x v1 v2 v5 = some res) : V E B (L x) 81 [(0, .ref (ad B 51)), (1, .int v1), (2, .int v2), (5, .int v5)] [] := by
  unfold fX4_isSo_81 at hf
  refine v_iconst (v := 0) C dX4_isSo_81 (by decide) ?_
  exact tX4_isSo_82 C hL hQ hk11 hf
def fX4_isSo_77 (N : Nat) (k11 : Int32 → Int32 → Option (Int32 × St2)) (x : St2) (v1 : Int32) (v2 : Int32) (v5 : Int32) : Option (Int32 × St2) := fX4_isSo_82 N k11 x v1 v2 v5 1
set_option maxHeartbeats 4000000 in
set_option maxRecDepth 100000 in
theorem tX4_isSo_77 {E : EE} {B : BB} {l : Launch} {L : St2 → St2} {N : Nat} {k11 : Int32 → Int32 → Option (Int32 × St2)} {x : St2} {v1 : Int32} {v2 : Int32} {v5 : Int32} {res : (Int32 × St2)} (C : Cx E B l cX4_isSo RX4 (some .boolean) 7 5 112) (hL : Ln 51 10 L) (hQ : Fin9 E B (some (.int res.1)) (L res.2)) (hk11 : ∀ (v4 : Int32) (v5 : Int32), k11 v4 v5 = some res → V E B (L x) 11 [(0, .ref (ad B 51)), (1, .int v1), (2, .int v2), (4, .int v4), (5, .int v5)] []) (hf : fX4_isSo_77 N k11 x v1 v2 v5 = some res) : V E B (L x) 77 [(0, .ref (ad B 51)), (1, .int v1), (2, .int v2), (5, .int v5)] [] := by
  unfold fX4_isSo_77 at hf
  refine v_iconst (v := 1) C dX4_isSo_77 (by decide) ?_
  refine v_goto (tgt := 82) C dX4_isSo_78 (by decide) ?_
  exact tX4_isSo_82 C hL hQ hk11 hf
def fX4_isSo_74 (N : Nat) (k11 : Int32 → Int32 → Option (Int32 × St2)) (x : St2) (v1 : Int32) (v2 : Int32) (v5 : Int32) (s0 : Int32) (s1 : Int32) : Option (Int32 × St2) := if s1 = s0 then (fX4_isSo_77 N k11 x v1 v2 v5) else (fX4_isSo_81 N k11 x v1 v2 v5)
set_option maxHeartbeats 4000000 in
set_option maxRecDepth 100000 in
theorem tX4_isSo_74 {E : EE} {B : BB} {l : Launch} {L : St2 → St2} {N : Nat} {k11 : Int32 → Int32 → Option (Int32 × St2)} {x : St2} {v1 : Int32} {v2 : Int32} {v5 : Int32} {s0 : Int32} {s1 : Int32} {res : (Int32 × St2)} (C : Cx E B l cX4_isSo RX4 (some .boolean) 7 5 112) (hL : Ln 51 10 L) (hQ : Fin9 E B (some (.int res.1)) (L res.2)) (hk11 : ∀ (v4 : Int32) (v5 : Int32), k11 v4 v5 = some res → V E B (L x) 11 [(0, .ref (ad B 51)), (1, .int v1), (2, .int v2), (4, .int v4), (5, .int v5)] []) (hf : fX4_isSo_74 N k11 x v1 v2 v5 s0 s1 = some res) : V E B (L x) 74 [(0, .ref (ad B 51)), (1, .int v1), (2, .int v2), (5, .int v5)] [.int s0, .int s1] := by
  unfold fX4_isSo_74 at hf
  refine v_icmp_ne (tgt := 81) C dX4_isSo_74 (by decide) hf (fun hf => ?_) (fun hf => ?_)
  · exact tX4_isSo_81 C hL hQ hk11 hf
  · exact tX4_isSo_77 C hL hQ hk11 hf
def fX4_isSo_11 (N : Nat) (x : St2) (v1 : Int32) (v2 : Int32) : Nat → Int32 → Int32 → Option (Int32 × St2)
  | 0, _, _ => none
  | n + 1, v4, v5 => (rd (x 7) 4 v1).bind fun a2 => if a2 ≤ v5 then ((fX4_laysBack N x).bind fun y3 => (bz v4).bind fun w4 => some (w4, y3)) else (if 24 ≤ v5 then ((fX4_laysBack N x).bind fun y5 => (bz v4).bind fun w6 => some (w6, y5)) else ((rd (x 8) 160 ((40 * v1) + v5)).bind fun a7 => if v4 = 0 then (fX4_isSo_81 N (fX4_isSo_11 N x v1 v2 n) x v1 v2 v5) else (if a7 = (-1) then (fX4_isSo_77 N (fX4_isSo_11 N x v1 v2 n) x v1 v2 v5) else ((rd (x 1) 135 (5 + v5)).bind fun a9 => if a9 = v2 then (fX4_isSo_74 N (fX4_isSo_11 N x v1 v2 n) x v1 v2 v5 1 a7) else (fX4_isSo_74 N (fX4_isSo_11 N x v1 v2 n) x v1 v2 v5 0 a7)))))
set_option maxHeartbeats 4000000 in
set_option maxRecDepth 100000 in
theorem tX4_isSo_11 {E : EE} {B : BB} {l : Launch} {L : St2 → St2} {N : Nat} {x : St2} {v1 : Int32} {v2 : Int32} {res : (Int32 × St2)} (C : Cx E B l cX4_isSo RX4 (some .boolean) 7 5 112) (hL : Ln 51 10 L) (hQ : Fin9 E B (some (.int res.1)) (L res.2)) : ∀ (n : Nat) (v4 : Int32) (v5 : Int32), fX4_isSo_11 N x v1 v2 n v4 v5 = some res → V E B (L x) 11 [(0, .ref (ad B 51)), (1, .int v1), (2, .int v2), (4, .int v4), (5, .int v5)] [] := by
  intro n
  induction n with
  | zero =>
    intro v4 v5 hf
    cases hf
  | succ n ih =>
    intro v4 v5 hf
    rw [fX4_isSo_11] at hf
    refine v_iload C 4 dX4_isSo_11 rfl ?_
    refine v_aload_n C 0 dX4_isSo_13 rfl rfl ?_
    refine g_getR (K := 51) (i := 12) (j := 51 + 7) C (by decide) rfl rfl inX4 (by decide) rfl wd_679 dX4_isSo_14 ?_
    refine v_iload_n C 1 dX4_isSo_17 rfl rfl ?_
    refine s_ald (k := 7) C hL (by decide) rfl dX4_isSo_18 hf (fun a2 hf => ?_)
    refine v_icmp_ge (tgt := 90) C dX4_isSo_19 (by decide) hf (fun hf => ?_) (fun hf => ?_)
    · refine v_aload_n C 0 dX4_isSo_90 rfl rfl ?_
      obtain ⟨y3, hy3, hf⟩ := bnd hf
      refine v_callV (r := none) (As := []) (rest := []) (K := 51) C (mX4_laysBack hL hy3) cw_X4_laysBack wd_875 (by decide) rfl rfl ⟨Nat.le_of_ble_eq_true rfl, Nat.le_of_ble_eq_true rfl⟩ rfl rfl (Nat.le_of_ble_eq_true rfl) dX4_isSo_91 ?_
      refine v_iload C 3 dX4_isSo_94 rfl ?_
      obtain ⟨hz, hf⟩ := bz_b hf
      exact v_zret C hz dX4_isSo_96 (fin_im hf hQ)
    · refine v_iload C 4 dX4_isSo_22 rfl ?_
      refine v_bipush (v := 24) C dX4_isSo_24 (by decide) ?_
      refine v_icmp_ge (tgt := 90) C dX4_isSo_26 (by decide) hf (fun hf => ?_) (fun hf => ?_)
      · refine v_aload_n C 0 dX4_isSo_90 rfl rfl ?_
        obtain ⟨y5, hy5, hf⟩ := bnd hf
        refine v_callV (r := none) (As := []) (rest := []) (K := 51) C (mX4_laysBack hL hy5) cw_X4_laysBack wd_875 (by decide) rfl rfl ⟨Nat.le_of_ble_eq_true rfl, Nat.le_of_ble_eq_true rfl⟩ rfl rfl (Nat.le_of_ble_eq_true rfl) dX4_isSo_91 ?_
        refine v_iload C 3 dX4_isSo_94 rfl ?_
        obtain ⟨hz, hf⟩ := bz_b hf
        exact v_zret C hz dX4_isSo_96 (fin_im hf hQ)
      · refine v_aload_n C 0 dX4_isSo_29 rfl rfl ?_
        refine g_getR (K := 51) (i := 13) (j := 51 + 8) C (by decide) rfl rfl inX4 (by decide) rfl wd_680 dX4_isSo_30 ?_
        refine v_bipush (v := 40) C dX4_isSo_33 (by decide) ?_
        refine v_iload_n C 1 dX4_isSo_35 rfl rfl ?_
        refine v_imul C dX4_isSo_36 ?_
        refine v_iload C 4 dX4_isSo_37 rfl ?_
        refine v_iadd C dX4_isSo_39 ?_
        refine s_ald (k := 8) C hL (by decide) rfl dX4_isSo_40 hf (fun a7 hf => ?_)
        refine v_istore (lv' := [(0, .ref (ad B 51)), (1, .int v1), (2, .int v2), (4, .int v4), (5, .int v5), (6, .int a7)]) C [1, 2, 3, 4, 5, 0] dX4_isSo_41 (by decide) rfl ?_
        refine v_iload C 3 dX4_isSo_43 rfl ?_
        refine v_if_eq (tgt := 81) C dX4_isSo_45 (by decide) hf (fun hf => ?_) (fun hf => ?_)
        · refine v_sub [0, 1, 2, 4] rfl ?_
          exact tX4_isSo_81 C hL hQ ih hf
        · refine v_iload C 5 dX4_isSo_48 rfl ?_
          refine v_iconst (v := (-1)) C dX4_isSo_50 (by decide) ?_
          refine v_icmp_eq (tgt := 77) C dX4_isSo_51 (by decide) hf (fun hf => ?_) (fun hf => ?_)
          · refine v_sub [0, 1, 2, 4] rfl ?_
            exact tX4_isSo_77 C hL hQ ih hf
          · refine v_iload C 5 dX4_isSo_54 rfl ?_
            refine v_aload_n C 0 dX4_isSo_56 rfl rfl ?_
            refine g_getR (K := 51) (i := 0) (j := 51 + 1) C (by decide) rfl rfl inX4 (by decide) rfl wd_667 dX4_isSo_57 ?_
            refine v_iconst (v := 5) C dX4_isSo_60 (by decide) ?_
            refine v_iload C 4 dX4_isSo_61 rfl ?_
            refine v_iadd C dX4_isSo_63 ?_
            refine s_ald (k := 1) C hL (by decide) rfl dX4_isSo_64 hf (fun a9 hf => ?_)
            refine v_iload_n C 2 dX4_isSo_65 rfl rfl ?_
            refine v_icmp_ne (tgt := 73) C dX4_isSo_66 (by decide) hf (fun hf => ?_) (fun hf => ?_)
            · refine v_iconst (v := 0) C dX4_isSo_73 (by decide) ?_
              refine v_sub [0, 1, 2, 4] rfl ?_
              exact tX4_isSo_74 C hL hQ ih hf
            · refine v_iconst (v := 1) C dX4_isSo_69 (by decide) ?_
              refine v_goto (tgt := 74) C dX4_isSo_70 (by decide) ?_
              refine v_sub [0, 1, 2, 4] rfl ?_
              exact tX4_isSo_74 C hL hQ ih hf
def fX4_isSo (N : Nat) (x : St2) (v1 : Int32) (v2 : Int32) (v3 : Int32) : Option (Int32 × St2) := (fX4_hours N x v3).bind fun y1 => fX4_isSo_11 N y1 v1 v2 N 1 0
set_option maxHeartbeats 4000000 in
set_option maxRecDepth 100000 in
theorem tX4_isSo {E : EE} {B : BB} {l : Launch} {L : St2 → St2} {N : Nat} {x : St2} {v1 : Int32} {v2 : Int32} {v3 : Int32} {res : (Int32 × St2)} (C : Cx E B l cX4_isSo RX4 (some .boolean) 7 5 112) (hL : Ln 51 10 L) (hQ : Fin9 E B (some (.int res.1)) (L res.2)) (hf : fX4_isSo N x v1 v2 v3 = some res) : V E B (L x) 0 [(0, .ref (ad B 51)), (1, .int v1), (2, .int v2), (3, .int v3)] [] := by
  unfold fX4_isSo at hf
  refine v_aload_n C 0 dX4_isSo_0 rfl rfl ?_
  refine v_iload_n C 3 dX4_isSo_1 rfl rfl ?_
  obtain ⟨y1, hy1, hf⟩ := bnd hf
  refine v_callV (r := none) (As := [.int v3]) (rest := []) (K := 51) C (mX4_hours hL hy1) cw_X4_hours wd_820 (by decide) rfl rfl ⟨Nat.le_of_ble_eq_true rfl, Nat.le_of_ble_eq_true rfl⟩ rfl rfl (Nat.le_of_ble_eq_true rfl) dX4_isSo_2 ?_
  refine v_iconst (v := 1) C dX4_isSo_5 (by decide) ?_
  refine v_istore (lv' := [(0, .ref (ad B 51)), (1, .int v1), (2, .int v2), (3, .int v3), (4, .int 1)]) C [1, 2, 3, 4, 0] dX4_isSo_6 (by decide) rfl ?_
  refine v_iconst (v := 0) C dX4_isSo_8 (by decide) ?_
  refine v_istore (lv' := [(0, .ref (ad B 51)), (1, .int v1), (2, .int v2), (3, .int v3), (4, .int 1), (5, .int 0)]) C [1, 2, 3, 4, 5, 0] dX4_isSo_9 (by decide) rfl ?_
  refine v_sub [0, 1, 2, 4, 5] rfl ?_
  exact tX4_isSo_11 C hL hQ N 1 0 hf
theorem mX4_isSo {B : BB} {l : Launch} {L : St2 → St2} {N : Nat} {x : St2} {v1 : Int32} {v2 : Int32} {v3 : Int32} {res : (Int32 × St2)} (hL : Ln 51 10 L) (hf : fX4_isSo N x v1 v2 v3 = some res) : Ret l B yX4_isSo cX4_isSo 7 (some .boolean) 5 112 [.ref (ad B 51), .int v1, .int v2, .int v3] (L x) (some (.int res.1)) (L res.2) := ret_of (own := RX4) (by decide) rfl (Nat.le_of_ble_eq_true rfl) (fun E C hQ => tX4_isSo C hL hQ hf)
def fX4_lacks (x : St2) (v1 : Int32) : Option Int32 := (fX4_isSheet v1).bind fun y1 => if y1 = 0 then (some 0) else ((rd (x 6) 4 v1).bind fun a2 => if a2 = 0 then (some 5) else (some (-1)))
set_option maxHeartbeats 4000000 in
set_option maxRecDepth 100000 in
theorem tX4_lacks {E : EE} {B : BB} {l : Launch} {L : St2 → St2} {x : St2} {v1 : Int32} {res : Int32} (C : Cx E B l cX4_lacks RX4 (some .int) 2 2 45) (hL : Ln 51 10 L) (hQ : Fin9 E B (some (.int res)) (L x)) (hf : fX4_lacks x v1 = some res) : V E B (L x) 0 [(0, .ref (ad B 51)), (1, .int v1)] [] := by
  unfold fX4_lacks at hf
  refine v_iload_n C 1 dX4_lacks_0 rfl rfl ?_
  obtain ⟨y1, hy1, hf⟩ := bnd hf
  refine v_callS (r := some (.int y1)) (As := [.int v1]) (rest := []) C (mX4_isSheet  hy1) cw_X4_isSheet wd_960 ⟨Nat.le_of_ble_eq_true rfl, Nat.le_of_ble_eq_true rfl⟩ rfl rfl (Nat.le_of_ble_eq_true rfl) dX4_lacks_1 ?_
  refine v_if_ne (tgt := 11) C dX4_lacks_4 (by decide) hf (fun hf => ?_) (fun hf => ?_)
  · refine v_aload_n C 0 dX4_lacks_11 rfl rfl ?_
    refine g_getR (K := 51) (i := 11) (j := 51 + 6) C (by decide) rfl rfl inX4 (by decide) rfl wd_678 dX4_lacks_12 ?_
    refine v_iload_n C 1 dX4_lacks_15 rfl rfl ?_
    refine s_ald (k := 6) C hL (by decide) rfl dX4_lacks_16 hf (fun a2 hf => ?_)
    refine v_if_ne (tgt := 24) C dX4_lacks_17 (by decide) hf (fun hf => ?_) (fun hf => ?_)
    · refine v_iconst (v := (-1)) C dX4_lacks_24 (by decide) ?_
      exact v_iret C dX4_lacks_25 (fin_i hf hQ)
    · refine v_iconst (v := 5) C dX4_lacks_20 (by decide) ?_
      refine v_goto (tgt := 25) C dX4_lacks_21 (by decide) ?_
      exact v_iret C dX4_lacks_25 (fin_i hf hQ)
  · refine v_iconst (v := 0) C dX4_lacks_7 (by decide) ?_
    refine v_goto (tgt := 25) C dX4_lacks_8 (by decide) ?_
    exact v_iret C dX4_lacks_25 (fin_i hf hQ)
theorem mX4_lacks {B : BB} {l : Launch} {L : St2 → St2} {x : St2} {v1 : Int32} {res : Int32} (hL : Ln 51 10 L) (hf : fX4_lacks x v1 = some res) : Ret l B yX4_lacks cX4_lacks 2 (some .int) 2 45 [.ref (ad B 51), .int v1] (L x) (some (.int res)) (L x) := ret_of (own := RX4) (by decide) rfl (Nat.le_of_ble_eq_true rfl) (fun E C hQ => tX4_lacks C hL hQ hf)
def fX4_lacksAsked (x : St2) (v1 : Int32) (v2 : Int32) (v3 : Int32) : Option Int32 := (fX4_lacks x v1).bind fun y1 => if y1 < 0 then ((fX4_isWalker x v2).bind fun y2 => if y2 = 0 then (some 0) else ((fX4_in v3.toInt64 0 20).bind fun y3 => if y3 = 0 then (some 0) else (some (-1)))) else (some y1)
set_option maxHeartbeats 4000000 in
set_option maxRecDepth 100000 in
theorem tX4_lacksAsked {E : EE} {B : BB} {l : Launch} {L : St2 → St2} {x : St2} {v1 : Int32} {v2 : Int32} {v3 : Int32} {res : Int32} (C : Cx E B l cX4_lacksAsked RX4 (some .int) 5 3 66) (hL : Ln 51 10 L) (hQ : Fin9 E B (some (.int res)) (L x)) (hf : fX4_lacksAsked x v1 v2 v3 = some res) : V E B (L x) 0 [(0, .ref (ad B 51)), (1, .int v1), (2, .int v2), (3, .int v3)] [] := by
  unfold fX4_lacksAsked at hf
  refine v_aload_n C 0 dX4_lacksAsked_0 rfl rfl ?_
  refine v_iload_n C 1 dX4_lacksAsked_1 rfl rfl ?_
  obtain ⟨y1, hy1, hf⟩ := bnd hf
  refine v_callV (r := some (.int y1)) (As := [.int v1]) (rest := []) (K := 51) C (mX4_lacks hL hy1) cw_X4_lacks wd_956 (by decide) rfl rfl ⟨Nat.le_of_ble_eq_true rfl, Nat.le_of_ble_eq_true rfl⟩ rfl rfl (Nat.le_of_ble_eq_true rfl) dX4_lacksAsked_2 ?_
  refine v_istore (lv' := [(0, .ref (ad B 51)), (1, .int v1), (2, .int v2), (3, .int v3), (4, .int y1)]) C [1, 2, 3, 4, 0] dX4_lacksAsked_5 (by decide) rfl ?_
  refine v_iload C 4 dX4_lacksAsked_7 rfl ?_
  refine v_if_lt (tgt := 15) C dX4_lacksAsked_9 (by decide) hf (fun hf => ?_) (fun hf => ?_)
  · refine v_aload_n C 0 dX4_lacksAsked_15 rfl rfl ?_
    refine v_iload_n C 2 dX4_lacksAsked_16 rfl rfl ?_
    obtain ⟨y2, hy2, hf⟩ := bnd hf
    refine v_callV (r := some (.int y2)) (As := [.int v2]) (rest := []) (K := 51) C (mX4_isWalker hL hy2) cw_X4_isWalker wd_742 (by decide) rfl rfl ⟨Nat.le_of_ble_eq_true rfl, Nat.le_of_ble_eq_true rfl⟩ rfl rfl (Nat.le_of_ble_eq_true rfl) dX4_lacksAsked_17 ?_
    refine v_if_eq (tgt := 39) C dX4_lacksAsked_20 (by decide) hf (fun hf => ?_) (fun hf => ?_)
    · refine v_iconst (v := 0) C dX4_lacksAsked_39 (by decide) ?_
      exact v_iret C dX4_lacksAsked_40 (fin_i hf hQ)
    · refine v_iload_n C 3 dX4_lacksAsked_23 rfl rfl ?_
      refine v_i2l C dX4_lacksAsked_24 ?_
      refine v_lconst (v := 0) C dX4_lacksAsked_25 (by decide) ?_
      refine v_ldc2 C wd_943 dX4_lacksAsked_26 ?_
      obtain ⟨y3, hy3, hf⟩ := bnd hf
      refine v_callS (r := some (.int y3)) (As := [.long v3.toInt64, .long 0, .long 20]) (rest := []) C (mX4_in  hy3) cw_X4_in wd_721 ⟨Nat.le_of_ble_eq_true rfl, Nat.le_of_ble_eq_true rfl⟩ rfl rfl (Nat.le_of_ble_eq_true rfl) dX4_lacksAsked_29 ?_
      refine v_if_eq (tgt := 39) C dX4_lacksAsked_32 (by decide) hf (fun hf => ?_) (fun hf => ?_)
      · refine v_iconst (v := 0) C dX4_lacksAsked_39 (by decide) ?_
        exact v_iret C dX4_lacksAsked_40 (fin_i hf hQ)
      · refine v_iconst (v := (-1)) C dX4_lacksAsked_35 (by decide) ?_
        refine v_goto (tgt := 40) C dX4_lacksAsked_36 (by decide) ?_
        exact v_iret C dX4_lacksAsked_40 (fin_i hf hQ)
  · refine v_iload C 4 dX4_lacksAsked_12 rfl ?_
    exact v_iret C dX4_lacksAsked_14 (fin_i hf hQ)
theorem mX4_lacksAsked {B : BB} {l : Launch} {L : St2 → St2} {x : St2} {v1 : Int32} {v2 : Int32} {v3 : Int32} {res : Int32} (hL : Ln 51 10 L) (hf : fX4_lacksAsked x v1 v2 v3 = some res) : Ret l B yX4_lacksAsked cX4_lacksAsked 5 (some .int) 3 66 [.ref (ad B 51), .int v1, .int v2, .int v3] (L x) (some (.int res)) (L x) := ret_of (own := RX4) (by decide) rfl (Nat.le_of_ble_eq_true rfl) (fun E C hQ => tX4_lacksAsked C hL hQ hf)
def fX4_thoseBy_47 (N : Nat) (k7 : St2 → Int32 → Int32 → Option (Int32 × St2)) (x : St2) (v1 : Int32) (v2 : Int32) (v3 : Int32) (v5 : Int32) (v6 : Int32) (v8 : Int32) (s0 : Int32) (s1 : Int32) : Option (Int32 × St2) := (some (s1 ||| s0)).bind fun w4 => k7 x w4 (v8 + 1)
set_option maxHeartbeats 4000000 in
set_option maxRecDepth 100000 in
theorem tX4_thoseBy_47 {E : EE} {B : BB} {l : Launch} {L : St2 → St2} {N : Nat} {k7 : St2 → Int32 → Int32 → Option (Int32 × St2)} {x : St2} {v1 : Int32} {v2 : Int32} {v3 : Int32} {v5 : Int32} {v6 : Int32} {v8 : Int32} {s0 : Int32} {s1 : Int32} {res : (Int32 × St2)} (C : Cx E B l cX4_thoseBy RX4 (some .int) 9 6 138) (hL : Ln 51 10 L) (hQ : Fin9 E B (some (.int res.1)) (L res.2)) (hk7 : ∀ (x : St2) (v7 : Int32) (v8 : Int32), k7 x v7 v8 = some res → V E B (L x) 7 [(0, .ref (ad B 51)), (1, .int v1), (2, .int v2), (3, .int v3), (5, .int v5), (6, .int v6), (7, .int v7), (8, .int v8)] []) (hf : fX4_thoseBy_47 N k7 x v1 v2 v3 v5 v6 v8 s0 s1 = some res) : V E B (L x) 47 [(0, .ref (ad B 51)), (1, .int v1), (2, .int v2), (3, .int v3), (5, .int v5), (6, .int v6), (8, .int v8)] [.int s0, .int s1] := by
  unfold fX4_thoseBy_47 at hf
  refine v_ior C dX4_thoseBy_47 ?_
  refine v_top hf (fun w4 hf => ?_)
  refine v_istore (lv' := [(0, .ref (ad B 51)), (1, .int v1), (2, .int v2), (3, .int v3), (5, .int v5), (6, .int v6), (7, .int w4), (8, .int v8)]) C [1, 2, 3, 4, 5, 6, 0, 7] dX4_thoseBy_48 (by decide) rfl ?_
  refine v_iinc (q := 7) (v := v8 + 1) (lv' := [(0, .ref (ad B 51)), (1, .int v1), (2, .int v2), (3, .int v3), (5, .int v5), (6, .int v6), (7, .int w4), (8, .int (v8 + 1))]) C [1, 2, 3, 4, 5, 6, 7, 0] dX4_thoseBy_50 rfl rfl (by decide) rfl ?_
  refine v_goto (tgt := 7) C dX4_thoseBy_53 (by decide) ?_
  exact hk7 x w4 (v8 + 1) hf
def fX4_thoseBy_7 (N : Nat) (v1 : Int32) (v2 : Int32) (v3 : Int32) (v5 : Int32) (v6 : Int32) : Nat → St2 → Int32 → Int32 → Option (Int32 × St2)
  | 0, _, _, _ => none
  | n + 1, x, v7, v8 => if v5 < v8 then (some (v7, x)) else ((fX4_lends N x).bind fun y1 => (fX4_sets y1 v2 v3 v8).bind fun y2 => (fX4_isSo N y2 v1 v2 v6).bind fun y3 => if y3.1 = 0 then (fX4_thoseBy_47 N (fX4_thoseBy_7 N v1 v2 v3 v5 v6 n) y3.2 v1 v2 v3 v5 v6 v8 0 v7) else (fX4_thoseBy_47 N (fX4_thoseBy_7 N v1 v2 v3 v5 v6 n) y3.2 v1 v2 v3 v5 v6 v8 (1 <<< (v8 &&& 31)) v7))
set_option maxHeartbeats 4000000 in
set_option maxRecDepth 100000 in
theorem tX4_thoseBy_7 {E : EE} {B : BB} {l : Launch} {L : St2 → St2} {N : Nat} {v1 : Int32} {v2 : Int32} {v3 : Int32} {v5 : Int32} {v6 : Int32} {res : (Int32 × St2)} (C : Cx E B l cX4_thoseBy RX4 (some .int) 9 6 138) (hL : Ln 51 10 L) (hQ : Fin9 E B (some (.int res.1)) (L res.2)) : ∀ (n : Nat) (x : St2) (v7 : Int32) (v8 : Int32), fX4_thoseBy_7 N v1 v2 v3 v5 v6 n x v7 v8 = some res → V E B (L x) 7 [(0, .ref (ad B 51)), (1, .int v1), (2, .int v2), (3, .int v3), (5, .int v5), (6, .int v6), (7, .int v7), (8, .int v8)] [] := by
  intro n
  induction n with
  | zero =>
    intro x v7 v8 hf
    cases hf
  | succ n ih =>
    intro x v7 v8 hf
    rw [fX4_thoseBy_7] at hf
    refine v_iload C 7 dX4_thoseBy_7 rfl ?_
    refine v_iload C 4 dX4_thoseBy_9 rfl ?_
    refine v_icmp_gt (tgt := 56) C dX4_thoseBy_11 (by decide) hf (fun hf => ?_) (fun hf => ?_)
    · refine v_iload C 6 dX4_thoseBy_56 rfl ?_
      exact v_iret C dX4_thoseBy_58 (fin_im hf hQ)
    · refine v_aload_n C 0 dX4_thoseBy_14 rfl rfl ?_
      obtain ⟨y1, hy1, hf⟩ := bnd hf
      refine v_callV (r := none) (As := []) (rest := []) (K := 51) C (mX4_lends hL hy1) cw_X4_lends wd_868 (by decide) rfl rfl ⟨Nat.le_of_ble_eq_true rfl, Nat.le_of_ble_eq_true rfl⟩ rfl rfl (Nat.le_of_ble_eq_true rfl) dX4_thoseBy_15 ?_
      refine v_aload_n C 0 dX4_thoseBy_18 rfl rfl ?_
      refine v_iload_n C 2 dX4_thoseBy_19 rfl rfl ?_
      refine v_iload_n C 3 dX4_thoseBy_20 rfl rfl ?_
      refine v_iload C 7 dX4_thoseBy_21 rfl ?_
      obtain ⟨y2, hy2, hf⟩ := bnd hf
      refine v_callV (r := none) (As := [.int v2, .int v3, .int v8]) (rest := []) (K := 51) C (mX4_sets hL hy2) cw_X4_sets wd_780 (by decide) rfl rfl ⟨Nat.le_of_ble_eq_true rfl, Nat.le_of_ble_eq_true rfl⟩ rfl rfl (Nat.le_of_ble_eq_true rfl) dX4_thoseBy_23 ?_
      refine v_iload C 6 dX4_thoseBy_26 rfl ?_
      refine v_aload_n C 0 dX4_thoseBy_28 rfl rfl ?_
      refine v_iload_n C 1 dX4_thoseBy_29 rfl rfl ?_
      refine v_iload_n C 2 dX4_thoseBy_30 rfl rfl ?_
      refine v_iload C 5 dX4_thoseBy_31 rfl ?_
      obtain ⟨y3, hy3, hf⟩ := bnd hf
      refine v_callV (r := some (.int y3.1)) (As := [.int v1, .int v2, .int v6]) (rest := [.int v7]) (K := 51) C (mX4_isSo hL hy3) cw_X4_isSo wd_967 (by decide) rfl rfl ⟨Nat.le_of_ble_eq_true rfl, Nat.le_of_ble_eq_true rfl⟩ rfl rfl (Nat.le_of_ble_eq_true rfl) dX4_thoseBy_33 ?_
      refine v_if_eq (tgt := 46) C dX4_thoseBy_36 (by decide) hf (fun hf => ?_) (fun hf => ?_)
      · refine v_iconst (v := 0) C dX4_thoseBy_46 (by decide) ?_
        refine v_sub [0, 1, 2, 3, 4, 5, 7] rfl ?_
        exact tX4_thoseBy_47 C hL hQ ih hf
      · refine v_iconst (v := 1) C dX4_thoseBy_39 (by decide) ?_
        refine v_iload C 7 dX4_thoseBy_40 rfl ?_
        refine v_ishl C dX4_thoseBy_42 ?_
        refine v_goto (tgt := 47) C dX4_thoseBy_43 (by decide) ?_
        refine v_sub [0, 1, 2, 3, 4, 5, 7] rfl ?_
        exact tX4_thoseBy_47 C hL hQ ih hf
def fX4_thoseBy (N : Nat) (x : St2) (v1 : Int32) (v2 : Int32) (v3 : Int32) (v4 : Int32) (v5 : Int32) (v6 : Int32) : Option (Int32 × St2) := fX4_thoseBy_7 N v1 v2 v3 v5 v6 N x 0 v4
set_option maxHeartbeats 4000000 in
set_option maxRecDepth 100000 in
theorem tX4_thoseBy {E : EE} {B : BB} {l : Launch} {L : St2 → St2} {N : Nat} {x : St2} {v1 : Int32} {v2 : Int32} {v3 : Int32} {v4 : Int32} {v5 : Int32} {v6 : Int32} {res : (Int32 × St2)} (C : Cx E B l cX4_thoseBy RX4 (some .int) 9 6 138) (hL : Ln 51 10 L) (hQ : Fin9 E B (some (.int res.1)) (L res.2)) (hf : fX4_thoseBy N x v1 v2 v3 v4 v5 v6 = some res) : V E B (L x) 0 [(0, .ref (ad B 51)), (1, .int v1), (2, .int v2), (3, .int v3), (4, .int v4), (5, .int v5), (6, .int v6)] [] := by
  unfold fX4_thoseBy at hf
  refine v_iconst (v := 0) C dX4_thoseBy_0 (by decide) ?_
  refine v_istore (lv' := [(0, .ref (ad B 51)), (1, .int v1), (2, .int v2), (3, .int v3), (4, .int v4), (5, .int v5), (6, .int v6), (7, .int 0)]) C [1, 2, 3, 4, 5, 6, 7, 0] dX4_thoseBy_1 (by decide) rfl ?_
  refine v_iload C 4 dX4_thoseBy_3 rfl ?_
  refine v_istore (lv' := [(0, .ref (ad B 51)), (1, .int v1), (2, .int v2), (3, .int v3), (4, .int v4), (5, .int v5), (6, .int v6), (7, .int 0), (8, .int v4)]) C [1, 2, 3, 4, 5, 6, 7, 8, 0] dX4_thoseBy_5 (by decide) rfl ?_
  refine v_sub [0, 1, 2, 3, 5, 6, 7, 8] rfl ?_
  exact tX4_thoseBy_7 C hL hQ N x 0 v4 hf
theorem mX4_thoseBy {B : BB} {l : Launch} {L : St2 → St2} {N : Nat} {x : St2} {v1 : Int32} {v2 : Int32} {v3 : Int32} {v4 : Int32} {v5 : Int32} {v6 : Int32} {res : (Int32 × St2)} (hL : Ln 51 10 L) (hf : fX4_thoseBy N x v1 v2 v3 v4 v5 v6 = some res) : Ret l B yX4_thoseBy cX4_thoseBy 9 (some .int) 6 138 [.ref (ad B 51), .int v1, .int v2, .int v3, .int v4, .int v5, .int v6] (L x) (some (.int res.1)) (L res.2) := ret_of (own := RX4) (by decide) rfl (Nat.le_of_ble_eq_true rfl) (fun E C hQ => tX4_thoseBy C hL hQ hf)
def fX4_fits (N : Nat) (x : St2) (v1 : Int32) (v2 : Int32) (v3 : Int32) : Option (Int32 × St2) := (fX4_lacksAsked x v1 v2 v3).bind fun y1 => if y1 < 0 then ((fX4_thoseBy N x v1 v2 3 1 6 v3).bind fun y2 => (fX4_ones N y2.1).bind fun y3 => some (y3, y2.2)) else ((fX4_finds x y1).bind fun y4 => some (y4.1, y4.2))
set_option maxHeartbeats 4000000 in
set_option maxRecDepth 100000 in
theorem tX4_fits {E : EE} {B : BB} {l : Launch} {L : St2 → St2} {N : Nat} {x : St2} {v1 : Int32} {v2 : Int32} {v3 : Int32} {res : (Int32 × St2)} (C : Cx E B l cX4_fits RX4 (some .int) 5 7 166) (hL : Ln 51 10 L) (hQ : Fin9 E B (some (.int res.1)) (L res.2)) (hf : fX4_fits N x v1 v2 v3 = some res) : V E B (L x) 0 [(0, .ref (ad B 51)), (1, .int v1), (2, .int v2), (3, .int v3)] [] := by
  unfold fX4_fits at hf
  refine v_aload_n C 0 dX4_fits_0 rfl rfl ?_
  refine v_iload_n C 1 dX4_fits_1 rfl rfl ?_
  refine v_iload_n C 2 dX4_fits_2 rfl rfl ?_
  refine v_iload_n C 3 dX4_fits_3 rfl rfl ?_
  obtain ⟨y1, hy1, hf⟩ := bnd hf
  refine v_callV (r := some (.int y1)) (As := [.int v1, .int v2, .int v3]) (rest := []) (K := 51) C (mX4_lacksAsked hL hy1) cw_X4_lacksAsked wd_952 (by decide) rfl rfl ⟨Nat.le_of_ble_eq_true rfl, Nat.le_of_ble_eq_true rfl⟩ rfl rfl (Nat.le_of_ble_eq_true rfl) dX4_fits_4 ?_
  refine v_istore (lv' := [(0, .ref (ad B 51)), (1, .int v1), (2, .int v2), (3, .int v3), (4, .int y1)]) C [1, 2, 3, 4, 0] dX4_fits_7 (by decide) rfl ?_
  refine v_iload C 4 dX4_fits_9 rfl ?_
  refine v_if_lt (tgt := 23) C dX4_fits_11 (by decide) hf (fun hf => ?_) (fun hf => ?_)
  · refine v_aload_n C 0 dX4_fits_23 rfl rfl ?_
    refine v_iload_n C 1 dX4_fits_24 rfl rfl ?_
    refine v_iload_n C 2 dX4_fits_25 rfl rfl ?_
    refine v_iconst (v := 3) C dX4_fits_26 (by decide) ?_
    refine v_iconst (v := 1) C dX4_fits_27 (by decide) ?_
    refine v_bipush (v := 6) C dX4_fits_28 (by decide) ?_
    refine v_iload_n C 3 dX4_fits_30 rfl rfl ?_
    obtain ⟨y2, hy2, hf⟩ := bnd hf
    refine v_callV (r := some (.int y2.1)) (As := [.int v1, .int v2, .int 3, .int 1, .int 6, .int v3]) (rest := []) (K := 51) C (mX4_thoseBy hL hy2) cw_X4_thoseBy wd_963 (by decide) rfl rfl ⟨Nat.le_of_ble_eq_true rfl, Nat.le_of_ble_eq_true rfl⟩ rfl rfl (Nat.le_of_ble_eq_true rfl) dX4_fits_31 ?_
    obtain ⟨y3, hy3, hf⟩ := bnd hf
    refine v_callS (r := some (.int y3)) (As := [.int y2.1]) (rest := []) C (mX4_ones  hy3) cw_X4_ones wd_836 ⟨Nat.le_of_ble_eq_true rfl, Nat.le_of_ble_eq_true rfl⟩ rfl rfl (Nat.le_of_ble_eq_true rfl) dX4_fits_34 ?_
    exact v_iret C dX4_fits_37 (fin_im hf hQ)
  · refine v_aload_n C 0 dX4_fits_14 rfl rfl ?_
    refine v_iload C 4 dX4_fits_15 rfl ?_
    obtain ⟨y4, hy4, hf⟩ := bnd hf
    refine v_callV (r := some (.int y4.1)) (As := [.int y1]) (rest := []) (K := 51) C (mX4_finds hL hy4) cw_X4_finds wd_725 (by decide) rfl rfl ⟨Nat.le_of_ble_eq_true rfl, Nat.le_of_ble_eq_true rfl⟩ rfl rfl (Nat.le_of_ble_eq_true rfl) dX4_fits_17 ?_
    refine v_goto (tgt := 37) C dX4_fits_20 (by decide) ?_
    exact v_iret C dX4_fits_37 (fin_im hf hQ)
theorem mX4_fits {B : BB} {l : Launch} {L : St2 → St2} {N : Nat} {x : St2} {v1 : Int32} {v2 : Int32} {v3 : Int32} {res : (Int32 × St2)} (hL : Ln 51 10 L) (hf : fX4_fits N x v1 v2 v3 = some res) : Ret l B yX4_fits cX4_fits 5 (some .int) 7 166 [.ref (ad B 51), .int v1, .int v2, .int v3] (L x) (some (.int res.1)) (L res.2) := ret_of (own := RX4) (by decide) rfl (Nat.le_of_ble_eq_true rfl) (fun E C hQ => tX4_fits C hL hQ hf)
def fX4_strode_60 (N : Nat) (x : St2) (v6 : Int32) : Option (Int32 × St2) := if 6 < v6 then ((fX4_finds x 3).bind fun y3 => some (y3.1, y3.2)) else (some (v6, x))
set_option maxHeartbeats 4000000 in
set_option maxRecDepth 100000 in
theorem tX4_strode_60 {E : EE} {B : BB} {l : Launch} {L : St2 → St2} {N : Nat} {x : St2} {v6 : Int32} {res : (Int32 × St2)} (C : Cx E B l cX4_strode RX4 (some .int) 7 7 166) (hL : Ln 51 10 L) (hQ : Fin9 E B (some (.int res.1)) (L res.2)) (hf : fX4_strode_60 N x v6 = some res) : V E B (L x) 60 [(0, .ref (ad B 51)), (6, .int v6)] [] := by
  unfold fX4_strode_60 at hf
  refine v_iload C 1 dX4_strode_60 rfl ?_
  refine v_bipush (v := 6) C dX4_strode_62 (by decide) ?_
  refine v_icmp_gt (tgt := 72) C dX4_strode_64 (by decide) hf (fun hf => ?_) (fun hf => ?_)
  · refine v_aload_n C 0 dX4_strode_72 rfl rfl ?_
    refine v_iconst (v := 3) C dX4_strode_73 (by decide) ?_
    obtain ⟨y3, hy3, hf⟩ := bnd hf
    refine v_callV (r := some (.int y3.1)) (As := [.int 3]) (rest := []) (K := 51) C (mX4_finds hL hy3) cw_X4_finds wd_725 (by decide) rfl rfl ⟨Nat.le_of_ble_eq_true rfl, Nat.le_of_ble_eq_true rfl⟩ rfl rfl (Nat.le_of_ble_eq_true rfl) dX4_strode_74 ?_
    exact v_iret C dX4_strode_77 (fin_im hf hQ)
  · refine v_iload C 1 dX4_strode_67 rfl ?_
    refine v_goto (tgt := 77) C dX4_strode_69 (by decide) ?_
    exact v_iret C dX4_strode_77 (fin_im hf hQ)
def fX4_strode_37 (N : Nat) (x : St2) (v5 : Int32) : Nat → Int32 → Option (Int32 × St2)
  | 0, _ => none
  | n + 1, v6 => if 6 < v6 then (fX4_strode_60 N x v6) else (if ((v5 >>> (v6 &&& 31)) &&& 1) = 0 then ((fX4_strode_37 N x v5 n) (v6 + 1)) else (fX4_strode_60 N x v6))
set_option maxHeartbeats 4000000 in
set_option maxRecDepth 100000 in
theorem tX4_strode_37 {E : EE} {B : BB} {l : Launch} {L : St2 → St2} {N : Nat} {x : St2} {v5 : Int32} {res : (Int32 × St2)} (C : Cx E B l cX4_strode RX4 (some .int) 7 7 166) (hL : Ln 51 10 L) (hQ : Fin9 E B (some (.int res.1)) (L res.2)) : ∀ (n : Nat) (v6 : Int32), fX4_strode_37 N x v5 n v6 = some res → V E B (L x) 37 [(0, .ref (ad B 51)), (5, .int v5), (6, .int v6)] [] := by
  intro n
  induction n with
  | zero =>
    intro v6 hf
    cases hf
  | succ n ih =>
    intro v6 hf
    rw [fX4_strode_37] at hf
    refine v_iload C 2 dX4_strode_37 rfl ?_
    refine v_bipush (v := 6) C dX4_strode_39 (by decide) ?_
    refine v_icmp_gt (tgt := 60) C dX4_strode_41 (by decide) hf (fun hf => ?_) (fun hf => ?_)
    · refine v_sub [0, 2] rfl ?_
      exact tX4_strode_60 C hL hQ hf
    · refine v_iload C 1 dX4_strode_44 rfl ?_
      refine v_iload C 2 dX4_strode_46 rfl ?_
      refine v_ishr C dX4_strode_48 ?_
      refine v_iconst (v := 1) C dX4_strode_49 (by decide) ?_
      refine v_iand C dX4_strode_50 ?_
      refine v_if_ne (tgt := 60) C dX4_strode_51 (by decide) hf (fun hf => ?_) (fun hf => ?_)
      · refine v_sub [0, 2] rfl ?_
        exact tX4_strode_60 C hL hQ hf
      · refine v_iinc (q := 2) (v := v6 + 1) (lv' := [(0, .ref (ad B 51)), (5, .int v5), (6, .int (v6 + 1))]) C [1, 2, 0] dX4_strode_54 rfl rfl (by decide) rfl ?_
        refine v_goto (tgt := 37) C dX4_strode_57 (by decide) ?_
        exact ih (v6 + 1) hf
def fX4_strode (N : Nat) (x : St2) (v1 : Int32) (v2 : Int32) (v3 : Int32) : Option (Int32 × St2) := (fX4_lacksAsked x v1 v2 v3).bind fun y1 => if y1 < 0 then ((fX4_thoseBy N x v1 v2 3 1 6 v3).bind fun y2 => fX4_strode_37 N y2.2 y2.1 N 1) else ((fX4_finds x y1).bind fun y5 => some (y5.1, y5.2))
set_option maxHeartbeats 4000000 in
set_option maxRecDepth 100000 in
theorem tX4_strode {E : EE} {B : BB} {l : Launch} {L : St2 → St2} {N : Nat} {x : St2} {v1 : Int32} {v2 : Int32} {v3 : Int32} {res : (Int32 × St2)} (C : Cx E B l cX4_strode RX4 (some .int) 7 7 166) (hL : Ln 51 10 L) (hQ : Fin9 E B (some (.int res.1)) (L res.2)) (hf : fX4_strode N x v1 v2 v3 = some res) : V E B (L x) 0 [(0, .ref (ad B 51)), (1, .int v1), (2, .int v2), (3, .int v3)] [] := by
  unfold fX4_strode at hf
  refine v_aload_n C 0 dX4_strode_0 rfl rfl ?_
  refine v_iload_n C 1 dX4_strode_1 rfl rfl ?_
  refine v_iload_n C 2 dX4_strode_2 rfl rfl ?_
  refine v_iload_n C 3 dX4_strode_3 rfl rfl ?_
  obtain ⟨y1, hy1, hf⟩ := bnd hf
  refine v_callV (r := some (.int y1)) (As := [.int v1, .int v2, .int v3]) (rest := []) (K := 51) C (mX4_lacksAsked hL hy1) cw_X4_lacksAsked wd_952 (by decide) rfl rfl ⟨Nat.le_of_ble_eq_true rfl, Nat.le_of_ble_eq_true rfl⟩ rfl rfl (Nat.le_of_ble_eq_true rfl) dX4_strode_4 ?_
  refine v_istore (lv' := [(0, .ref (ad B 51)), (1, .int v1), (2, .int v2), (3, .int v3), (4, .int y1)]) C [1, 2, 3, 4, 0] dX4_strode_7 (by decide) rfl ?_
  refine v_iload C 4 dX4_strode_9 rfl ?_
  refine v_if_lt (tgt := 21) C dX4_strode_11 (by decide) hf (fun hf => ?_) (fun hf => ?_)
  · refine v_aload_n C 0 dX4_strode_21 rfl rfl ?_
    refine v_iload_n C 1 dX4_strode_22 rfl rfl ?_
    refine v_iload_n C 2 dX4_strode_23 rfl rfl ?_
    refine v_iconst (v := 3) C dX4_strode_24 (by decide) ?_
    refine v_iconst (v := 1) C dX4_strode_25 (by decide) ?_
    refine v_bipush (v := 6) C dX4_strode_26 (by decide) ?_
    refine v_iload_n C 3 dX4_strode_28 rfl rfl ?_
    obtain ⟨y2, hy2, hf⟩ := bnd hf
    refine v_callV (r := some (.int y2.1)) (As := [.int v1, .int v2, .int 3, .int 1, .int 6, .int v3]) (rest := []) (K := 51) C (mX4_thoseBy hL hy2) cw_X4_thoseBy wd_963 (by decide) rfl rfl ⟨Nat.le_of_ble_eq_true rfl, Nat.le_of_ble_eq_true rfl⟩ rfl rfl (Nat.le_of_ble_eq_true rfl) dX4_strode_29 ?_
    refine v_istore (lv' := [(0, .ref (ad B 51)), (1, .int v1), (2, .int v2), (3, .int v3), (4, .int y1), (5, .int y2.1)]) C [1, 2, 3, 4, 5, 0] dX4_strode_32 (by decide) rfl ?_
    refine v_iconst (v := 1) C dX4_strode_34 (by decide) ?_
    refine v_istore (lv' := [(0, .ref (ad B 51)), (1, .int v1), (2, .int v2), (3, .int v3), (4, .int y1), (5, .int y2.1), (6, .int 1)]) C [1, 2, 3, 4, 5, 6, 0] dX4_strode_35 (by decide) rfl ?_
    refine v_sub [0, 5, 6] rfl ?_
    exact tX4_strode_37 C hL hQ N 1 hf
  · refine v_aload_n C 0 dX4_strode_14 rfl rfl ?_
    refine v_iload C 4 dX4_strode_15 rfl ?_
    obtain ⟨y5, hy5, hf⟩ := bnd hf
    refine v_callV (r := some (.int y5.1)) (As := [.int y1]) (rest := []) (K := 51) C (mX4_finds hL hy5) cw_X4_finds wd_725 (by decide) rfl rfl ⟨Nat.le_of_ble_eq_true rfl, Nat.le_of_ble_eq_true rfl⟩ rfl rfl (Nat.le_of_ble_eq_true rfl) dX4_strode_17 ?_
    exact v_iret C dX4_strode_20 (fin_im hf hQ)
theorem mX4_strode {B : BB} {l : Launch} {L : St2 → St2} {N : Nat} {x : St2} {v1 : Int32} {v2 : Int32} {v3 : Int32} {res : (Int32 × St2)} (hL : Ln 51 10 L) (hf : fX4_strode N x v1 v2 v3 = some res) : Ret l B yX4_strode cX4_strode 7 (some .int) 7 166 [.ref (ad B 51), .int v1, .int v2, .int v3] (L x) (some (.int res.1)) (L res.2) := ret_of (own := RX4) (by decide) rfl (Nat.le_of_ble_eq_true rfl) (fun E C hQ => tX4_strode C hL hQ hf)
def fX4_kinds (N : Nat) (x : St2) (v1 : Int32) (v2 : Int32) (v3 : Int32) : Option (Int32 × St2) := (fX4_lacksAsked x v1 v2 v3).bind fun y1 => if y1 < 0 then ((fX4_thoseBy N x v1 v2 0 0 6 v3).bind fun y2 => some (y2.1, y2.2)) else ((fX4_finds x y1).bind fun y3 => some (y3.1, y3.2))
set_option maxHeartbeats 4000000 in
set_option maxRecDepth 100000 in
theorem tX4_kinds {E : EE} {B : BB} {l : Launch} {L : St2 → St2} {N : Nat} {x : St2} {v1 : Int32} {v2 : Int32} {v3 : Int32} {res : (Int32 × St2)} (C : Cx E B l cX4_kinds RX4 (some .int) 5 7 166) (hL : Ln 51 10 L) (hQ : Fin9 E B (some (.int res.1)) (L res.2)) (hf : fX4_kinds N x v1 v2 v3 = some res) : V E B (L x) 0 [(0, .ref (ad B 51)), (1, .int v1), (2, .int v2), (3, .int v3)] [] := by
  unfold fX4_kinds at hf
  refine v_aload_n C 0 dX4_kinds_0 rfl rfl ?_
  refine v_iload_n C 1 dX4_kinds_1 rfl rfl ?_
  refine v_iload_n C 2 dX4_kinds_2 rfl rfl ?_
  refine v_iload_n C 3 dX4_kinds_3 rfl rfl ?_
  obtain ⟨y1, hy1, hf⟩ := bnd hf
  refine v_callV (r := some (.int y1)) (As := [.int v1, .int v2, .int v3]) (rest := []) (K := 51) C (mX4_lacksAsked hL hy1) cw_X4_lacksAsked wd_952 (by decide) rfl rfl ⟨Nat.le_of_ble_eq_true rfl, Nat.le_of_ble_eq_true rfl⟩ rfl rfl (Nat.le_of_ble_eq_true rfl) dX4_kinds_4 ?_
  refine v_istore (lv' := [(0, .ref (ad B 51)), (1, .int v1), (2, .int v2), (3, .int v3), (4, .int y1)]) C [1, 2, 3, 4, 0] dX4_kinds_7 (by decide) rfl ?_
  refine v_iload C 4 dX4_kinds_9 rfl ?_
  refine v_if_lt (tgt := 23) C dX4_kinds_11 (by decide) hf (fun hf => ?_) (fun hf => ?_)
  · refine v_aload_n C 0 dX4_kinds_23 rfl rfl ?_
    refine v_iload_n C 1 dX4_kinds_24 rfl rfl ?_
    refine v_iload_n C 2 dX4_kinds_25 rfl rfl ?_
    refine v_iconst (v := 0) C dX4_kinds_26 (by decide) ?_
    refine v_iconst (v := 0) C dX4_kinds_27 (by decide) ?_
    refine v_bipush (v := 6) C dX4_kinds_28 (by decide) ?_
    refine v_iload_n C 3 dX4_kinds_30 rfl rfl ?_
    obtain ⟨y2, hy2, hf⟩ := bnd hf
    refine v_callV (r := some (.int y2.1)) (As := [.int v1, .int v2, .int 0, .int 0, .int 6, .int v3]) (rest := []) (K := 51) C (mX4_thoseBy hL hy2) cw_X4_thoseBy wd_963 (by decide) rfl rfl ⟨Nat.le_of_ble_eq_true rfl, Nat.le_of_ble_eq_true rfl⟩ rfl rfl (Nat.le_of_ble_eq_true rfl) dX4_kinds_31 ?_
    exact v_iret C dX4_kinds_34 (fin_im hf hQ)
  · refine v_aload_n C 0 dX4_kinds_14 rfl rfl ?_
    refine v_iload C 4 dX4_kinds_15 rfl ?_
    obtain ⟨y3, hy3, hf⟩ := bnd hf
    refine v_callV (r := some (.int y3.1)) (As := [.int y1]) (rest := []) (K := 51) C (mX4_finds hL hy3) cw_X4_finds wd_725 (by decide) rfl rfl ⟨Nat.le_of_ble_eq_true rfl, Nat.le_of_ble_eq_true rfl⟩ rfl rfl (Nat.le_of_ble_eq_true rfl) dX4_kinds_17 ?_
    refine v_goto (tgt := 34) C dX4_kinds_20 (by decide) ?_
    exact v_iret C dX4_kinds_34 (fin_im hf hQ)
theorem mX4_kinds {B : BB} {l : Launch} {L : St2 → St2} {N : Nat} {x : St2} {v1 : Int32} {v2 : Int32} {v3 : Int32} {res : (Int32 × St2)} (hL : Ln 51 10 L) (hf : fX4_kinds N x v1 v2 v3 = some res) : Ret l B yX4_kinds cX4_kinds 5 (some .int) 7 166 [.ref (ad B 51), .int v1, .int v2, .int v3] (L x) (some (.int res.1)) (L res.2) := ret_of (own := RX4) (by decide) rfl (Nat.le_of_ble_eq_true rfl) (fun E C hQ => tX4_kinds C hL hQ hf)
def fX4_draw (x : St2) : Option (Int32 × St2) := (rd (x 1) 135 1).bind fun a1 => (wr x 1 135 1 ((a1 * 1103515245) + 12345)).bind fun x2 => (rd (x2 1) 135 1).bind fun a3 => some (((a3.toUInt32 >>> ((8 : Int32).toUInt32 &&& Int32.toUInt32 31)).toInt32), x2)
set_option maxHeartbeats 4000000 in
set_option maxRecDepth 100000 in
theorem tX4_draw {E : EE} {B : BB} {l : Launch} {L : St2 → St2} {x : St2} {res : (Int32 × St2)} (C : Cx E B l cX4_draw RX4 (some .int) 1 0 0) (hL : Ln 51 10 L) (hQ : Fin9 E B (some (.int res.1)) (L res.2)) (hf : fX4_draw x = some res) : V E B (L x) 0 [(0, .ref (ad B 51))] [] := by
  unfold fX4_draw at hf
  refine v_aload_n C 0 dX4_draw_0 rfl rfl ?_
  refine g_getR (K := 51) (i := 0) (j := 51 + 1) C (by decide) rfl rfl inX4 (by decide) rfl wd_667 dX4_draw_1 ?_
  refine v_iconst (v := 1) C dX4_draw_4 (by decide) ?_
  refine v_aload_n C 0 dX4_draw_5 rfl rfl ?_
  refine g_getR (K := 51) (i := 0) (j := 51 + 1) C (by decide) rfl rfl inX4 (by decide) rfl wd_667 dX4_draw_6 ?_
  refine v_iconst (v := 1) C dX4_draw_9 (by decide) ?_
  refine s_ald (k := 1) C hL (by decide) rfl dX4_draw_10 hf (fun a1 hf => ?_)
  refine v_ldc C wd_987 dX4_draw_11 ?_
  refine v_imul C dX4_draw_13 ?_
  refine v_sipush (v := 12345) C dX4_draw_14 (by decide) ?_
  refine v_iadd C dX4_draw_17 ?_
  refine s_ast (k := 1) C hL (by decide) rfl dX4_draw_18 hf (fun x2 hf => ?_)
  refine v_aload_n C 0 dX4_draw_19 rfl rfl ?_
  refine g_getR (K := 51) (i := 0) (j := 51 + 1) C (by decide) rfl rfl inX4 (by decide) rfl wd_667 dX4_draw_20 ?_
  refine v_iconst (v := 1) C dX4_draw_23 (by decide) ?_
  refine s_ald (k := 1) C hL (by decide) rfl dX4_draw_24 hf (fun a3 hf => ?_)
  refine v_bipush (v := 8) C dX4_draw_25 (by decide) ?_
  refine v_iushr C dX4_draw_27 ?_
  exact v_iret C dX4_draw_28 (fin_im hf hQ)
theorem mX4_draw {B : BB} {l : Launch} {L : St2 → St2} {x : St2} {res : (Int32 × St2)} (hL : Ln 51 10 L) (hf : fX4_draw x = some res) : Ret l B yX4_draw cX4_draw 1 (some .int) 0 0 [.ref (ad B 51)] (L x) (some (.int res.1)) (L res.2) := ret_of (own := RX4) (by decide) rfl (Nat.le_of_ble_eq_true rfl) (fun E C hQ => tX4_draw C hL hQ hf)
def fX4_tides_92 (N : Nat) (k39 : St2 → Int32 → Option (Int32 × St2)) (x : St2) (v1 : Int32) (v2 : Int32) : Option (Int32 × St2) := (fX4_anHour N x).bind fun y10 => k39 y10 (v2 + 1)
set_option maxHeartbeats 4000000 in
set_option maxRecDepth 100000 in
theorem tX4_tides_92 {E : EE} {B : BB} {l : Launch} {L : St2 → St2} {N : Nat} {k39 : St2 → Int32 → Option (Int32 × St2)} {x : St2} {v1 : Int32} {v2 : Int32} {res : (Int32 × St2)} (C : Cx E B l cX4_tides RX4 (some .int) 4 4 90) (hL : Ln 51 10 L) (hQ : Fin9 E B (some (.int res.1)) (L res.2)) (hk39 : ∀ (x : St2) (v2 : Int32), k39 x v2 = some res → V E B (L x) 39 [(0, .ref (ad B 51)), (1, .int v1), (2, .int v2)] []) (hf : fX4_tides_92 N k39 x v1 v2 = some res) : V E B (L x) 92 [(0, .ref (ad B 51)), (1, .int v1), (2, .int v2)] [] := by
  unfold fX4_tides_92 at hf
  refine v_aload_n C 0 dX4_tides_92 rfl rfl ?_
  obtain ⟨y10, hy10, hf⟩ := bnd hf
  refine v_callV (r := none) (As := []) (rest := []) (K := 51) C (mX4_anHour hL hy10) cw_X4_anHour wd_824 (by decide) rfl rfl ⟨Nat.le_of_ble_eq_true rfl, Nat.le_of_ble_eq_true rfl⟩ rfl rfl (Nat.le_of_ble_eq_true rfl) dX4_tides_93 ?_
  refine v_iinc (q := 2) (v := v2 + 1) (lv' := [(0, .ref (ad B 51)), (1, .int v1), (2, .int (v2 + 1))]) C [1, 2, 0] dX4_tides_96 rfl rfl (by decide) rfl ?_
  refine v_goto (tgt := 39) C dX4_tides_99 (by decide) ?_
  exact hk39 y10 (v2 + 1) hf
def fX4_tides_39 (N : Nat) (v1 : Int32) : Nat → St2 → Int32 → Option (Int32 × St2)
  | 0, _, _ => none
  | n + 1, x, v2 => if v1 ≤ v2 then ((fX4_printed N x).bind fun y3 => (fX4_ones N y3).bind fun y4 => some (y4, x)) else ((fX4_draw x).bind fun y5 => (wr y5.2 1 135 3 (y5.1 - y5.1 / 25 * 25)).bind fun x6 => (fX4_draw x6).bind fun y7 => (some (y7.1 - y7.1 / 8 * 8)).bind fun w8 => (fX4_isWalker y7.2 w8).bind fun y9 => if y9 = 0 then (fX4_tides_92 N (fX4_tides_39 N v1 n) y7.2 v1 v2) else ((fX4_its y7.2 w8 3).bind fun y12 => (fX4_sets y7.2 w8 3 (imin 6 (y12 + 1))).bind fun y13 => fX4_tides_92 N (fX4_tides_39 N v1 n) y13 v1 v2))
set_option maxHeartbeats 4000000 in
set_option maxRecDepth 100000 in
theorem tX4_tides_39 {E : EE} {B : BB} {l : Launch} {L : St2 → St2} {N : Nat} {v1 : Int32} {res : (Int32 × St2)} (C : Cx E B l cX4_tides RX4 (some .int) 4 4 90) (hL : Ln 51 10 L) (hQ : Fin9 E B (some (.int res.1)) (L res.2)) : ∀ (n : Nat) (x : St2) (v2 : Int32), fX4_tides_39 N v1 n x v2 = some res → V E B (L x) 39 [(0, .ref (ad B 51)), (1, .int v1), (2, .int v2)] [] := by
  intro n
  induction n with
  | zero =>
    intro x v2 hf
    cases hf
  | succ n ih =>
    intro x v2 hf
    rw [fX4_tides_39] at hf
    refine v_iload_n C 2 dX4_tides_39 rfl rfl ?_
    refine v_iload_n C 1 dX4_tides_40 rfl rfl ?_
    refine v_icmp_ge (tgt := 102) C dX4_tides_41 (by decide) hf (fun hf => ?_) (fun hf => ?_)
    · refine v_aload_n C 0 dX4_tides_102 rfl rfl ?_
      obtain ⟨y3, hy3, hf⟩ := bnd hf
      refine v_callV (r := some (.int y3)) (As := []) (rest := []) (K := 51) C (mX4_printed hL hy3) cw_X4_printed wd_832 (by decide) rfl rfl ⟨Nat.le_of_ble_eq_true rfl, Nat.le_of_ble_eq_true rfl⟩ rfl rfl (Nat.le_of_ble_eq_true rfl) dX4_tides_103 ?_
      obtain ⟨y4, hy4, hf⟩ := bnd hf
      refine v_callS (r := some (.int y4)) (As := [.int y3]) (rest := []) C (mX4_ones  hy4) cw_X4_ones wd_836 ⟨Nat.le_of_ble_eq_true rfl, Nat.le_of_ble_eq_true rfl⟩ rfl rfl (Nat.le_of_ble_eq_true rfl) dX4_tides_106 ?_
      exact v_iret C dX4_tides_109 (fin_im hf hQ)
    · refine v_aload_n C 0 dX4_tides_44 rfl rfl ?_
      refine g_getR (K := 51) (i := 0) (j := 51 + 1) C (by decide) rfl rfl inX4 (by decide) rfl wd_667 dX4_tides_45 ?_
      refine v_iconst (v := 3) C dX4_tides_48 (by decide) ?_
      refine v_aload_n C 0 dX4_tides_49 rfl rfl ?_
      obtain ⟨y5, hy5, hf⟩ := bnd hf
      refine v_callV (r := some (.int y5.1)) (As := []) (rest := [.int 3, .ref (ad B (51 + 1))]) (K := 51) C (mX4_draw hL hy5) cw_X4_draw wd_983 (by decide) rfl rfl ⟨Nat.le_of_ble_eq_true rfl, Nat.le_of_ble_eq_true rfl⟩ rfl rfl (Nat.le_of_ble_eq_true rfl) dX4_tides_50 ?_
      refine v_bipush (v := 25) C dX4_tides_53 (by decide) ?_
      refine v_irem C dX4_tides_55 (by decide) ?_
      refine s_ast (k := 1) C hL (by decide) rfl dX4_tides_56 hf (fun x6 hf => ?_)
      refine v_aload_n C 0 dX4_tides_57 rfl rfl ?_
      obtain ⟨y7, hy7, hf⟩ := bnd hf
      refine v_callV (r := some (.int y7.1)) (As := []) (rest := []) (K := 51) C (mX4_draw hL hy7) cw_X4_draw wd_983 (by decide) rfl rfl ⟨Nat.le_of_ble_eq_true rfl, Nat.le_of_ble_eq_true rfl⟩ rfl rfl (Nat.le_of_ble_eq_true rfl) dX4_tides_58 ?_
      refine v_bipush (v := 8) C dX4_tides_61 (by decide) ?_
      refine v_irem C dX4_tides_63 (by decide) ?_
      refine v_top hf (fun w8 hf => ?_)
      refine v_istore_n (lv' := [(0, .ref (ad B 51)), (1, .int v1), (2, .int v2), (3, .int w8)]) C [1, 2, 3, 0] dX4_tides_64 rfl (by decide) rfl ?_
      refine v_aload_n C 0 dX4_tides_65 rfl rfl ?_
      refine v_iload_n C 3 dX4_tides_66 rfl rfl ?_
      obtain ⟨y9, hy9, hf⟩ := bnd hf
      refine v_callV (r := some (.int y9)) (As := [.int w8]) (rest := []) (K := 51) C (mX4_isWalker hL hy9) cw_X4_isWalker wd_742 (by decide) rfl rfl ⟨Nat.le_of_ble_eq_true rfl, Nat.le_of_ble_eq_true rfl⟩ rfl rfl (Nat.le_of_ble_eq_true rfl) dX4_tides_67 ?_
      refine v_if_eq (tgt := 92) C dX4_tides_70 (by decide) hf (fun hf => ?_) (fun hf => ?_)
      · refine v_sub [0, 1, 2] rfl ?_
        exact tX4_tides_92 C hL hQ ih hf
      · refine v_aload_n C 0 dX4_tides_73 rfl rfl ?_
        refine v_iload_n C 3 dX4_tides_74 rfl rfl ?_
        refine v_iconst (v := 3) C dX4_tides_75 (by decide) ?_
        refine v_bipush (v := 6) C dX4_tides_76 (by decide) ?_
        refine v_aload_n C 0 dX4_tides_78 rfl rfl ?_
        refine v_iload_n C 3 dX4_tides_79 rfl rfl ?_
        refine v_iconst (v := 3) C dX4_tides_80 (by decide) ?_
        obtain ⟨y12, hy12, hf⟩ := bnd hf
        refine v_callV (r := some (.int y12)) (As := [.int w8, .int 3]) (rest := [.int 6, .int 3, .int w8, .ref (ad B 51)]) (K := 51) C (mX4_its hL hy12) cw_X4_its wd_734 (by decide) rfl rfl ⟨Nat.le_of_ble_eq_true rfl, Nat.le_of_ble_eq_true rfl⟩ rfl rfl (Nat.le_of_ble_eq_true rfl) dX4_tides_81 ?_
        refine v_iconst (v := 1) C dX4_tides_84 (by decide) ?_
        refine v_iadd C dX4_tides_85 ?_
        refine w_mmin C wd_797 (by decide) (Nat.le_of_ble_eq_true rfl) dX4_tides_86 ?_
        obtain ⟨y13, hy13, hf⟩ := bnd hf
        refine v_callV (r := none) (As := [.int w8, .int 3, .int (imin 6 (y12 + 1))]) (rest := []) (K := 51) C (mX4_sets hL hy13) cw_X4_sets wd_780 (by decide) rfl rfl ⟨Nat.le_of_ble_eq_true rfl, Nat.le_of_ble_eq_true rfl⟩ rfl rfl (Nat.le_of_ble_eq_true rfl) dX4_tides_89 ?_
        refine v_sub [0, 1, 2] rfl ?_
        exact tX4_tides_92 C hL hQ ih hf
def fX4_tides (N : Nat) (x : St2) (v1 : Int32) : Option (Int32 × St2) := (fX4_in v1.toInt64 1 20).bind fun y1 => if y1 = 0 then ((fX4_finds x 0).bind fun y15 => some (y15.1, y15.2)) else ((rd (x 1) 135 0).bind fun a2 => if (a2 + v1) ≤ 99999 then (fX4_tides_39 N v1 N x 0) else ((fX4_finds x 4).bind fun y14 => some (y14.1, y14.2)))
set_option maxHeartbeats 4000000 in
set_option maxRecDepth 100000 in
theorem tX4_tides {E : EE} {B : BB} {l : Launch} {L : St2 → St2} {N : Nat} {x : St2} {v1 : Int32} {res : (Int32 × St2)} (C : Cx E B l cX4_tides RX4 (some .int) 4 4 90) (hL : Ln 51 10 L) (hQ : Fin9 E B (some (.int res.1)) (L res.2)) (hf : fX4_tides N x v1 = some res) : V E B (L x) 0 [(0, .ref (ad B 51)), (1, .int v1)] [] := by
  unfold fX4_tides at hf
  refine v_iload_n C 1 dX4_tides_0 rfl rfl ?_
  refine v_i2l C dX4_tides_1 ?_
  refine v_lconst (v := 1) C dX4_tides_2 (by decide) ?_
  refine v_ldc2 C wd_943 dX4_tides_3 ?_
  obtain ⟨y1, hy1, hf⟩ := bnd hf
  refine v_callS (r := some (.int y1)) (As := [.long v1.toInt64, .long 1, .long 20]) (rest := []) C (mX4_in  hy1) cw_X4_in wd_721 ⟨Nat.le_of_ble_eq_true rfl, Nat.le_of_ble_eq_true rfl⟩ rfl rfl (Nat.le_of_ble_eq_true rfl) dX4_tides_6 ?_
  refine v_if_ne (tgt := 18) C dX4_tides_9 (by decide) hf (fun hf => ?_) (fun hf => ?_)
  · refine v_aload_n C 0 dX4_tides_18 rfl rfl ?_
    refine g_getR (K := 51) (i := 0) (j := 51 + 1) C (by decide) rfl rfl inX4 (by decide) rfl wd_667 dX4_tides_19 ?_
    refine v_iconst (v := 0) C dX4_tides_22 (by decide) ?_
    refine s_ald (k := 1) C hL (by decide) rfl dX4_tides_23 hf (fun a2 hf => ?_)
    refine v_iload_n C 1 dX4_tides_24 rfl rfl ?_
    refine v_iadd C dX4_tides_25 ?_
    refine v_ldc C wd_819 dX4_tides_26 ?_
    refine v_icmp_le (tgt := 37) C dX4_tides_28 (by decide) hf (fun hf => ?_) (fun hf => ?_)
    · refine v_iconst (v := 0) C dX4_tides_37 (by decide) ?_
      refine v_istore_n (lv' := [(0, .ref (ad B 51)), (1, .int v1), (2, .int 0)]) C [1, 2, 0] dX4_tides_38 rfl (by decide) rfl ?_
      exact tX4_tides_39 C hL hQ N x 0 hf
    · refine v_aload_n C 0 dX4_tides_31 rfl rfl ?_
      refine v_iconst (v := 4) C dX4_tides_32 (by decide) ?_
      obtain ⟨y14, hy14, hf⟩ := bnd hf
      refine v_callV (r := some (.int y14.1)) (As := [.int 4]) (rest := []) (K := 51) C (mX4_finds hL hy14) cw_X4_finds wd_725 (by decide) rfl rfl ⟨Nat.le_of_ble_eq_true rfl, Nat.le_of_ble_eq_true rfl⟩ rfl rfl (Nat.le_of_ble_eq_true rfl) dX4_tides_33 ?_
      exact v_iret C dX4_tides_36 (fin_im hf hQ)
  · refine v_aload_n C 0 dX4_tides_12 rfl rfl ?_
    refine v_iconst (v := 0) C dX4_tides_13 (by decide) ?_
    obtain ⟨y15, hy15, hf⟩ := bnd hf
    refine v_callV (r := some (.int y15.1)) (As := [.int 0]) (rest := []) (K := 51) C (mX4_finds hL hy15) cw_X4_finds wd_725 (by decide) rfl rfl ⟨Nat.le_of_ble_eq_true rfl, Nat.le_of_ble_eq_true rfl⟩ rfl rfl (Nat.le_of_ble_eq_true rfl) dX4_tides_14 ?_
    exact v_iret C dX4_tides_17 (fin_im hf hQ)
theorem mX4_tides {B : BB} {l : Launch} {L : St2 → St2} {N : Nat} {x : St2} {v1 : Int32} {res : (Int32 × St2)} (hL : Ln 51 10 L) (hf : fX4_tides N x v1 = some res) : Ret l B yX4_tides cX4_tides 4 (some .int) 4 90 [.ref (ad B 51), .int v1] (L x) (some (.int res.1)) (L res.2) := ret_of (own := RX4) (by decide) rfl (Nat.le_of_ble_eq_true rfl) (fun E C hQ => tX4_tides C hL hQ hf)
def fX4_odds_82 (N : Nat) (x : St2) (v3 : Int32) (v4 : Int64) (v6 : Int64) : Nat → Int64 → Int64 → Option (Int64 × St2)
  | 0, _, _ => none
  | n + 1, v8, v10 => if (lg_cmp v10 0) = 0 then (if v3 = 0 then ((dvL v4 v8).bind fun w7 => some (w7, x)) else ((dvL v6 v8).bind fun w6 => some (w6, x))) else ((rmL v8 v10).bind fun w8 => (fX4_odds_82 N x v3 v4 v6 n) v10 w8)
set_option maxHeartbeats 4000000 in
set_option maxRecDepth 100000 in
theorem tX4_odds_82 {E : EE} {B : BB} {l : Launch} {L : St2 → St2} {N : Nat} {x : St2} {v3 : Int32} {v4 : Int64} {v6 : Int64} {res : (Int64 × St2)} (C : Cx E B l cX4_odds RX4 (some .long) 14 2 45) (hL : Ln 51 10 L) (hQ : Fin9 E B (some (.long res.1)) (L res.2)) : ∀ (n : Nat) (v8 : Int64) (v10 : Int64), fX4_odds_82 N x v3 v4 v6 n v8 v10 = some res → V E B (L x) 82 [(3, .int v3), (4, .long v4), (6, .long v6), (8, .long v8), (10, .long v10)] [] := by
  intro n
  induction n with
  | zero =>
    intro v8 v10 hf
    cases hf
  | succ n ih =>
    intro v8 v10 hf
    rw [fX4_odds_82] at hf
    refine v_lload C 4 dX4_odds_82 rfl ?_
    refine v_lconst (v := 0) C dX4_odds_84 (by decide) ?_
    refine v_lcmp C dX4_odds_85 ?_
    refine v_if_eq (tgt := 107) C dX4_odds_86 (by decide) hf (fun hf => ?_) (fun hf => ?_)
    · refine v_iload_n C 0 dX4_odds_107 rfl rfl ?_
      refine v_if_ne (tgt := 116) C dX4_odds_108 (by decide) hf (fun hf => ?_) (fun hf => ?_)
      · refine v_lload C 2 dX4_odds_116 rfl ?_
        refine v_lload C 3 dX4_odds_118 rfl ?_
        refine v_divL C dX4_odds_120 hf (fun w6 hf => ?_)
        exact v_lret C dX4_odds_121 (fin_lm hf hQ)
      · refine v_lload C 1 dX4_odds_111 rfl ?_
        refine v_goto (tgt := 118) C dX4_odds_113 (by decide) ?_
        refine v_lload C 3 dX4_odds_118 rfl ?_
        refine v_divL C dX4_odds_120 hf (fun w7 hf => ?_)
        exact v_lret C dX4_odds_121 (fin_lm hf hQ)
    · refine v_lload C 3 dX4_odds_89 rfl ?_
      refine v_lload C 4 dX4_odds_91 rfl ?_
      refine v_remL C dX4_odds_93 hf (fun w8 hf => ?_)
      refine v_lstore (lv' := [(3, .int v3), (4, .long v4), (6, .long v6), (8, .long v8), (10, .long v10), (12, .long w8)]) C [1, 2, 3, 4, 5, 0] dX4_odds_94 (by decide) rfl ?_
      refine v_lload C 4 dX4_odds_96 rfl ?_
      refine v_lstore (lv' := [(3, .int v3), (4, .long v4), (6, .long v6), (8, .long v10), (10, .long v10), (12, .long w8)]) C [1, 2, 3, 0, 4, 5] dX4_odds_98 (by decide) rfl ?_
      refine v_lload C 5 dX4_odds_100 rfl ?_
      refine v_lstore (lv' := [(3, .int v3), (4, .long v4), (6, .long v6), (8, .long v10), (10, .long w8), (12, .long w8)]) C [1, 2, 3, 4, 0, 5] dX4_odds_102 (by decide) rfl ?_
      refine v_goto (tgt := 82) C dX4_odds_104 (by decide) ?_
      refine v_sub [0, 1, 2, 3, 4] rfl ?_
      exact ih v10 w8 hf
def fX4_odds_45 (N : Nat) (x : St2) (v1 : Int32) (v2 : Int32) (v3 : Int32) : Nat → Int64 → Int64 → Int32 → Option (Int64 × St2)
  | 0, _, _, _ => none
  | n + 1, v4, v6, v8 => if v2 ≤ v8 then (fX4_odds_82 N x v3 v4 v6 N v4 v6) else ((some (v4 * ((v1 + 1).toInt64))).bind fun w9 => (some (v6 * 25)).bind fun w10 => (fX4_odds_45 N x v1 v2 v3 n) w9 w10 (v8 + 1))
set_option maxHeartbeats 4000000 in
set_option maxRecDepth 100000 in
theorem tX4_odds_45 {E : EE} {B : BB} {l : Launch} {L : St2 → St2} {N : Nat} {x : St2} {v1 : Int32} {v2 : Int32} {v3 : Int32} {res : (Int64 × St2)} (C : Cx E B l cX4_odds RX4 (some .long) 14 2 45) (hL : Ln 51 10 L) (hQ : Fin9 E B (some (.long res.1)) (L res.2)) : ∀ (n : Nat) (v4 : Int64) (v6 : Int64) (v8 : Int32), fX4_odds_45 N x v1 v2 v3 n v4 v6 v8 = some res → V E B (L x) 45 [(1, .int v1), (2, .int v2), (3, .int v3), (4, .long v4), (6, .long v6), (8, .int v8)] [] := by
  intro n
  induction n with
  | zero =>
    intro v4 v6 v8 hf
    cases hf
  | succ n ih =>
    intro v4 v6 v8 hf
    rw [fX4_odds_45] at hf
    refine v_iload C 5 dX4_odds_45 rfl ?_
    refine v_iload_n C 1 dX4_odds_47 rfl rfl ?_
    refine v_icmp_ge (tgt := 74) C dX4_odds_48 (by decide) hf (fun hf => ?_) (fun hf => ?_)
    · refine v_lload C 3 dX4_odds_74 rfl ?_
      refine v_lstore (lv' := [(1, .int v1), (2, .int v2), (3, .int v3), (4, .long v4), (6, .long v6), (8, .long v4)]) C [1, 2, 3, 4, 5, 0] dX4_odds_76 (by decide) rfl ?_
      refine v_lload C 4 dX4_odds_78 rfl ?_
      refine v_lstore (lv' := [(1, .int v1), (2, .int v2), (3, .int v3), (4, .long v4), (6, .long v6), (8, .long v4), (10, .long v6)]) C [1, 2, 3, 4, 5, 6, 0] dX4_odds_80 (by decide) rfl ?_
      refine v_sub [2, 3, 4, 5, 6] rfl ?_
      exact tX4_odds_82 C hL hQ N v4 v6 hf
    · refine v_lload C 3 dX4_odds_51 rfl ?_
      refine v_iload_n C 0 dX4_odds_53 rfl rfl ?_
      refine v_iconst (v := 1) C dX4_odds_54 (by decide) ?_
      refine v_iadd C dX4_odds_55 ?_
      refine v_i2l C dX4_odds_56 ?_
      refine v_lmul C dX4_odds_57 ?_
      refine v_topl hf (fun w9 hf => ?_)
      refine v_lstore (lv' := [(1, .int v1), (2, .int v2), (3, .int v3), (4, .long w9), (6, .long v6), (8, .int v8)]) C [1, 2, 3, 0, 4, 5] dX4_odds_58 (by decide) rfl ?_
      refine v_lload C 4 dX4_odds_60 rfl ?_
      refine v_ldc2 C wd_993 dX4_odds_62 ?_
      refine v_lmul C dX4_odds_65 ?_
      refine v_topl hf (fun w10 hf => ?_)
      refine v_lstore (lv' := [(1, .int v1), (2, .int v2), (3, .int v3), (4, .long w9), (6, .long w10), (8, .int v8)]) C [1, 2, 3, 4, 0, 5] dX4_odds_66 (by decide) rfl ?_
      refine v_iinc (q := 5) (v := v8 + 1) (lv' := [(1, .int v1), (2, .int v2), (3, .int v3), (4, .long w9), (6, .long w10), (8, .int (v8 + 1))]) C [1, 2, 3, 4, 5, 0] dX4_odds_68 rfl rfl (by decide) rfl ?_
      refine v_goto (tgt := 45) C dX4_odds_71 (by decide) ?_
      exact ih w9 w10 (v8 + 1) hf
def fX4_odds (N : Nat) (x : St2) (v1 : Int32) (v2 : Int32) (v3 : Int32) : Option (Int64 × St2) := (fX4_isCell v1).bind fun y1 => if y1 = 0 then ((fX4_finds x 0).bind fun y2 => some (y2.1.toInt64, y2.2)) else ((fX4_in v2.toInt64 0 12).bind fun y3 => if y3 = 0 then ((fX4_finds x 0).bind fun y4 => some (y4.1.toInt64, y4.2)) else ((fX4_in v3.toInt64 0 1).bind fun y5 => if y5 = 0 then ((fX4_finds x 0).bind fun y12 => some (y12.1.toInt64, y12.2)) else (fX4_odds_45 N x v1 v2 v3 N 1 1 0)))
set_option maxHeartbeats 4000000 in
set_option maxRecDepth 100000 in
theorem tX4_odds {E : EE} {B : BB} {l : Launch} {L : St2 → St2} {N : Nat} {x : St2} {v1 : Int32} {v2 : Int32} {v3 : Int32} {res : (Int64 × St2)} (C : Cx E B l cX4_odds RX4 (some .long) 14 2 45) (hL : Ln 51 10 L) (hQ : Fin9 E B (some (.long res.1)) (L res.2)) (hf : fX4_odds N x v1 v2 v3 = some res) : V E B (L x) 0 [(0, .ref (ad B 51)), (1, .int v1), (2, .int v2), (3, .int v3)] [] := by
  unfold fX4_odds at hf
  refine v_iload_n C 1 dX4_odds_0 rfl rfl ?_
  obtain ⟨y1, hy1, hf⟩ := bnd hf
  refine v_callS (r := some (.int y1)) (As := [.int v1]) (rest := []) C (mX4_isCell  hy1) cw_X4_isCell wd_717 ⟨Nat.le_of_ble_eq_true rfl, Nat.le_of_ble_eq_true rfl⟩ rfl rfl (Nat.le_of_ble_eq_true rfl) dX4_odds_1 ?_
  refine v_if_eq (tgt := 29) C dX4_odds_4 (by decide) hf (fun hf => ?_) (fun hf => ?_)
  · refine v_aload_n C 0 dX4_odds_29 rfl rfl ?_
    refine v_iconst (v := 0) C dX4_odds_30 (by decide) ?_
    obtain ⟨y2, hy2, hf⟩ := bnd hf
    refine v_callV (r := some (.int y2.1)) (As := [.int 0]) (rest := []) (K := 51) C (mX4_finds hL hy2) cw_X4_finds wd_725 (by decide) rfl rfl ⟨Nat.le_of_ble_eq_true rfl, Nat.le_of_ble_eq_true rfl⟩ rfl rfl (Nat.le_of_ble_eq_true rfl) dX4_odds_31 ?_
    refine v_i2l C dX4_odds_34 ?_
    exact v_lret C dX4_odds_35 (fin_lm hf hQ)
  · refine v_iload_n C 2 dX4_odds_7 rfl rfl ?_
    refine v_i2l C dX4_odds_8 ?_
    refine v_lconst (v := 0) C dX4_odds_9 (by decide) ?_
    refine v_ldc2 C wd_992 dX4_odds_10 ?_
    obtain ⟨y3, hy3, hf⟩ := bnd hf
    refine v_callS (r := some (.int y3)) (As := [.long v2.toInt64, .long 0, .long 12]) (rest := []) C (mX4_in  hy3) cw_X4_in wd_721 ⟨Nat.le_of_ble_eq_true rfl, Nat.le_of_ble_eq_true rfl⟩ rfl rfl (Nat.le_of_ble_eq_true rfl) dX4_odds_13 ?_
    refine v_if_eq (tgt := 29) C dX4_odds_16 (by decide) hf (fun hf => ?_) (fun hf => ?_)
    · refine v_aload_n C 0 dX4_odds_29 rfl rfl ?_
      refine v_iconst (v := 0) C dX4_odds_30 (by decide) ?_
      obtain ⟨y4, hy4, hf⟩ := bnd hf
      refine v_callV (r := some (.int y4.1)) (As := [.int 0]) (rest := []) (K := 51) C (mX4_finds hL hy4) cw_X4_finds wd_725 (by decide) rfl rfl ⟨Nat.le_of_ble_eq_true rfl, Nat.le_of_ble_eq_true rfl⟩ rfl rfl (Nat.le_of_ble_eq_true rfl) dX4_odds_31 ?_
      refine v_i2l C dX4_odds_34 ?_
      exact v_lret C dX4_odds_35 (fin_lm hf hQ)
    · refine v_iload_n C 3 dX4_odds_19 rfl rfl ?_
      refine v_i2l C dX4_odds_20 ?_
      refine v_lconst (v := 0) C dX4_odds_21 (by decide) ?_
      refine v_lconst (v := 1) C dX4_odds_22 (by decide) ?_
      obtain ⟨y5, hy5, hf⟩ := bnd hf
      refine v_callS (r := some (.int y5)) (As := [.long v3.toInt64, .long 0, .long 1]) (rest := []) C (mX4_in  hy5) cw_X4_in wd_721 ⟨Nat.le_of_ble_eq_true rfl, Nat.le_of_ble_eq_true rfl⟩ rfl rfl (Nat.le_of_ble_eq_true rfl) dX4_odds_23 ?_
      refine v_if_ne (tgt := 36) C dX4_odds_26 (by decide) hf (fun hf => ?_) (fun hf => ?_)
      · refine v_lconst (v := 1) C dX4_odds_36 (by decide) ?_
        refine v_lstore (lv' := [(0, .ref (ad B 51)), (1, .int v1), (2, .int v2), (3, .int v3), (4, .long 1)]) C [1, 2, 3, 4, 0] dX4_odds_37 (by decide) rfl ?_
        refine v_lconst (v := 1) C dX4_odds_39 (by decide) ?_
        refine v_lstore (lv' := [(0, .ref (ad B 51)), (1, .int v1), (2, .int v2), (3, .int v3), (4, .long 1), (6, .long 1)]) C [1, 2, 3, 4, 5, 0] dX4_odds_40 (by decide) rfl ?_
        refine v_iconst (v := 0) C dX4_odds_42 (by decide) ?_
        refine v_istore (lv' := [(0, .ref (ad B 51)), (1, .int v1), (2, .int v2), (3, .int v3), (4, .long 1), (6, .long 1), (8, .int 0)]) C [1, 2, 3, 4, 5, 6, 0] dX4_odds_43 (by decide) rfl ?_
        refine v_sub [1, 2, 3, 4, 5, 6] rfl ?_
        exact tX4_odds_45 C hL hQ N 1 1 0 hf
      · refine v_aload_n C 0 dX4_odds_29 rfl rfl ?_
        refine v_iconst (v := 0) C dX4_odds_30 (by decide) ?_
        obtain ⟨y12, hy12, hf⟩ := bnd hf
        refine v_callV (r := some (.int y12.1)) (As := [.int 0]) (rest := []) (K := 51) C (mX4_finds hL hy12) cw_X4_finds wd_725 (by decide) rfl rfl ⟨Nat.le_of_ble_eq_true rfl, Nat.le_of_ble_eq_true rfl⟩ rfl rfl (Nat.le_of_ble_eq_true rfl) dX4_odds_31 ?_
        refine v_i2l C dX4_odds_34 ?_
        exact v_lret C dX4_odds_35 (fin_lm hf hQ)
theorem mX4_odds {B : BB} {l : Launch} {L : St2 → St2} {N : Nat} {x : St2} {v1 : Int32} {v2 : Int32} {v3 : Int32} {res : (Int64 × St2)} (hL : Ln 51 10 L) (hf : fX4_odds N x v1 v2 v3 = some res) : Ret l B yX4_odds cX4_odds 14 (some .long) 2 45 [.ref (ad B 51), .int v1, .int v2, .int v3] (L x) (some (.long res.1)) (L res.2) := ret_of (own := RX4) (by decide) rfl (Nat.le_of_ble_eq_true rfl) (fun E C hQ => tX4_odds C hL hQ hf)
def fX4_seed (x : St2) (v1 : Int32) : Option (Int32 × St2) := (fX4_becomes x 1 v1).bind fun y1 => some (y1.1, y1.2)
set_option maxHeartbeats 4000000 in
set_option maxRecDepth 100000 in
theorem tX4_seed {E : EE} {B : BB} {l : Launch} {L : St2 → St2} {x : St2} {v1 : Int32} {res : (Int32 × St2)} (C : Cx E B l cX4_seed RX4 (some .int) 2 1 23) (hL : Ln 51 10 L) (hQ : Fin9 E B (some (.int res.1)) (L res.2)) (hf : fX4_seed x v1 = some res) : V E B (L x) 0 [(0, .ref (ad B 51)), (1, .int v1)] [] := by
  unfold fX4_seed at hf
  refine v_aload_n C 0 dX4_seed_0 rfl rfl ?_
  refine v_iconst (v := 1) C dX4_seed_1 (by decide) ?_
  refine v_iload_n C 1 dX4_seed_2 rfl rfl ?_
  obtain ⟨y1, hy1, hf⟩ := bnd hf
  refine v_callV (r := some (.int y1.1)) (As := [.int 1, .int v1]) (rest := []) (K := 51) C (mX4_becomes hL hy1) cw_X4_becomes wd_756 (by decide) rfl rfl ⟨Nat.le_of_ble_eq_true rfl, Nat.le_of_ble_eq_true rfl⟩ rfl rfl (Nat.le_of_ble_eq_true rfl) dX4_seed_3 ?_
  exact v_iret C dX4_seed_6 (fin_im hf hQ)
theorem mX4_seed {B : BB} {l : Launch} {L : St2 → St2} {x : St2} {v1 : Int32} {res : (Int32 × St2)} (hL : Ln 51 10 L) (hf : fX4_seed x v1 = some res) : Ret l B yX4_seed cX4_seed 2 (some .int) 1 23 [.ref (ad B 51), .int v1] (L x) (some (.int res.1)) (L res.2) := ret_of (own := RX4) (by decide) rfl (Nat.le_of_ble_eq_true rfl) (fun E C hQ => tX4_seed C hL hQ hf)
