def fX4_feed_39 (N : Nat) (v1 : Int32) : Nat → St2 → Int32 → Option (Int32 × St2)
  | 0, _, _ => none
  | n + 1, x, v3 => if v3 < 0 then (some ((x 0 7), x)) else ((wr x 5 120 (x 0 7) ((v1 >>> ((8 * v3) &&& 31)) &&& 255)).bind fun x3 => (pf x3 0 7 ((x3 0 7) + 1)).bind fun x4 => (fX4_feed_39 N v1 n) x4 (v3 + (-1)))
set_option maxHeartbeats 4000000 in
set_option maxRecDepth 100000 in
theorem tX4_feed_39 {E : EE} {B : BB} {l : Launch} {L : St2 → St2} {N : Nat} {v1 : Int32} {res : (Int32 × St2)} (C : Cx E B l cX4_feed RX4 (some .int) 4 1 25) (hL : Ln 51 10 L) (hQ : Fin9 E B (some (.int res.1)) (L res.2)) : ∀ (n : Nat) (x : St2) (v3 : Int32), fX4_feed_39 N v1 n x v3 = some res → V E B (L x) 39 [(0, .ref (ad B 51)), (1, .int v1), (3, .int v3)] [] := by
  intro n
  induction n with
  | zero =>
    intro x v3 hf
    cases hf
  | succ n ih =>
    intro x v3 hf
    rw [fX4_feed_39] at hf
    refine v_iload_n C 2 dX4_feed_39 rfl rfl ?_
    refine v_if_lt (tgt := 78) C dX4_feed_40 (by decide) hf (fun hf => ?_) (fun hf => ?_)
    · refine v_aload_n C 0 dX4_feed_78 rfl rfl ?_
      refine s_getI (k := 0) (i := 7) C hL (by decide) rfl rfl inX4 (by decide) rfl wd_674 dX4_feed_79 ?_
      exact v_iret C dX4_feed_82 (fin_im hf hQ)
    · refine v_aload_n C 0 dX4_feed_43 rfl rfl ?_
      refine g_getR (K := 51) (i := 6) (j := 51 + 5) C (by decide) rfl rfl inX4 (by decide) rfl wd_673 dX4_feed_44 ?_
      refine v_aload_n C 0 dX4_feed_47 rfl rfl ?_
      refine s_getI (k := 0) (i := 7) C hL (by decide) rfl rfl inX4 (by decide) rfl wd_674 dX4_feed_48 ?_
      refine v_iload_n C 1 dX4_feed_51 rfl rfl ?_
      refine v_bipush (v := 8) C dX4_feed_52 (by decide) ?_
      refine v_iload_n C 2 dX4_feed_54 rfl rfl ?_
      refine v_imul C dX4_feed_55 ?_
      refine v_ishr C dX4_feed_56 ?_
      refine v_sipush (v := 255) C dX4_feed_57 (by decide) ?_
      refine v_iand C dX4_feed_60 ?_
      refine s_ast (k := 5) C hL (by decide) rfl dX4_feed_61 hf (fun x3 hf => ?_)
      refine v_aload_n C 0 dX4_feed_62 rfl rfl ?_
      refine v_dup C dX4_feed_63 rfl ?_
      refine s_getI (k := 0) (i := 7) C hL (by decide) rfl rfl inX4 (by decide) rfl wd_674 dX4_feed_64 ?_
      refine v_iconst (v := 1) C dX4_feed_67 (by decide) ?_
      refine v_iadd C dX4_feed_68 ?_
      refine s_putI (k := 0) (i := 7) C hL (by decide) rfl rfl inX4 tyX4 tyX4_ok nmX4 (by decide) rfl wd_674 rfl (by decide +kernel) dX4_feed_69 hf (fun x4 hf => ?_)
      refine v_iinc (q := 2) (v := v3 + (-1)) (lv' := [(0, .ref (ad B 51)), (1, .int v1), (3, .int (v3 + (-1)))]) C [1, 2, 0] dX4_feed_72 rfl rfl (by decide) rfl ?_
      refine v_goto (tgt := 39) C dX4_feed_75 (by decide) ?_
      exact ih x4 (v3 + (-1)) hf
def fX4_feed (N : Nat) (x : St2) (v1 : Int32) (v2 : Int32) : Option (Int32 × St2) := (fX4_in v2.toInt64 1 4).bind fun y1 => if y1 = 0 then ((fX4_finds x 0).bind fun y7 => some (y7.1, y7.2)) else (if ((x 0 7) + v2) ≤ 120 then ((some (v2 - 1)).bind fun w2 => fX4_feed_39 N v1 N x w2) else ((fX4_finds x 1).bind fun y6 => some (y6.1, y6.2)))
set_option maxHeartbeats 4000000 in
set_option maxRecDepth 100000 in
theorem tX4_feed {E : EE} {B : BB} {l : Launch} {L : St2 → St2} {N : Nat} {x : St2} {v1 : Int32} {v2 : Int32} {res : (Int32 × St2)} (C : Cx E B l cX4_feed RX4 (some .int) 4 1 25) (hL : Ln 51 10 L) (hQ : Fin9 E B (some (.int res.1)) (L res.2)) (hf : fX4_feed N x v1 v2 = some res) : V E B (L x) 0 [(0, .ref (ad B 51)), (1, .int v1), (2, .int v2)] [] := by
  unfold fX4_feed at hf
  refine v_iload_n C 2 dX4_feed_0 rfl rfl ?_
  refine v_i2l C dX4_feed_1 ?_
  refine v_lconst (v := 1) C dX4_feed_2 (by decide) ?_
  refine v_ldc2 C wd_1002 dX4_feed_3 ?_
  obtain ⟨y1, hy1, hf⟩ := bnd hf
  refine v_callS (r := some (.int y1)) (As := [.long v2.toInt64, .long 1, .long 4]) (rest := []) C (mX4_in  hy1) cw_X4_in wd_721 ⟨Nat.le_of_ble_eq_true rfl, Nat.le_of_ble_eq_true rfl⟩ rfl rfl (Nat.le_of_ble_eq_true rfl) dX4_feed_6 ?_
  refine v_if_ne (tgt := 18) C dX4_feed_9 (by decide) hf (fun hf => ?_) (fun hf => ?_)
  · refine v_aload_n C 0 dX4_feed_18 rfl rfl ?_
    refine s_getI (k := 0) (i := 7) C hL (by decide) rfl rfl inX4 (by decide) rfl wd_674 dX4_feed_19 ?_
    refine v_iload_n C 2 dX4_feed_22 rfl rfl ?_
    refine v_iadd C dX4_feed_23 ?_
    refine v_bipush (v := 120) C dX4_feed_24 (by decide) ?_
    refine v_icmp_le (tgt := 35) C dX4_feed_26 (by decide) hf (fun hf => ?_) (fun hf => ?_)
    · refine v_iload_n C 2 dX4_feed_35 rfl rfl ?_
      refine v_iconst (v := 1) C dX4_feed_36 (by decide) ?_
      refine v_isub C dX4_feed_37 ?_
      refine v_top hf (fun w2 hf => ?_)
      refine v_istore_n (lv' := [(0, .ref (ad B 51)), (1, .int v1), (2, .int v2), (3, .int w2)]) C [1, 2, 3, 0] dX4_feed_38 rfl (by decide) rfl ?_
      refine v_sub [0, 1, 3] rfl ?_
      exact tX4_feed_39 C hL hQ N x w2 hf
    · refine v_aload_n C 0 dX4_feed_29 rfl rfl ?_
      refine v_iconst (v := 1) C dX4_feed_30 (by decide) ?_
      obtain ⟨y6, hy6, hf⟩ := bnd hf
      refine v_callV (r := some (.int y6.1)) (As := [.int 1]) (rest := []) (K := 51) C (mX4_finds hL hy6) cw_X4_finds wd_725 (by decide) rfl rfl ⟨Nat.le_of_ble_eq_true rfl, Nat.le_of_ble_eq_true rfl⟩ rfl rfl (Nat.le_of_ble_eq_true rfl) dX4_feed_31 ?_
      exact v_iret C dX4_feed_34 (fin_im hf hQ)
  · refine v_aload_n C 0 dX4_feed_12 rfl rfl ?_
    refine v_iconst (v := 0) C dX4_feed_13 (by decide) ?_
    obtain ⟨y7, hy7, hf⟩ := bnd hf
    refine v_callV (r := some (.int y7.1)) (As := [.int 0]) (rest := []) (K := 51) C (mX4_finds hL hy7) cw_X4_finds wd_725 (by decide) rfl rfl ⟨Nat.le_of_ble_eq_true rfl, Nat.le_of_ble_eq_true rfl⟩ rfl rfl (Nat.le_of_ble_eq_true rfl) dX4_feed_14 ?_
    exact v_iret C dX4_feed_17 (fin_im hf hQ)
theorem mX4_feed {B : BB} {l : Launch} {L : St2 → St2} {N : Nat} {x : St2} {v1 : Int32} {v2 : Int32} {res : (Int32 × St2)} (hL : Ln 51 10 L) (hf : fX4_feed N x v1 v2 = some res) : Ret l B yX4_feed cX4_feed 4 (some .int) 1 25 [.ref (ad B 51), .int v1, .int v2] (L x) (some (.int res.1)) (L res.2) := ret_of (own := RX4) (by decide) rfl (Nat.le_of_ble_eq_true rfl) (fun E C hQ => tX4_feed C hL hQ hf)
def fX4_wipe (x : St2) : Option (Int32 × St2) := (some (x 0 7)).bind fun w1 => (pf x 0 7 0).bind fun x2 => some (w1, x2)
set_option maxHeartbeats 4000000 in
set_option maxRecDepth 100000 in
theorem tX4_wipe {E : EE} {B : BB} {l : Launch} {L : St2 → St2} {x : St2} {res : (Int32 × St2)} (C : Cx E B l cX4_wipe RX4 (some .int) 2 0 0) (hL : Ln 51 10 L) (hQ : Fin9 E B (some (.int res.1)) (L res.2)) (hf : fX4_wipe x = some res) : V E B (L x) 0 [(0, .ref (ad B 51))] [] := by
  unfold fX4_wipe at hf
  refine v_aload_n C 0 dX4_wipe_0 rfl rfl ?_
  refine s_getI (k := 0) (i := 7) C hL (by decide) rfl rfl inX4 (by decide) rfl wd_674 dX4_wipe_1 ?_
  refine v_top hf (fun w1 hf => ?_)
  refine v_istore_n (lv' := [(0, .ref (ad B 51)), (1, .int w1)]) C [1, 0] dX4_wipe_4 rfl (by decide) rfl ?_
  refine v_aload_n C 0 dX4_wipe_5 rfl rfl ?_
  refine v_iconst (v := 0) C dX4_wipe_6 (by decide) ?_
  refine s_putI (k := 0) (i := 7) C hL (by decide) rfl rfl inX4 tyX4 tyX4_ok nmX4 (by decide) rfl wd_674 rfl (by decide +kernel) dX4_wipe_7 hf (fun x2 hf => ?_)
  refine v_iload_n C 1 dX4_wipe_10 rfl rfl ?_
  exact v_iret C dX4_wipe_11 (fin_im hf hQ)
theorem mX4_wipe {B : BB} {l : Launch} {L : St2 → St2} {x : St2} {res : (Int32 × St2)} (hL : Ln 51 10 L) (hf : fX4_wipe x = some res) : Ret l B yX4_wipe cX4_wipe 2 (some .int) 0 0 [.ref (ad B 51)] (L x) (some (.int res.1)) (L res.2) := ret_of (own := RX4) (by decide) rfl (Nat.le_of_ble_eq_true rfl) (fun E C hQ => tX4_wipe C hL hQ hf)
def fX4_isByte (x : St2) (v1 : Int32) (v2 : Int32) (v3 : Int32) : Option Int32 := if (x 0 7) ≤ v1 then (some 0) else ((rd (x 5) 120 v1).bind fun a1 => (fX4_in a1.toInt64 v2.toInt64 v3.toInt64).bind fun y2 => if y2 = 0 then (some 0) else (some 1))
set_option maxHeartbeats 4000000 in
set_option maxRecDepth 100000 in
theorem tX4_isByte {E : EE} {B : BB} {l : Launch} {L : St2 → St2} {x : St2} {v1 : Int32} {v2 : Int32} {v3 : Int32} {res : Int32} (C : Cx E B l cX4_isByte RX4 (some .boolean) 4 1 25) (hL : Ln 51 10 L) (hQ : Fin9 E B (some (.int res)) (L x)) (hf : fX4_isByte x v1 v2 v3 = some res) : V E B (L x) 0 [(0, .ref (ad B 51)), (1, .int v1), (2, .int v2), (3, .int v3)] [] := by
  unfold fX4_isByte at hf
  refine v_iload_n C 1 dX4_isByte_0 rfl rfl ?_
  refine v_aload_n C 0 dX4_isByte_1 rfl rfl ?_
  refine s_getI (k := 0) (i := 7) C hL (by decide) rfl rfl inX4 (by decide) rfl wd_674 dX4_isByte_2 ?_
  refine v_icmp_ge (tgt := 29) C dX4_isByte_5 (by decide) hf (fun hf => ?_) (fun hf => ?_)
  · refine v_iconst (v := 0) C dX4_isByte_29 (by decide) ?_
    exact v_zret C (Or.inl rfl) dX4_isByte_30 (fin_i hf hQ)
  · refine v_aload_n C 0 dX4_isByte_8 rfl rfl ?_
    refine g_getR (K := 51) (i := 6) (j := 51 + 5) C (by decide) rfl rfl inX4 (by decide) rfl wd_673 dX4_isByte_9 ?_
    refine v_iload_n C 1 dX4_isByte_12 rfl rfl ?_
    refine s_ald (k := 5) C hL (by decide) rfl dX4_isByte_13 hf (fun a1 hf => ?_)
    refine v_i2l C dX4_isByte_14 ?_
    refine v_iload_n C 2 dX4_isByte_15 rfl rfl ?_
    refine v_i2l C dX4_isByte_16 ?_
    refine v_iload_n C 3 dX4_isByte_17 rfl rfl ?_
    refine v_i2l C dX4_isByte_18 ?_
    obtain ⟨y2, hy2, hf⟩ := bnd hf
    refine v_callS (r := some (.int y2)) (As := [.long a1.toInt64, .long v2.toInt64, .long v3.toInt64]) (rest := []) C (mX4_in  hy2) cw_X4_in wd_721 ⟨Nat.le_of_ble_eq_true rfl, Nat.le_of_ble_eq_true rfl⟩ rfl rfl (Nat.le_of_ble_eq_true rfl) dX4_isByte_19 ?_
    refine v_if_eq (tgt := 29) C dX4_isByte_22 (by decide) hf (fun hf => ?_) (fun hf => ?_)
    · refine v_iconst (v := 0) C dX4_isByte_29 (by decide) ?_
      exact v_zret C (Or.inl rfl) dX4_isByte_30 (fin_i hf hQ)
    · refine v_iconst (v := 1) C dX4_isByte_25 (by decide) ?_
      refine v_goto (tgt := 30) C dX4_isByte_26 (by decide) ?_
      exact v_zret C (Or.inr rfl) dX4_isByte_30 (fin_i hf hQ)
theorem mX4_isByte {B : BB} {l : Launch} {L : St2 → St2} {x : St2} {v1 : Int32} {v2 : Int32} {v3 : Int32} {res : Int32} (hL : Ln 51 10 L) (hf : fX4_isByte x v1 v2 v3 = some res) : Ret l B yX4_isByte cX4_isByte 4 (some .boolean) 1 25 [.ref (ad B 51), .int v1, .int v2, .int v3] (L x) (some (.int res)) (L x) := ret_of (own := RX4) (by decide) rfl (Nat.le_of_ble_eq_true rfl) (fun E C hQ => tX4_isByte C hL hQ hf)
def fX4_next_121 (N : Nat) (x : St2) (v1 : Int32) (v2 : Int32) : Option St2 := if v1 = 0 then (if v2 = 0 then (if (x 0 7) ≤ (x 0 8) then ((pf x 0 9 ((x 0 9) + 0)).bind fun x8 => some x8) else ((pf x 0 9 ((x 0 9) + 1)).bind fun x9 => some x9)) else ((pf x 0 9 ((x 0 9) + 0)).bind fun x7 => some x7)) else ((pf x 0 9 ((x 0 9) + 0)).bind fun x6 => some x6)
set_option maxHeartbeats 4000000 in
set_option maxRecDepth 100000 in
theorem tX4_next_121 {E : EE} {B : BB} {l : Launch} {L : St2 → St2} {N : Nat} {x : St2} {v1 : Int32} {v2 : Int32} {res : St2} (C : Cx E B l cX4_next RX4 none 3 2 48) (hL : Ln 51 10 L) (hQ : Fin9 E B none (L res)) (hf : fX4_next_121 N x v1 v2 = some res) : V E B (L x) 121 [(0, .ref (ad B 51)), (1, .int v1), (2, .int v2)] [] := by
  unfold fX4_next_121 at hf
  refine v_aload_n C 0 dX4_next_121 rfl rfl ?_
  refine v_dup C dX4_next_122 rfl ?_
  refine s_getI (k := 0) (i := 9) C hL (by decide) rfl rfl inX4 (by decide) rfl wd_676 dX4_next_123 ?_
  refine v_iload_n C 1 dX4_next_126 rfl rfl ?_
  refine v_if_ne (tgt := 149) C dX4_next_127 (by decide) hf (fun hf => ?_) (fun hf => ?_)
  · refine v_iconst (v := 0) C dX4_next_149 (by decide) ?_
    refine v_iadd C dX4_next_150 ?_
    refine s_putI (k := 0) (i := 9) C hL (by decide) rfl rfl inX4 tyX4 tyX4_ok nmX4 (by decide) rfl wd_676 rfl (by decide +kernel) dX4_next_151 hf (fun x6 hf => ?_)
    exact v_vret C dX4_next_154 (fin_v hf hQ)
  · refine v_iload_n C 2 dX4_next_130 rfl rfl ?_
    refine v_if_ne (tgt := 149) C dX4_next_131 (by decide) hf (fun hf => ?_) (fun hf => ?_)
    · refine v_iconst (v := 0) C dX4_next_149 (by decide) ?_
      refine v_iadd C dX4_next_150 ?_
      refine s_putI (k := 0) (i := 9) C hL (by decide) rfl rfl inX4 tyX4 tyX4_ok nmX4 (by decide) rfl wd_676 rfl (by decide +kernel) dX4_next_151 hf (fun x7 hf => ?_)
      exact v_vret C dX4_next_154 (fin_v hf hQ)
    · refine v_aload_n C 0 dX4_next_134 rfl rfl ?_
      refine s_getI (k := 0) (i := 8) C hL (by decide) rfl rfl inX4 (by decide) rfl wd_675 dX4_next_135 ?_
      refine v_aload_n C 0 dX4_next_138 rfl rfl ?_
      refine s_getI (k := 0) (i := 7) C hL (by decide) rfl rfl inX4 (by decide) rfl wd_674 dX4_next_139 ?_
      refine v_icmp_ge (tgt := 149) C dX4_next_142 (by decide) hf (fun hf => ?_) (fun hf => ?_)
      · refine v_iconst (v := 0) C dX4_next_149 (by decide) ?_
        refine v_iadd C dX4_next_150 ?_
        refine s_putI (k := 0) (i := 9) C hL (by decide) rfl rfl inX4 tyX4 tyX4_ok nmX4 (by decide) rfl wd_676 rfl (by decide +kernel) dX4_next_151 hf (fun x8 hf => ?_)
        exact v_vret C dX4_next_154 (fin_v hf hQ)
      · refine v_iconst (v := 1) C dX4_next_145 (by decide) ?_
        refine v_goto (tgt := 150) C dX4_next_146 (by decide) ?_
        refine v_iadd C dX4_next_150 ?_
        refine s_putI (k := 0) (i := 9) C hL (by decide) rfl rfl inX4 tyX4 tyX4_ok nmX4 (by decide) rfl wd_676 rfl (by decide +kernel) dX4_next_151 hf (fun x9 hf => ?_)
        exact v_vret C dX4_next_154 (fin_v hf hQ)
def fX4_next_108 (N : Nat) (k70 : St2 → Option St2) (x : St2) (v1 : Int32) (v2 : Int32) : Option St2 := (pf x 0 9 ((x 0 9) + 1)).bind fun x11 => k70 x11
set_option maxHeartbeats 4000000 in
set_option maxRecDepth 100000 in
theorem tX4_next_108 {E : EE} {B : BB} {l : Launch} {L : St2 → St2} {N : Nat} {k70 : St2 → Option St2} {x : St2} {v1 : Int32} {v2 : Int32} {res : St2} (C : Cx E B l cX4_next RX4 none 3 2 48) (hL : Ln 51 10 L) (hQ : Fin9 E B none (L res)) (hk70 : ∀ (x : St2), k70 x = some res → V E B (L x) 70 [(0, .ref (ad B 51)), (1, .int v1), (2, .int v2)] []) (hf : fX4_next_108 N k70 x v1 v2 = some res) : V E B (L x) 108 [(0, .ref (ad B 51)), (1, .int v1), (2, .int v2)] [] := by
  unfold fX4_next_108 at hf
  refine v_aload_n C 0 dX4_next_108 rfl rfl ?_
  refine v_dup C dX4_next_109 rfl ?_
  refine s_getI (k := 0) (i := 9) C hL (by decide) rfl rfl inX4 (by decide) rfl wd_676 dX4_next_110 ?_
  refine v_iconst (v := 1) C dX4_next_113 (by decide) ?_
  refine v_iadd C dX4_next_114 ?_
  refine s_putI (k := 0) (i := 9) C hL (by decide) rfl rfl inX4 tyX4 tyX4_ok nmX4 (by decide) rfl wd_676 rfl (by decide +kernel) dX4_next_115 hf (fun x11 hf => ?_)
  refine v_goto (tgt := 70) C dX4_next_118 (by decide) ?_
  exact hk70 x11 hf
def fX4_next_89 (N : Nat) (k70 : St2 → Option St2) (x : St2) (v1 : Int32) (v2 : Int32) : Option St2 := if v2 = 0 then (fX4_next_121 N x v1 v2) else ((fX4_isByte x (x 0 9) 48 57).bind fun y10 => if y10 = 0 then (fX4_next_121 N x v1 v2) else (fX4_next_108 N k70 x v1 v2))
set_option maxHeartbeats 4000000 in
set_option maxRecDepth 100000 in
theorem tX4_next_89 {E : EE} {B : BB} {l : Launch} {L : St2 → St2} {N : Nat} {k70 : St2 → Option St2} {x : St2} {v1 : Int32} {v2 : Int32} {res : St2} (C : Cx E B l cX4_next RX4 none 3 2 48) (hL : Ln 51 10 L) (hQ : Fin9 E B none (L res)) (hk70 : ∀ (x : St2), k70 x = some res → V E B (L x) 70 [(0, .ref (ad B 51)), (1, .int v1), (2, .int v2)] []) (hf : fX4_next_89 N k70 x v1 v2 = some res) : V E B (L x) 89 [(0, .ref (ad B 51)), (1, .int v1), (2, .int v2)] [] := by
  unfold fX4_next_89 at hf
  refine v_iload_n C 2 dX4_next_89 rfl rfl ?_
  refine v_if_eq (tgt := 121) C dX4_next_90 (by decide) hf (fun hf => ?_) (fun hf => ?_)
  · exact tX4_next_121 C hL hQ hf
  · refine v_aload_n C 0 dX4_next_93 rfl rfl ?_
    refine v_aload_n C 0 dX4_next_94 rfl rfl ?_
    refine s_getI (k := 0) (i := 9) C hL (by decide) rfl rfl inX4 (by decide) rfl wd_676 dX4_next_95 ?_
    refine v_bipush (v := 48) C dX4_next_98 (by decide) ?_
    refine v_bipush (v := 57) C dX4_next_100 (by decide) ?_
    obtain ⟨y10, hy10, hf⟩ := bnd hf
    refine v_callV (r := some (.int y10)) (As := [.int (x 0 9), .int 48, .int 57]) (rest := []) (K := 51) C (mX4_isByte hL hy10) cw_X4_isByte wd_1015 (by decide) rfl rfl ⟨Nat.le_of_ble_eq_true rfl, Nat.le_of_ble_eq_true rfl⟩ rfl rfl (Nat.le_of_ble_eq_true rfl) dX4_next_102 ?_
    refine v_if_eq (tgt := 121) C dX4_next_105 (by decide) hf (fun hf => ?_) (fun hf => ?_)
    · exact tX4_next_121 C hL hQ hf
    · exact tX4_next_108 C hL hQ hk70 hf
def fX4_next_70 (N : Nat) (v1 : Int32) (v2 : Int32) : Nat → St2 → Option St2
  | 0, _ => none
  | n + 1, x => if v1 = 0 then (fX4_next_89 N (fX4_next_70 N v1 v2 n) x v1 v2) else ((fX4_isByte x (x 0 9) 97 122).bind fun y12 => if y12 = 0 then (fX4_next_89 N (fX4_next_70 N v1 v2 n) x v1 v2) else (fX4_next_108 N (fX4_next_70 N v1 v2 n) x v1 v2))
set_option maxHeartbeats 4000000 in
set_option maxRecDepth 100000 in
theorem tX4_next_70 {E : EE} {B : BB} {l : Launch} {L : St2 → St2} {N : Nat} {v1 : Int32} {v2 : Int32} {res : St2} (C : Cx E B l cX4_next RX4 none 3 2 48) (hL : Ln 51 10 L) (hQ : Fin9 E B none (L res)) : ∀ (n : Nat) (x : St2), fX4_next_70 N v1 v2 n x = some res → V E B (L x) 70 [(0, .ref (ad B 51)), (1, .int v1), (2, .int v2)] [] := by
  intro n
  induction n with
  | zero =>
    intro x hf
    cases hf
  | succ n ih =>
    intro x hf
    rw [fX4_next_70] at hf
    refine v_iload_n C 1 dX4_next_70 rfl rfl ?_
    refine v_if_eq (tgt := 89) C dX4_next_71 (by decide) hf (fun hf => ?_) (fun hf => ?_)
    · exact tX4_next_89 C hL hQ ih hf
    · refine v_aload_n C 0 dX4_next_74 rfl rfl ?_
      refine v_aload_n C 0 dX4_next_75 rfl rfl ?_
      refine s_getI (k := 0) (i := 9) C hL (by decide) rfl rfl inX4 (by decide) rfl wd_676 dX4_next_76 ?_
      refine v_bipush (v := 97) C dX4_next_79 (by decide) ?_
      refine v_bipush (v := 122) C dX4_next_81 (by decide) ?_
      obtain ⟨y12, hy12, hf⟩ := bnd hf
      refine v_callV (r := some (.int y12)) (As := [.int (x 0 9), .int 97, .int 122]) (rest := []) (K := 51) C (mX4_isByte hL hy12) cw_X4_isByte wd_1015 (by decide) rfl rfl ⟨Nat.le_of_ble_eq_true rfl, Nat.le_of_ble_eq_true rfl⟩ rfl rfl (Nat.le_of_ble_eq_true rfl) dX4_next_83 ?_
      refine v_if_ne (tgt := 108) C dX4_next_86 (by decide) hf (fun hf => ?_) (fun hf => ?_)
      · exact tX4_next_108 C hL hQ ih hf
      · exact tX4_next_89 C hL hQ ih hf
def fX4_next_8 (N : Nat) : Nat → St2 → Option St2
  | 0, _ => none
  | n + 1, x => (fX4_isByte x (x 0 8) 32 32).bind fun y2 => if y2 = 0 then ((pf x 0 9 (x 0 8)).bind fun x3 => (fX4_isByte x3 (x3 0 8) 97 122).bind fun y4 => (fX4_isByte x3 (x3 0 8) 48 57).bind fun y5 => fX4_next_70 N y4 y5 N x3) else ((pf x 0 8 ((x 0 8) + 1)).bind fun x13 => (fX4_next_8 N n) x13)
set_option maxHeartbeats 4000000 in
set_option maxRecDepth 100000 in
theorem tX4_next_8 {E : EE} {B : BB} {l : Launch} {L : St2 → St2} {N : Nat} {res : St2} (C : Cx E B l cX4_next RX4 none 3 2 48) (hL : Ln 51 10 L) (hQ : Fin9 E B none (L res)) : ∀ (n : Nat) (x : St2), fX4_next_8 N n x = some res → V E B (L x) 8 [(0, .ref (ad B 51))] [] := by
  intro n
  induction n with
  | zero =>
    intro x hf
    cases hf
  | succ n ih =>
    intro x hf
    rw [fX4_next_8] at hf
    refine v_aload_n C 0 dX4_next_8 rfl rfl ?_
    refine v_aload_n C 0 dX4_next_9 rfl rfl ?_
    refine s_getI (k := 0) (i := 8) C hL (by decide) rfl rfl inX4 (by decide) rfl wd_675 dX4_next_10 ?_
    refine v_bipush (v := 32) C dX4_next_13 (by decide) ?_
    refine v_bipush (v := 32) C dX4_next_15 (by decide) ?_
    obtain ⟨y2, hy2, hf⟩ := bnd hf
    refine v_callV (r := some (.int y2)) (As := [.int (x 0 8), .int 32, .int 32]) (rest := []) (K := 51) C (mX4_isByte hL hy2) cw_X4_isByte wd_1015 (by decide) rfl rfl ⟨Nat.le_of_ble_eq_true rfl, Nat.le_of_ble_eq_true rfl⟩ rfl rfl (Nat.le_of_ble_eq_true rfl) dX4_next_17 ?_
    refine v_if_eq (tgt := 36) C dX4_next_20 (by decide) hf (fun hf => ?_) (fun hf => ?_)
    · refine v_aload_n C 0 dX4_next_36 rfl rfl ?_
      refine v_aload_n C 0 dX4_next_37 rfl rfl ?_
      refine s_getI (k := 0) (i := 8) C hL (by decide) rfl rfl inX4 (by decide) rfl wd_675 dX4_next_38 ?_
      refine s_putI (k := 0) (i := 9) C hL (by decide) rfl rfl inX4 tyX4 tyX4_ok nmX4 (by decide) rfl wd_676 rfl (by decide +kernel) dX4_next_41 hf (fun x3 hf => ?_)
      refine v_aload_n C 0 dX4_next_44 rfl rfl ?_
      refine v_aload_n C 0 dX4_next_45 rfl rfl ?_
      refine s_getI (k := 0) (i := 8) C hL (by decide) rfl rfl inX4 (by decide) rfl wd_675 dX4_next_46 ?_
      refine v_bipush (v := 97) C dX4_next_49 (by decide) ?_
      refine v_bipush (v := 122) C dX4_next_51 (by decide) ?_
      obtain ⟨y4, hy4, hf⟩ := bnd hf
      refine v_callV (r := some (.int y4)) (As := [.int (x3 0 8), .int 97, .int 122]) (rest := []) (K := 51) C (mX4_isByte hL hy4) cw_X4_isByte wd_1015 (by decide) rfl rfl ⟨Nat.le_of_ble_eq_true rfl, Nat.le_of_ble_eq_true rfl⟩ rfl rfl (Nat.le_of_ble_eq_true rfl) dX4_next_53 ?_
      refine v_istore_n (lv' := [(0, .ref (ad B 51)), (1, .int y4)]) C [1, 0] dX4_next_56 rfl (by decide) rfl ?_
      refine v_aload_n C 0 dX4_next_57 rfl rfl ?_
      refine v_aload_n C 0 dX4_next_58 rfl rfl ?_
      refine s_getI (k := 0) (i := 8) C hL (by decide) rfl rfl inX4 (by decide) rfl wd_675 dX4_next_59 ?_
      refine v_bipush (v := 48) C dX4_next_62 (by decide) ?_
      refine v_bipush (v := 57) C dX4_next_64 (by decide) ?_
      obtain ⟨y5, hy5, hf⟩ := bnd hf
      refine v_callV (r := some (.int y5)) (As := [.int (x3 0 8), .int 48, .int 57]) (rest := []) (K := 51) C (mX4_isByte hL hy5) cw_X4_isByte wd_1015 (by decide) rfl rfl ⟨Nat.le_of_ble_eq_true rfl, Nat.le_of_ble_eq_true rfl⟩ rfl rfl (Nat.le_of_ble_eq_true rfl) dX4_next_66 ?_
      refine v_istore_n (lv' := [(0, .ref (ad B 51)), (1, .int y4), (2, .int y5)]) C [1, 2, 0] dX4_next_69 rfl (by decide) rfl ?_
      exact tX4_next_70 C hL hQ N x3 hf
    · refine v_aload_n C 0 dX4_next_23 rfl rfl ?_
      refine v_dup C dX4_next_24 rfl ?_
      refine s_getI (k := 0) (i := 8) C hL (by decide) rfl rfl inX4 (by decide) rfl wd_675 dX4_next_25 ?_
      refine v_iconst (v := 1) C dX4_next_28 (by decide) ?_
      refine v_iadd C dX4_next_29 ?_
      refine s_putI (k := 0) (i := 8) C hL (by decide) rfl rfl inX4 tyX4 tyX4_ok nmX4 (by decide) rfl wd_675 rfl (by decide +kernel) dX4_next_30 hf (fun x13 hf => ?_)
      refine v_goto (tgt := 8) C dX4_next_33 (by decide) ?_
      exact ih x13 hf
def fX4_next (N : Nat) (x : St2) : Option St2 := (pf x 0 8 (x 0 9)).bind fun x1 => fX4_next_8 N N x1
set_option maxHeartbeats 4000000 in
set_option maxRecDepth 100000 in
theorem tX4_next {E : EE} {B : BB} {l : Launch} {L : St2 → St2} {N : Nat} {x : St2} {res : St2} (C : Cx E B l cX4_next RX4 none 3 2 48) (hL : Ln 51 10 L) (hQ : Fin9 E B none (L res)) (hf : fX4_next N x = some res) : V E B (L x) 0 [(0, .ref (ad B 51))] [] := by
  unfold fX4_next at hf
  refine v_aload_n C 0 dX4_next_0 rfl rfl ?_
  refine v_aload_n C 0 dX4_next_1 rfl rfl ?_
  refine s_getI (k := 0) (i := 9) C hL (by decide) rfl rfl inX4 (by decide) rfl wd_676 dX4_next_2 ?_
  refine s_putI (k := 0) (i := 8) C hL (by decide) rfl rfl inX4 tyX4 tyX4_ok nmX4 (by decide) rfl wd_675 rfl (by decide +kernel) dX4_next_5 hf (fun x1 hf => ?_)
  exact tX4_next_8 C hL hQ N x1 hf
theorem mX4_next {B : BB} {l : Launch} {L : St2 → St2} {N : Nat} {x : St2} {res : St2} (hL : Ln 51 10 L) (hf : fX4_next N x = some res) : Ret l B yX4_next cX4_next 3 none 2 48 [.ref (ad B 51)] (L x) none (L res) := ret_of (own := RX4) (by decide) rfl (Nat.le_of_ble_eq_true rfl) (fun E C hQ => tX4_next C hL hQ hf)
def fX4_isWord_67 (N : Nat) (i : Nat) (k31 : Int32 → Int32 → Option Int32) (x : St2) (v3 : Int32) (s0 : Int32) : Option Int32 := k31 s0 (v3 + 1)
set_option maxHeartbeats 4000000 in
set_option maxRecDepth 100000 in
theorem tX4_isWord_67 {E : EE} {B : BB} {l : Launch} {L : St2 → St2} {N : Nat} {i : Nat} {k31 : Int32 → Int32 → Option Int32} {x : St2} {v3 : Int32} {s0 : Int32} {res : Int32} (C : Cx E B l cX4_isWord RX4 (some .boolean) 4 4 85) (hL : Ln 51 10 L) (hi : i < 14) (hQ : Fin9 E B (some (.int res)) (L x)) (hk31 : ∀ (v2 : Int32) (v3 : Int32), k31 v2 v3 = some res → V E B (L x) 31 [(0, .ref (ad B 51)), (1, .ref (sk B i)), (2, .int v2), (3, .int v3)] []) (hf : fX4_isWord_67 N i k31 x v3 s0 = some res) : V E B (L x) 67 [(0, .ref (ad B 51)), (1, .ref (sk B i)), (3, .int v3)] [.int s0] := by
  unfold fX4_isWord_67 at hf
  refine v_istore_n (lv' := [(0, .ref (ad B 51)), (1, .ref (sk B i)), (2, .int s0), (3, .int v3)]) C [1, 2, 0, 3] dX4_isWord_67 rfl (by decide) rfl ?_
  refine v_iinc (q := 3) (v := v3 + 1) (lv' := [(0, .ref (ad B 51)), (1, .ref (sk B i)), (2, .int s0), (3, .int (v3 + 1))]) C [1, 2, 3, 0] dX4_isWord_68 rfl rfl (by decide) rfl ?_
  refine v_goto (tgt := 31) C dX4_isWord_71 (by decide) ?_
  exact hk31 s0 (v3 + 1) hf
def fX4_isWord_31 (N : Nat) (i : Nat) (x : St2) : Nat → Int32 → Int32 → Option Int32
  | 0, _, _ => none
  | n + 1, v2, v3 => if v2 = 0 then ((bz v2).bind fun w1 => some w1) else ((fJ0_length_8abf5 i).bind fun y2 => if y2 ≤ v3 then ((bz v2).bind fun w3 => some w3) else ((rd (x 5) 120 ((x 0 8) + v3)).bind fun a4 => (fJ0_charAt_5068e i v3).bind fun y5 => if a4 = y5 then (fX4_isWord_67 N i (fX4_isWord_31 N i x n) x v3 1) else (fX4_isWord_67 N i (fX4_isWord_31 N i x n) x v3 0)))
set_option maxHeartbeats 4000000 in
set_option maxRecDepth 100000 in
theorem tX4_isWord_31 {E : EE} {B : BB} {l : Launch} {L : St2 → St2} {N : Nat} {i : Nat} {x : St2} {res : Int32} (C : Cx E B l cX4_isWord RX4 (some .boolean) 4 4 85) (hL : Ln 51 10 L) (hi : i < 14) (hQ : Fin9 E B (some (.int res)) (L x)) : ∀ (n : Nat) (v2 : Int32) (v3 : Int32), fX4_isWord_31 N i x n v2 v3 = some res → V E B (L x) 31 [(0, .ref (ad B 51)), (1, .ref (sk B i)), (2, .int v2), (3, .int v3)] [] := by
  intro n
  induction n with
  | zero =>
    intro v2 v3 hf
    cases hf
  | succ n ih =>
    intro v2 v3 hf
    rw [fX4_isWord_31] at hf
    refine v_iload_n C 2 dX4_isWord_31 rfl rfl ?_
    refine v_if_eq (tgt := 74) C dX4_isWord_32 (by decide) hf (fun hf => ?_) (fun hf => ?_)
    · refine v_iload_n C 2 dX4_isWord_74 rfl rfl ?_
      obtain ⟨hz, hf⟩ := bz_b hf
      exact v_zret C hz dX4_isWord_75 (fin_i hf hQ)
    · refine v_iload_n C 3 dX4_isWord_35 rfl rfl ?_
      refine v_aload_n C 1 dX4_isWord_36 rfl rfl ?_
      obtain ⟨y2, hy2, hf⟩ := bnd hf
      refine v_callT (r := some (.int y2)) (As := []) (rest := [.int v3]) C hi (mJ0_length_8abf5 hi hy2) cw_J0_length_8abf5 wd_1032 ⟨Nat.le_of_ble_eq_true rfl, Nat.le_of_ble_eq_true rfl⟩ rfl rfl (Nat.le_of_ble_eq_true rfl) dX4_isWord_37 ?_
      refine v_icmp_ge (tgt := 74) C dX4_isWord_40 (by decide) hf (fun hf => ?_) (fun hf => ?_)
      · refine v_iload_n C 2 dX4_isWord_74 rfl rfl ?_
        obtain ⟨hz, hf⟩ := bz_b hf
        exact v_zret C hz dX4_isWord_75 (fin_i hf hQ)
      · refine v_aload_n C 0 dX4_isWord_43 rfl rfl ?_
        refine g_getR (K := 51) (i := 6) (j := 51 + 5) C (by decide) rfl rfl inX4 (by decide) rfl wd_673 dX4_isWord_44 ?_
        refine v_aload_n C 0 dX4_isWord_47 rfl rfl ?_
        refine s_getI (k := 0) (i := 8) C hL (by decide) rfl rfl inX4 (by decide) rfl wd_675 dX4_isWord_48 ?_
        refine v_iload_n C 3 dX4_isWord_51 rfl rfl ?_
        refine v_iadd C dX4_isWord_52 ?_
        refine s_ald (k := 5) C hL (by decide) rfl dX4_isWord_53 hf (fun a4 hf => ?_)
        refine v_aload_n C 1 dX4_isWord_54 rfl rfl ?_
        refine v_iload_n C 3 dX4_isWord_55 rfl rfl ?_
        obtain ⟨y5, hy5, hf⟩ := bnd hf
        refine v_callT (r := some (.int y5)) (As := [.int v3]) (rest := [.int a4]) C hi (mJ0_charAt_5068e hi hy5) cw_J0_charAt_5068e wd_1033 ⟨Nat.le_of_ble_eq_true rfl, Nat.le_of_ble_eq_true rfl⟩ rfl rfl (Nat.le_of_ble_eq_true rfl) dX4_isWord_56 ?_
        refine v_icmp_ne (tgt := 66) C dX4_isWord_59 (by decide) hf (fun hf => ?_) (fun hf => ?_)
        · refine v_iconst (v := 0) C dX4_isWord_66 (by decide) ?_
          refine v_sub [0, 1, 3] rfl ?_
          exact tX4_isWord_67 C hL hi hQ ih hf
        · refine v_iconst (v := 1) C dX4_isWord_62 (by decide) ?_
          refine v_goto (tgt := 67) C dX4_isWord_63 (by decide) ?_
          refine v_sub [0, 1, 3] rfl ?_
          exact tX4_isWord_67 C hL hi hQ ih hf
def fX4_isWord_28 (N : Nat) (i : Nat) (x : St2) (s0 : Int32) : Option Int32 := fX4_isWord_31 N i x N s0 0
set_option maxHeartbeats 4000000 in
set_option maxRecDepth 100000 in
theorem tX4_isWord_28 {E : EE} {B : BB} {l : Launch} {L : St2 → St2} {N : Nat} {i : Nat} {x : St2} {s0 : Int32} {res : Int32} (C : Cx E B l cX4_isWord RX4 (some .boolean) 4 4 85) (hL : Ln 51 10 L) (hi : i < 14) (hQ : Fin9 E B (some (.int res)) (L x)) (hf : fX4_isWord_28 N i x s0 = some res) : V E B (L x) 28 [(0, .ref (ad B 51)), (1, .ref (sk B i))] [.int s0] := by
  unfold fX4_isWord_28 at hf
  refine v_istore_n (lv' := [(0, .ref (ad B 51)), (1, .ref (sk B i)), (2, .int s0)]) C [1, 2, 0] dX4_isWord_28 rfl (by decide) rfl ?_
  refine v_iconst (v := 0) C dX4_isWord_29 (by decide) ?_
  refine v_istore_n (lv' := [(0, .ref (ad B 51)), (1, .ref (sk B i)), (2, .int s0), (3, .int 0)]) C [1, 2, 3, 0] dX4_isWord_30 rfl (by decide) rfl ?_
  exact tX4_isWord_31 C hL hi hQ N s0 0 hf
def fX4_isWord_27 (N : Nat) (i : Nat) (x : St2) : Option Int32 := fX4_isWord_28 N i x 0
set_option maxHeartbeats 4000000 in
set_option maxRecDepth 100000 in
theorem tX4_isWord_27 {E : EE} {B : BB} {l : Launch} {L : St2 → St2} {N : Nat} {i : Nat} {x : St2} {res : Int32} (C : Cx E B l cX4_isWord RX4 (some .boolean) 4 4 85) (hL : Ln 51 10 L) (hi : i < 14) (hQ : Fin9 E B (some (.int res)) (L x)) (hf : fX4_isWord_27 N i x = some res) : V E B (L x) 27 [(0, .ref (ad B 51)), (1, .ref (sk B i))] [] := by
  unfold fX4_isWord_27 at hf
  refine v_iconst (v := 0) C dX4_isWord_27 (by decide) ?_
  exact tX4_isWord_28 C hL hi hQ hf
def fX4_isWord (N : Nat) (i : Nat) (x : St2) : Option Int32 := if (x 0 10) = 0 then ((fJ0_length_8abf5 i).bind fun y7 => if ((x 0 9) - (x 0 8)) = y7 then (fX4_isWord_28 N i x 1) else (fX4_isWord_27 N i x)) else (fX4_isWord_27 N i x)
set_option maxHeartbeats 4000000 in
set_option maxRecDepth 100000 in
theorem tX4_isWord {E : EE} {B : BB} {l : Launch} {L : St2 → St2} {N : Nat} {i : Nat} {x : St2} {res : Int32} (C : Cx E B l cX4_isWord RX4 (some .boolean) 4 4 85) (hL : Ln 51 10 L) (hi : i < 14) (hQ : Fin9 E B (some (.int res)) (L x)) (hf : fX4_isWord N i x = some res) : V E B (L x) 0 [(0, .ref (ad B 51)), (1, .ref (sk B i))] [] := by
  unfold fX4_isWord at hf
  refine v_aload_n C 0 dX4_isWord_0 rfl rfl ?_
  refine s_getI (k := 0) (i := 10) C hL (by decide) rfl rfl inX4 (by decide) rfl wd_677 dX4_isWord_1 ?_
  refine v_if_ne (tgt := 27) C dX4_isWord_4 (by decide) hf (fun hf => ?_) (fun hf => ?_)
  · exact tX4_isWord_27 C hL hi hQ hf
  · refine v_aload_n C 0 dX4_isWord_7 rfl rfl ?_
    refine s_getI (k := 0) (i := 9) C hL (by decide) rfl rfl inX4 (by decide) rfl wd_676 dX4_isWord_8 ?_
    refine v_aload_n C 0 dX4_isWord_11 rfl rfl ?_
    refine s_getI (k := 0) (i := 8) C hL (by decide) rfl rfl inX4 (by decide) rfl wd_675 dX4_isWord_12 ?_
    refine v_isub C dX4_isWord_15 ?_
    refine v_aload_n C 1 dX4_isWord_16 rfl rfl ?_
    obtain ⟨y7, hy7, hf⟩ := bnd hf
    refine v_callT (r := some (.int y7)) (As := []) (rest := [.int ((x 0 9) - (x 0 8))]) C hi (mJ0_length_8abf5 hi hy7) cw_J0_length_8abf5 wd_1032 ⟨Nat.le_of_ble_eq_true rfl, Nat.le_of_ble_eq_true rfl⟩ rfl rfl (Nat.le_of_ble_eq_true rfl) dX4_isWord_17 ?_
    refine v_icmp_ne (tgt := 27) C dX4_isWord_20 (by decide) hf (fun hf => ?_) (fun hf => ?_)
    · exact tX4_isWord_27 C hL hi hQ hf
    · refine v_iconst (v := 1) C dX4_isWord_23 (by decide) ?_
      refine v_goto (tgt := 28) C dX4_isWord_24 (by decide) ?_
      exact tX4_isWord_28 C hL hi hQ hf
theorem mX4_isWord {B : BB} {l : Launch} {L : St2 → St2} {N : Nat} {i : Nat} {x : St2} {res : Int32} (hL : Ln 51 10 L) (hi : i < 14) (hf : fX4_isWord N i x = some res) : Ret l B yX4_isWord cX4_isWord 4 (some .boolean) 4 85 [.ref (ad B 51), .ref (sk B i)] (L x) (some (.int res)) (L x) := ret_of (own := RX4) (by decide) rfl (Nat.le_of_ble_eq_true rfl) (fun E C hQ => tX4_isWord C hL hi hQ hf)
def fX4_must_17 (N : Nat) (x : St2) (s0 : Int32) : Option St2 := (pfz x 0 10 s0).bind fun x1 => if (x1 0 10) = 0 then ((fX4_next N x1).bind fun y2 => some y2) else (some x1)
set_option maxHeartbeats 4000000 in
set_option maxRecDepth 100000 in
theorem tX4_must_17 {E : EE} {B : BB} {l : Launch} {L : St2 → St2} {N : Nat} {x : St2} {s0 : Int32} {res : St2} (C : Cx E B l cX4_must RX4 none 2 3 70) (hL : Ln 51 10 L) (hQ : Fin9 E B none (L res)) (hf : fX4_must_17 N x s0 = some res) : V E B (L x) 17 [(0, .ref (ad B 51))] [.int s0, .ref (ad B 51)] := by
  unfold fX4_must_17 at hf
  refine s_putZ (k := 0) (i := 10) C hL (by decide) rfl rfl inX4 tyX4 tyX4_ok nmX4 (by decide) rfl wd_677 rfl (by decide +kernel) dX4_must_17 hf (fun x1 hf => ?_)
  refine v_aload_n C 0 dX4_must_20 rfl rfl ?_
  refine s_getI (k := 0) (i := 10) C hL (by decide) rfl rfl inX4 (by decide) rfl wd_677 dX4_must_21 ?_
  refine v_if_ne (tgt := 31) C dX4_must_24 (by decide) hf (fun hf => ?_) (fun hf => ?_)
  · exact v_vret C dX4_must_31 (fin_v hf hQ)
  · refine v_aload_n C 0 dX4_must_27 rfl rfl ?_
    obtain ⟨y2, hy2, hf⟩ := bnd hf
    refine v_callV (r := none) (As := []) (rest := []) (K := 51) C (mX4_next hL hy2) cw_X4_next wd_1011 (by decide) rfl rfl ⟨Nat.le_of_ble_eq_true rfl, Nat.le_of_ble_eq_true rfl⟩ rfl rfl (Nat.le_of_ble_eq_true rfl) dX4_must_28 ?_
    exact v_vret C dX4_must_31 (fin_v hf hQ)
def fX4_must_12 (N : Nat) (x : St2) : Option St2 := fX4_must_17 N x 1
set_option maxHeartbeats 4000000 in
set_option maxRecDepth 100000 in
theorem tX4_must_12 {E : EE} {B : BB} {l : Launch} {L : St2 → St2} {N : Nat} {x : St2} {res : St2} (C : Cx E B l cX4_must RX4 none 2 3 70) (hL : Ln 51 10 L) (hQ : Fin9 E B none (L res)) (hf : fX4_must_12 N x = some res) : V E B (L x) 12 [(0, .ref (ad B 51))] [.ref (ad B 51)] := by
  unfold fX4_must_12 at hf
  refine v_iconst (v := 1) C dX4_must_12 (by decide) ?_
  refine v_goto (tgt := 17) C dX4_must_13 (by decide) ?_
  exact tX4_must_17 C hL hQ hf
def fX4_must (N : Nat) (x : St2) (v1 : Int32) : Option St2 := if (x 0 10) = 0 then (if v1 = 0 then (fX4_must_12 N x) else (fX4_must_17 N x 0)) else (fX4_must_12 N x)
set_option maxHeartbeats 4000000 in
set_option maxRecDepth 100000 in
theorem tX4_must {E : EE} {B : BB} {l : Launch} {L : St2 → St2} {N : Nat} {x : St2} {v1 : Int32} {res : St2} (C : Cx E B l cX4_must RX4 none 2 3 70) (hL : Ln 51 10 L) (hQ : Fin9 E B none (L res)) (hf : fX4_must N x v1 = some res) : V E B (L x) 0 [(0, .ref (ad B 51)), (1, .int v1)] [] := by
  unfold fX4_must at hf
  refine v_aload_n C 0 dX4_must_0 rfl rfl ?_
  refine v_aload_n C 0 dX4_must_1 rfl rfl ?_
  refine s_getI (k := 0) (i := 10) C hL (by decide) rfl rfl inX4 (by decide) rfl wd_677 dX4_must_2 ?_
  refine v_if_ne (tgt := 12) C dX4_must_5 (by decide) hf (fun hf => ?_) (fun hf => ?_)
  · refine v_sub [0] rfl ?_
    exact tX4_must_12 C hL hQ hf
  · refine v_iload_n C 1 dX4_must_8 rfl rfl ?_
    refine v_if_ne (tgt := 16) C dX4_must_9 (by decide) hf (fun hf => ?_) (fun hf => ?_)
    · refine v_iconst (v := 0) C dX4_must_16 (by decide) ?_
      refine v_sub [0] rfl ?_
      exact tX4_must_17 C hL hQ hf
    · refine v_sub [0] rfl ?_
      exact tX4_must_12 C hL hQ hf
theorem mX4_must {B : BB} {l : Launch} {L : St2 → St2} {N : Nat} {x : St2} {v1 : Int32} {res : St2} (hL : Ln 51 10 L) (hf : fX4_must N x v1 = some res) : Ret l B yX4_must cX4_must 2 none 3 70 [.ref (ad B 51), .int v1] (L x) none (L res) := ret_of (own := RX4) (by decide) rfl (Nat.le_of_ble_eq_true rfl) (fun E C hQ => tX4_must C hL hQ hf)
def fX4_takes (N : Nat) (i : Nat) (x : St2) : Option (Int32 × St2) := (fX4_isWord N i x).bind fun y1 => if y1 = 0 then ((bz y1).bind fun w2 => some (w2, x)) else ((fX4_next N x).bind fun y3 => (bz y1).bind fun w4 => some (w4, y3))
set_option maxHeartbeats 4000000 in
set_option maxRecDepth 100000 in
theorem tX4_takes {E : EE} {B : BB} {l : Launch} {L : St2 → St2} {N : Nat} {i : Nat} {x : St2} {res : (Int32 × St2)} (C : Cx E B l cX4_takes RX4 (some .boolean) 3 5 108) (hL : Ln 51 10 L) (hi : i < 14) (hQ : Fin9 E B (some (.int res.1)) (L res.2)) (hf : fX4_takes N i x = some res) : V E B (L x) 0 [(0, .ref (ad B 51)), (1, .ref (sk B i))] [] := by
  unfold fX4_takes at hf
  refine v_aload_n C 0 dX4_takes_0 rfl rfl ?_
  refine v_aload_n C 1 dX4_takes_1 rfl rfl ?_
  obtain ⟨y1, hy1, hf⟩ := bnd hf
  refine v_callV (r := some (.int y1)) (As := [.ref (sk B i)]) (rest := []) (K := 51) C (mX4_isWord hL hi hy1) cw_X4_isWord wd_1028 (by decide) rfl rfl ⟨Nat.le_of_ble_eq_true rfl, Nat.le_of_ble_eq_true rfl⟩ rfl rfl (Nat.le_of_ble_eq_true rfl) dX4_takes_2 ?_
  refine v_istore_n (lv' := [(0, .ref (ad B 51)), (1, .ref (sk B i)), (2, .int y1)]) C [1, 2, 0] dX4_takes_5 rfl (by decide) rfl ?_
  refine v_iload_n C 2 dX4_takes_6 rfl rfl ?_
  refine v_if_eq (tgt := 14) C dX4_takes_7 (by decide) hf (fun hf => ?_) (fun hf => ?_)
  · refine v_iload_n C 2 dX4_takes_14 rfl rfl ?_
    obtain ⟨hz, hf⟩ := bz_b hf
    exact v_zret C hz dX4_takes_15 (fin_im hf hQ)
  · refine v_aload_n C 0 dX4_takes_10 rfl rfl ?_
    obtain ⟨y3, hy3, hf⟩ := bnd hf
    refine v_callV (r := none) (As := []) (rest := []) (K := 51) C (mX4_next hL hy3) cw_X4_next wd_1011 (by decide) rfl rfl ⟨Nat.le_of_ble_eq_true rfl, Nat.le_of_ble_eq_true rfl⟩ rfl rfl (Nat.le_of_ble_eq_true rfl) dX4_takes_11 ?_
    refine v_iload_n C 2 dX4_takes_14 rfl rfl ?_
    obtain ⟨hz, hf⟩ := bz_b hf
    exact v_zret C hz dX4_takes_15 (fin_im hf hQ)
theorem mX4_takes {B : BB} {l : Launch} {L : St2 → St2} {N : Nat} {i : Nat} {x : St2} {res : (Int32 × St2)} (hL : Ln 51 10 L) (hi : i < 14) (hf : fX4_takes N i x = some res) : Ret l B yX4_takes cX4_takes 3 (some .boolean) 5 108 [.ref (ad B 51), .ref (sk B i)] (L x) (some (.int res.1)) (L res.2) := ret_of (own := RX4) (by decide) rfl (Nat.le_of_ble_eq_true rfl) (fun E C hQ => tX4_takes C hL hi hQ hf)
def fX4_numberRead_73 (N : Nat) (x : St2) (v1 : Int32) (v2 : Int32) (v3 : Int32) : Option (Int32 × St2) := (fX4_in v3.toInt64 v1.toInt64 v2.toInt64).bind fun y3 => (fX4_must N x y3).bind fun y4 => some (v3, y4)
set_option maxHeartbeats 4000000 in
set_option maxRecDepth 100000 in
theorem tX4_numberRead_73 {E : EE} {B : BB} {l : Launch} {L : St2 → St2} {N : Nat} {x : St2} {v1 : Int32} {v2 : Int32} {v3 : Int32} {res : (Int32 × St2)} (C : Cx E B l cX4_numberRead RX4 (some .int) 5 4 91) (hL : Ln 51 10 L) (hQ : Fin9 E B (some (.int res.1)) (L res.2)) (hf : fX4_numberRead_73 N x v1 v2 v3 = some res) : V E B (L x) 73 [(0, .ref (ad B 51)), (1, .int v1), (2, .int v2), (3, .int v3)] [] := by
  unfold fX4_numberRead_73 at hf
  refine v_aload_n C 0 dX4_numberRead_73 rfl rfl ?_
  refine v_iload_n C 3 dX4_numberRead_74 rfl rfl ?_
  refine v_i2l C dX4_numberRead_75 ?_
  refine v_iload_n C 1 dX4_numberRead_76 rfl rfl ?_
  refine v_i2l C dX4_numberRead_77 ?_
  refine v_iload_n C 2 dX4_numberRead_78 rfl rfl ?_
  refine v_i2l C dX4_numberRead_79 ?_
  obtain ⟨y3, hy3, hf⟩ := bnd hf
  refine v_callS (r := some (.int y3)) (As := [.long v3.toInt64, .long v1.toInt64, .long v2.toInt64]) (rest := [.ref (ad B 51)]) C (mX4_in  hy3) cw_X4_in wd_721 ⟨Nat.le_of_ble_eq_true rfl, Nat.le_of_ble_eq_true rfl⟩ rfl rfl (Nat.le_of_ble_eq_true rfl) dX4_numberRead_80 ?_
  obtain ⟨y4, hy4, hf⟩ := bnd hf
  refine v_callV (r := none) (As := [.int y3]) (rest := []) (K := 51) C (mX4_must hL hy4) cw_X4_must wd_1044 (by decide) rfl rfl ⟨Nat.le_of_ble_eq_true rfl, Nat.le_of_ble_eq_true rfl⟩ rfl rfl (Nat.le_of_ble_eq_true rfl) dX4_numberRead_83 ?_
  refine v_iload_n C 3 dX4_numberRead_86 rfl rfl ?_
  exact v_iret C dX4_numberRead_87 (fin_im hf hQ)
def fX4_numberRead_66 (N : Nat) (k27 : Int32 → Int32 → Option (Int32 × St2)) (x : St2) (v1 : Int32) (v2 : Int32) (v4 : Int32) (s0 : Int32) : Option (Int32 × St2) := k27 s0 (v4 + 1)
set_option maxHeartbeats 4000000 in
set_option maxRecDepth 100000 in
theorem tX4_numberRead_66 {E : EE} {B : BB} {l : Launch} {L : St2 → St2} {N : Nat} {k27 : Int32 → Int32 → Option (Int32 × St2)} {x : St2} {v1 : Int32} {v2 : Int32} {v4 : Int32} {s0 : Int32} {res : (Int32 × St2)} (C : Cx E B l cX4_numberRead RX4 (some .int) 5 4 91) (hL : Ln 51 10 L) (hQ : Fin9 E B (some (.int res.1)) (L res.2)) (hk27 : ∀ (v3 : Int32) (v4 : Int32), k27 v3 v4 = some res → V E B (L x) 27 [(0, .ref (ad B 51)), (1, .int v1), (2, .int v2), (3, .int v3), (4, .int v4)] []) (hf : fX4_numberRead_66 N k27 x v1 v2 v4 s0 = some res) : V E B (L x) 66 [(0, .ref (ad B 51)), (1, .int v1), (2, .int v2), (4, .int v4)] [.int s0] := by
  unfold fX4_numberRead_66 at hf
  refine v_istore_n (lv' := [(0, .ref (ad B 51)), (1, .int v1), (2, .int v2), (3, .int s0), (4, .int v4)]) C [1, 2, 3, 0, 4] dX4_numberRead_66 rfl (by decide) rfl ?_
  refine v_iinc (q := 4) (v := v4 + 1) (lv' := [(0, .ref (ad B 51)), (1, .int v1), (2, .int v2), (3, .int s0), (4, .int (v4 + 1))]) C [1, 2, 3, 4, 0] dX4_numberRead_67 rfl rfl (by decide) rfl ?_
  refine v_goto (tgt := 27) C dX4_numberRead_70 (by decide) ?_
  exact hk27 s0 (v4 + 1) hf
def fX4_numberRead_27 (N : Nat) (x : St2) (v1 : Int32) (v2 : Int32) : Nat → Int32 → Int32 → Option (Int32 × St2)
  | 0, _, _ => none
  | n + 1, v3, v4 => if (x 0 9) ≤ v4 then (fX4_numberRead_73 N x v1 v2 v3) else (if v3 < 0 then (fX4_numberRead_73 N x v1 v2 v3) else (if v3 ≤ 999 then ((rd (x 5) 120 v4).bind fun a5 => fX4_numberRead_66 N (fX4_numberRead_27 N x v1 v2 n) x v1 v2 v4 (((10 * v3) + a5) - 48)) else (fX4_numberRead_66 N (fX4_numberRead_27 N x v1 v2 n) x v1 v2 v4 v3)))
set_option maxHeartbeats 4000000 in
set_option maxRecDepth 100000 in
theorem tX4_numberRead_27 {E : EE} {B : BB} {l : Launch} {L : St2 → St2} {N : Nat} {x : St2} {v1 : Int32} {v2 : Int32} {res : (Int32 × St2)} (C : Cx E B l cX4_numberRead RX4 (some .int) 5 4 91) (hL : Ln 51 10 L) (hQ : Fin9 E B (some (.int res.1)) (L res.2)) : ∀ (n : Nat) (v3 : Int32) (v4 : Int32), fX4_numberRead_27 N x v1 v2 n v3 v4 = some res → V E B (L x) 27 [(0, .ref (ad B 51)), (1, .int v1), (2, .int v2), (3, .int v3), (4, .int v4)] [] := by
  intro n
  induction n with
  | zero =>
    intro v3 v4 hf
    cases hf
  | succ n ih =>
    intro v3 v4 hf
    rw [fX4_numberRead_27] at hf
    refine v_iload C 4 dX4_numberRead_27 rfl ?_
    refine v_aload_n C 0 dX4_numberRead_29 rfl rfl ?_
    refine s_getI (k := 0) (i := 9) C hL (by decide) rfl rfl inX4 (by decide) rfl wd_676 dX4_numberRead_30 ?_
    refine v_icmp_ge (tgt := 73) C dX4_numberRead_33 (by decide) hf (fun hf => ?_) (fun hf => ?_)
    · refine v_sub [0, 1, 2, 3] rfl ?_
      exact tX4_numberRead_73 C hL hQ hf
    · refine v_iload_n C 3 dX4_numberRead_36 rfl rfl ?_
      refine v_if_lt (tgt := 73) C dX4_numberRead_37 (by decide) hf (fun hf => ?_) (fun hf => ?_)
      · refine v_sub [0, 1, 2, 3] rfl ?_
        exact tX4_numberRead_73 C hL hQ hf
      · refine v_iload_n C 3 dX4_numberRead_40 rfl rfl ?_
        refine v_sipush (v := 999) C dX4_numberRead_41 (by decide) ?_
        refine v_icmp_le (tgt := 51) C dX4_numberRead_44 (by decide) hf (fun hf => ?_) (fun hf => ?_)
        · refine v_bipush (v := 10) C dX4_numberRead_51 (by decide) ?_
          refine v_iload_n C 3 dX4_numberRead_53 rfl rfl ?_
          refine v_imul C dX4_numberRead_54 ?_
          refine v_aload_n C 0 dX4_numberRead_55 rfl rfl ?_
          refine g_getR (K := 51) (i := 6) (j := 51 + 5) C (by decide) rfl rfl inX4 (by decide) rfl wd_673 dX4_numberRead_56 ?_
          refine v_iload C 4 dX4_numberRead_59 rfl ?_
          refine s_ald (k := 5) C hL (by decide) rfl dX4_numberRead_61 hf (fun a5 hf => ?_)
          refine v_iadd C dX4_numberRead_62 ?_
          refine v_bipush (v := 48) C dX4_numberRead_63 (by decide) ?_
          refine v_isub C dX4_numberRead_65 ?_
          refine v_sub [0, 1, 2, 4] rfl ?_
          exact tX4_numberRead_66 C hL hQ ih hf
        · refine v_iload_n C 3 dX4_numberRead_47 rfl rfl ?_
          refine v_goto (tgt := 66) C dX4_numberRead_48 (by decide) ?_
          refine v_sub [0, 1, 2, 4] rfl ?_
          exact tX4_numberRead_66 C hL hQ ih hf
def fX4_numberRead_20 (N : Nat) (x : St2) (v1 : Int32) (v2 : Int32) (s0 : Int32) : Option (Int32 × St2) := (some (x 0 8)).bind fun w2 => fX4_numberRead_27 N x v1 v2 N s0 w2
set_option maxHeartbeats 4000000 in
set_option maxRecDepth 100000 in
theorem tX4_numberRead_20 {E : EE} {B : BB} {l : Launch} {L : St2 → St2} {N : Nat} {x : St2} {v1 : Int32} {v2 : Int32} {s0 : Int32} {res : (Int32 × St2)} (C : Cx E B l cX4_numberRead RX4 (some .int) 5 4 91) (hL : Ln 51 10 L) (hQ : Fin9 E B (some (.int res.1)) (L res.2)) (hf : fX4_numberRead_20 N x v1 v2 s0 = some res) : V E B (L x) 20 [(0, .ref (ad B 51)), (1, .int v1), (2, .int v2)] [.int s0] := by
  unfold fX4_numberRead_20 at hf
  refine v_istore_n (lv' := [(0, .ref (ad B 51)), (1, .int v1), (2, .int v2), (3, .int s0)]) C [1, 2, 3, 0] dX4_numberRead_20 rfl (by decide) rfl ?_
  refine v_aload_n C 0 dX4_numberRead_21 rfl rfl ?_
  refine s_getI (k := 0) (i := 8) C hL (by decide) rfl rfl inX4 (by decide) rfl wd_675 dX4_numberRead_22 ?_
  refine v_top hf (fun w2 hf => ?_)
  refine v_istore (lv' := [(0, .ref (ad B 51)), (1, .int v1), (2, .int v2), (3, .int s0), (4, .int w2)]) C [1, 2, 3, 4, 0] dX4_numberRead_25 (by decide) rfl ?_
  exact tX4_numberRead_27 C hL hQ N s0 w2 hf
def fX4_numberRead (N : Nat) (x : St2) (v1 : Int32) (v2 : Int32) : Option (Int32 × St2) := (fX4_isByte x (x 0 8) 48 57).bind fun y1 => if y1 = 0 then (fX4_numberRead_20 N x v1 v2 (-1)) else (fX4_numberRead_20 N x v1 v2 0)
set_option maxHeartbeats 4000000 in
set_option maxRecDepth 100000 in
theorem tX4_numberRead {E : EE} {B : BB} {l : Launch} {L : St2 → St2} {N : Nat} {x : St2} {v1 : Int32} {v2 : Int32} {res : (Int32 × St2)} (C : Cx E B l cX4_numberRead RX4 (some .int) 5 4 91) (hL : Ln 51 10 L) (hQ : Fin9 E B (some (.int res.1)) (L res.2)) (hf : fX4_numberRead N x v1 v2 = some res) : V E B (L x) 0 [(0, .ref (ad B 51)), (1, .int v1), (2, .int v2)] [] := by
  unfold fX4_numberRead at hf
  refine v_aload_n C 0 dX4_numberRead_0 rfl rfl ?_
  refine v_aload_n C 0 dX4_numberRead_1 rfl rfl ?_
  refine s_getI (k := 0) (i := 8) C hL (by decide) rfl rfl inX4 (by decide) rfl wd_675 dX4_numberRead_2 ?_
  refine v_bipush (v := 48) C dX4_numberRead_5 (by decide) ?_
  refine v_bipush (v := 57) C dX4_numberRead_7 (by decide) ?_
  obtain ⟨y1, hy1, hf⟩ := bnd hf
  refine v_callV (r := some (.int y1)) (As := [.int (x 0 8), .int 48, .int 57]) (rest := []) (K := 51) C (mX4_isByte hL hy1) cw_X4_isByte wd_1015 (by decide) rfl rfl ⟨Nat.le_of_ble_eq_true rfl, Nat.le_of_ble_eq_true rfl⟩ rfl rfl (Nat.le_of_ble_eq_true rfl) dX4_numberRead_9 ?_
  refine v_if_eq (tgt := 19) C dX4_numberRead_12 (by decide) hf (fun hf => ?_) (fun hf => ?_)
  · refine v_iconst (v := (-1)) C dX4_numberRead_19 (by decide) ?_
    exact tX4_numberRead_20 C hL hQ hf
  · refine v_iconst (v := 0) C dX4_numberRead_15 (by decide) ?_
    refine v_goto (tgt := 20) C dX4_numberRead_16 (by decide) ?_
    exact tX4_numberRead_20 C hL hQ hf
theorem mX4_numberRead {B : BB} {l : Launch} {L : St2 → St2} {N : Nat} {x : St2} {v1 : Int32} {v2 : Int32} {res : (Int32 × St2)} (hL : Ln 51 10 L) (hf : fX4_numberRead N x v1 v2 = some res) : Ret l B yX4_numberRead cX4_numberRead 5 (some .int) 4 91 [.ref (ad B 51), .int v1, .int v2] (L x) (some (.int res.1)) (L res.2) := ret_of (own := RX4) (by decide) rfl (Nat.le_of_ble_eq_true rfl) (fun E C hQ => tX4_numberRead C hL hQ hf)
def fX4_kindHere_85 (N : Nat) (x : St2) (v1 : Int32) (s0 : Int32) : Option Int32 := if v1 < 0 then (if s0 < 0 then ((fX4_isWord N 6 x).bind fun y7 => if y7 = 0 then (some (-1)) else (some 6)) else (some s0)) else (some v1)
set_option maxHeartbeats 4000000 in
set_option maxRecDepth 100000 in
theorem tX4_kindHere_85 {E : EE} {B : BB} {l : Launch} {L : St2 → St2} {N : Nat} {x : St2} {v1 : Int32} {s0 : Int32} {res : Int32} (C : Cx E B l cX4_kindHere RX4 (some .int) 3 5 108) (hL : Ln 51 10 L) (hQ : Fin9 E B (some (.int res)) (L x)) (hf : fX4_kindHere_85 N x v1 s0 = some res) : V E B (L x) 85 [(0, .ref (ad B 51)), (1, .int v1)] [.int s0] := by
  unfold fX4_kindHere_85 at hf
  refine v_istore_n (lv' := [(0, .ref (ad B 51)), (1, .int v1), (2, .int s0)]) C [1, 2, 0] dX4_kindHere_85 rfl (by decide) rfl ?_
  refine v_iload_n C 1 dX4_kindHere_86 rfl rfl ?_
  refine v_if_lt (tgt := 94) C dX4_kindHere_87 (by decide) hf (fun hf => ?_) (fun hf => ?_)
  · refine v_iload_n C 2 dX4_kindHere_94 rfl rfl ?_
    refine v_if_lt (tgt := 102) C dX4_kindHere_95 (by decide) hf (fun hf => ?_) (fun hf => ?_)
    · refine v_aload_n C 0 dX4_kindHere_102 rfl rfl ?_
      refine v_ldcSw C sr_1039 dX4_kindHere_103 ?_
      obtain ⟨y7, hy7, hf⟩ := bnd hf
      refine v_callV (r := some (.int y7)) (As := [.ref (sk B 6)]) (rest := []) (K := 51) C (mX4_isWord hL (by decide) hy7) cw_X4_isWord wd_1028 (by decide) rfl rfl ⟨Nat.le_of_ble_eq_true rfl, Nat.le_of_ble_eq_true rfl⟩ rfl rfl (Nat.le_of_ble_eq_true rfl) dX4_kindHere_106 ?_
      refine v_if_eq (tgt := 117) C dX4_kindHere_109 (by decide) hf (fun hf => ?_) (fun hf => ?_)
      · refine v_iconst (v := (-1)) C dX4_kindHere_117 (by decide) ?_
        exact v_iret C dX4_kindHere_118 (fin_i hf hQ)
      · refine v_bipush (v := 6) C dX4_kindHere_112 (by decide) ?_
        refine v_goto (tgt := 118) C dX4_kindHere_114 (by decide) ?_
        exact v_iret C dX4_kindHere_118 (fin_i hf hQ)
    · refine v_iload_n C 2 dX4_kindHere_98 rfl rfl ?_
      refine v_goto (tgt := 118) C dX4_kindHere_99 (by decide) ?_
      exact v_iret C dX4_kindHere_118 (fin_i hf hQ)
  · refine v_iload_n C 1 dX4_kindHere_90 rfl rfl ?_
    refine v_goto (tgt := 118) C dX4_kindHere_91 (by decide) ?_
    exact v_iret C dX4_kindHere_118 (fin_i hf hQ)
def fX4_kindHere_41 (N : Nat) (x : St2) (s0 : Int32) : Option Int32 := (fX4_isWord N 3 x).bind fun y4 => if y4 = 0 then ((fX4_isWord N 4 x).bind fun y5 => if y5 = 0 then ((fX4_isWord N 5 x).bind fun y6 => if y6 = 0 then (fX4_kindHere_85 N x s0 (-1)) else (fX4_kindHere_85 N x s0 5)) else (fX4_kindHere_85 N x s0 4)) else (fX4_kindHere_85 N x s0 3)
set_option maxHeartbeats 4000000 in
set_option maxRecDepth 100000 in
theorem tX4_kindHere_41 {E : EE} {B : BB} {l : Launch} {L : St2 → St2} {N : Nat} {x : St2} {s0 : Int32} {res : Int32} (C : Cx E B l cX4_kindHere RX4 (some .int) 3 5 108) (hL : Ln 51 10 L) (hQ : Fin9 E B (some (.int res)) (L x)) (hf : fX4_kindHere_41 N x s0 = some res) : V E B (L x) 41 [(0, .ref (ad B 51))] [.int s0] := by
  unfold fX4_kindHere_41 at hf
  refine v_istore_n (lv' := [(0, .ref (ad B 51)), (1, .int s0)]) C [1, 0] dX4_kindHere_41 rfl (by decide) rfl ?_
  refine v_aload_n C 0 dX4_kindHere_42 rfl rfl ?_
  refine v_ldcSw C sr_1036 dX4_kindHere_43 ?_
  obtain ⟨y4, hy4, hf⟩ := bnd hf
  refine v_callV (r := some (.int y4)) (As := [.ref (sk B 3)]) (rest := []) (K := 51) C (mX4_isWord hL (by decide) hy4) cw_X4_isWord wd_1028 (by decide) rfl rfl ⟨Nat.le_of_ble_eq_true rfl, Nat.le_of_ble_eq_true rfl⟩ rfl rfl (Nat.le_of_ble_eq_true rfl) dX4_kindHere_46 ?_
  refine v_if_eq (tgt := 56) C dX4_kindHere_49 (by decide) hf (fun hf => ?_) (fun hf => ?_)
  · refine v_aload_n C 0 dX4_kindHere_56 rfl rfl ?_
    refine v_ldcSw C sr_1037 dX4_kindHere_57 ?_
    obtain ⟨y5, hy5, hf⟩ := bnd hf
    refine v_callV (r := some (.int y5)) (As := [.ref (sk B 4)]) (rest := []) (K := 51) C (mX4_isWord hL (by decide) hy5) cw_X4_isWord wd_1028 (by decide) rfl rfl ⟨Nat.le_of_ble_eq_true rfl, Nat.le_of_ble_eq_true rfl⟩ rfl rfl (Nat.le_of_ble_eq_true rfl) dX4_kindHere_60 ?_
    refine v_if_eq (tgt := 70) C dX4_kindHere_63 (by decide) hf (fun hf => ?_) (fun hf => ?_)
    · refine v_aload_n C 0 dX4_kindHere_70 rfl rfl ?_
      refine v_ldcSw C sr_1038 dX4_kindHere_71 ?_
      obtain ⟨y6, hy6, hf⟩ := bnd hf
      refine v_callV (r := some (.int y6)) (As := [.ref (sk B 5)]) (rest := []) (K := 51) C (mX4_isWord hL (by decide) hy6) cw_X4_isWord wd_1028 (by decide) rfl rfl ⟨Nat.le_of_ble_eq_true rfl, Nat.le_of_ble_eq_true rfl⟩ rfl rfl (Nat.le_of_ble_eq_true rfl) dX4_kindHere_74 ?_
      refine v_if_eq (tgt := 84) C dX4_kindHere_77 (by decide) hf (fun hf => ?_) (fun hf => ?_)
      · refine v_iconst (v := (-1)) C dX4_kindHere_84 (by decide) ?_
        exact tX4_kindHere_85 C hL hQ hf
      · refine v_iconst (v := 5) C dX4_kindHere_80 (by decide) ?_
        refine v_goto (tgt := 85) C dX4_kindHere_81 (by decide) ?_
        exact tX4_kindHere_85 C hL hQ hf
    · refine v_iconst (v := 4) C dX4_kindHere_66 (by decide) ?_
      refine v_goto (tgt := 85) C dX4_kindHere_67 (by decide) ?_
      exact tX4_kindHere_85 C hL hQ hf
  · refine v_iconst (v := 3) C dX4_kindHere_52 (by decide) ?_
    refine v_goto (tgt := 85) C dX4_kindHere_53 (by decide) ?_
    exact tX4_kindHere_85 C hL hQ hf
def fX4_kindHere (N : Nat) (x : St2) : Option Int32 := (fX4_isWord N 0 x).bind fun y1 => if y1 = 0 then ((fX4_isWord N 1 x).bind fun y2 => if y2 = 0 then ((fX4_isWord N 2 x).bind fun y3 => if y3 = 0 then (fX4_kindHere_41 N x (-1)) else (fX4_kindHere_41 N x 2)) else (fX4_kindHere_41 N x 1)) else (fX4_kindHere_41 N x 0)
set_option maxHeartbeats 4000000 in
set_option maxRecDepth 100000 in
theorem tX4_kindHere {E : EE} {B : BB} {l : Launch} {L : St2 → St2} {N : Nat} {x : St2} {res : Int32} (C : Cx E B l cX4_kindHere RX4 (some .int) 3 5 108) (hL : Ln 51 10 L) (hQ : Fin9 E B (some (.int res)) (L x)) (hf : fX4_kindHere N x = some res) : V E B (L x) 0 [(0, .ref (ad B 51))] [] := by
  unfold fX4_kindHere at hf
  refine v_aload_n C 0 dX4_kindHere_0 rfl rfl ?_
  refine v_ldcS C sr_1027 dX4_kindHere_1 ?_
  obtain ⟨y1, hy1, hf⟩ := bnd hf
  refine v_callV (r := some (.int y1)) (As := [.ref (sk B 0)]) (rest := []) (K := 51) C (mX4_isWord hL (by decide) hy1) cw_X4_isWord wd_1028 (by decide) rfl rfl ⟨Nat.le_of_ble_eq_true rfl, Nat.le_of_ble_eq_true rfl⟩ rfl rfl (Nat.le_of_ble_eq_true rfl) dX4_kindHere_3 ?_
  refine v_if_eq (tgt := 13) C dX4_kindHere_6 (by decide) hf (fun hf => ?_) (fun hf => ?_)
  · refine v_aload_n C 0 dX4_kindHere_13 rfl rfl ?_
    refine v_ldcS C sr_1034 dX4_kindHere_14 ?_
    obtain ⟨y2, hy2, hf⟩ := bnd hf
    refine v_callV (r := some (.int y2)) (As := [.ref (sk B 1)]) (rest := []) (K := 51) C (mX4_isWord hL (by decide) hy2) cw_X4_isWord wd_1028 (by decide) rfl rfl ⟨Nat.le_of_ble_eq_true rfl, Nat.le_of_ble_eq_true rfl⟩ rfl rfl (Nat.le_of_ble_eq_true rfl) dX4_kindHere_16 ?_
    refine v_if_eq (tgt := 26) C dX4_kindHere_19 (by decide) hf (fun hf => ?_) (fun hf => ?_)
    · refine v_aload_n C 0 dX4_kindHere_26 rfl rfl ?_
      refine v_ldcSw C sr_1035 dX4_kindHere_27 ?_
      obtain ⟨y3, hy3, hf⟩ := bnd hf
      refine v_callV (r := some (.int y3)) (As := [.ref (sk B 2)]) (rest := []) (K := 51) C (mX4_isWord hL (by decide) hy3) cw_X4_isWord wd_1028 (by decide) rfl rfl ⟨Nat.le_of_ble_eq_true rfl, Nat.le_of_ble_eq_true rfl⟩ rfl rfl (Nat.le_of_ble_eq_true rfl) dX4_kindHere_30 ?_
      refine v_if_eq (tgt := 40) C dX4_kindHere_33 (by decide) hf (fun hf => ?_) (fun hf => ?_)
      · refine v_iconst (v := (-1)) C dX4_kindHere_40 (by decide) ?_
        exact tX4_kindHere_41 C hL hQ hf
      · refine v_iconst (v := 2) C dX4_kindHere_36 (by decide) ?_
        refine v_goto (tgt := 41) C dX4_kindHere_37 (by decide) ?_
        exact tX4_kindHere_41 C hL hQ hf
    · refine v_iconst (v := 1) C dX4_kindHere_22 (by decide) ?_
      refine v_goto (tgt := 41) C dX4_kindHere_23 (by decide) ?_
      exact tX4_kindHere_41 C hL hQ hf
  · refine v_iconst (v := 0) C dX4_kindHere_9 (by decide) ?_
    refine v_goto (tgt := 41) C dX4_kindHere_10 (by decide) ?_
    exact tX4_kindHere_41 C hL hQ hf
theorem mX4_kindHere {B : BB} {l : Launch} {L : St2 → St2} {N : Nat} {x : St2} {res : Int32} (hL : Ln 51 10 L) (hf : fX4_kindHere N x = some res) : Ret l B yX4_kindHere cX4_kindHere 3 (some .int) 5 108 [.ref (ad B 51)] (L x) (some (.int res)) (L x) := ret_of (own := RX4) (by decide) rfl (Nat.le_of_ble_eq_true rfl) (fun E C hQ => tX4_kindHere C hL hQ hf)
def fX4_walkerTold_98 (N : Nat) (x : St2) (v2 : Int32) : Option St2 := (fX4_takes N 10 x).bind fun y7 => if y7.1 = 0 then (some y7.2) else ((fX4_numberRead N y7.2 1 9).bind fun y8 => (fX4_sets y8.2 v2 4 y8.1).bind fun y9 => some y9)
set_option maxHeartbeats 4000000 in
set_option maxRecDepth 100000 in
theorem tX4_walkerTold_98 {E : EE} {B : BB} {l : Launch} {L : St2 → St2} {N : Nat} {x : St2} {v2 : Int32} {res : St2} (C : Cx E B l cX4_walkerTold RX4 none 3 6 130) (hL : Ln 51 10 L) (hQ : Fin9 E B none (L res)) (hf : fX4_walkerTold_98 N x v2 = some res) : V E B (L x) 98 [(0, .ref (ad B 51)), (2, .int v2)] [] := by
  unfold fX4_walkerTold_98 at hf
  refine v_aload_n C 0 dX4_walkerTold_98 rfl rfl ?_
  refine v_ldcSw C sr_1059 dX4_walkerTold_99 ?_
  obtain ⟨y7, hy7, hf⟩ := bnd hf
  refine v_callV (r := some (.int y7.1)) (As := [.ref (sk B 10)]) (rest := []) (K := 51) C (mX4_takes hL (by decide) hy7) cw_X4_takes wd_1049 (by decide) rfl rfl ⟨Nat.le_of_ble_eq_true rfl, Nat.le_of_ble_eq_true rfl⟩ rfl rfl (Nat.le_of_ble_eq_true rfl) dX4_walkerTold_102 ?_
  refine v_if_eq (tgt := 121) C dX4_walkerTold_105 (by decide) hf (fun hf => ?_) (fun hf => ?_)
  · exact v_vret C dX4_walkerTold_121 (fin_v hf hQ)
  · refine v_aload_n C 0 dX4_walkerTold_108 rfl rfl ?_
    refine v_iload_n C 1 dX4_walkerTold_109 rfl rfl ?_
    refine v_iconst (v := 4) C dX4_walkerTold_110 (by decide) ?_
    refine v_aload_n C 0 dX4_walkerTold_111 rfl rfl ?_
    refine v_iconst (v := 1) C dX4_walkerTold_112 (by decide) ?_
    refine v_bipush (v := 9) C dX4_walkerTold_113 (by decide) ?_
    obtain ⟨y8, hy8, hf⟩ := bnd hf
    refine v_callV (r := some (.int y8.1)) (As := [.int 1, .int 9]) (rest := [.int 4, .int v2, .ref (ad B 51)]) (K := 51) C (mX4_numberRead hL hy8) cw_X4_numberRead wd_1053 (by decide) rfl rfl ⟨Nat.le_of_ble_eq_true rfl, Nat.le_of_ble_eq_true rfl⟩ rfl rfl (Nat.le_of_ble_eq_true rfl) dX4_walkerTold_115 ?_
    obtain ⟨y9, hy9, hf⟩ := bnd hf
    refine v_callV (r := none) (As := [.int v2, .int 4, .int y8.1]) (rest := []) (K := 51) C (mX4_sets hL hy9) cw_X4_sets wd_780 (by decide) rfl rfl ⟨Nat.le_of_ble_eq_true rfl, Nat.le_of_ble_eq_true rfl⟩ rfl rfl (Nat.le_of_ble_eq_true rfl) dX4_walkerTold_118 ?_
    exact v_vret C dX4_walkerTold_121 (fin_v hf hQ)
def fX4_walkerTold_75 (N : Nat) (x : St2) (v2 : Int32) : Option St2 := (fX4_takes N 9 x).bind fun y6 => if y6.1 = 0 then (fX4_walkerTold_98 N y6.2 v2) else ((fX4_numberRead N y6.2 1 6).bind fun y10 => (fX4_sets y10.2 v2 3 y10.1).bind fun y11 => fX4_walkerTold_98 N y11 v2)
set_option maxHeartbeats 4000000 in
set_option maxRecDepth 100000 in
theorem tX4_walkerTold_75 {E : EE} {B : BB} {l : Launch} {L : St2 → St2} {N : Nat} {x : St2} {v2 : Int32} {res : St2} (C : Cx E B l cX4_walkerTold RX4 none 3 6 130) (hL : Ln 51 10 L) (hQ : Fin9 E B none (L res)) (hf : fX4_walkerTold_75 N x v2 = some res) : V E B (L x) 75 [(0, .ref (ad B 51)), (2, .int v2)] [] := by
  unfold fX4_walkerTold_75 at hf
  refine v_aload_n C 0 dX4_walkerTold_75 rfl rfl ?_
  refine v_ldcSw C sr_1058 dX4_walkerTold_76 ?_
  obtain ⟨y6, hy6, hf⟩ := bnd hf
  refine v_callV (r := some (.int y6.1)) (As := [.ref (sk B 9)]) (rest := []) (K := 51) C (mX4_takes hL (by decide) hy6) cw_X4_takes wd_1049 (by decide) rfl rfl ⟨Nat.le_of_ble_eq_true rfl, Nat.le_of_ble_eq_true rfl⟩ rfl rfl (Nat.le_of_ble_eq_true rfl) dX4_walkerTold_79 ?_
  refine v_if_eq (tgt := 98) C dX4_walkerTold_82 (by decide) hf (fun hf => ?_) (fun hf => ?_)
  · exact tX4_walkerTold_98 C hL hQ hf
  · refine v_aload_n C 0 dX4_walkerTold_85 rfl rfl ?_
    refine v_iload_n C 1 dX4_walkerTold_86 rfl rfl ?_
    refine v_iconst (v := 3) C dX4_walkerTold_87 (by decide) ?_
    refine v_aload_n C 0 dX4_walkerTold_88 rfl rfl ?_
    refine v_iconst (v := 1) C dX4_walkerTold_89 (by decide) ?_
    refine v_bipush (v := 6) C dX4_walkerTold_90 (by decide) ?_
    obtain ⟨y10, hy10, hf⟩ := bnd hf
    refine v_callV (r := some (.int y10.1)) (As := [.int 1, .int 6]) (rest := [.int 3, .int v2, .ref (ad B 51)]) (K := 51) C (mX4_numberRead hL hy10) cw_X4_numberRead wd_1053 (by decide) rfl rfl ⟨Nat.le_of_ble_eq_true rfl, Nat.le_of_ble_eq_true rfl⟩ rfl rfl (Nat.le_of_ble_eq_true rfl) dX4_walkerTold_92 ?_
    obtain ⟨y11, hy11, hf⟩ := bnd hf
    refine v_callV (r := none) (As := [.int v2, .int 3, .int y10.1]) (rest := []) (K := 51) C (mX4_sets hL hy11) cw_X4_sets wd_780 (by decide) rfl rfl ⟨Nat.le_of_ble_eq_true rfl, Nat.le_of_ble_eq_true rfl⟩ rfl rfl (Nat.le_of_ble_eq_true rfl) dX4_walkerTold_95 ?_
    exact tX4_walkerTold_98 C hL hQ hf
def fX4_walkerTold_58 (N : Nat) (x : St2) (v2 : Int32) : Option St2 := (fX4_takes N 8 x).bind fun y5 => if y5.1 = 0 then (fX4_walkerTold_75 N y5.2 v2) else ((fX4_sets y5.2 v2 2 0).bind fun y12 => fX4_walkerTold_75 N y12 v2)
set_option maxHeartbeats 4000000 in
set_option maxRecDepth 100000 in
theorem tX4_walkerTold_58 {E : EE} {B : BB} {l : Launch} {L : St2 → St2} {N : Nat} {x : St2} {v2 : Int32} {res : St2} (C : Cx E B l cX4_walkerTold RX4 none 3 6 130) (hL : Ln 51 10 L) (hQ : Fin9 E B none (L res)) (hf : fX4_walkerTold_58 N x v2 = some res) : V E B (L x) 58 [(0, .ref (ad B 51)), (2, .int v2)] [] := by
  unfold fX4_walkerTold_58 at hf
  refine v_aload_n C 0 dX4_walkerTold_58 rfl rfl ?_
  refine v_ldcSw C sr_1057 dX4_walkerTold_59 ?_
  obtain ⟨y5, hy5, hf⟩ := bnd hf
  refine v_callV (r := some (.int y5.1)) (As := [.ref (sk B 8)]) (rest := []) (K := 51) C (mX4_takes hL (by decide) hy5) cw_X4_takes wd_1049 (by decide) rfl rfl ⟨Nat.le_of_ble_eq_true rfl, Nat.le_of_ble_eq_true rfl⟩ rfl rfl (Nat.le_of_ble_eq_true rfl) dX4_walkerTold_62 ?_
  refine v_if_eq (tgt := 75) C dX4_walkerTold_65 (by decide) hf (fun hf => ?_) (fun hf => ?_)
  · exact tX4_walkerTold_75 C hL hQ hf
  · refine v_aload_n C 0 dX4_walkerTold_68 rfl rfl ?_
    refine v_iload_n C 1 dX4_walkerTold_69 rfl rfl ?_
    refine v_iconst (v := 2) C dX4_walkerTold_70 (by decide) ?_
    refine v_iconst (v := 0) C dX4_walkerTold_71 (by decide) ?_
    obtain ⟨y12, hy12, hf⟩ := bnd hf
    refine v_callV (r := none) (As := [.int v2, .int 2, .int 0]) (rest := []) (K := 51) C (mX4_sets hL hy12) cw_X4_sets wd_780 (by decide) rfl rfl ⟨Nat.le_of_ble_eq_true rfl, Nat.le_of_ble_eq_true rfl⟩ rfl rfl (Nat.le_of_ble_eq_true rfl) dX4_walkerTold_72 ?_
    exact tX4_walkerTold_75 C hL hQ hf
def fX4_walkerTold_17 (N : Nat) (x : St2) (v1 : Int32) (s0 : Int32) : Option St2 := (fX4_must N x s0).bind fun y2 => if (y2 0 10) = 0 then ((fX4_adds y2 v1 0).bind fun y3 => (fX4_takes N 7 y3.2).bind fun y4 => if y4.1 = 0 then (fX4_walkerTold_58 N y4.2 y3.1) else ((fX4_numberRead N y4.2 0 23).bind fun y13 => (fX4_sets y13.2 y3.1 1 y13.1).bind fun y14 => fX4_walkerTold_58 N y14 y3.1)) else (some y2)
set_option maxHeartbeats 4000000 in
set_option maxRecDepth 100000 in
theorem tX4_walkerTold_17 {E : EE} {B : BB} {l : Launch} {L : St2 → St2} {N : Nat} {x : St2} {v1 : Int32} {s0 : Int32} {res : St2} (C : Cx E B l cX4_walkerTold RX4 none 3 6 130) (hL : Ln 51 10 L) (hQ : Fin9 E B none (L res)) (hf : fX4_walkerTold_17 N x v1 s0 = some res) : V E B (L x) 17 [(0, .ref (ad B 51)), (1, .int v1)] [.int s0, .ref (ad B 51)] := by
  unfold fX4_walkerTold_17 at hf
  obtain ⟨y2, hy2, hf⟩ := bnd hf
  refine v_callV (r := none) (As := [.int s0]) (rest := []) (K := 51) C (mX4_must hL hy2) cw_X4_must wd_1044 (by decide) rfl rfl ⟨Nat.le_of_ble_eq_true rfl, Nat.le_of_ble_eq_true rfl⟩ rfl rfl (Nat.le_of_ble_eq_true rfl) dX4_walkerTold_17 ?_
  refine v_aload_n C 0 dX4_walkerTold_20 rfl rfl ?_
  refine s_getI (k := 0) (i := 10) C hL (by decide) rfl rfl inX4 (by decide) rfl wd_677 dX4_walkerTold_21 ?_
  refine v_if_eq (tgt := 28) C dX4_walkerTold_24 (by decide) hf (fun hf => ?_) (fun hf => ?_)
  · refine v_aload_n C 0 dX4_walkerTold_28 rfl rfl ?_
    refine v_iload_n C 1 dX4_walkerTold_29 rfl rfl ?_
    refine v_iconst (v := 0) C dX4_walkerTold_30 (by decide) ?_
    obtain ⟨y3, hy3, hf⟩ := bnd hf
    refine v_callV (r := some (.int y3.1)) (As := [.int v1, .int 0]) (rest := []) (K := 51) C (mX4_adds hL hy3) cw_X4_adds wd_776 (by decide) rfl rfl ⟨Nat.le_of_ble_eq_true rfl, Nat.le_of_ble_eq_true rfl⟩ rfl rfl (Nat.le_of_ble_eq_true rfl) dX4_walkerTold_31 ?_
    refine v_istore_n (lv' := [(0, .ref (ad B 51)), (1, .int v1), (2, .int y3.1)]) C [1, 2, 0] dX4_walkerTold_34 rfl (by decide) rfl ?_
    refine v_aload_n C 0 dX4_walkerTold_35 rfl rfl ?_
    refine v_ldcSw C sr_1048 dX4_walkerTold_36 ?_
    obtain ⟨y4, hy4, hf⟩ := bnd hf
    refine v_callV (r := some (.int y4.1)) (As := [.ref (sk B 7)]) (rest := []) (K := 51) C (mX4_takes hL (by decide) hy4) cw_X4_takes wd_1049 (by decide) rfl rfl ⟨Nat.le_of_ble_eq_true rfl, Nat.le_of_ble_eq_true rfl⟩ rfl rfl (Nat.le_of_ble_eq_true rfl) dX4_walkerTold_39 ?_
    refine v_if_eq (tgt := 58) C dX4_walkerTold_42 (by decide) hf (fun hf => ?_) (fun hf => ?_)
    · refine v_sub [0, 2] rfl ?_
      exact tX4_walkerTold_58 C hL hQ hf
    · refine v_aload_n C 0 dX4_walkerTold_45 rfl rfl ?_
      refine v_iload_n C 2 dX4_walkerTold_46 rfl rfl ?_
      refine v_iconst (v := 1) C dX4_walkerTold_47 (by decide) ?_
      refine v_aload_n C 0 dX4_walkerTold_48 rfl rfl ?_
      refine v_iconst (v := 0) C dX4_walkerTold_49 (by decide) ?_
      refine v_bipush (v := 23) C dX4_walkerTold_50 (by decide) ?_
      obtain ⟨y13, hy13, hf⟩ := bnd hf
      refine v_callV (r := some (.int y13.1)) (As := [.int 0, .int 23]) (rest := [.int 1, .int y3.1, .ref (ad B 51)]) (K := 51) C (mX4_numberRead hL hy13) cw_X4_numberRead wd_1053 (by decide) rfl rfl ⟨Nat.le_of_ble_eq_true rfl, Nat.le_of_ble_eq_true rfl⟩ rfl rfl (Nat.le_of_ble_eq_true rfl) dX4_walkerTold_52 ?_
      obtain ⟨y14, hy14, hf⟩ := bnd hf
      refine v_callV (r := none) (As := [.int y3.1, .int 1, .int y13.1]) (rest := []) (K := 51) C (mX4_sets hL hy14) cw_X4_sets wd_780 (by decide) rfl rfl ⟨Nat.le_of_ble_eq_true rfl, Nat.le_of_ble_eq_true rfl⟩ rfl rfl (Nat.le_of_ble_eq_true rfl) dX4_walkerTold_55 ?_
      refine v_sub [0, 2] rfl ?_
      exact tX4_walkerTold_58 C hL hQ hf
  · exact v_vret C dX4_walkerTold_27 (fin_v hf hQ)
def fX4_walkerTold (N : Nat) (x : St2) (v1 : Int32) : Option St2 := (rd (x 1) 135 2).bind fun a1 => if 8 ≤ a1 then (fX4_walkerTold_17 N x v1 0) else (fX4_walkerTold_17 N x v1 1)
set_option maxHeartbeats 4000000 in
set_option maxRecDepth 100000 in
theorem tX4_walkerTold {E : EE} {B : BB} {l : Launch} {L : St2 → St2} {N : Nat} {x : St2} {v1 : Int32} {res : St2} (C : Cx E B l cX4_walkerTold RX4 none 3 6 130) (hL : Ln 51 10 L) (hQ : Fin9 E B none (L res)) (hf : fX4_walkerTold N x v1 = some res) : V E B (L x) 0 [(0, .ref (ad B 51)), (1, .int v1)] [] := by
  unfold fX4_walkerTold at hf
  refine v_aload_n C 0 dX4_walkerTold_0 rfl rfl ?_
  refine v_aload_n C 0 dX4_walkerTold_1 rfl rfl ?_
  refine g_getR (K := 51) (i := 0) (j := 51 + 1) C (by decide) rfl rfl inX4 (by decide) rfl wd_667 dX4_walkerTold_2 ?_
  refine v_iconst (v := 2) C dX4_walkerTold_5 (by decide) ?_
  refine s_ald (k := 1) C hL (by decide) rfl dX4_walkerTold_6 hf (fun a1 hf => ?_)
  refine v_bipush (v := 8) C dX4_walkerTold_7 (by decide) ?_
  refine v_icmp_ge (tgt := 16) C dX4_walkerTold_9 (by decide) hf (fun hf => ?_) (fun hf => ?_)
  · refine v_iconst (v := 0) C dX4_walkerTold_16 (by decide) ?_
    exact tX4_walkerTold_17 C hL hQ hf
  · refine v_iconst (v := 1) C dX4_walkerTold_12 (by decide) ?_
    refine v_goto (tgt := 17) C dX4_walkerTold_13 (by decide) ?_
    exact tX4_walkerTold_17 C hL hQ hf
theorem mX4_walkerTold {B : BB} {l : Launch} {L : St2 → St2} {N : Nat} {x : St2} {v1 : Int32} {res : St2} (hL : Ln 51 10 L) (hf : fX4_walkerTold N x v1 = some res) : Ret l B yX4_walkerTold cX4_walkerTold 3 none 6 130 [.ref (ad B 51), .int v1] (L x) none (L res) := ret_of (own := RX4) (by decide) rfl (Nat.le_of_ble_eq_true rfl) (fun E C hQ => tX4_walkerTold C hL hQ hf)
def fX4_printTold_52 (N : Nat) (x : St2) (v1 : Int32) (v2 : Int32) (v3 : Int32) (s0 : Int32) : Option St2 := if (x 0 10) = 0 then (if s0 = 0 then ((fX4_prints x v1 v2 v3 1).bind fun y5 => some y5) else ((fX4_prints x v1 v2 v3 0).bind fun y6 => some y6)) else (some x)
set_option maxHeartbeats 4000000 in
set_option maxRecDepth 100000 in
theorem tX4_printTold_52 {E : EE} {B : BB} {l : Launch} {L : St2 → St2} {N : Nat} {x : St2} {v1 : Int32} {v2 : Int32} {v3 : Int32} {s0 : Int32} {res : St2} (C : Cx E B l cX4_printTold RX4 none 5 6 130) (hL : Ln 51 10 L) (hQ : Fin9 E B none (L res)) (hf : fX4_printTold_52 N x v1 v2 v3 s0 = some res) : V E B (L x) 52 [(0, .ref (ad B 51)), (1, .int v1), (2, .int v2), (3, .int v3)] [.int s0] := by
  unfold fX4_printTold_52 at hf
  refine v_istore (lv' := [(0, .ref (ad B 51)), (1, .int v1), (2, .int v2), (3, .int v3), (4, .int s0)]) C [1, 2, 3, 4, 0] dX4_printTold_52 (by decide) rfl ?_
  refine v_aload_n C 0 dX4_printTold_54 rfl rfl ?_
  refine s_getI (k := 0) (i := 10) C hL (by decide) rfl rfl inX4 (by decide) rfl wd_677 dX4_printTold_55 ?_
  refine v_if_ne (tgt := 78) C dX4_printTold_58 (by decide) hf (fun hf => ?_) (fun hf => ?_)
  · exact v_vret C dX4_printTold_78 (fin_v hf hQ)
  · refine v_aload_n C 0 dX4_printTold_61 rfl rfl ?_
    refine v_iload_n C 1 dX4_printTold_62 rfl rfl ?_
    refine v_iload_n C 2 dX4_printTold_63 rfl rfl ?_
    refine v_iload_n C 3 dX4_printTold_64 rfl rfl ?_
    refine v_iload C 4 dX4_printTold_65 rfl ?_
    refine v_if_eq (tgt := 74) C dX4_printTold_67 (by decide) hf (fun hf => ?_) (fun hf => ?_)
    · refine v_iconst (v := 1) C dX4_printTold_74 (by decide) ?_
      obtain ⟨y5, hy5, hf⟩ := bnd hf
      refine v_callV (r := none) (As := [.int v1, .int v2, .int v3, .int 1]) (rest := []) (K := 51) C (mX4_prints hL hy5) cw_X4_prints wd_747 (by decide) rfl rfl ⟨Nat.le_of_ble_eq_true rfl, Nat.le_of_ble_eq_true rfl⟩ rfl rfl (Nat.le_of_ble_eq_true rfl) dX4_printTold_75 ?_
      exact v_vret C dX4_printTold_78 (fin_v hf hQ)
    · refine v_iconst (v := 0) C dX4_printTold_70 (by decide) ?_
      refine v_goto (tgt := 75) C dX4_printTold_71 (by decide) ?_
      obtain ⟨y6, hy6, hf⟩ := bnd hf
      refine v_callV (r := none) (As := [.int v1, .int v2, .int v3, .int 0]) (rest := []) (K := 51) C (mX4_prints hL hy6) cw_X4_prints wd_747 (by decide) rfl rfl ⟨Nat.le_of_ble_eq_true rfl, Nat.le_of_ble_eq_true rfl⟩ rfl rfl (Nat.le_of_ble_eq_true rfl) dX4_printTold_75 ?_
      exact v_vret C dX4_printTold_78 (fin_v hf hQ)
def fX4_printTold_51 (N : Nat) (x : St2) (v1 : Int32) (v2 : Int32) (v3 : Int32) : Option St2 := fX4_printTold_52 N x v1 v2 v3 0
set_option maxHeartbeats 4000000 in
set_option maxRecDepth 100000 in
theorem tX4_printTold_51 {E : EE} {B : BB} {l : Launch} {L : St2 → St2} {N : Nat} {x : St2} {v1 : Int32} {v2 : Int32} {v3 : Int32} {res : St2} (C : Cx E B l cX4_printTold RX4 none 5 6 130) (hL : Ln 51 10 L) (hQ : Fin9 E B none (L res)) (hf : fX4_printTold_51 N x v1 v2 v3 = some res) : V E B (L x) 51 [(0, .ref (ad B 51)), (1, .int v1), (2, .int v2), (3, .int v3)] [] := by
  unfold fX4_printTold_51 at hf
  refine v_iconst (v := 0) C dX4_printTold_51 (by decide) ?_
  exact tX4_printTold_52 C hL hQ hf
def fX4_printTold (N : Nat) (x : St2) : Option St2 := (fX4_numberRead N x 0 23).bind fun y1 => (rd (y1.2 1) 135 2).bind fun a2 => (fX4_numberRead N y1.2 0 (a2 - 1)).bind fun y3 => (fX4_numberRead N y3.2 0 9).bind fun y4 => if (y4.2 0 10) = 0 then ((fX4_takes N 8 y4.2).bind fun y7 => if y7.1 = 0 then (fX4_printTold_51 N y7.2 y1.1 y3.1 y4.1) else (fX4_printTold_52 N y7.2 y1.1 y3.1 y4.1 1)) else (fX4_printTold_51 N y4.2 y1.1 y3.1 y4.1)
set_option maxHeartbeats 4000000 in
set_option maxRecDepth 100000 in
theorem tX4_printTold {E : EE} {B : BB} {l : Launch} {L : St2 → St2} {N : Nat} {x : St2} {res : St2} (C : Cx E B l cX4_printTold RX4 none 5 6 130) (hL : Ln 51 10 L) (hQ : Fin9 E B none (L res)) (hf : fX4_printTold N x = some res) : V E B (L x) 0 [(0, .ref (ad B 51))] [] := by
  unfold fX4_printTold at hf
  refine v_aload_n C 0 dX4_printTold_0 rfl rfl ?_
  refine v_iconst (v := 0) C dX4_printTold_1 (by decide) ?_
  refine v_bipush (v := 23) C dX4_printTold_2 (by decide) ?_
  obtain ⟨y1, hy1, hf⟩ := bnd hf
  refine v_callV (r := some (.int y1.1)) (As := [.int 0, .int 23]) (rest := []) (K := 51) C (mX4_numberRead hL hy1) cw_X4_numberRead wd_1053 (by decide) rfl rfl ⟨Nat.le_of_ble_eq_true rfl, Nat.le_of_ble_eq_true rfl⟩ rfl rfl (Nat.le_of_ble_eq_true rfl) dX4_printTold_4 ?_
  refine v_istore_n (lv' := [(0, .ref (ad B 51)), (1, .int y1.1)]) C [1, 0] dX4_printTold_7 rfl (by decide) rfl ?_
  refine v_aload_n C 0 dX4_printTold_8 rfl rfl ?_
  refine v_iconst (v := 0) C dX4_printTold_9 (by decide) ?_
  refine v_aload_n C 0 dX4_printTold_10 rfl rfl ?_
  refine g_getR (K := 51) (i := 0) (j := 51 + 1) C (by decide) rfl rfl inX4 (by decide) rfl wd_667 dX4_printTold_11 ?_
  refine v_iconst (v := 2) C dX4_printTold_14 (by decide) ?_
  refine s_ald (k := 1) C hL (by decide) rfl dX4_printTold_15 hf (fun a2 hf => ?_)
  refine v_iconst (v := 1) C dX4_printTold_16 (by decide) ?_
  refine v_isub C dX4_printTold_17 ?_
  obtain ⟨y3, hy3, hf⟩ := bnd hf
  refine v_callV (r := some (.int y3.1)) (As := [.int 0, .int (a2 - 1)]) (rest := []) (K := 51) C (mX4_numberRead hL hy3) cw_X4_numberRead wd_1053 (by decide) rfl rfl ⟨Nat.le_of_ble_eq_true rfl, Nat.le_of_ble_eq_true rfl⟩ rfl rfl (Nat.le_of_ble_eq_true rfl) dX4_printTold_18 ?_
  refine v_istore_n (lv' := [(0, .ref (ad B 51)), (1, .int y1.1), (2, .int y3.1)]) C [1, 2, 0] dX4_printTold_21 rfl (by decide) rfl ?_
  refine v_aload_n C 0 dX4_printTold_22 rfl rfl ?_
  refine v_iconst (v := 0) C dX4_printTold_23 (by decide) ?_
  refine v_bipush (v := 9) C dX4_printTold_24 (by decide) ?_
  obtain ⟨y4, hy4, hf⟩ := bnd hf
  refine v_callV (r := some (.int y4.1)) (As := [.int 0, .int 9]) (rest := []) (K := 51) C (mX4_numberRead hL hy4) cw_X4_numberRead wd_1053 (by decide) rfl rfl ⟨Nat.le_of_ble_eq_true rfl, Nat.le_of_ble_eq_true rfl⟩ rfl rfl (Nat.le_of_ble_eq_true rfl) dX4_printTold_26 ?_
  refine v_istore_n (lv' := [(0, .ref (ad B 51)), (1, .int y1.1), (2, .int y3.1), (3, .int y4.1)]) C [1, 2, 3, 0] dX4_printTold_29 rfl (by decide) rfl ?_
  refine v_aload_n C 0 dX4_printTold_30 rfl rfl ?_
  refine s_getI (k := 0) (i := 10) C hL (by decide) rfl rfl inX4 (by decide) rfl wd_677 dX4_printTold_31 ?_
  refine v_if_ne (tgt := 51) C dX4_printTold_34 (by decide) hf (fun hf => ?_) (fun hf => ?_)
  · exact tX4_printTold_51 C hL hQ hf
  · refine v_aload_n C 0 dX4_printTold_37 rfl rfl ?_
    refine v_ldcSw C sr_1057 dX4_printTold_38 ?_
    obtain ⟨y7, hy7, hf⟩ := bnd hf
    refine v_callV (r := some (.int y7.1)) (As := [.ref (sk B 8)]) (rest := []) (K := 51) C (mX4_takes hL (by decide) hy7) cw_X4_takes wd_1049 (by decide) rfl rfl ⟨Nat.le_of_ble_eq_true rfl, Nat.le_of_ble_eq_true rfl⟩ rfl rfl (Nat.le_of_ble_eq_true rfl) dX4_printTold_41 ?_
    refine v_if_eq (tgt := 51) C dX4_printTold_44 (by decide) hf (fun hf => ?_) (fun hf => ?_)
    · exact tX4_printTold_51 C hL hQ hf
    · refine v_iconst (v := 1) C dX4_printTold_47 (by decide) ?_
      refine v_goto (tgt := 52) C dX4_printTold_48 (by decide) ?_
      exact tX4_printTold_52 C hL hQ hf
theorem mX4_printTold {B : BB} {l : Launch} {L : St2 → St2} {N : Nat} {x : St2} {res : St2} (hL : Ln 51 10 L) (hf : fX4_printTold N x = some res) : Ret l B yX4_printTold cX4_printTold 5 none 6 130 [.ref (ad B 51)] (L x) none (L res) := ret_of (own := RX4) (by decide) rfl (Nat.le_of_ble_eq_true rfl) (fun E C hQ => tX4_printTold C hL hQ hf)
def fX4_item (N : Nat) (x : St2) : Option St2 := (fX4_kindHere N x).bind fun y1 => if y1 < 0 then ((fX4_takes N 11 x).bind fun y2 => if y2.1 = 0 then ((fX4_isWord N 12 y2.2).bind fun y3 => (fX4_must N y2.2 y3).bind fun y4 => (fX4_printTold N y4).bind fun y5 => some y5) else ((fX4_numberRead N y2.2 0 24).bind fun y6 => if (y6.2 0 10) = 0 then ((wr y6.2 1 135 3 y6.1).bind fun x7 => some x7) else (some y6.2))) else ((fX4_walkerTold N x y1).bind fun y8 => some y8)
set_option maxHeartbeats 4000000 in
set_option maxRecDepth 100000 in
theorem tX4_item {E : EE} {B : BB} {l : Launch} {L : St2 → St2} {N : Nat} {x : St2} {res : St2} (C : Cx E B l cX4_item RX4 none 3 7 154) (hL : Ln 51 10 L) (hQ : Fin9 E B none (L res)) (hf : fX4_item N x = some res) : V E B (L x) 0 [(0, .ref (ad B 51))] [] := by
  unfold fX4_item at hf
  refine v_aload_n C 0 dX4_item_0 rfl rfl ?_
  obtain ⟨y1, hy1, hf⟩ := bnd hf
  refine v_callV (r := some (.int y1)) (As := []) (rest := []) (K := 51) C (mX4_kindHere hL hy1) cw_X4_kindHere wd_1023 (by decide) rfl rfl ⟨Nat.le_of_ble_eq_true rfl, Nat.le_of_ble_eq_true rfl⟩ rfl rfl (Nat.le_of_ble_eq_true rfl) dX4_item_1 ?_
  refine v_istore_n (lv' := [(0, .ref (ad B 51)), (1, .int y1)]) C [1, 0] dX4_item_4 rfl (by decide) rfl ?_
  refine v_iload_n C 1 dX4_item_5 rfl rfl ?_
  refine v_if_lt (tgt := 17) C dX4_item_6 (by decide) hf (fun hf => ?_) (fun hf => ?_)
  · refine v_aload_n C 0 dX4_item_17 rfl rfl ?_
    refine v_ldcSw C sr_1060 dX4_item_18 ?_
    obtain ⟨y2, hy2, hf⟩ := bnd hf
    refine v_callV (r := some (.int y2.1)) (As := [.ref (sk B 11)]) (rest := []) (K := 51) C (mX4_takes hL (by decide) hy2) cw_X4_takes wd_1049 (by decide) rfl rfl ⟨Nat.le_of_ble_eq_true rfl, Nat.le_of_ble_eq_true rfl⟩ rfl rfl (Nat.le_of_ble_eq_true rfl) dX4_item_21 ?_
    refine v_if_eq (tgt := 52) C dX4_item_24 (by decide) hf (fun hf => ?_) (fun hf => ?_)
    · refine v_aload_n C 0 dX4_item_52 rfl rfl ?_
      refine v_aload_n C 0 dX4_item_53 rfl rfl ?_
      refine v_ldcSw C sr_1061 dX4_item_54 ?_
      obtain ⟨y3, hy3, hf⟩ := bnd hf
      refine v_callV (r := some (.int y3)) (As := [.ref (sk B 12)]) (rest := [.ref (ad B 51)]) (K := 51) C (mX4_isWord hL (by decide) hy3) cw_X4_isWord wd_1028 (by decide) rfl rfl ⟨Nat.le_of_ble_eq_true rfl, Nat.le_of_ble_eq_true rfl⟩ rfl rfl (Nat.le_of_ble_eq_true rfl) dX4_item_57 ?_
      obtain ⟨y4, hy4, hf⟩ := bnd hf
      refine v_callV (r := none) (As := [.int y3]) (rest := []) (K := 51) C (mX4_must hL hy4) cw_X4_must wd_1044 (by decide) rfl rfl ⟨Nat.le_of_ble_eq_true rfl, Nat.le_of_ble_eq_true rfl⟩ rfl rfl (Nat.le_of_ble_eq_true rfl) dX4_item_60 ?_
      refine v_aload_n C 0 dX4_item_63 rfl rfl ?_
      obtain ⟨y5, hy5, hf⟩ := bnd hf
      refine v_callV (r := none) (As := []) (rest := []) (K := 51) C (mX4_printTold hL hy5) cw_X4_printTold wd_1062 (by decide) rfl rfl ⟨Nat.le_of_ble_eq_true rfl, Nat.le_of_ble_eq_true rfl⟩ rfl rfl (Nat.le_of_ble_eq_true rfl) dX4_item_64 ?_
      exact v_vret C dX4_item_67 (fin_v hf hQ)
    · refine v_aload_n C 0 dX4_item_27 rfl rfl ?_
      refine v_iconst (v := 0) C dX4_item_28 (by decide) ?_
      refine v_bipush (v := 24) C dX4_item_29 (by decide) ?_
      obtain ⟨y6, hy6, hf⟩ := bnd hf
      refine v_callV (r := some (.int y6.1)) (As := [.int 0, .int 24]) (rest := []) (K := 51) C (mX4_numberRead hL hy6) cw_X4_numberRead wd_1053 (by decide) rfl rfl ⟨Nat.le_of_ble_eq_true rfl, Nat.le_of_ble_eq_true rfl⟩ rfl rfl (Nat.le_of_ble_eq_true rfl) dX4_item_31 ?_
      refine v_istore_n (lv' := [(0, .ref (ad B 51)), (1, .int y1), (2, .int y6.1)]) C [1, 2, 0] dX4_item_34 rfl (by decide) rfl ?_
      refine v_aload_n C 0 dX4_item_35 rfl rfl ?_
      refine s_getI (k := 0) (i := 10) C hL (by decide) rfl rfl inX4 (by decide) rfl wd_677 dX4_item_36 ?_
      refine v_if_ne (tgt := 49) C dX4_item_39 (by decide) hf (fun hf => ?_) (fun hf => ?_)
      · refine v_goto (tgt := 67) C dX4_item_49 (by decide) ?_
        exact v_vret C dX4_item_67 (fin_v hf hQ)
      · refine v_aload_n C 0 dX4_item_42 rfl rfl ?_
        refine g_getR (K := 51) (i := 0) (j := 51 + 1) C (by decide) rfl rfl inX4 (by decide) rfl wd_667 dX4_item_43 ?_
        refine v_iconst (v := 3) C dX4_item_46 (by decide) ?_
        refine v_iload_n C 2 dX4_item_47 rfl rfl ?_
        refine s_ast (k := 1) C hL (by decide) rfl dX4_item_48 hf (fun x7 hf => ?_)
        refine v_goto (tgt := 67) C dX4_item_49 (by decide) ?_
        exact v_vret C dX4_item_67 (fin_v hf hQ)
  · refine v_aload_n C 0 dX4_item_9 rfl rfl ?_
    refine v_iload_n C 1 dX4_item_10 rfl rfl ?_
    obtain ⟨y8, hy8, hf⟩ := bnd hf
    refine v_callV (r := none) (As := [.int y1]) (rest := []) (K := 51) C (mX4_walkerTold hL hy8) cw_X4_walkerTold wd_1040 (by decide) rfl rfl ⟨Nat.le_of_ble_eq_true rfl, Nat.le_of_ble_eq_true rfl⟩ rfl rfl (Nat.le_of_ble_eq_true rfl) dX4_item_11 ?_
    refine v_goto (tgt := 67) C dX4_item_14 (by decide) ?_
    exact v_vret C dX4_item_67 (fin_v hf hQ)
theorem mX4_item {B : BB} {l : Launch} {L : St2 → St2} {N : Nat} {x : St2} {res : St2} (hL : Ln 51 10 L) (hf : fX4_item N x = some res) : Ret l B yX4_item cX4_item 3 none 7 154 [.ref (ad B 51)] (L x) none (L res) := ret_of (own := RX4) (by decide) rfl (Nat.le_of_ble_eq_true rfl) (fun E C hQ => tX4_item C hL hQ hf)
def fX4_text_63 (N : Nat) (x : St2) (v1 : Int32) : Option (Int32 × St2) := (pf x 0 7 0).bind fun x6 => if (x6 0 10) = 0 then (some (v1, x6)) else ((fX4_laysBack N x6).bind fun y7 => some (((-1) - (y7 0 8)), y7))
set_option maxHeartbeats 4000000 in
set_option maxRecDepth 100000 in
theorem tX4_text_63 {E : EE} {B : BB} {l : Launch} {L : St2 → St2} {N : Nat} {x : St2} {v1 : Int32} {res : (Int32 × St2)} (C : Cx E B l cX4_text RX4 (some .int) 2 8 176) (hL : Ln 51 10 L) (hQ : Fin9 E B (some (.int res.1)) (L res.2)) (hf : fX4_text_63 N x v1 = some res) : V E B (L x) 63 [(0, .ref (ad B 51)), (1, .int v1)] [] := by
  unfold fX4_text_63 at hf
  refine v_aload_n C 0 dX4_text_63 rfl rfl ?_
  refine v_iconst (v := 0) C dX4_text_64 (by decide) ?_
  refine s_putI (k := 0) (i := 7) C hL (by decide) rfl rfl inX4 tyX4 tyX4_ok nmX4 (by decide) rfl wd_674 rfl (by decide +kernel) dX4_text_65 hf (fun x6 hf => ?_)
  refine v_aload_n C 0 dX4_text_68 rfl rfl ?_
  refine s_getI (k := 0) (i := 10) C hL (by decide) rfl rfl inX4 (by decide) rfl wd_677 dX4_text_69 ?_
  refine v_if_eq (tgt := 86) C dX4_text_72 (by decide) hf (fun hf => ?_) (fun hf => ?_)
  · refine v_iload_n C 1 dX4_text_86 rfl rfl ?_
    exact v_iret C dX4_text_87 (fin_im hf hQ)
  · refine v_aload_n C 0 dX4_text_75 rfl rfl ?_
    obtain ⟨y7, hy7, hf⟩ := bnd hf
    refine v_callV (r := none) (As := []) (rest := []) (K := 51) C (mX4_laysBack hL hy7) cw_X4_laysBack wd_875 (by decide) rfl rfl ⟨Nat.le_of_ble_eq_true rfl, Nat.le_of_ble_eq_true rfl⟩ rfl rfl (Nat.le_of_ble_eq_true rfl) dX4_text_76 ?_
    refine v_iconst (v := (-1)) C dX4_text_79 (by decide) ?_
    refine v_aload_n C 0 dX4_text_80 rfl rfl ?_
    refine s_getI (k := 0) (i := 8) C hL (by decide) rfl rfl inX4 (by decide) rfl wd_675 dX4_text_81 ?_
    refine v_isub C dX4_text_84 ?_
    exact v_iret C dX4_text_85 (fin_im hf hQ)
def fX4_text_24 (N : Nat) : Nat → St2 → Int32 → Option (Int32 × St2)
  | 0, _, _ => none
  | n + 1, x, v1 => if (x 0 10) = 0 then (if (x 0 7) ≤ (x 0 8) then (fX4_text_63 N x v1) else ((fX4_isWord N 13 x).bind fun y8 => (fX4_must N x y8).bind fun y9 => (fX4_item N y9).bind fun y10 => (fX4_text_24 N n) y10 (v1 + 1))) else (fX4_text_63 N x v1)
set_option maxHeartbeats 4000000 in
set_option maxRecDepth 100000 in
theorem tX4_text_24 {E : EE} {B : BB} {l : Launch} {L : St2 → St2} {N : Nat} {res : (Int32 × St2)} (C : Cx E B l cX4_text RX4 (some .int) 2 8 176) (hL : Ln 51 10 L) (hQ : Fin9 E B (some (.int res.1)) (L res.2)) : ∀ (n : Nat) (x : St2) (v1 : Int32), fX4_text_24 N n x v1 = some res → V E B (L x) 24 [(0, .ref (ad B 51)), (1, .int v1)] [] := by
  intro n
  induction n with
  | zero =>
    intro x v1 hf
    cases hf
  | succ n ih =>
    intro x v1 hf
    rw [fX4_text_24] at hf
    refine v_aload_n C 0 dX4_text_24 rfl rfl ?_
    refine s_getI (k := 0) (i := 10) C hL (by decide) rfl rfl inX4 (by decide) rfl wd_677 dX4_text_25 ?_
    refine v_if_ne (tgt := 63) C dX4_text_28 (by decide) hf (fun hf => ?_) (fun hf => ?_)
    · exact tX4_text_63 C hL hQ hf
    · refine v_aload_n C 0 dX4_text_31 rfl rfl ?_
      refine s_getI (k := 0) (i := 8) C hL (by decide) rfl rfl inX4 (by decide) rfl wd_675 dX4_text_32 ?_
      refine v_aload_n C 0 dX4_text_35 rfl rfl ?_
      refine s_getI (k := 0) (i := 7) C hL (by decide) rfl rfl inX4 (by decide) rfl wd_674 dX4_text_36 ?_
      refine v_icmp_ge (tgt := 63) C dX4_text_39 (by decide) hf (fun hf => ?_) (fun hf => ?_)
      · exact tX4_text_63 C hL hQ hf
      · refine v_aload_n C 0 dX4_text_42 rfl rfl ?_
        refine v_aload_n C 0 dX4_text_43 rfl rfl ?_
        refine v_ldcSw C sr_1066 dX4_text_44 ?_
        obtain ⟨y8, hy8, hf⟩ := bnd hf
        refine v_callV (r := some (.int y8)) (As := [.ref (sk B 13)]) (rest := [.ref (ad B 51)]) (K := 51) C (mX4_isWord hL (by decide) hy8) cw_X4_isWord wd_1028 (by decide) rfl rfl ⟨Nat.le_of_ble_eq_true rfl, Nat.le_of_ble_eq_true rfl⟩ rfl rfl (Nat.le_of_ble_eq_true rfl) dX4_text_47 ?_
        obtain ⟨y9, hy9, hf⟩ := bnd hf
        refine v_callV (r := none) (As := [.int y8]) (rest := []) (K := 51) C (mX4_must hL hy9) cw_X4_must wd_1044 (by decide) rfl rfl ⟨Nat.le_of_ble_eq_true rfl, Nat.le_of_ble_eq_true rfl⟩ rfl rfl (Nat.le_of_ble_eq_true rfl) dX4_text_50 ?_
        refine v_aload_n C 0 dX4_text_53 rfl rfl ?_
        obtain ⟨y10, hy10, hf⟩ := bnd hf
        refine v_callV (r := none) (As := []) (rest := []) (K := 51) C (mX4_item hL hy10) cw_X4_item wd_1019 (by decide) rfl rfl ⟨Nat.le_of_ble_eq_true rfl, Nat.le_of_ble_eq_true rfl⟩ rfl rfl (Nat.le_of_ble_eq_true rfl) dX4_text_54 ?_
        refine v_iinc (q := 1) (v := v1 + 1) (lv' := [(0, .ref (ad B 51)), (1, .int (v1 + 1))]) C [1, 0] dX4_text_57 rfl rfl (by decide) rfl ?_
        refine v_goto (tgt := 24) C dX4_text_60 (by decide) ?_
        exact ih y10 (v1 + 1) hf
def fX4_text (N : Nat) (x : St2) : Option (Int32 × St2) := (fX4_lends N x).bind fun y1 => (pfz y1 0 10 0).bind fun x2 => (pf x2 0 9 0).bind fun x3 => (fX4_next N x3).bind fun y4 => (fX4_item N y4).bind fun y5 => fX4_text_24 N N y5 1
set_option maxHeartbeats 4000000 in
set_option maxRecDepth 100000 in
theorem tX4_text {E : EE} {B : BB} {l : Launch} {L : St2 → St2} {N : Nat} {x : St2} {res : (Int32 × St2)} (C : Cx E B l cX4_text RX4 (some .int) 2 8 176) (hL : Ln 51 10 L) (hQ : Fin9 E B (some (.int res.1)) (L res.2)) (hf : fX4_text N x = some res) : V E B (L x) 0 [(0, .ref (ad B 51))] [] := by
  unfold fX4_text at hf
  refine v_aload_n C 0 dX4_text_0 rfl rfl ?_
  obtain ⟨y1, hy1, hf⟩ := bnd hf
  refine v_callV (r := none) (As := []) (rest := []) (K := 51) C (mX4_lends hL hy1) cw_X4_lends wd_868 (by decide) rfl rfl ⟨Nat.le_of_ble_eq_true rfl, Nat.le_of_ble_eq_true rfl⟩ rfl rfl (Nat.le_of_ble_eq_true rfl) dX4_text_1 ?_
  refine v_aload_n C 0 dX4_text_4 rfl rfl ?_
  refine v_iconst (v := 0) C dX4_text_5 (by decide) ?_
  refine s_putZ (k := 0) (i := 10) C hL (by decide) rfl rfl inX4 tyX4 tyX4_ok nmX4 (by decide) rfl wd_677 rfl (by decide +kernel) dX4_text_6 hf (fun x2 hf => ?_)
  refine v_aload_n C 0 dX4_text_9 rfl rfl ?_
  refine v_iconst (v := 0) C dX4_text_10 (by decide) ?_
  refine s_putI (k := 0) (i := 9) C hL (by decide) rfl rfl inX4 tyX4 tyX4_ok nmX4 (by decide) rfl wd_676 rfl (by decide +kernel) dX4_text_11 hf (fun x3 hf => ?_)
  refine v_aload_n C 0 dX4_text_14 rfl rfl ?_
  obtain ⟨y4, hy4, hf⟩ := bnd hf
  refine v_callV (r := none) (As := []) (rest := []) (K := 51) C (mX4_next hL hy4) cw_X4_next wd_1011 (by decide) rfl rfl ⟨Nat.le_of_ble_eq_true rfl, Nat.le_of_ble_eq_true rfl⟩ rfl rfl (Nat.le_of_ble_eq_true rfl) dX4_text_15 ?_
  refine v_aload_n C 0 dX4_text_18 rfl rfl ?_
  obtain ⟨y5, hy5, hf⟩ := bnd hf
  refine v_callV (r := none) (As := []) (rest := []) (K := 51) C (mX4_item hL hy5) cw_X4_item wd_1019 (by decide) rfl rfl ⟨Nat.le_of_ble_eq_true rfl, Nat.le_of_ble_eq_true rfl⟩ rfl rfl (Nat.le_of_ble_eq_true rfl) dX4_text_19 ?_
  refine v_iconst (v := 1) C dX4_text_22 (by decide) ?_
  refine v_istore_n (lv' := [(0, .ref (ad B 51)), (1, .int 1)]) C [1, 0] dX4_text_23 rfl (by decide) rfl ?_
  exact tX4_text_24 C hL hQ N y5 1 hf
theorem mX4_text {B : BB} {l : Launch} {L : St2 → St2} {N : Nat} {x : St2} {res : (Int32 × St2)} (hL : Ln 51 10 L) (hf : fX4_text N x = some res) : Ret l B yX4_text cX4_text 2 (some .int) 8 176 [.ref (ad B 51)] (L x) (some (.int res.1)) (L res.2) := ret_of (own := RX4) (by decide) rfl (Nat.le_of_ble_eq_true rfl) (fun E C hQ => tX4_text C hL hQ hf)
def fX4_hold_26 (x : St2) (v1 : Int32) (v2 : Int32) : Option (Int32 × St2) := (wr x 1 135 (125 + v1) v2).bind fun x3 => some (1, x3)
set_option maxHeartbeats 4000000 in
set_option maxRecDepth 100000 in
theorem tX4_hold_26 {E : EE} {B : BB} {l : Launch} {L : St2 → St2} {x : St2} {v1 : Int32} {v2 : Int32} {res : (Int32 × St2)} (C : Cx E B l cX4_hold RX4 (some .int) 3 2 46) (hL : Ln 51 10 L) (hQ : Fin9 E B (some (.int res.1)) (L res.2)) (hf : fX4_hold_26 x v1 v2 = some res) : V E B (L x) 26 [(0, .ref (ad B 51)), (1, .int v1), (2, .int v2)] [] := by
  unfold fX4_hold_26 at hf
  refine v_aload_n C 0 dX4_hold_26 rfl rfl ?_
  refine g_getR (K := 51) (i := 0) (j := 51 + 1) C (by decide) rfl rfl inX4 (by decide) rfl wd_667 dX4_hold_27 ?_
  refine v_bipush (v := 125) C dX4_hold_30 (by decide) ?_
  refine v_iload_n C 1 dX4_hold_32 rfl rfl ?_
  refine v_iadd C dX4_hold_33 ?_
  refine v_iload_n C 2 dX4_hold_34 rfl rfl ?_
  refine s_ast (k := 1) C hL (by decide) rfl dX4_hold_35 hf (fun x3 hf => ?_)
  refine v_iconst (v := 1) C dX4_hold_36 (by decide) ?_
  exact v_iret C dX4_hold_37 (fin_im hf hQ)
def fX4_hold (x : St2) (v1 : Int32) (v2 : Int32) : Option (Int32 × St2) := (fX4_isSpot v1).bind fun y1 => if y1 = 0 then ((fX4_finds x 0).bind fun y2 => some (y2.1, y2.2)) else (if v2 = (-1) then (fX4_hold_26 x v1 v2) else ((fX4_isWalker x v2).bind fun y4 => if y4 = 0 then ((fX4_finds x 0).bind fun y5 => some (y5.1, y5.2)) else (fX4_hold_26 x v1 v2)))
set_option maxHeartbeats 4000000 in
set_option maxRecDepth 100000 in
theorem tX4_hold {E : EE} {B : BB} {l : Launch} {L : St2 → St2} {x : St2} {v1 : Int32} {v2 : Int32} {res : (Int32 × St2)} (C : Cx E B l cX4_hold RX4 (some .int) 3 2 46) (hL : Ln 51 10 L) (hQ : Fin9 E B (some (.int res.1)) (L res.2)) (hf : fX4_hold x v1 v2 = some res) : V E B (L x) 0 [(0, .ref (ad B 51)), (1, .int v1), (2, .int v2)] [] := by
  unfold fX4_hold at hf
  refine v_iload_n C 1 dX4_hold_0 rfl rfl ?_
  obtain ⟨y1, hy1, hf⟩ := bnd hf
  refine v_callS (r := some (.int y1)) (As := [.int v1]) (rest := []) C (mX4_isSpot  hy1) cw_X4_isSpot wd_1071 ⟨Nat.le_of_ble_eq_true rfl, Nat.le_of_ble_eq_true rfl⟩ rfl rfl (Nat.le_of_ble_eq_true rfl) dX4_hold_1 ?_
  refine v_if_eq (tgt := 20) C dX4_hold_4 (by decide) hf (fun hf => ?_) (fun hf => ?_)
  · refine v_aload_n C 0 dX4_hold_20 rfl rfl ?_
    refine v_iconst (v := 0) C dX4_hold_21 (by decide) ?_
    obtain ⟨y2, hy2, hf⟩ := bnd hf
    refine v_callV (r := some (.int y2.1)) (As := [.int 0]) (rest := []) (K := 51) C (mX4_finds hL hy2) cw_X4_finds wd_725 (by decide) rfl rfl ⟨Nat.le_of_ble_eq_true rfl, Nat.le_of_ble_eq_true rfl⟩ rfl rfl (Nat.le_of_ble_eq_true rfl) dX4_hold_22 ?_
    exact v_iret C dX4_hold_25 (fin_im hf hQ)
  · refine v_iload_n C 2 dX4_hold_7 rfl rfl ?_
    refine v_iconst (v := (-1)) C dX4_hold_8 (by decide) ?_
    refine v_icmp_eq (tgt := 26) C dX4_hold_9 (by decide) hf (fun hf => ?_) (fun hf => ?_)
    · exact tX4_hold_26 C hL hQ hf
    · refine v_aload_n C 0 dX4_hold_12 rfl rfl ?_
      refine v_iload_n C 2 dX4_hold_13 rfl rfl ?_
      obtain ⟨y4, hy4, hf⟩ := bnd hf
      refine v_callV (r := some (.int y4)) (As := [.int v2]) (rest := []) (K := 51) C (mX4_isWalker hL hy4) cw_X4_isWalker wd_742 (by decide) rfl rfl ⟨Nat.le_of_ble_eq_true rfl, Nat.le_of_ble_eq_true rfl⟩ rfl rfl (Nat.le_of_ble_eq_true rfl) dX4_hold_14 ?_
      refine v_if_ne (tgt := 26) C dX4_hold_17 (by decide) hf (fun hf => ?_) (fun hf => ?_)
      · exact tX4_hold_26 C hL hQ hf
      · refine v_aload_n C 0 dX4_hold_20 rfl rfl ?_
        refine v_iconst (v := 0) C dX4_hold_21 (by decide) ?_
        obtain ⟨y5, hy5, hf⟩ := bnd hf
        refine v_callV (r := some (.int y5.1)) (As := [.int 0]) (rest := []) (K := 51) C (mX4_finds hL hy5) cw_X4_finds wd_725 (by decide) rfl rfl ⟨Nat.le_of_ble_eq_true rfl, Nat.le_of_ble_eq_true rfl⟩ rfl rfl (Nat.le_of_ble_eq_true rfl) dX4_hold_22 ?_
        exact v_iret C dX4_hold_25 (fin_im hf hQ)
theorem mX4_hold {B : BB} {l : Launch} {L : St2 → St2} {x : St2} {v1 : Int32} {v2 : Int32} {res : (Int32 × St2)} (hL : Ln 51 10 L) (hf : fX4_hold x v1 v2 = some res) : Ret l B yX4_hold cX4_hold 3 (some .int) 2 46 [.ref (ad B 51), .int v1, .int v2] (L x) (some (.int res.1)) (L res.2) := ret_of (own := RX4) (by decide) rfl (Nat.le_of_ble_eq_true rfl) (fun E C hQ => tX4_hold C hL hQ hf)
def fX4_as (N : Nat) (x : St2) (v1 : Int32) (v2 : Int32) : Option (Int32 × St2) := (fX4_isSpot v1).bind fun y1 => if y1 = 0 then ((fX4_finds x 0).bind fun y2 => some (y2.1, y2.2)) else ((fX4_isKind v2).bind fun y3 => if y3 = 0 then ((fX4_finds x 0).bind fun y9 => some (y9.1, y9.2)) else ((rd (x 1) 135 (125 + v1)).bind fun a4 => if 0 ≤ a4 then ((fX4_its x a4 0).bind fun y5 => (fX4_isUnder N y5 v2).bind fun y6 => if y6 = 0 then ((fX4_finds x 2).bind fun y7 => some (y7.1, y7.2)) else (some (a4, x))) else ((fX4_finds x 5).bind fun y8 => some (y8.1, y8.2))))
set_option maxHeartbeats 4000000 in
set_option maxRecDepth 100000 in
theorem tX4_as {E : EE} {B : BB} {l : Launch} {L : St2 → St2} {N : Nat} {x : St2} {v1 : Int32} {v2 : Int32} {res : (Int32 × St2)} (C : Cx E B l cX4_as RX4 (some .int) 4 2 45) (hL : Ln 51 10 L) (hQ : Fin9 E B (some (.int res.1)) (L res.2)) (hf : fX4_as N x v1 v2 = some res) : V E B (L x) 0 [(0, .ref (ad B 51)), (1, .int v1), (2, .int v2)] [] := by
  unfold fX4_as at hf
  refine v_iload_n C 1 dX4_as_0 rfl rfl ?_
  obtain ⟨y1, hy1, hf⟩ := bnd hf
  refine v_callS (r := some (.int y1)) (As := [.int v1]) (rest := []) C (mX4_isSpot  hy1) cw_X4_isSpot wd_1071 ⟨Nat.le_of_ble_eq_true rfl, Nat.le_of_ble_eq_true rfl⟩ rfl rfl (Nat.le_of_ble_eq_true rfl) dX4_as_1 ?_
  refine v_if_eq (tgt := 14) C dX4_as_4 (by decide) hf (fun hf => ?_) (fun hf => ?_)
  · refine v_aload_n C 0 dX4_as_14 rfl rfl ?_
    refine v_iconst (v := 0) C dX4_as_15 (by decide) ?_
    obtain ⟨y2, hy2, hf⟩ := bnd hf
    refine v_callV (r := some (.int y2.1)) (As := [.int 0]) (rest := []) (K := 51) C (mX4_finds hL hy2) cw_X4_finds wd_725 (by decide) rfl rfl ⟨Nat.le_of_ble_eq_true rfl, Nat.le_of_ble_eq_true rfl⟩ rfl rfl (Nat.le_of_ble_eq_true rfl) dX4_as_16 ?_
    exact v_iret C dX4_as_19 (fin_im hf hQ)
  · refine v_iload_n C 2 dX4_as_7 rfl rfl ?_
    obtain ⟨y3, hy3, hf⟩ := bnd hf
    refine v_callS (r := some (.int y3)) (As := [.int v2]) (rest := []) C (mX4_isKind  hy3) cw_X4_isKind wd_772 ⟨Nat.le_of_ble_eq_true rfl, Nat.le_of_ble_eq_true rfl⟩ rfl rfl (Nat.le_of_ble_eq_true rfl) dX4_as_8 ?_
    refine v_if_ne (tgt := 20) C dX4_as_11 (by decide) hf (fun hf => ?_) (fun hf => ?_)
    · refine v_aload_n C 0 dX4_as_20 rfl rfl ?_
      refine g_getR (K := 51) (i := 0) (j := 51 + 1) C (by decide) rfl rfl inX4 (by decide) rfl wd_667 dX4_as_21 ?_
      refine v_bipush (v := 125) C dX4_as_24 (by decide) ?_
      refine v_iload_n C 1 dX4_as_26 rfl rfl ?_
      refine v_iadd C dX4_as_27 ?_
      refine s_ald (k := 1) C hL (by decide) rfl dX4_as_28 hf (fun a4 hf => ?_)
      refine v_istore_n (lv' := [(0, .ref (ad B 51)), (1, .int v1), (2, .int v2), (3, .int a4)]) C [1, 2, 3, 0] dX4_as_29 rfl (by decide) rfl ?_
      refine v_iload_n C 3 dX4_as_30 rfl rfl ?_
      refine v_if_ge (tgt := 40) C dX4_as_31 (by decide) hf (fun hf => ?_) (fun hf => ?_)
      · refine v_aload_n C 0 dX4_as_40 rfl rfl ?_
        refine v_iload_n C 3 dX4_as_41 rfl rfl ?_
        refine v_iconst (v := 0) C dX4_as_42 (by decide) ?_
        obtain ⟨y5, hy5, hf⟩ := bnd hf
        refine v_callV (r := some (.int y5)) (As := [.int a4, .int 0]) (rest := []) (K := 51) C (mX4_its hL hy5) cw_X4_its wd_734 (by decide) rfl rfl ⟨Nat.le_of_ble_eq_true rfl, Nat.le_of_ble_eq_true rfl⟩ rfl rfl (Nat.le_of_ble_eq_true rfl) dX4_as_43 ?_
        refine v_iload_n C 2 dX4_as_46 rfl rfl ?_
        obtain ⟨y6, hy6, hf⟩ := bnd hf
        refine v_callS (r := some (.int y6)) (As := [.int y5, .int v2]) (rest := []) C (mX4_isUnder  hy6) cw_X4_isUnder wd_1078 ⟨Nat.le_of_ble_eq_true rfl, Nat.le_of_ble_eq_true rfl⟩ rfl rfl (Nat.le_of_ble_eq_true rfl) dX4_as_47 ?_
        refine v_if_eq (tgt := 57) C dX4_as_50 (by decide) hf (fun hf => ?_) (fun hf => ?_)
        · refine v_aload_n C 0 dX4_as_57 rfl rfl ?_
          refine v_iconst (v := 2) C dX4_as_58 (by decide) ?_
          obtain ⟨y7, hy7, hf⟩ := bnd hf
          refine v_callV (r := some (.int y7.1)) (As := [.int 2]) (rest := []) (K := 51) C (mX4_finds hL hy7) cw_X4_finds wd_725 (by decide) rfl rfl ⟨Nat.le_of_ble_eq_true rfl, Nat.le_of_ble_eq_true rfl⟩ rfl rfl (Nat.le_of_ble_eq_true rfl) dX4_as_59 ?_
          exact v_iret C dX4_as_62 (fin_im hf hQ)
        · refine v_iload_n C 3 dX4_as_53 rfl rfl ?_
          refine v_goto (tgt := 62) C dX4_as_54 (by decide) ?_
          exact v_iret C dX4_as_62 (fin_im hf hQ)
      · refine v_aload_n C 0 dX4_as_34 rfl rfl ?_
        refine v_iconst (v := 5) C dX4_as_35 (by decide) ?_
        obtain ⟨y8, hy8, hf⟩ := bnd hf
        refine v_callV (r := some (.int y8.1)) (As := [.int 5]) (rest := []) (K := 51) C (mX4_finds hL hy8) cw_X4_finds wd_725 (by decide) rfl rfl ⟨Nat.le_of_ble_eq_true rfl, Nat.le_of_ble_eq_true rfl⟩ rfl rfl (Nat.le_of_ble_eq_true rfl) dX4_as_36 ?_
        exact v_iret C dX4_as_39 (fin_im hf hQ)
    · refine v_aload_n C 0 dX4_as_14 rfl rfl ?_
      refine v_iconst (v := 0) C dX4_as_15 (by decide) ?_
      obtain ⟨y9, hy9, hf⟩ := bnd hf
      refine v_callV (r := some (.int y9.1)) (As := [.int 0]) (rest := []) (K := 51) C (mX4_finds hL hy9) cw_X4_finds wd_725 (by decide) rfl rfl ⟨Nat.le_of_ble_eq_true rfl, Nat.le_of_ble_eq_true rfl⟩ rfl rfl (Nat.le_of_ble_eq_true rfl) dX4_as_16 ?_
      exact v_iret C dX4_as_19 (fin_im hf hQ)
theorem mX4_as {B : BB} {l : Launch} {L : St2 → St2} {N : Nat} {x : St2} {v1 : Int32} {v2 : Int32} {res : (Int32 × St2)} (hL : Ln 51 10 L) (hf : fX4_as N x v1 v2 = some res) : Ret l B yX4_as cX4_as 4 (some .int) 2 45 [.ref (ad B 51), .int v1, .int v2] (L x) (some (.int res.1)) (L res.2) := ret_of (own := RX4) (by decide) rfl (Nat.le_of_ble_eq_true rfl) (fun E C hQ => tX4_as C hL hQ hf)
def fX4_sheet_95 (N : Nat) (v1 : Int32) : Nat → St2 → Int32 → Option (Int32 × St2)
  | 0, _, _ => none
  | n + 1, x, v5 => if 40 ≤ v5 then ((rd (x 7) 4 v1).bind fun a5 => some (a5, x)) else ((wr x 8 160 ((40 * v1) + v5) 0).bind fun x6 => (fX4_sheet_95 N v1 n) x6 (v5 + 1))
set_option maxHeartbeats 4000000 in
set_option maxRecDepth 100000 in
theorem tX4_sheet_95 {E : EE} {B : BB} {l : Launch} {L : St2 → St2} {N : Nat} {v1 : Int32} {res : (Int32 × St2)} (C : Cx E B l cX4_sheet RX4 (some .int) 6 2 45) (hL : Ln 51 10 L) (hQ : Fin9 E B (some (.int res.1)) (L res.2)) : ∀ (n : Nat) (x : St2) (v5 : Int32), fX4_sheet_95 N v1 n x v5 = some res → V E B (L x) 95 [(0, .ref (ad B 51)), (1, .int v1), (5, .int v5)] [] := by
  intro n
  induction n with
  | zero =>
    intro x v5 hf
    cases hf
  | succ n ih =>
    intro x v5 hf
    rw [fX4_sheet_95] at hf
    refine v_iload C 2 dX4_sheet_95 rfl ?_
    refine v_bipush (v := 40) C dX4_sheet_97 (by decide) ?_
    refine v_icmp_ge (tgt := 121) C dX4_sheet_99 (by decide) hf (fun hf => ?_) (fun hf => ?_)
    · refine v_aload_n C 0 dX4_sheet_121 rfl rfl ?_
      refine g_getR (K := 51) (i := 12) (j := 51 + 7) C (by decide) rfl rfl inX4 (by decide) rfl wd_679 dX4_sheet_122 ?_
      refine v_iload_n C 1 dX4_sheet_125 rfl rfl ?_
      refine s_ald (k := 7) C hL (by decide) rfl dX4_sheet_126 hf (fun a5 hf => ?_)
      exact v_iret C dX4_sheet_127 (fin_im hf hQ)
    · refine v_aload_n C 0 dX4_sheet_102 rfl rfl ?_
      refine g_getR (K := 51) (i := 13) (j := 51 + 8) C (by decide) rfl rfl inX4 (by decide) rfl wd_680 dX4_sheet_103 ?_
      refine v_bipush (v := 40) C dX4_sheet_106 (by decide) ?_
      refine v_iload_n C 1 dX4_sheet_108 rfl rfl ?_
      refine v_imul C dX4_sheet_109 ?_
      refine v_iload C 2 dX4_sheet_110 rfl ?_
      refine v_iadd C dX4_sheet_112 ?_
      refine v_iconst (v := 0) C dX4_sheet_113 (by decide) ?_
      refine s_ast (k := 8) C hL (by decide) rfl dX4_sheet_114 hf (fun x6 hf => ?_)
      refine v_iinc (q := 2) (v := v5 + 1) (lv' := [(0, .ref (ad B 51)), (1, .int v1), (5, .int (v5 + 1))]) C [1, 2, 0] dX4_sheet_115 rfl rfl (by decide) rfl ?_
      refine v_goto (tgt := 95) C dX4_sheet_118 (by decide) ?_
      exact ih x6 (v5 + 1) hf
def fX4_sheet_91 (N : Nat) (x : St2) (v1 : Int32) (s0 : Int32) (s1 : Int32) : Option (Int32 × St2) := (wr x 7 4 s1 s0).bind fun x4 => fX4_sheet_95 N v1 N x4 0
set_option maxHeartbeats 4000000 in
set_option maxRecDepth 100000 in
theorem tX4_sheet_91 {E : EE} {B : BB} {l : Launch} {L : St2 → St2} {N : Nat} {x : St2} {v1 : Int32} {s0 : Int32} {s1 : Int32} {res : (Int32 × St2)} (C : Cx E B l cX4_sheet RX4 (some .int) 6 2 45) (hL : Ln 51 10 L) (hQ : Fin9 E B (some (.int res.1)) (L res.2)) (hf : fX4_sheet_91 N x v1 s0 s1 = some res) : V E B (L x) 91 [(0, .ref (ad B 51)), (1, .int v1)] [.int s0, .int s1, .ref (ad B (51 + 7))] := by
  unfold fX4_sheet_91 at hf
  refine s_ast (k := 7) C hL (by decide) rfl dX4_sheet_91 hf (fun x4 hf => ?_)
  refine v_iconst (v := 0) C dX4_sheet_92 (by decide) ?_
  refine v_istore (lv' := [(0, .ref (ad B 51)), (1, .int v1), (5, .int 0)]) C [1, 2, 0] dX4_sheet_93 (by decide) rfl ?_
  exact tX4_sheet_95 C hL hQ N x4 0 hf
def fX4_sheet_27 (N : Nat) (x : St2) (v1 : Int32) (v2 : Int32) (v3 : Int32) (s0 : Int32) : Option (Int32 × St2) := (fX4_isSheet v1).bind fun y1 => if y1 = 0 then ((fX4_finds x 0).bind fun y2 => some (y2.1, y2.2)) else (if s0 = 0 then ((fX4_finds x 0).bind fun y10 => some (y10.1, y10.2)) else (if 0 ≤ v3 then (if v3 ≤ 40 then ((wr x 6 4 v1 v2).bind fun x3 => if v2 = 0 then (fX4_sheet_91 N x3 v1 0 v1) else (fX4_sheet_91 N x3 v1 v3 v1)) else ((fX4_finds x 0).bind fun y8 => some (y8.1, y8.2))) else ((fX4_finds x 6).bind fun y9 => some (y9.1, y9.2))))
set_option maxHeartbeats 4000000 in
set_option maxRecDepth 100000 in
theorem tX4_sheet_27 {E : EE} {B : BB} {l : Launch} {L : St2 → St2} {N : Nat} {x : St2} {v1 : Int32} {v2 : Int32} {v3 : Int32} {s0 : Int32} {res : (Int32 × St2)} (C : Cx E B l cX4_sheet RX4 (some .int) 6 2 45) (hL : Ln 51 10 L) (hQ : Fin9 E B (some (.int res.1)) (L res.2)) (hf : fX4_sheet_27 N x v1 v2 v3 s0 = some res) : V E B (L x) 27 [(0, .ref (ad B 51)), (1, .int v1), (2, .int v2), (3, .int v3)] [.int s0] := by
  unfold fX4_sheet_27 at hf
  refine v_istore (lv' := [(0, .ref (ad B 51)), (1, .int v1), (2, .int v2), (3, .int v3), (4, .int s0)]) C [1, 2, 3, 4, 0] dX4_sheet_27 (by decide) rfl ?_
  refine v_iload_n C 1 dX4_sheet_29 rfl rfl ?_
  obtain ⟨y1, hy1, hf⟩ := bnd hf
  refine v_callS (r := some (.int y1)) (As := [.int v1]) (rest := []) C (mX4_isSheet  hy1) cw_X4_isSheet wd_960 ⟨Nat.le_of_ble_eq_true rfl, Nat.le_of_ble_eq_true rfl⟩ rfl rfl (Nat.le_of_ble_eq_true rfl) dX4_sheet_30 ?_
  refine v_if_eq (tgt := 41) C dX4_sheet_33 (by decide) hf (fun hf => ?_) (fun hf => ?_)
  · refine v_aload_n C 0 dX4_sheet_41 rfl rfl ?_
    refine v_iconst (v := 0) C dX4_sheet_42 (by decide) ?_
    obtain ⟨y2, hy2, hf⟩ := bnd hf
    refine v_callV (r := some (.int y2.1)) (As := [.int 0]) (rest := []) (K := 51) C (mX4_finds hL hy2) cw_X4_finds wd_725 (by decide) rfl rfl ⟨Nat.le_of_ble_eq_true rfl, Nat.le_of_ble_eq_true rfl⟩ rfl rfl (Nat.le_of_ble_eq_true rfl) dX4_sheet_43 ?_
    exact v_iret C dX4_sheet_46 (fin_im hf hQ)
  · refine v_iload C 4 dX4_sheet_36 rfl ?_
    refine v_if_ne (tgt := 47) C dX4_sheet_38 (by decide) hf (fun hf => ?_) (fun hf => ?_)
    · refine v_iload_n C 3 dX4_sheet_47 rfl rfl ?_
      refine v_if_ge (tgt := 58) C dX4_sheet_48 (by decide) hf (fun hf => ?_) (fun hf => ?_)
      · refine v_iload_n C 3 dX4_sheet_58 rfl rfl ?_
        refine v_bipush (v := 40) C dX4_sheet_59 (by decide) ?_
        refine v_icmp_le (tgt := 70) C dX4_sheet_61 (by decide) hf (fun hf => ?_) (fun hf => ?_)
        · refine v_aload_n C 0 dX4_sheet_70 rfl rfl ?_
          refine g_getR (K := 51) (i := 11) (j := 51 + 6) C (by decide) rfl rfl inX4 (by decide) rfl wd_678 dX4_sheet_71 ?_
          refine v_iload_n C 1 dX4_sheet_74 rfl rfl ?_
          refine v_iload_n C 2 dX4_sheet_75 rfl rfl ?_
          refine s_ast (k := 6) C hL (by decide) rfl dX4_sheet_76 hf (fun x3 hf => ?_)
          refine v_aload_n C 0 dX4_sheet_77 rfl rfl ?_
          refine g_getR (K := 51) (i := 12) (j := 51 + 7) C (by decide) rfl rfl inX4 (by decide) rfl wd_679 dX4_sheet_78 ?_
          refine v_iload_n C 1 dX4_sheet_81 rfl rfl ?_
          refine v_iload_n C 2 dX4_sheet_82 rfl rfl ?_
          refine v_if_ne (tgt := 90) C dX4_sheet_83 (by decide) hf (fun hf => ?_) (fun hf => ?_)
          · refine v_iload_n C 3 dX4_sheet_90 rfl rfl ?_
            refine v_sub [0, 1] rfl ?_
            exact tX4_sheet_91 C hL hQ hf
          · refine v_iconst (v := 0) C dX4_sheet_86 (by decide) ?_
            refine v_goto (tgt := 91) C dX4_sheet_87 (by decide) ?_
            refine v_sub [0, 1] rfl ?_
            exact tX4_sheet_91 C hL hQ hf
        · refine v_aload_n C 0 dX4_sheet_64 rfl rfl ?_
          refine v_iconst (v := 0) C dX4_sheet_65 (by decide) ?_
          obtain ⟨y8, hy8, hf⟩ := bnd hf
          refine v_callV (r := some (.int y8.1)) (As := [.int 0]) (rest := []) (K := 51) C (mX4_finds hL hy8) cw_X4_finds wd_725 (by decide) rfl rfl ⟨Nat.le_of_ble_eq_true rfl, Nat.le_of_ble_eq_true rfl⟩ rfl rfl (Nat.le_of_ble_eq_true rfl) dX4_sheet_66 ?_
          exact v_iret C dX4_sheet_69 (fin_im hf hQ)
      · refine v_aload_n C 0 dX4_sheet_51 rfl rfl ?_
        refine v_bipush (v := 6) C dX4_sheet_52 (by decide) ?_
        obtain ⟨y9, hy9, hf⟩ := bnd hf
        refine v_callV (r := some (.int y9.1)) (As := [.int 6]) (rest := []) (K := 51) C (mX4_finds hL hy9) cw_X4_finds wd_725 (by decide) rfl rfl ⟨Nat.le_of_ble_eq_true rfl, Nat.le_of_ble_eq_true rfl⟩ rfl rfl (Nat.le_of_ble_eq_true rfl) dX4_sheet_54 ?_
        exact v_iret C dX4_sheet_57 (fin_im hf hQ)
    · refine v_aload_n C 0 dX4_sheet_41 rfl rfl ?_
      refine v_iconst (v := 0) C dX4_sheet_42 (by decide) ?_
      obtain ⟨y10, hy10, hf⟩ := bnd hf
      refine v_callV (r := some (.int y10.1)) (As := [.int 0]) (rest := []) (K := 51) C (mX4_finds hL hy10) cw_X4_finds wd_725 (by decide) rfl rfl ⟨Nat.le_of_ble_eq_true rfl, Nat.le_of_ble_eq_true rfl⟩ rfl rfl (Nat.le_of_ble_eq_true rfl) dX4_sheet_43 ?_
      exact v_iret C dX4_sheet_46 (fin_im hf hQ)
def fX4_sheet_22 (N : Nat) (x : St2) (v1 : Int32) (v2 : Int32) (v3 : Int32) : Option (Int32 × St2) := fX4_sheet_27 N x v1 v2 v3 1
set_option maxHeartbeats 4000000 in
set_option maxRecDepth 100000 in
theorem tX4_sheet_22 {E : EE} {B : BB} {l : Launch} {L : St2 → St2} {N : Nat} {x : St2} {v1 : Int32} {v2 : Int32} {v3 : Int32} {res : (Int32 × St2)} (C : Cx E B l cX4_sheet RX4 (some .int) 6 2 45) (hL : Ln 51 10 L) (hQ : Fin9 E B (some (.int res.1)) (L res.2)) (hf : fX4_sheet_22 N x v1 v2 v3 = some res) : V E B (L x) 22 [(0, .ref (ad B 51)), (1, .int v1), (2, .int v2), (3, .int v3)] [] := by
  unfold fX4_sheet_22 at hf
  refine v_iconst (v := 1) C dX4_sheet_22 (by decide) ?_
  refine v_goto (tgt := 27) C dX4_sheet_23 (by decide) ?_
  exact tX4_sheet_27 C hL hQ hf
def fX4_sheet (N : Nat) (x : St2) (v1 : Int32) (v2 : Int32) (v3 : Int32) : Option (Int32 × St2) := if v2 = 0 then (fX4_sheet_22 N x v1 v2 v3) else (if v2 = 8 then (fX4_sheet_22 N x v1 v2 v3) else (if v2 = 16 then (fX4_sheet_22 N x v1 v2 v3) else (if v2 = 32 then (fX4_sheet_22 N x v1 v2 v3) else (fX4_sheet_27 N x v1 v2 v3 0))))
set_option maxHeartbeats 4000000 in
set_option maxRecDepth 100000 in
theorem tX4_sheet {E : EE} {B : BB} {l : Launch} {L : St2 → St2} {N : Nat} {x : St2} {v1 : Int32} {v2 : Int32} {v3 : Int32} {res : (Int32 × St2)} (C : Cx E B l cX4_sheet RX4 (some .int) 6 2 45) (hL : Ln 51 10 L) (hQ : Fin9 E B (some (.int res.1)) (L res.2)) (hf : fX4_sheet N x v1 v2 v3 = some res) : V E B (L x) 0 [(0, .ref (ad B 51)), (1, .int v1), (2, .int v2), (3, .int v3)] [] := by
  unfold fX4_sheet at hf
  refine v_iload_n C 2 dX4_sheet_0 rfl rfl ?_
  refine v_if_eq (tgt := 22) C dX4_sheet_1 (by decide) hf (fun hf => ?_) (fun hf => ?_)
  · exact tX4_sheet_22 C hL hQ hf
  · refine v_iload_n C 2 dX4_sheet_4 rfl rfl ?_
    refine v_bipush (v := 8) C dX4_sheet_5 (by decide) ?_
    refine v_icmp_eq (tgt := 22) C dX4_sheet_7 (by decide) hf (fun hf => ?_) (fun hf => ?_)
    · exact tX4_sheet_22 C hL hQ hf
    · refine v_iload_n C 2 dX4_sheet_10 rfl rfl ?_
      refine v_bipush (v := 16) C dX4_sheet_11 (by decide) ?_
      refine v_icmp_eq (tgt := 22) C dX4_sheet_13 (by decide) hf (fun hf => ?_) (fun hf => ?_)
      · exact tX4_sheet_22 C hL hQ hf
      · refine v_iload_n C 2 dX4_sheet_16 rfl rfl ?_
        refine v_bipush (v := 32) C dX4_sheet_17 (by decide) ?_
        refine v_icmp_ne (tgt := 26) C dX4_sheet_19 (by decide) hf (fun hf => ?_) (fun hf => ?_)
        · refine v_iconst (v := 0) C dX4_sheet_26 (by decide) ?_
          exact tX4_sheet_27 C hL hQ hf
        · exact tX4_sheet_22 C hL hQ hf
theorem mX4_sheet {B : BB} {l : Launch} {L : St2 → St2} {N : Nat} {x : St2} {v1 : Int32} {v2 : Int32} {v3 : Int32} {res : (Int32 × St2)} (hL : Ln 51 10 L) (hf : fX4_sheet N x v1 v2 v3 = some res) : Ret l B yX4_sheet cX4_sheet 6 (some .int) 2 45 [.ref (ad B 51), .int v1, .int v2, .int v3] (L x) (some (.int res.1)) (L res.2) := ret_of (own := RX4) (by decide) rfl (Nat.le_of_ble_eq_true rfl) (fun E C hQ => tX4_sheet C hL hQ hf)
def fX4_write (x : St2) (v1 : Int32) (v2 : Int32) (v3 : Int32) : Option (Int32 × St2) := (fX4_lacks x v1).bind fun y1 => if y1 < 0 then ((rd (x 7) 4 v1).bind fun a2 => (fX4_in v2.toInt64 0 ((a2 - 1).toInt64)).bind fun y3 => if y3 = 0 then ((fX4_finds x 0).bind fun y9 => some (y9.1, y9.2)) else ((rd (x 6) 4 v1).bind fun a4 => if a4 = 8 then ((wr x 8 160 ((40 * v1) + v2) v3.toInt8.toInt32).bind fun x8 => some (1, x8)) else ((rd (x 6) 4 v1).bind fun a5 => if a5 = 16 then ((wr x 8 160 ((40 * v1) + v2) v3.toInt16.toInt32).bind fun x7 => some (1, x7)) else ((wr x 8 160 ((40 * v1) + v2) v3).bind fun x6 => some (1, x6))))) else ((fX4_finds x y1).bind fun y10 => some (y10.1, y10.2))
set_option maxHeartbeats 4000000 in
set_option maxRecDepth 100000 in
theorem tX4_write {E : EE} {B : BB} {l : Launch} {L : St2 → St2} {x : St2} {v1 : Int32} {v2 : Int32} {v3 : Int32} {res : (Int32 × St2)} (C : Cx E B l cX4_write RX4 (some .int) 5 3 66) (hL : Ln 51 10 L) (hQ : Fin9 E B (some (.int res.1)) (L res.2)) (hf : fX4_write x v1 v2 v3 = some res) : V E B (L x) 0 [(0, .ref (ad B 51)), (1, .int v1), (2, .int v2), (3, .int v3)] [] := by
  unfold fX4_write at hf
  refine v_aload_n C 0 dX4_write_0 rfl rfl ?_
  refine v_iload_n C 1 dX4_write_1 rfl rfl ?_
  obtain ⟨y1, hy1, hf⟩ := bnd hf
  refine v_callV (r := some (.int y1)) (As := [.int v1]) (rest := []) (K := 51) C (mX4_lacks hL hy1) cw_X4_lacks wd_956 (by decide) rfl rfl ⟨Nat.le_of_ble_eq_true rfl, Nat.le_of_ble_eq_true rfl⟩ rfl rfl (Nat.le_of_ble_eq_true rfl) dX4_write_2 ?_
  refine v_istore (lv' := [(0, .ref (ad B 51)), (1, .int v1), (2, .int v2), (3, .int v3), (4, .int y1)]) C [1, 2, 3, 4, 0] dX4_write_5 (by decide) rfl ?_
  refine v_iload C 4 dX4_write_7 rfl ?_
  refine v_if_lt (tgt := 19) C dX4_write_9 (by decide) hf (fun hf => ?_) (fun hf => ?_)
  · refine v_iload_n C 2 dX4_write_19 rfl rfl ?_
    refine v_i2l C dX4_write_20 ?_
    refine v_lconst (v := 0) C dX4_write_21 (by decide) ?_
    refine v_aload_n C 0 dX4_write_22 rfl rfl ?_
    refine g_getR (K := 51) (i := 12) (j := 51 + 7) C (by decide) rfl rfl inX4 (by decide) rfl wd_679 dX4_write_23 ?_
    refine v_iload_n C 1 dX4_write_26 rfl rfl ?_
    refine s_ald (k := 7) C hL (by decide) rfl dX4_write_27 hf (fun a2 hf => ?_)
    refine v_iconst (v := 1) C dX4_write_28 (by decide) ?_
    refine v_isub C dX4_write_29 ?_
    refine v_i2l C dX4_write_30 ?_
    obtain ⟨y3, hy3, hf⟩ := bnd hf
    refine v_callS (r := some (.int y3)) (As := [.long v2.toInt64, .long 0, .long ((a2 - 1).toInt64)]) (rest := []) C (mX4_in  hy3) cw_X4_in wd_721 ⟨Nat.le_of_ble_eq_true rfl, Nat.le_of_ble_eq_true rfl⟩ rfl rfl (Nat.le_of_ble_eq_true rfl) dX4_write_31 ?_
    refine v_if_ne (tgt := 43) C dX4_write_34 (by decide) hf (fun hf => ?_) (fun hf => ?_)
    · refine v_aload_n C 0 dX4_write_43 rfl rfl ?_
      refine g_getR (K := 51) (i := 13) (j := 51 + 8) C (by decide) rfl rfl inX4 (by decide) rfl wd_680 dX4_write_44 ?_
      refine v_bipush (v := 40) C dX4_write_47 (by decide) ?_
      refine v_iload_n C 1 dX4_write_49 rfl rfl ?_
      refine v_imul C dX4_write_50 ?_
      refine v_iload_n C 2 dX4_write_51 rfl rfl ?_
      refine v_iadd C dX4_write_52 ?_
      refine v_aload_n C 0 dX4_write_53 rfl rfl ?_
      refine g_getR (K := 51) (i := 11) (j := 51 + 6) C (by decide) rfl rfl inX4 (by decide) rfl wd_678 dX4_write_54 ?_
      refine v_iload_n C 1 dX4_write_57 rfl rfl ?_
      refine s_ald (k := 6) C hL (by decide) rfl dX4_write_58 hf (fun a4 hf => ?_)
      refine v_bipush (v := 8) C dX4_write_59 (by decide) ?_
      refine v_icmp_ne (tgt := 69) C dX4_write_61 (by decide) hf (fun hf => ?_) (fun hf => ?_)
      · refine v_aload_n C 0 dX4_write_69 rfl rfl ?_
        refine g_getR (K := 51) (i := 11) (j := 51 + 6) C (by decide) rfl rfl inX4 (by decide) rfl wd_678 dX4_write_70 ?_
        refine v_iload_n C 1 dX4_write_73 rfl rfl ?_
        refine s_ald (k := 6) C hL (by decide) rfl dX4_write_74 hf (fun a5 hf => ?_)
        refine v_bipush (v := 16) C dX4_write_75 (by decide) ?_
        refine v_icmp_ne (tgt := 85) C dX4_write_77 (by decide) hf (fun hf => ?_) (fun hf => ?_)
        · refine v_iload_n C 3 dX4_write_85 rfl rfl ?_
          refine s_ast (k := 8) C hL (by decide) rfl dX4_write_86 hf (fun x6 hf => ?_)
          refine v_iconst (v := 1) C dX4_write_87 (by decide) ?_
          exact v_iret C dX4_write_88 (fin_im hf hQ)
        · refine v_iload_n C 3 dX4_write_80 rfl rfl ?_
          refine v_i2s C dX4_write_81 ?_
          refine v_goto (tgt := 86) C dX4_write_82 (by decide) ?_
          refine s_ast (k := 8) C hL (by decide) rfl dX4_write_86 hf (fun x7 hf => ?_)
          refine v_iconst (v := 1) C dX4_write_87 (by decide) ?_
          exact v_iret C dX4_write_88 (fin_im hf hQ)
      · refine v_iload_n C 3 dX4_write_64 rfl rfl ?_
        refine v_i2b C dX4_write_65 ?_
        refine v_goto (tgt := 86) C dX4_write_66 (by decide) ?_
        refine s_ast (k := 8) C hL (by decide) rfl dX4_write_86 hf (fun x8 hf => ?_)
        refine v_iconst (v := 1) C dX4_write_87 (by decide) ?_
        exact v_iret C dX4_write_88 (fin_im hf hQ)
    · refine v_aload_n C 0 dX4_write_37 rfl rfl ?_
      refine v_iconst (v := 0) C dX4_write_38 (by decide) ?_
      obtain ⟨y9, hy9, hf⟩ := bnd hf
      refine v_callV (r := some (.int y9.1)) (As := [.int 0]) (rest := []) (K := 51) C (mX4_finds hL hy9) cw_X4_finds wd_725 (by decide) rfl rfl ⟨Nat.le_of_ble_eq_true rfl, Nat.le_of_ble_eq_true rfl⟩ rfl rfl (Nat.le_of_ble_eq_true rfl) dX4_write_39 ?_
      exact v_iret C dX4_write_42 (fin_im hf hQ)
  · refine v_aload_n C 0 dX4_write_12 rfl rfl ?_
    refine v_iload C 4 dX4_write_13 rfl ?_
    obtain ⟨y10, hy10, hf⟩ := bnd hf
    refine v_callV (r := some (.int y10.1)) (As := [.int y1]) (rest := []) (K := 51) C (mX4_finds hL hy10) cw_X4_finds wd_725 (by decide) rfl rfl ⟨Nat.le_of_ble_eq_true rfl, Nat.le_of_ble_eq_true rfl⟩ rfl rfl (Nat.le_of_ble_eq_true rfl) dX4_write_15 ?_
    exact v_iret C dX4_write_18 (fin_im hf hQ)
theorem mX4_write {B : BB} {l : Launch} {L : St2 → St2} {x : St2} {v1 : Int32} {v2 : Int32} {v3 : Int32} {res : (Int32 × St2)} (hL : Ln 51 10 L) (hf : fX4_write x v1 v2 v3 = some res) : Ret l B yX4_write cX4_write 5 (some .int) 3 66 [.ref (ad B 51), .int v1, .int v2, .int v3] (L x) (some (.int res.1)) (L res.2) := ret_of (own := RX4) (by decide) rfl (Nat.le_of_ble_eq_true rfl) (fun E C hQ => tX4_write C hL hQ hf)
def fX4_copy_172 (N : Nat) (v3 : Int32) (v4 : Int32) (v5 : Int32) : Nat → St2 → Int32 → Option (Int32 × St2)
  | 0, _, _ => none
  | n + 1, x, v7 => if v5 ≤ v7 then (some (v5, x)) else ((rd (x 9) 40 v7).bind fun a9 => (wr x 8 160 (((40 * v3) + v4) + v7) a9).bind fun x10 => (fX4_copy_172 N v3 v4 v5 n) x10 (v7 + 1))
set_option maxHeartbeats 4000000 in
set_option maxRecDepth 100000 in
theorem tX4_copy_172 {E : EE} {B : BB} {l : Launch} {L : St2 → St2} {N : Nat} {v3 : Int32} {v4 : Int32} {v5 : Int32} {res : (Int32 × St2)} (C : Cx E B l cX4_copy RX4 (some .int) 8 2 45) (hL : Ln 51 10 L) (hQ : Fin9 E B (some (.int res.1)) (L res.2)) : ∀ (n : Nat) (x : St2) (v7 : Int32), fX4_copy_172 N v3 v4 v5 n x v7 = some res → V E B (L x) 172 [(0, .ref (ad B 51)), (3, .int v3), (4, .int v4), (5, .int v5), (7, .int v7)] [] := by
  intro n
  induction n with
  | zero =>
    intro x v7 hf
    cases hf
  | succ n ih =>
    intro x v7 hf
    rw [fX4_copy_172] at hf
    refine v_iload C 4 dX4_copy_172 rfl ?_
    refine v_iload C 3 dX4_copy_174 rfl ?_
    refine v_icmp_ge (tgt := 207) C dX4_copy_176 (by decide) hf (fun hf => ?_) (fun hf => ?_)
    · refine v_iload C 3 dX4_copy_207 rfl ?_
      exact v_iret C dX4_copy_209 (fin_im hf hQ)
    · refine v_aload_n C 0 dX4_copy_179 rfl rfl ?_
      refine g_getR (K := 51) (i := 13) (j := 51 + 8) C (by decide) rfl rfl inX4 (by decide) rfl wd_680 dX4_copy_180 ?_
      refine v_bipush (v := 40) C dX4_copy_183 (by decide) ?_
      refine v_iload_n C 1 dX4_copy_185 rfl rfl ?_
      refine v_imul C dX4_copy_186 ?_
      refine v_iload C 2 dX4_copy_187 rfl ?_
      refine v_iadd C dX4_copy_189 ?_
      refine v_iload C 4 dX4_copy_190 rfl ?_
      refine v_iadd C dX4_copy_192 ?_
      refine v_aload_n C 0 dX4_copy_193 rfl rfl ?_
      refine g_getR (K := 51) (i := 14) (j := 51 + 9) C (by decide) rfl rfl inX4 (by decide) rfl wd_681 dX4_copy_194 ?_
      refine v_iload C 4 dX4_copy_197 rfl ?_
      refine s_ald (k := 9) C hL (by decide) rfl dX4_copy_199 hf (fun a9 hf => ?_)
      refine s_ast (k := 8) C hL (by decide) rfl dX4_copy_200 hf (fun x10 hf => ?_)
      refine v_iinc (q := 4) (v := v7 + 1) (lv' := [(0, .ref (ad B 51)), (3, .int v3), (4, .int v4), (5, .int v5), (7, .int (v7 + 1))]) C [1, 2, 3, 4, 0] dX4_copy_201 rfl rfl (by decide) rfl ?_
      refine v_goto (tgt := 172) C dX4_copy_204 (by decide) ?_
      exact ih x10 (v7 + 1) hf
def fX4_copy_135 (N : Nat) (v1 : Int32) (v2 : Int32) (v3 : Int32) (v4 : Int32) (v5 : Int32) : Nat → St2 → Int32 → Option (Int32 × St2)
  | 0, _, _ => none
  | n + 1, x, v7 => if v5 ≤ v7 then (fX4_copy_172 N v3 v4 v5 N x 0) else ((rd (x 8) 160 (((40 * v1) + v2) + v7)).bind fun a12 => (wr x 9 40 v7 a12).bind fun x13 => (fX4_copy_135 N v1 v2 v3 v4 v5 n) x13 (v7 + 1))
set_option maxHeartbeats 4000000 in
set_option maxRecDepth 100000 in
theorem tX4_copy_135 {E : EE} {B : BB} {l : Launch} {L : St2 → St2} {N : Nat} {v1 : Int32} {v2 : Int32} {v3 : Int32} {v4 : Int32} {v5 : Int32} {res : (Int32 × St2)} (C : Cx E B l cX4_copy RX4 (some .int) 8 2 45) (hL : Ln 51 10 L) (hQ : Fin9 E B (some (.int res.1)) (L res.2)) : ∀ (n : Nat) (x : St2) (v7 : Int32), fX4_copy_135 N v1 v2 v3 v4 v5 n x v7 = some res → V E B (L x) 135 [(0, .ref (ad B 51)), (1, .int v1), (2, .int v2), (3, .int v3), (4, .int v4), (5, .int v5), (7, .int v7)] [] := by
  intro n
  induction n with
  | zero =>
    intro x v7 hf
    cases hf
  | succ n ih =>
    intro x v7 hf
    rw [fX4_copy_135] at hf
    refine v_iload C 6 dX4_copy_135 rfl ?_
    refine v_iload C 5 dX4_copy_137 rfl ?_
    refine v_icmp_ge (tgt := 169) C dX4_copy_139 (by decide) hf (fun hf => ?_) (fun hf => ?_)
    · refine v_iconst (v := 0) C dX4_copy_169 (by decide) ?_
      refine v_istore (lv' := [(0, .ref (ad B 51)), (1, .int v1), (2, .int v2), (3, .int v3), (4, .int v4), (5, .int v5), (7, .int 0)]) C [1, 2, 3, 4, 5, 6, 0] dX4_copy_170 (by decide) rfl ?_
      refine v_sub [0, 3, 4, 5, 6] rfl ?_
      exact tX4_copy_172 C hL hQ N x 0 hf
    · refine v_aload_n C 0 dX4_copy_142 rfl rfl ?_
      refine g_getR (K := 51) (i := 14) (j := 51 + 9) C (by decide) rfl rfl inX4 (by decide) rfl wd_681 dX4_copy_143 ?_
      refine v_iload C 6 dX4_copy_146 rfl ?_
      refine v_aload_n C 0 dX4_copy_148 rfl rfl ?_
      refine g_getR (K := 51) (i := 13) (j := 51 + 8) C (by decide) rfl rfl inX4 (by decide) rfl wd_680 dX4_copy_149 ?_
      refine v_bipush (v := 40) C dX4_copy_152 (by decide) ?_
      refine v_iload_n C 1 dX4_copy_154 rfl rfl ?_
      refine v_imul C dX4_copy_155 ?_
      refine v_iload_n C 2 dX4_copy_156 rfl rfl ?_
      refine v_iadd C dX4_copy_157 ?_
      refine v_iload C 6 dX4_copy_158 rfl ?_
      refine v_iadd C dX4_copy_160 ?_
      refine s_ald (k := 8) C hL (by decide) rfl dX4_copy_161 hf (fun a12 hf => ?_)
      refine s_ast (k := 9) C hL (by decide) rfl dX4_copy_162 hf (fun x13 hf => ?_)
      refine v_iinc (q := 6) (v := v7 + 1) (lv' := [(0, .ref (ad B 51)), (1, .int v1), (2, .int v2), (3, .int v3), (4, .int v4), (5, .int v5), (7, .int (v7 + 1))]) C [1, 2, 3, 4, 5, 6, 0] dX4_copy_163 rfl rfl (by decide) rfl ?_
      refine v_goto (tgt := 135) C dX4_copy_166 (by decide) ?_
      exact ih x13 (v7 + 1) hf
def fX4_copy_119 (N : Nat) (x : St2) (v1 : Int32) (v2 : Int32) (v3 : Int32) (v4 : Int32) (v5 : Int32) (s0 : Int32) : Option (Int32 × St2) := if s0 = 0 then ((fX4_finds x 0).bind fun y15 => some (y15.1, y15.2)) else (fX4_copy_135 N v1 v2 v3 v4 v5 N x 0)
set_option maxHeartbeats 4000000 in
set_option maxRecDepth 100000 in
theorem tX4_copy_119 {E : EE} {B : BB} {l : Launch} {L : St2 → St2} {N : Nat} {x : St2} {v1 : Int32} {v2 : Int32} {v3 : Int32} {v4 : Int32} {v5 : Int32} {s0 : Int32} {res : (Int32 × St2)} (C : Cx E B l cX4_copy RX4 (some .int) 8 2 45) (hL : Ln 51 10 L) (hQ : Fin9 E B (some (.int res.1)) (L res.2)) (hf : fX4_copy_119 N x v1 v2 v3 v4 v5 s0 = some res) : V E B (L x) 119 [(0, .ref (ad B 51)), (1, .int v1), (2, .int v2), (3, .int v3), (4, .int v4), (5, .int v5)] [.int s0] := by
  unfold fX4_copy_119 at hf
  refine v_istore (lv' := [(0, .ref (ad B 51)), (1, .int v1), (2, .int v2), (3, .int v3), (4, .int v4), (5, .int v5), (6, .int s0)]) C [1, 2, 3, 4, 5, 6, 0] dX4_copy_119 (by decide) rfl ?_
  refine v_iload C 6 dX4_copy_121 rfl ?_
  refine v_if_ne (tgt := 132) C dX4_copy_123 (by decide) hf (fun hf => ?_) (fun hf => ?_)
  · refine v_iconst (v := 0) C dX4_copy_132 (by decide) ?_
    refine v_istore (lv' := [(0, .ref (ad B 51)), (1, .int v1), (2, .int v2), (3, .int v3), (4, .int v4), (5, .int v5), (6, .int s0), (7, .int 0)]) C [1, 2, 3, 4, 5, 6, 7, 0] dX4_copy_133 (by decide) rfl ?_
    refine v_sub [0, 1, 2, 3, 4, 5, 7] rfl ?_
    exact tX4_copy_135 C hL hQ N x 0 hf
  · refine v_aload_n C 0 dX4_copy_126 rfl rfl ?_
    refine v_iconst (v := 0) C dX4_copy_127 (by decide) ?_
    obtain ⟨y15, hy15, hf⟩ := bnd hf
    refine v_callV (r := some (.int y15.1)) (As := [.int 0]) (rest := []) (K := 51) C (mX4_finds hL hy15) cw_X4_finds wd_725 (by decide) rfl rfl ⟨Nat.le_of_ble_eq_true rfl, Nat.le_of_ble_eq_true rfl⟩ rfl rfl (Nat.le_of_ble_eq_true rfl) dX4_copy_128 ?_
    exact v_iret C dX4_copy_131 (fin_im hf hQ)
def fX4_copy_118 (N : Nat) (x : St2) (v1 : Int32) (v2 : Int32) (v3 : Int32) (v4 : Int32) (v5 : Int32) : Option (Int32 × St2) := fX4_copy_119 N x v1 v2 v3 v4 v5 0
set_option maxHeartbeats 4000000 in
set_option maxRecDepth 100000 in
theorem tX4_copy_118 {E : EE} {B : BB} {l : Launch} {L : St2 → St2} {N : Nat} {x : St2} {v1 : Int32} {v2 : Int32} {v3 : Int32} {v4 : Int32} {v5 : Int32} {res : (Int32 × St2)} (C : Cx E B l cX4_copy RX4 (some .int) 8 2 45) (hL : Ln 51 10 L) (hQ : Fin9 E B (some (.int res.1)) (L res.2)) (hf : fX4_copy_118 N x v1 v2 v3 v4 v5 = some res) : V E B (L x) 118 [(0, .ref (ad B 51)), (1, .int v1), (2, .int v2), (3, .int v3), (4, .int v4), (5, .int v5)] [] := by
  unfold fX4_copy_118 at hf
  refine v_iconst (v := 0) C dX4_copy_118 (by decide) ?_
  exact tX4_copy_119 C hL hQ hf
def fX4_copy (N : Nat) (x : St2) (v1 : Int32) (v2 : Int32) (v3 : Int32) (v4 : Int32) (v5 : Int32) : Option (Int32 × St2) := (fX4_isSheet v1).bind fun y1 => if y1 = 0 then ((fX4_finds x 0).bind fun y2 => some (y2.1, y2.2)) else ((fX4_isSheet v3).bind fun y3 => if y3 = 0 then ((fX4_finds x 0).bind fun y20 => some (y20.1, y20.2)) else ((rd (x 6) 4 v1).bind fun a4 => if a4 = 0 then ((fX4_finds x 5).bind fun y5 => some (y5.1, y5.2)) else ((rd (x 6) 4 v3).bind fun a6 => if a6 = 0 then ((fX4_finds x 5).bind fun y19 => some (y19.1, y19.2)) else ((rd (x 6) 4 v1).bind fun a7 => (rd (x 6) 4 v3).bind fun a8 => if a7 = a8 then (if v5 < 0 then (fX4_copy_118 N x v1 v2 v3 v4 v5) else (if v2 < 0 then (fX4_copy_118 N x v1 v2 v3 v4 v5) else (if v4 < 0 then (fX4_copy_118 N x v1 v2 v3 v4 v5) else ((rd (x 7) 4 v1).bind fun a16 => if 0 < (lg_cmp (v2.toInt64 + v5.toInt64) a16.toInt64) then (fX4_copy_118 N x v1 v2 v3 v4 v5) else ((rd (x 7) 4 v3).bind fun a17 => if 0 < (lg_cmp (v4.toInt64 + v5.toInt64) a17.toInt64) then (fX4_copy_118 N x v1 v2 v3 v4 v5) else (fX4_copy_119 N x v1 v2 v3 v4 v5 1)))))) else ((fX4_finds x 2).bind fun y18 => some (y18.1, y18.2))))))
set_option maxHeartbeats 4000000 in
set_option maxRecDepth 100000 in
theorem tX4_copy {E : EE} {B : BB} {l : Launch} {L : St2 → St2} {N : Nat} {x : St2} {v1 : Int32} {v2 : Int32} {v3 : Int32} {v4 : Int32} {v5 : Int32} {res : (Int32 × St2)} (C : Cx E B l cX4_copy RX4 (some .int) 8 2 45) (hL : Ln 51 10 L) (hQ : Fin9 E B (some (.int res.1)) (L res.2)) (hf : fX4_copy N x v1 v2 v3 v4 v5 = some res) : V E B (L x) 0 [(0, .ref (ad B 51)), (1, .int v1), (2, .int v2), (3, .int v3), (4, .int v4), (5, .int v5)] [] := by
  unfold fX4_copy at hf
  refine v_iload_n C 1 dX4_copy_0 rfl rfl ?_
  obtain ⟨y1, hy1, hf⟩ := bnd hf
  refine v_callS (r := some (.int y1)) (As := [.int v1]) (rest := []) C (mX4_isSheet  hy1) cw_X4_isSheet wd_960 ⟨Nat.le_of_ble_eq_true rfl, Nat.le_of_ble_eq_true rfl⟩ rfl rfl (Nat.le_of_ble_eq_true rfl) dX4_copy_1 ?_
  refine v_if_eq (tgt := 14) C dX4_copy_4 (by decide) hf (fun hf => ?_) (fun hf => ?_)
  · refine v_aload_n C 0 dX4_copy_14 rfl rfl ?_
    refine v_iconst (v := 0) C dX4_copy_15 (by decide) ?_
    obtain ⟨y2, hy2, hf⟩ := bnd hf
    refine v_callV (r := some (.int y2.1)) (As := [.int 0]) (rest := []) (K := 51) C (mX4_finds hL hy2) cw_X4_finds wd_725 (by decide) rfl rfl ⟨Nat.le_of_ble_eq_true rfl, Nat.le_of_ble_eq_true rfl⟩ rfl rfl (Nat.le_of_ble_eq_true rfl) dX4_copy_16 ?_
    exact v_iret C dX4_copy_19 (fin_im hf hQ)
  · refine v_iload_n C 3 dX4_copy_7 rfl rfl ?_
    obtain ⟨y3, hy3, hf⟩ := bnd hf
    refine v_callS (r := some (.int y3)) (As := [.int v3]) (rest := []) C (mX4_isSheet  hy3) cw_X4_isSheet wd_960 ⟨Nat.le_of_ble_eq_true rfl, Nat.le_of_ble_eq_true rfl⟩ rfl rfl (Nat.le_of_ble_eq_true rfl) dX4_copy_8 ?_
    refine v_if_ne (tgt := 20) C dX4_copy_11 (by decide) hf (fun hf => ?_) (fun hf => ?_)
    · refine v_aload_n C 0 dX4_copy_20 rfl rfl ?_
      refine g_getR (K := 51) (i := 11) (j := 51 + 6) C (by decide) rfl rfl inX4 (by decide) rfl wd_678 dX4_copy_21 ?_
      refine v_iload_n C 1 dX4_copy_24 rfl rfl ?_
      refine s_ald (k := 6) C hL (by decide) rfl dX4_copy_25 hf (fun a4 hf => ?_)
      refine v_if_eq (tgt := 38) C dX4_copy_26 (by decide) hf (fun hf => ?_) (fun hf => ?_)
      · refine v_aload_n C 0 dX4_copy_38 rfl rfl ?_
        refine v_iconst (v := 5) C dX4_copy_39 (by decide) ?_
        obtain ⟨y5, hy5, hf⟩ := bnd hf
        refine v_callV (r := some (.int y5.1)) (As := [.int 5]) (rest := []) (K := 51) C (mX4_finds hL hy5) cw_X4_finds wd_725 (by decide) rfl rfl ⟨Nat.le_of_ble_eq_true rfl, Nat.le_of_ble_eq_true rfl⟩ rfl rfl (Nat.le_of_ble_eq_true rfl) dX4_copy_40 ?_
        exact v_iret C dX4_copy_43 (fin_im hf hQ)
      · refine v_aload_n C 0 dX4_copy_29 rfl rfl ?_
        refine g_getR (K := 51) (i := 11) (j := 51 + 6) C (by decide) rfl rfl inX4 (by decide) rfl wd_678 dX4_copy_30 ?_
        refine v_iload_n C 3 dX4_copy_33 rfl rfl ?_
        refine s_ald (k := 6) C hL (by decide) rfl dX4_copy_34 hf (fun a6 hf => ?_)
        refine v_if_ne (tgt := 44) C dX4_copy_35 (by decide) hf (fun hf => ?_) (fun hf => ?_)
        · refine v_aload_n C 0 dX4_copy_44 rfl rfl ?_
          refine g_getR (K := 51) (i := 11) (j := 51 + 6) C (by decide) rfl rfl inX4 (by decide) rfl wd_678 dX4_copy_45 ?_
          refine v_iload_n C 1 dX4_copy_48 rfl rfl ?_
          refine s_ald (k := 6) C hL (by decide) rfl dX4_copy_49 hf (fun a7 hf => ?_)
          refine v_aload_n C 0 dX4_copy_50 rfl rfl ?_
          refine g_getR (K := 51) (i := 11) (j := 51 + 6) C (by decide) rfl rfl inX4 (by decide) rfl wd_678 dX4_copy_51 ?_
          refine v_iload_n C 3 dX4_copy_54 rfl rfl ?_
          refine s_ald (k := 6) C hL (by decide) rfl dX4_copy_55 hf (fun a8 hf => ?_)
          refine v_icmp_eq (tgt := 65) C dX4_copy_56 (by decide) hf (fun hf => ?_) (fun hf => ?_)
          · refine v_iload C 5 dX4_copy_65 rfl ?_
            refine v_if_lt (tgt := 118) C dX4_copy_67 (by decide) hf (fun hf => ?_) (fun hf => ?_)
            · exact tX4_copy_118 C hL hQ hf
            · refine v_iload_n C 2 dX4_copy_70 rfl rfl ?_
              refine v_if_lt (tgt := 118) C dX4_copy_71 (by decide) hf (fun hf => ?_) (fun hf => ?_)
              · exact tX4_copy_118 C hL hQ hf
              · refine v_iload C 4 dX4_copy_74 rfl ?_
                refine v_if_lt (tgt := 118) C dX4_copy_76 (by decide) hf (fun hf => ?_) (fun hf => ?_)
                · exact tX4_copy_118 C hL hQ hf
                · refine v_iload_n C 2 dX4_copy_79 rfl rfl ?_
                  refine v_i2l C dX4_copy_80 ?_
                  refine v_iload C 5 dX4_copy_81 rfl ?_
                  refine v_i2l C dX4_copy_83 ?_
                  refine v_ladd C dX4_copy_84 ?_
                  refine v_aload_n C 0 dX4_copy_85 rfl rfl ?_
                  refine g_getR (K := 51) (i := 12) (j := 51 + 7) C (by decide) rfl rfl inX4 (by decide) rfl wd_679 dX4_copy_86 ?_
                  refine v_iload_n C 1 dX4_copy_89 rfl rfl ?_
                  refine s_ald (k := 7) C hL (by decide) rfl dX4_copy_90 hf (fun a16 hf => ?_)
                  refine v_i2l C dX4_copy_91 ?_
                  refine v_lcmp C dX4_copy_92 ?_
                  refine v_if_gt (tgt := 118) C dX4_copy_93 (by decide) hf (fun hf => ?_) (fun hf => ?_)
                  · exact tX4_copy_118 C hL hQ hf
                  · refine v_iload C 4 dX4_copy_96 rfl ?_
                    refine v_i2l C dX4_copy_98 ?_
                    refine v_iload C 5 dX4_copy_99 rfl ?_
                    refine v_i2l C dX4_copy_101 ?_
                    refine v_ladd C dX4_copy_102 ?_
                    refine v_aload_n C 0 dX4_copy_103 rfl rfl ?_
                    refine g_getR (K := 51) (i := 12) (j := 51 + 7) C (by decide) rfl rfl inX4 (by decide) rfl wd_679 dX4_copy_104 ?_
                    refine v_iload_n C 3 dX4_copy_107 rfl rfl ?_
                    refine s_ald (k := 7) C hL (by decide) rfl dX4_copy_108 hf (fun a17 hf => ?_)
                    refine v_i2l C dX4_copy_109 ?_
                    refine v_lcmp C dX4_copy_110 ?_
                    refine v_if_gt (tgt := 118) C dX4_copy_111 (by decide) hf (fun hf => ?_) (fun hf => ?_)
                    · exact tX4_copy_118 C hL hQ hf
                    · refine v_iconst (v := 1) C dX4_copy_114 (by decide) ?_
                      refine v_goto (tgt := 119) C dX4_copy_115 (by decide) ?_
                      exact tX4_copy_119 C hL hQ hf
          · refine v_aload_n C 0 dX4_copy_59 rfl rfl ?_
            refine v_iconst (v := 2) C dX4_copy_60 (by decide) ?_
            obtain ⟨y18, hy18, hf⟩ := bnd hf
            refine v_callV (r := some (.int y18.1)) (As := [.int 2]) (rest := []) (K := 51) C (mX4_finds hL hy18) cw_X4_finds wd_725 (by decide) rfl rfl ⟨Nat.le_of_ble_eq_true rfl, Nat.le_of_ble_eq_true rfl⟩ rfl rfl (Nat.le_of_ble_eq_true rfl) dX4_copy_61 ?_
            exact v_iret C dX4_copy_64 (fin_im hf hQ)
        · refine v_aload_n C 0 dX4_copy_38 rfl rfl ?_
          refine v_iconst (v := 5) C dX4_copy_39 (by decide) ?_
          obtain ⟨y19, hy19, hf⟩ := bnd hf
          refine v_callV (r := some (.int y19.1)) (As := [.int 5]) (rest := []) (K := 51) C (mX4_finds hL hy19) cw_X4_finds wd_725 (by decide) rfl rfl ⟨Nat.le_of_ble_eq_true rfl, Nat.le_of_ble_eq_true rfl⟩ rfl rfl (Nat.le_of_ble_eq_true rfl) dX4_copy_40 ?_
          exact v_iret C dX4_copy_43 (fin_im hf hQ)
    · refine v_aload_n C 0 dX4_copy_14 rfl rfl ?_
      refine v_iconst (v := 0) C dX4_copy_15 (by decide) ?_
      obtain ⟨y20, hy20, hf⟩ := bnd hf
      refine v_callV (r := some (.int y20.1)) (As := [.int 0]) (rest := []) (K := 51) C (mX4_finds hL hy20) cw_X4_finds wd_725 (by decide) rfl rfl ⟨Nat.le_of_ble_eq_true rfl, Nat.le_of_ble_eq_true rfl⟩ rfl rfl (Nat.le_of_ble_eq_true rfl) dX4_copy_16 ?_
      exact v_iret C dX4_copy_19 (fin_im hf hQ)
theorem mX4_copy {B : BB} {l : Launch} {L : St2 → St2} {N : Nat} {x : St2} {v1 : Int32} {v2 : Int32} {v3 : Int32} {v4 : Int32} {v5 : Int32} {res : (Int32 × St2)} (hL : Ln 51 10 L) (hf : fX4_copy N x v1 v2 v3 v4 v5 = some res) : Ret l B yX4_copy cX4_copy 8 (some .int) 2 45 [.ref (ad B 51), .int v1, .int v2, .int v3, .int v4, .int v5] (L x) (some (.int res.1)) (L res.2) := ret_of (own := RX4) (by decide) rfl (Nat.le_of_ble_eq_true rfl) (fun E C hQ => tX4_copy C hL hQ hf)
def fX4_load_18 (N : Nat) (v1 : Int32) : Nat → St2 → Int32 → Option (Int32 × St2)
  | 0, _, _ => none
  | n + 1, x, v3 => (rd (x 7) 4 v1).bind fun a2 => if a2 ≤ v3 then (some (v3, x)) else ((rd (x 1) 135 2).bind fun a3 => if a3 ≤ v3 then (some (v3, x)) else ((rd (x 8) 160 ((40 * v1) + v3)).bind fun a4 => (fX4_in a4.toInt64 1 6).bind fun y5 => if y5 = 0 then (some (v3, x)) else ((rd (x 8) 160 ((40 * v1) + v3)).bind fun a6 => (fX4_sets x v3 3 a6).bind fun y7 => (fX4_load_18 N v1 n) y7 (v3 + 1))))
set_option maxHeartbeats 4000000 in
set_option maxRecDepth 100000 in
theorem tX4_load_18 {E : EE} {B : BB} {l : Launch} {L : St2 → St2} {N : Nat} {v1 : Int32} {res : (Int32 × St2)} (C : Cx E B l cX4_load RX4 (some .int) 4 3 66) (hL : Ln 51 10 L) (hQ : Fin9 E B (some (.int res.1)) (L res.2)) : ∀ (n : Nat) (x : St2) (v3 : Int32), fX4_load_18 N v1 n x v3 = some res → V E B (L x) 18 [(0, .ref (ad B 51)), (1, .int v1), (3, .int v3)] [] := by
  intro n
  induction n with
  | zero =>
    intro x v3 hf
    cases hf
  | succ n ih =>
    intro x v3 hf
    rw [fX4_load_18] at hf
    refine v_iload_n C 2 dX4_load_18 rfl rfl ?_
    refine v_aload_n C 0 dX4_load_19 rfl rfl ?_
    refine g_getR (K := 51) (i := 12) (j := 51 + 7) C (by decide) rfl rfl inX4 (by decide) rfl wd_679 dX4_load_20 ?_
    refine v_iload_n C 1 dX4_load_23 rfl rfl ?_
    refine s_ald (k := 7) C hL (by decide) rfl dX4_load_24 hf (fun a2 hf => ?_)
    refine v_icmp_ge (tgt := 83) C dX4_load_25 (by decide) hf (fun hf => ?_) (fun hf => ?_)
    · refine v_iload_n C 2 dX4_load_83 rfl rfl ?_
      exact v_iret C dX4_load_84 (fin_im hf hQ)
    · refine v_iload_n C 2 dX4_load_28 rfl rfl ?_
      refine v_aload_n C 0 dX4_load_29 rfl rfl ?_
      refine g_getR (K := 51) (i := 0) (j := 51 + 1) C (by decide) rfl rfl inX4 (by decide) rfl wd_667 dX4_load_30 ?_
      refine v_iconst (v := 2) C dX4_load_33 (by decide) ?_
      refine s_ald (k := 1) C hL (by decide) rfl dX4_load_34 hf (fun a3 hf => ?_)
      refine v_icmp_ge (tgt := 83) C dX4_load_35 (by decide) hf (fun hf => ?_) (fun hf => ?_)
      · refine v_iload_n C 2 dX4_load_83 rfl rfl ?_
        exact v_iret C dX4_load_84 (fin_im hf hQ)
      · refine v_aload_n C 0 dX4_load_38 rfl rfl ?_
        refine g_getR (K := 51) (i := 13) (j := 51 + 8) C (by decide) rfl rfl inX4 (by decide) rfl wd_680 dX4_load_39 ?_
        refine v_bipush (v := 40) C dX4_load_42 (by decide) ?_
        refine v_iload_n C 1 dX4_load_44 rfl rfl ?_
        refine v_imul C dX4_load_45 ?_
        refine v_iload_n C 2 dX4_load_46 rfl rfl ?_
        refine v_iadd C dX4_load_47 ?_
        refine s_ald (k := 8) C hL (by decide) rfl dX4_load_48 hf (fun a4 hf => ?_)
        refine v_i2l C dX4_load_49 ?_
        refine v_lconst (v := 1) C dX4_load_50 (by decide) ?_
        refine v_ldc2 C wd_775 dX4_load_51 ?_
        obtain ⟨y5, hy5, hf⟩ := bnd hf
        refine v_callS (r := some (.int y5)) (As := [.long a4.toInt64, .long 1, .long 6]) (rest := []) C (mX4_in  hy5) cw_X4_in wd_721 ⟨Nat.le_of_ble_eq_true rfl, Nat.le_of_ble_eq_true rfl⟩ rfl rfl (Nat.le_of_ble_eq_true rfl) dX4_load_54 ?_
        refine v_if_eq (tgt := 83) C dX4_load_57 (by decide) hf (fun hf => ?_) (fun hf => ?_)
        · refine v_iload_n C 2 dX4_load_83 rfl rfl ?_
          exact v_iret C dX4_load_84 (fin_im hf hQ)
        · refine v_aload_n C 0 dX4_load_60 rfl rfl ?_
          refine v_iload_n C 2 dX4_load_61 rfl rfl ?_
          refine v_iconst (v := 3) C dX4_load_62 (by decide) ?_
          refine v_aload_n C 0 dX4_load_63 rfl rfl ?_
          refine g_getR (K := 51) (i := 13) (j := 51 + 8) C (by decide) rfl rfl inX4 (by decide) rfl wd_680 dX4_load_64 ?_
          refine v_bipush (v := 40) C dX4_load_67 (by decide) ?_
          refine v_iload_n C 1 dX4_load_69 rfl rfl ?_
          refine v_imul C dX4_load_70 ?_
          refine v_iload_n C 2 dX4_load_71 rfl rfl ?_
          refine v_iadd C dX4_load_72 ?_
          refine s_ald (k := 8) C hL (by decide) rfl dX4_load_73 hf (fun a6 hf => ?_)
          obtain ⟨y7, hy7, hf⟩ := bnd hf
          refine v_callV (r := none) (As := [.int v3, .int 3, .int a6]) (rest := []) (K := 51) C (mX4_sets hL hy7) cw_X4_sets wd_780 (by decide) rfl rfl ⟨Nat.le_of_ble_eq_true rfl, Nat.le_of_ble_eq_true rfl⟩ rfl rfl (Nat.le_of_ble_eq_true rfl) dX4_load_74 ?_
          refine v_iinc (q := 2) (v := v3 + 1) (lv' := [(0, .ref (ad B 51)), (1, .int v1), (3, .int (v3 + 1))]) C [1, 2, 0] dX4_load_77 rfl rfl (by decide) rfl ?_
          refine v_goto (tgt := 18) C dX4_load_80 (by decide) ?_
          exact ih y7 (v3 + 1) hf
def fX4_load (N : Nat) (x : St2) (v1 : Int32) : Option (Int32 × St2) := (fX4_lacks x v1).bind fun y1 => if y1 < 0 then (fX4_load_18 N v1 N x 0) else ((fX4_finds x y1).bind fun y9 => some (y9.1, y9.2))
set_option maxHeartbeats 4000000 in
set_option maxRecDepth 100000 in
theorem tX4_load {E : EE} {B : BB} {l : Launch} {L : St2 → St2} {N : Nat} {x : St2} {v1 : Int32} {res : (Int32 × St2)} (C : Cx E B l cX4_load RX4 (some .int) 4 3 66) (hL : Ln 51 10 L) (hQ : Fin9 E B (some (.int res.1)) (L res.2)) (hf : fX4_load N x v1 = some res) : V E B (L x) 0 [(0, .ref (ad B 51)), (1, .int v1)] [] := by
  unfold fX4_load at hf
  refine v_aload_n C 0 dX4_load_0 rfl rfl ?_
  refine v_iload_n C 1 dX4_load_1 rfl rfl ?_
  obtain ⟨y1, hy1, hf⟩ := bnd hf
  refine v_callV (r := some (.int y1)) (As := [.int v1]) (rest := []) (K := 51) C (mX4_lacks hL hy1) cw_X4_lacks wd_956 (by decide) rfl rfl ⟨Nat.le_of_ble_eq_true rfl, Nat.le_of_ble_eq_true rfl⟩ rfl rfl (Nat.le_of_ble_eq_true rfl) dX4_load_2 ?_
  refine v_istore_n (lv' := [(0, .ref (ad B 51)), (1, .int v1), (2, .int y1)]) C [1, 2, 0] dX4_load_5 rfl (by decide) rfl ?_
  refine v_iload_n C 2 dX4_load_6 rfl rfl ?_
  refine v_if_lt (tgt := 16) C dX4_load_7 (by decide) hf (fun hf => ?_) (fun hf => ?_)
  · refine v_iconst (v := 0) C dX4_load_16 (by decide) ?_
    refine v_istore_n (lv' := [(0, .ref (ad B 51)), (1, .int v1), (2, .int y1), (3, .int 0)]) C [1, 2, 3, 0] dX4_load_17 rfl (by decide) rfl ?_
    refine v_sub [0, 1, 3] rfl ?_
    exact tX4_load_18 C hL hQ N x 0 hf
  · refine v_aload_n C 0 dX4_load_10 rfl rfl ?_
    refine v_iload_n C 2 dX4_load_11 rfl rfl ?_
    obtain ⟨y9, hy9, hf⟩ := bnd hf
    refine v_callV (r := some (.int y9.1)) (As := [.int y1]) (rest := []) (K := 51) C (mX4_finds hL hy9) cw_X4_finds wd_725 (by decide) rfl rfl ⟨Nat.le_of_ble_eq_true rfl, Nat.le_of_ble_eq_true rfl⟩ rfl rfl (Nat.le_of_ble_eq_true rfl) dX4_load_12 ?_
    exact v_iret C dX4_load_15 (fin_im hf hQ)
theorem mX4_load {B : BB} {l : Launch} {L : St2 → St2} {N : Nat} {x : St2} {v1 : Int32} {res : (Int32 × St2)} (hL : Ln 51 10 L) (hf : fX4_load N x v1 = some res) : Ret l B yX4_load cX4_load 4 (some .int) 3 66 [.ref (ad B 51), .int v1] (L x) (some (.int res.1)) (L res.2) := ret_of (own := RX4) (by decide) rfl (Nat.le_of_ble_eq_true rfl) (fun E C hQ => tX4_load C hL hQ hf)
def fX4_judge_62 (N : Nat) (x : St2) (v1 : Int32) (v3 : Int32) : Option (Int32 × St2) := (rd (x 7) 4 v1).bind fun a3 => if v3 = a3 then (some (0, x)) else (some ((v3 + 1), x))
set_option maxHeartbeats 4000000 in
set_option maxRecDepth 100000 in
theorem tX4_judge_62 {E : EE} {B : BB} {l : Launch} {L : St2 → St2} {N : Nat} {x : St2} {v1 : Int32} {v3 : Int32} {res : (Int32 × St2)} (C : Cx E B l cX4_judge RX4 (some .int) 4 3 66) (hL : Ln 51 10 L) (hQ : Fin9 E B (some (.int res.1)) (L res.2)) (hf : fX4_judge_62 N x v1 v3 = some res) : V E B (L x) 62 [(0, .ref (ad B 51)), (1, .int v1), (3, .int v3)] [] := by
  unfold fX4_judge_62 at hf
  refine v_iload_n C 2 dX4_judge_62 rfl rfl ?_
  refine v_aload_n C 0 dX4_judge_63 rfl rfl ?_
  refine g_getR (K := 51) (i := 12) (j := 51 + 7) C (by decide) rfl rfl inX4 (by decide) rfl wd_679 dX4_judge_64 ?_
  refine v_iload_n C 1 dX4_judge_67 rfl rfl ?_
  refine s_ald (k := 7) C hL (by decide) rfl dX4_judge_68 hf (fun a3 hf => ?_)
  refine v_icmp_ne (tgt := 76) C dX4_judge_69 (by decide) hf (fun hf => ?_) (fun hf => ?_)
  · refine v_iload_n C 2 dX4_judge_76 rfl rfl ?_
    refine v_iconst (v := 1) C dX4_judge_77 (by decide) ?_
    refine v_iadd C dX4_judge_78 ?_
    exact v_iret C dX4_judge_79 (fin_im hf hQ)
  · refine v_iconst (v := 0) C dX4_judge_72 (by decide) ?_
    refine v_goto (tgt := 79) C dX4_judge_73 (by decide) ?_
    exact v_iret C dX4_judge_79 (fin_im hf hQ)
def fX4_judge_18 (N : Nat) (x : St2) (v1 : Int32) : Nat → Int32 → Option (Int32 × St2)
  | 0, _ => none
  | n + 1, v3 => (rd (x 7) 4 v1).bind fun a2 => if a2 ≤ v3 then (fX4_judge_62 N x v1 v3) else (if 24 ≤ v3 then (fX4_judge_62 N x v1 v3) else ((rd (x 1) 135 (5 + v3)).bind fun a4 => (rd (x 8) 160 ((40 * v1) + v3)).bind fun a5 => if a4 = a5 then ((fX4_judge_18 N x v1 n) (v3 + 1)) else (fX4_judge_62 N x v1 v3)))
set_option maxHeartbeats 4000000 in
set_option maxRecDepth 100000 in
theorem tX4_judge_18 {E : EE} {B : BB} {l : Launch} {L : St2 → St2} {N : Nat} {x : St2} {v1 : Int32} {res : (Int32 × St2)} (C : Cx E B l cX4_judge RX4 (some .int) 4 3 66) (hL : Ln 51 10 L) (hQ : Fin9 E B (some (.int res.1)) (L res.2)) : ∀ (n : Nat) (v3 : Int32), fX4_judge_18 N x v1 n v3 = some res → V E B (L x) 18 [(0, .ref (ad B 51)), (1, .int v1), (3, .int v3)] [] := by
  intro n
  induction n with
  | zero =>
    intro v3 hf
    cases hf
  | succ n ih =>
    intro v3 hf
    rw [fX4_judge_18] at hf
    refine v_iload_n C 2 dX4_judge_18 rfl rfl ?_
    refine v_aload_n C 0 dX4_judge_19 rfl rfl ?_
    refine g_getR (K := 51) (i := 12) (j := 51 + 7) C (by decide) rfl rfl inX4 (by decide) rfl wd_679 dX4_judge_20 ?_
    refine v_iload_n C 1 dX4_judge_23 rfl rfl ?_
    refine s_ald (k := 7) C hL (by decide) rfl dX4_judge_24 hf (fun a2 hf => ?_)
    refine v_icmp_ge (tgt := 62) C dX4_judge_25 (by decide) hf (fun hf => ?_) (fun hf => ?_)
    · exact tX4_judge_62 C hL hQ hf
    · refine v_iload_n C 2 dX4_judge_28 rfl rfl ?_
      refine v_bipush (v := 24) C dX4_judge_29 (by decide) ?_
      refine v_icmp_ge (tgt := 62) C dX4_judge_31 (by decide) hf (fun hf => ?_) (fun hf => ?_)
      · exact tX4_judge_62 C hL hQ hf
      · refine v_aload_n C 0 dX4_judge_34 rfl rfl ?_
        refine g_getR (K := 51) (i := 0) (j := 51 + 1) C (by decide) rfl rfl inX4 (by decide) rfl wd_667 dX4_judge_35 ?_
        refine v_iconst (v := 5) C dX4_judge_38 (by decide) ?_
        refine v_iload_n C 2 dX4_judge_39 rfl rfl ?_
        refine v_iadd C dX4_judge_40 ?_
        refine s_ald (k := 1) C hL (by decide) rfl dX4_judge_41 hf (fun a4 hf => ?_)
        refine v_aload_n C 0 dX4_judge_42 rfl rfl ?_
        refine g_getR (K := 51) (i := 13) (j := 51 + 8) C (by decide) rfl rfl inX4 (by decide) rfl wd_680 dX4_judge_43 ?_
        refine v_bipush (v := 40) C dX4_judge_46 (by decide) ?_
        refine v_iload_n C 1 dX4_judge_48 rfl rfl ?_
        refine v_imul C dX4_judge_49 ?_
        refine v_iload_n C 2 dX4_judge_50 rfl rfl ?_
        refine v_iadd C dX4_judge_51 ?_
        refine s_ald (k := 8) C hL (by decide) rfl dX4_judge_52 hf (fun a5 hf => ?_)
        refine v_icmp_ne (tgt := 62) C dX4_judge_53 (by decide) hf (fun hf => ?_) (fun hf => ?_)
        · exact tX4_judge_62 C hL hQ hf
        · refine v_iinc (q := 2) (v := v3 + 1) (lv' := [(0, .ref (ad B 51)), (1, .int v1), (3, .int (v3 + 1))]) C [1, 2, 0] dX4_judge_56 rfl rfl (by decide) rfl ?_
          refine v_goto (tgt := 18) C dX4_judge_59 (by decide) ?_
          exact ih (v3 + 1) hf
def fX4_judge (N : Nat) (x : St2) (v1 : Int32) : Option (Int32 × St2) := (fX4_lacks x v1).bind fun y1 => if y1 < 0 then (fX4_judge_18 N x v1 N 0) else ((fX4_finds x y1).bind fun y7 => some (y7.1, y7.2))
set_option maxHeartbeats 4000000 in
set_option maxRecDepth 100000 in
theorem tX4_judge {E : EE} {B : BB} {l : Launch} {L : St2 → St2} {N : Nat} {x : St2} {v1 : Int32} {res : (Int32 × St2)} (C : Cx E B l cX4_judge RX4 (some .int) 4 3 66) (hL : Ln 51 10 L) (hQ : Fin9 E B (some (.int res.1)) (L res.2)) (hf : fX4_judge N x v1 = some res) : V E B (L x) 0 [(0, .ref (ad B 51)), (1, .int v1)] [] := by
  unfold fX4_judge at hf
  refine v_aload_n C 0 dX4_judge_0 rfl rfl ?_
  refine v_iload_n C 1 dX4_judge_1 rfl rfl ?_
  obtain ⟨y1, hy1, hf⟩ := bnd hf
  refine v_callV (r := some (.int y1)) (As := [.int v1]) (rest := []) (K := 51) C (mX4_lacks hL hy1) cw_X4_lacks wd_956 (by decide) rfl rfl ⟨Nat.le_of_ble_eq_true rfl, Nat.le_of_ble_eq_true rfl⟩ rfl rfl (Nat.le_of_ble_eq_true rfl) dX4_judge_2 ?_
  refine v_istore_n (lv' := [(0, .ref (ad B 51)), (1, .int v1), (2, .int y1)]) C [1, 2, 0] dX4_judge_5 rfl (by decide) rfl ?_
  refine v_iload_n C 2 dX4_judge_6 rfl rfl ?_
  refine v_if_lt (tgt := 16) C dX4_judge_7 (by decide) hf (fun hf => ?_) (fun hf => ?_)
  · refine v_iconst (v := 0) C dX4_judge_16 (by decide) ?_
    refine v_istore_n (lv' := [(0, .ref (ad B 51)), (1, .int v1), (2, .int y1), (3, .int 0)]) C [1, 2, 3, 0] dX4_judge_17 rfl (by decide) rfl ?_
    refine v_sub [0, 1, 3] rfl ?_
    exact tX4_judge_18 C hL hQ N 0 hf
  · refine v_aload_n C 0 dX4_judge_10 rfl rfl ?_
    refine v_iload_n C 2 dX4_judge_11 rfl rfl ?_
    obtain ⟨y7, hy7, hf⟩ := bnd hf
    refine v_callV (r := some (.int y7.1)) (As := [.int y1]) (rest := []) (K := 51) C (mX4_finds hL hy7) cw_X4_finds wd_725 (by decide) rfl rfl ⟨Nat.le_of_ble_eq_true rfl, Nat.le_of_ble_eq_true rfl⟩ rfl rfl (Nat.le_of_ble_eq_true rfl) dX4_judge_12 ?_
    exact v_iret C dX4_judge_15 (fin_im hf hQ)
theorem mX4_judge {B : BB} {l : Launch} {L : St2 → St2} {N : Nat} {x : St2} {v1 : Int32} {res : (Int32 × St2)} (hL : Ln 51 10 L) (hf : fX4_judge N x v1 = some res) : Ret l B yX4_judge cX4_judge 4 (some .int) 3 66 [.ref (ad B 51), .int v1] (L x) (some (.int res.1)) (L res.2) := ret_of (own := RX4) (by decide) rfl (Nat.le_of_ble_eq_true rfl) (fun E C hQ => tX4_judge C hL hQ hf)
def fX4_image (N : Nat) (x : St2) : Option (Int32 × St2) := (fX4_become N 1 2 x).bind fun y1 => (pfz y1 0 3 1).bind fun x2 => some (1, x2)
set_option maxHeartbeats 4000000 in
set_option maxRecDepth 100000 in
theorem tX4_image {E : EE} {B : BB} {l : Launch} {L : St2 → St2} {N : Nat} {x : St2} {res : (Int32 × St2)} (C : Cx E B l cX4_image RX4 (some .int) 1 1 22) (hL : Ln 51 10 L) (hQ : Fin9 E B (some (.int res.1)) (L res.2)) (hf : fX4_image N x = some res) : V E B (L x) 0 [(0, .ref (ad B 51))] [] := by
  unfold fX4_image at hf
  refine v_aload_n C 0 dX4_image_0 rfl rfl ?_
  refine g_getR (K := 51) (i := 0) (j := 51 + 1) C (by decide) rfl rfl inX4 (by decide) rfl wd_667 dX4_image_1 ?_
  refine v_aload_n C 0 dX4_image_4 rfl rfl ?_
  refine g_getR (K := 51) (i := 1) (j := 51 + 2) C (by decide) rfl rfl inX4 (by decide) rfl wd_668 dX4_image_5 ?_
  obtain ⟨y1, hy1, hf⟩ := bnd hf
  refine v_callS (r := none) (As := [.ref (ad B (51 + 1)), .ref (ad B (51 + 2))]) (rest := []) C (mX4_become hL mj1 mj2 hy1) cw_X4_become wd_872 ⟨Nat.le_of_ble_eq_true rfl, Nat.le_of_ble_eq_true rfl⟩ rfl rfl (Nat.le_of_ble_eq_true rfl) dX4_image_8 ?_
  refine v_aload_n C 0 dX4_image_11 rfl rfl ?_
  refine v_iconst (v := 1) C dX4_image_12 (by decide) ?_
  refine s_putZ (k := 0) (i := 3) C hL (by decide) rfl rfl inX4 tyX4 tyX4_ok nmX4 (by decide) rfl wd_670 rfl (by decide +kernel) dX4_image_13 hf (fun x2 hf => ?_)
  refine v_iconst (v := 1) C dX4_image_16 (by decide) ?_
  exact v_iret C dX4_image_17 (fin_im hf hQ)
theorem mX4_image {B : BB} {l : Launch} {L : St2 → St2} {N : Nat} {x : St2} {res : (Int32 × St2)} (hL : Ln 51 10 L) (hf : fX4_image N x = some res) : Ret l B yX4_image cX4_image 1 (some .int) 1 22 [.ref (ad B 51)] (L x) (some (.int res.1)) (L res.2) := ret_of (own := RX4) (by decide) rfl (Nat.le_of_ble_eq_true rfl) (fun E C hQ => tX4_image C hL hQ hf)
def fX4_undo (N : Nat) (x : St2) : Option (Int32 × St2) := if (x 0 3) = 0 then ((fX4_finds x 3).bind fun y3 => some (y3.1, y3.2)) else ((fX4_become N 2 1 x).bind fun y1 => (rd (y1 1) 135 0).bind fun a2 => some (a2, y1))
set_option maxHeartbeats 4000000 in
set_option maxRecDepth 100000 in
theorem tX4_undo {E : EE} {B : BB} {l : Launch} {L : St2 → St2} {N : Nat} {x : St2} {res : (Int32 × St2)} (C : Cx E B l cX4_undo RX4 (some .int) 1 1 22) (hL : Ln 51 10 L) (hQ : Fin9 E B (some (.int res.1)) (L res.2)) (hf : fX4_undo N x = some res) : V E B (L x) 0 [(0, .ref (ad B 51))] [] := by
  unfold fX4_undo at hf
  refine v_aload_n C 0 dX4_undo_0 rfl rfl ?_
  refine s_getI (k := 0) (i := 3) C hL (by decide) rfl rfl inX4 (by decide) rfl wd_670 dX4_undo_1 ?_
  refine v_if_ne (tgt := 13) C dX4_undo_4 (by decide) hf (fun hf => ?_) (fun hf => ?_)
  · refine v_aload_n C 0 dX4_undo_13 rfl rfl ?_
    refine g_getR (K := 51) (i := 1) (j := 51 + 2) C (by decide) rfl rfl inX4 (by decide) rfl wd_668 dX4_undo_14 ?_
    refine v_aload_n C 0 dX4_undo_17 rfl rfl ?_
    refine g_getR (K := 51) (i := 0) (j := 51 + 1) C (by decide) rfl rfl inX4 (by decide) rfl wd_667 dX4_undo_18 ?_
    obtain ⟨y1, hy1, hf⟩ := bnd hf
    refine v_callS (r := none) (As := [.ref (ad B (51 + 2)), .ref (ad B (51 + 1))]) (rest := []) C (mX4_become hL mj2 mj1 hy1) cw_X4_become wd_872 ⟨Nat.le_of_ble_eq_true rfl, Nat.le_of_ble_eq_true rfl⟩ rfl rfl (Nat.le_of_ble_eq_true rfl) dX4_undo_21 ?_
    refine v_aload_n C 0 dX4_undo_24 rfl rfl ?_
    refine g_getR (K := 51) (i := 0) (j := 51 + 1) C (by decide) rfl rfl inX4 (by decide) rfl wd_667 dX4_undo_25 ?_
    refine v_iconst (v := 0) C dX4_undo_28 (by decide) ?_
    refine s_ald (k := 1) C hL (by decide) rfl dX4_undo_29 hf (fun a2 hf => ?_)
    exact v_iret C dX4_undo_30 (fin_im hf hQ)
  · refine v_aload_n C 0 dX4_undo_7 rfl rfl ?_
    refine v_iconst (v := 3) C dX4_undo_8 (by decide) ?_
    obtain ⟨y3, hy3, hf⟩ := bnd hf
    refine v_callV (r := some (.int y3.1)) (As := [.int 3]) (rest := []) (K := 51) C (mX4_finds hL hy3) cw_X4_finds wd_725 (by decide) rfl rfl ⟨Nat.le_of_ble_eq_true rfl, Nat.le_of_ble_eq_true rfl⟩ rfl rfl (Nat.le_of_ble_eq_true rfl) dX4_undo_9 ?_
    exact v_iret C dX4_undo_12 (fin_im hf hQ)
theorem mX4_undo {B : BB} {l : Launch} {L : St2 → St2} {N : Nat} {x : St2} {res : (Int32 × St2)} (hL : Ln 51 10 L) (hf : fX4_undo N x = some res) : Ret l B yX4_undo cX4_undo 1 (some .int) 1 22 [.ref (ad B 51)] (L x) (some (.int res.1)) (L res.2) := ret_of (own := RX4) (by decide) rfl (Nat.le_of_ble_eq_true rfl) (fun E C hQ => tX4_undo C hL hQ hf)
def fX4_tear (x : St2) : Option (Int32 × St2) := if (x 0 3) = 0 then ((pfz x 0 3 0).bind fun x1 => some (0, x1)) else ((pfz x 0 3 0).bind fun x2 => some (1, x2))
set_option maxHeartbeats 4000000 in
set_option maxRecDepth 100000 in
theorem tX4_tear {E : EE} {B : BB} {l : Launch} {L : St2 → St2} {x : St2} {res : (Int32 × St2)} (C : Cx E B l cX4_tear RX4 (some .int) 2 0 0) (hL : Ln 51 10 L) (hQ : Fin9 E B (some (.int res.1)) (L res.2)) (hf : fX4_tear x = some res) : V E B (L x) 0 [(0, .ref (ad B 51))] [] := by
  unfold fX4_tear at hf
  refine v_aload_n C 0 dX4_tear_0 rfl rfl ?_
  refine s_getI (k := 0) (i := 3) C hL (by decide) rfl rfl inX4 (by decide) rfl wd_670 dX4_tear_1 ?_
  refine v_if_eq (tgt := 11) C dX4_tear_4 (by decide) hf (fun hf => ?_) (fun hf => ?_)
  · refine v_iconst (v := 0) C dX4_tear_11 (by decide) ?_
    refine v_istore_n (lv' := [(0, .ref (ad B 51)), (1, .int 0)]) C [1, 0] dX4_tear_12 rfl (by decide) rfl ?_
    refine v_aload_n C 0 dX4_tear_13 rfl rfl ?_
    refine v_iconst (v := 0) C dX4_tear_14 (by decide) ?_
    refine s_putZ (k := 0) (i := 3) C hL (by decide) rfl rfl inX4 tyX4 tyX4_ok nmX4 (by decide) rfl wd_670 rfl (by decide +kernel) dX4_tear_15 hf (fun x1 hf => ?_)
    refine v_iload_n C 1 dX4_tear_18 rfl rfl ?_
    exact v_iret C dX4_tear_19 (fin_im hf hQ)
  · refine v_iconst (v := 1) C dX4_tear_7 (by decide) ?_
    refine v_goto (tgt := 12) C dX4_tear_8 (by decide) ?_
    refine v_istore_n (lv' := [(0, .ref (ad B 51)), (1, .int 1)]) C [1, 0] dX4_tear_12 rfl (by decide) rfl ?_
    refine v_aload_n C 0 dX4_tear_13 rfl rfl ?_
    refine v_iconst (v := 0) C dX4_tear_14 (by decide) ?_
    refine s_putZ (k := 0) (i := 3) C hL (by decide) rfl rfl inX4 tyX4 tyX4_ok nmX4 (by decide) rfl wd_670 rfl (by decide +kernel) dX4_tear_15 hf (fun x2 hf => ?_)
    refine v_iload_n C 1 dX4_tear_18 rfl rfl ?_
    exact v_iret C dX4_tear_19 (fin_im hf hQ)
theorem mX4_tear {B : BB} {l : Launch} {L : St2 → St2} {x : St2} {res : (Int32 × St2)} (hL : Ln 51 10 L) (hf : fX4_tear x = some res) : Ret l B yX4_tear cX4_tear 2 (some .int) 0 0 [.ref (ad B 51)] (L x) (some (.int res.1)) (L res.2) := ret_of (own := RX4) (by decide) rfl (Nat.le_of_ble_eq_true rfl) (fun E C hQ => tX4_tear C hL hQ hf)
def fX4_held_28 (N : Nat) (k4 : Int32 → Int32 → Option Int32) (x : St2) (v2 : Int32) (s0 : Int32) (s1 : Int32) : Option Int32 := (some (s1 + s0)).bind fun w2 => k4 w2 (v2 + 1)
set_option maxHeartbeats 4000000 in
set_option maxRecDepth 100000 in
theorem tX4_held_28 {E : EE} {B : BB} {l : Launch} {L : St2 → St2} {N : Nat} {k4 : Int32 → Int32 → Option Int32} {x : St2} {v2 : Int32} {s0 : Int32} {s1 : Int32} {res : Int32} (C : Cx E B l cX4_held RX4 (some .int) 3 0 0) (hL : Ln 51 10 L) (hQ : Fin9 E B (some (.int res)) (L x)) (hk4 : ∀ (v1 : Int32) (v2 : Int32), k4 v1 v2 = some res → V E B (L x) 4 [(0, .ref (ad B 51)), (1, .int v1), (2, .int v2)] []) (hf : fX4_held_28 N k4 x v2 s0 s1 = some res) : V E B (L x) 28 [(0, .ref (ad B 51)), (2, .int v2)] [.int s0, .int s1] := by
  unfold fX4_held_28 at hf
  refine v_iadd C dX4_held_28 ?_
  refine v_top hf (fun w2 hf => ?_)
  refine v_istore_n (lv' := [(0, .ref (ad B 51)), (1, .int w2), (2, .int v2)]) C [1, 0, 2] dX4_held_29 rfl (by decide) rfl ?_
  refine v_iinc (q := 2) (v := v2 + 1) (lv' := [(0, .ref (ad B 51)), (1, .int w2), (2, .int (v2 + 1))]) C [1, 2, 0] dX4_held_30 rfl rfl (by decide) rfl ?_
  refine v_goto (tgt := 4) C dX4_held_33 (by decide) ?_
  exact hk4 w2 (v2 + 1) hf
def fX4_held_4 (N : Nat) (x : St2) : Nat → Int32 → Int32 → Option Int32
  | 0, _, _ => none
  | n + 1, v1, v2 => if 10 ≤ v2 then (some v1) else ((rd (x 1) 135 (125 + v2)).bind fun a1 => if 0 ≤ a1 then (fX4_held_28 N (fX4_held_4 N x n) x v2 1 v1) else (fX4_held_28 N (fX4_held_4 N x n) x v2 0 v1))
set_option maxHeartbeats 4000000 in
set_option maxRecDepth 100000 in
theorem tX4_held_4 {E : EE} {B : BB} {l : Launch} {L : St2 → St2} {N : Nat} {x : St2} {res : Int32} (C : Cx E B l cX4_held RX4 (some .int) 3 0 0) (hL : Ln 51 10 L) (hQ : Fin9 E B (some (.int res)) (L x)) : ∀ (n : Nat) (v1 : Int32) (v2 : Int32), fX4_held_4 N x n v1 v2 = some res → V E B (L x) 4 [(0, .ref (ad B 51)), (1, .int v1), (2, .int v2)] [] := by
  intro n
  induction n with
  | zero =>
    intro v1 v2 hf
    cases hf
  | succ n ih =>
    intro v1 v2 hf
    rw [fX4_held_4] at hf
    refine v_iload_n C 2 dX4_held_4 rfl rfl ?_
    refine v_bipush (v := 10) C dX4_held_5 (by decide) ?_
    refine v_icmp_ge (tgt := 36) C dX4_held_7 (by decide) hf (fun hf => ?_) (fun hf => ?_)
    · refine v_iload_n C 1 dX4_held_36 rfl rfl ?_
      exact v_iret C dX4_held_37 (fin_i hf hQ)
    · refine v_iload_n C 1 dX4_held_10 rfl rfl ?_
      refine v_aload_n C 0 dX4_held_11 rfl rfl ?_
      refine g_getR (K := 51) (i := 0) (j := 51 + 1) C (by decide) rfl rfl inX4 (by decide) rfl wd_667 dX4_held_12 ?_
      refine v_bipush (v := 125) C dX4_held_15 (by decide) ?_
      refine v_iload_n C 2 dX4_held_17 rfl rfl ?_
      refine v_iadd C dX4_held_18 ?_
      refine s_ald (k := 1) C hL (by decide) rfl dX4_held_19 hf (fun a1 hf => ?_)
      refine v_if_ge (tgt := 27) C dX4_held_20 (by decide) hf (fun hf => ?_) (fun hf => ?_)
      · refine v_iconst (v := 1) C dX4_held_27 (by decide) ?_
        refine v_sub [0, 2] rfl ?_
        exact tX4_held_28 C hL hQ ih hf
      · refine v_iconst (v := 0) C dX4_held_23 (by decide) ?_
        refine v_goto (tgt := 28) C dX4_held_24 (by decide) ?_
        refine v_sub [0, 2] rfl ?_
        exact tX4_held_28 C hL hQ ih hf
def fX4_held (N : Nat) (x : St2) : Option Int32 := fX4_held_4 N x N 0 0
set_option maxHeartbeats 4000000 in
set_option maxRecDepth 100000 in
theorem tX4_held {E : EE} {B : BB} {l : Launch} {L : St2 → St2} {N : Nat} {x : St2} {res : Int32} (C : Cx E B l cX4_held RX4 (some .int) 3 0 0) (hL : Ln 51 10 L) (hQ : Fin9 E B (some (.int res)) (L x)) (hf : fX4_held N x = some res) : V E B (L x) 0 [(0, .ref (ad B 51))] [] := by
  unfold fX4_held at hf
  refine v_iconst (v := 0) C dX4_held_0 (by decide) ?_
  refine v_istore_n (lv' := [(0, .ref (ad B 51)), (1, .int 0)]) C [1, 0] dX4_held_1 rfl (by decide) rfl ?_
  refine v_iconst (v := 0) C dX4_held_2 (by decide) ?_
  refine v_istore_n (lv' := [(0, .ref (ad B 51)), (1, .int 0), (2, .int 0)]) C [1, 2, 0] dX4_held_3 rfl (by decide) rfl ?_
  exact tX4_held_4 C hL hQ N 0 0 hf
theorem mX4_held {B : BB} {l : Launch} {L : St2 → St2} {N : Nat} {x : St2} {res : Int32} (hL : Ln 51 10 L) (hf : fX4_held N x = some res) : Ret l B yX4_held cX4_held 3 (some .int) 0 0 [.ref (ad B 51)] (L x) (some (.int res)) (L x) := ret_of (own := RX4) (by decide) rfl (Nat.le_of_ble_eq_true rfl) (fun E C hQ => tX4_held C hL hQ hf)
def fX4_count (N : Nat) (x : St2) (v1 : Int32) : Option (Int32 × St2) := if v1 = 0 then ((rd (x 1) 135 0).bind fun a1 => some (a1, x)) else (if v1 = 1 then ((rd (x 1) 135 2).bind fun a2 => some (a2, x)) else (if v1 = 2 then ((fX4_printed N x).bind fun y3 => (fX4_ones N y3).bind fun y4 => some (y4, x)) else (if v1 = 3 then ((rd (x 1) 135 4).bind fun a5 => some (a5, x)) else (if v1 = 4 then ((fX4_allSteps N x).bind fun y6 => some (y6, x)) else (if v1 = 5 then (some ((x 0 7), x)) else (if v1 = 6 then ((rd (x 1) 135 1).bind fun a7 => some (a7, x)) else (if v1 = 7 then ((fX4_held N x).bind fun y8 => some (y8, x)) else ((fX4_finds x 0).bind fun y9 => some (y9.1, y9.2)))))))))
set_option maxHeartbeats 4000000 in
set_option maxRecDepth 100000 in
theorem tX4_count {E : EE} {B : BB} {l : Launch} {L : St2 → St2} {N : Nat} {x : St2} {v1 : Int32} {res : (Int32 × St2)} (C : Cx E B l cX4_count RX4 (some .int) 2 2 44) (hL : Ln 51 10 L) (hQ : Fin9 E B (some (.int res.1)) (L res.2)) (hf : fX4_count N x v1 = some res) : V E B (L x) 0 [(0, .ref (ad B 51)), (1, .int v1)] [] := by
  unfold fX4_count at hf
  refine v_iload_n C 1 dX4_count_0 rfl rfl ?_
  by_cases hc1_0 : v1 = 0
  · rw [if_pos hc1_0] at hf
    refine v_tabIn (tgt := 48) C dX4_count_1 hc1_0 (by decide) (by decide) rfl (by decide) ?_
    refine v_aload_n C 0 dX4_count_48 rfl rfl ?_
    refine g_getR (K := 51) (i := 0) (j := 51 + 1) C (by decide) rfl rfl inX4 (by decide) rfl wd_667 dX4_count_49 ?_
    refine v_iconst (v := 0) C dX4_count_52 (by decide) ?_
    refine s_ald (k := 1) C hL (by decide) rfl dX4_count_53 hf (fun a1 hf => ?_)
    exact v_iret C dX4_count_54 (fin_im hf hQ)
  · rw [if_neg hc1_0] at hf
    by_cases hc1_1 : v1 = 1
    · rw [if_pos hc1_1] at hf
      refine v_tabIn (tgt := 55) C dX4_count_1 hc1_1 (by decide) (by decide) rfl (by decide) ?_
      refine v_aload_n C 0 dX4_count_55 rfl rfl ?_
      refine g_getR (K := 51) (i := 0) (j := 51 + 1) C (by decide) rfl rfl inX4 (by decide) rfl wd_667 dX4_count_56 ?_
      refine v_iconst (v := 2) C dX4_count_59 (by decide) ?_
      refine s_ald (k := 1) C hL (by decide) rfl dX4_count_60 hf (fun a2 hf => ?_)
      exact v_iret C dX4_count_61 (fin_im hf hQ)
    · rw [if_neg hc1_1] at hf
      by_cases hc1_2 : v1 = 2
      · rw [if_pos hc1_2] at hf
        refine v_tabIn (tgt := 62) C dX4_count_1 hc1_2 (by decide) (by decide) rfl (by decide) ?_
        refine v_aload_n C 0 dX4_count_62 rfl rfl ?_
        obtain ⟨y3, hy3, hf⟩ := bnd hf
        refine v_callV (r := some (.int y3)) (As := []) (rest := []) (K := 51) C (mX4_printed hL hy3) cw_X4_printed wd_832 (by decide) rfl rfl ⟨Nat.le_of_ble_eq_true rfl, Nat.le_of_ble_eq_true rfl⟩ rfl rfl (Nat.le_of_ble_eq_true rfl) dX4_count_63 ?_
        obtain ⟨y4, hy4, hf⟩ := bnd hf
        refine v_callS (r := some (.int y4)) (As := [.int y3]) (rest := []) C (mX4_ones  hy4) cw_X4_ones wd_836 ⟨Nat.le_of_ble_eq_true rfl, Nat.le_of_ble_eq_true rfl⟩ rfl rfl (Nat.le_of_ble_eq_true rfl) dX4_count_66 ?_
        exact v_iret C dX4_count_69 (fin_im hf hQ)
      · rw [if_neg hc1_2] at hf
        by_cases hc1_3 : v1 = 3
        · rw [if_pos hc1_3] at hf
          refine v_tabIn (tgt := 70) C dX4_count_1 hc1_3 (by decide) (by decide) rfl (by decide) ?_
          refine v_aload_n C 0 dX4_count_70 rfl rfl ?_
          refine g_getR (K := 51) (i := 0) (j := 51 + 1) C (by decide) rfl rfl inX4 (by decide) rfl wd_667 dX4_count_71 ?_
          refine v_iconst (v := 4) C dX4_count_74 (by decide) ?_
          refine s_ald (k := 1) C hL (by decide) rfl dX4_count_75 hf (fun a5 hf => ?_)
          exact v_iret C dX4_count_76 (fin_im hf hQ)
        · rw [if_neg hc1_3] at hf
          by_cases hc1_4 : v1 = 4
          · rw [if_pos hc1_4] at hf
            refine v_tabIn (tgt := 77) C dX4_count_1 hc1_4 (by decide) (by decide) rfl (by decide) ?_
            refine v_aload_n C 0 dX4_count_77 rfl rfl ?_
            obtain ⟨y6, hy6, hf⟩ := bnd hf
            refine v_callV (r := some (.int y6)) (As := []) (rest := []) (K := 51) C (mX4_allSteps hL hy6) cw_X4_allSteps wd_851 (by decide) rfl rfl ⟨Nat.le_of_ble_eq_true rfl, Nat.le_of_ble_eq_true rfl⟩ rfl rfl (Nat.le_of_ble_eq_true rfl) dX4_count_78 ?_
            exact v_iret C dX4_count_81 (fin_im hf hQ)
          · rw [if_neg hc1_4] at hf
            by_cases hc1_5 : v1 = 5
            · rw [if_pos hc1_5] at hf
              refine v_tabIn (tgt := 82) C dX4_count_1 hc1_5 (by decide) (by decide) rfl (by decide) ?_
              refine v_aload_n C 0 dX4_count_82 rfl rfl ?_
              refine s_getI (k := 0) (i := 7) C hL (by decide) rfl rfl inX4 (by decide) rfl wd_674 dX4_count_83 ?_
              exact v_iret C dX4_count_86 (fin_im hf hQ)
            · rw [if_neg hc1_5] at hf
              by_cases hc1_6 : v1 = 6
              · rw [if_pos hc1_6] at hf
                refine v_tabIn (tgt := 87) C dX4_count_1 hc1_6 (by decide) (by decide) rfl (by decide) ?_
                refine v_aload_n C 0 dX4_count_87 rfl rfl ?_
                refine g_getR (K := 51) (i := 0) (j := 51 + 1) C (by decide) rfl rfl inX4 (by decide) rfl wd_667 dX4_count_88 ?_
                refine v_iconst (v := 1) C dX4_count_91 (by decide) ?_
                refine s_ald (k := 1) C hL (by decide) rfl dX4_count_92 hf (fun a7 hf => ?_)
                exact v_iret C dX4_count_93 (fin_im hf hQ)
              · rw [if_neg hc1_6] at hf
                by_cases hc1_7 : v1 = 7
                · rw [if_pos hc1_7] at hf
                  refine v_tabIn (tgt := 94) C dX4_count_1 hc1_7 (by decide) (by decide) rfl (by decide) ?_
                  refine v_aload_n C 0 dX4_count_94 rfl rfl ?_
                  obtain ⟨y8, hy8, hf⟩ := bnd hf
                  refine v_callV (r := some (.int y8)) (As := []) (rest := []) (K := 51) C (mX4_held hL hy8) cw_X4_held wd_1120 (by decide) rfl rfl ⟨Nat.le_of_ble_eq_true rfl, Nat.le_of_ble_eq_true rfl⟩ rfl rfl (Nat.le_of_ble_eq_true rfl) dX4_count_95 ?_
                  exact v_iret C dX4_count_98 (fin_im hf hQ)
                · rw [if_neg hc1_7] at hf
                  have e1_0 : v1.toInt ≠ 0 := ne_ti (y := 0) hc1_0
                  have e1_1 : v1.toInt ≠ 1 := ne_ti (y := 1) hc1_1
                  have e1_2 : v1.toInt ≠ 2 := ne_ti (y := 2) hc1_2
                  have e1_3 : v1.toInt ≠ 3 := ne_ti (y := 3) hc1_3
                  have e1_4 : v1.toInt ≠ 4 := ne_ti (y := 4) hc1_4
                  have e1_5 : v1.toInt ≠ 5 := ne_ti (y := 5) hc1_5
                  have e1_6 : v1.toInt ≠ 6 := ne_ti (y := 6) hc1_6
                  have e1_7 : v1.toInt ≠ 7 := ne_ti (y := 7) hc1_7
                  refine v_tabOut (tgt := 99) C dX4_count_1 (by omega) (by decide) ?_
                  refine v_aload_n C 0 dX4_count_99 rfl rfl ?_
                  refine v_iconst (v := 0) C dX4_count_100 (by decide) ?_
                  obtain ⟨y9, hy9, hf⟩ := bnd hf
                  refine v_callV (r := some (.int y9.1)) (As := [.int 0]) (rest := []) (K := 51) C (mX4_finds hL hy9) cw_X4_finds wd_725 (by decide) rfl rfl ⟨Nat.le_of_ble_eq_true rfl, Nat.le_of_ble_eq_true rfl⟩ rfl rfl (Nat.le_of_ble_eq_true rfl) dX4_count_101 ?_
                  exact v_iret C dX4_count_104 (fin_im hf hQ)
theorem mX4_count {B : BB} {l : Launch} {L : St2 → St2} {N : Nat} {x : St2} {v1 : Int32} {res : (Int32 × St2)} (hL : Ln 51 10 L) (hf : fX4_count N x v1 = some res) : Ret l B yX4_count cX4_count 2 (some .int) 2 44 [.ref (ad B 51), .int v1] (L x) (some (.int res.1)) (L res.2) := ret_of (own := RX4) (by decide) rfl (Nat.le_of_ble_eq_true rfl) (fun E C hQ => tX4_count C hL hQ hf)
def fX4_status_50 (N : Nat) (k24 : Int32 → Int32 → Option (Int32 × St2)) (x : St2) (v1 : Int32) (v3 : Int32) (s0 : Int32) (s1 : Int32) : Option (Int32 × St2) := (some (s1 + s0)).bind fun w3 => k24 w3 (v3 + 1)
set_option maxHeartbeats 4000000 in
set_option maxRecDepth 100000 in
theorem tX4_status_50 {E : EE} {B : BB} {l : Launch} {L : St2 → St2} {N : Nat} {k24 : Int32 → Int32 → Option (Int32 × St2)} {x : St2} {v1 : Int32} {v3 : Int32} {s0 : Int32} {s1 : Int32} {res : (Int32 × St2)} (C : Cx E B l cX4_status RX4 (some .int) 4 1 25) (hL : Ln 51 10 L) (hQ : Fin9 E B (some (.int res.1)) (L res.2)) (hk24 : ∀ (v2 : Int32) (v3 : Int32), k24 v2 v3 = some res → V E B (L x) 24 [(0, .ref (ad B 51)), (1, .int v1), (2, .int v2), (3, .int v3)] []) (hf : fX4_status_50 N k24 x v1 v3 s0 s1 = some res) : V E B (L x) 50 [(0, .ref (ad B 51)), (1, .int v1), (3, .int v3)] [.int s0, .int s1] := by
  unfold fX4_status_50 at hf
  refine v_iadd C dX4_status_50 ?_
  refine v_top hf (fun w3 hf => ?_)
  refine v_istore_n (lv' := [(0, .ref (ad B 51)), (1, .int v1), (2, .int w3), (3, .int v3)]) C [1, 2, 0, 3] dX4_status_51 rfl (by decide) rfl ?_
  refine v_iinc (q := 3) (v := v3 + 1) (lv' := [(0, .ref (ad B 51)), (1, .int v1), (2, .int w3), (3, .int (v3 + 1))]) C [1, 2, 3, 0] dX4_status_52 rfl rfl (by decide) rfl ?_
  refine v_goto (tgt := 24) C dX4_status_55 (by decide) ?_
  exact hk24 w3 (v3 + 1) hf
def fX4_status_40 (N : Nat) (k24 : Int32 → Int32 → Option (Int32 × St2)) (x : St2) (v1 : Int32) (v3 : Int32) (s0 : Int32) : Option (Int32 × St2) := (rd (x 4) 7 v3).bind fun a2 => fX4_status_50 N k24 x v1 v3 a2 s0
set_option maxHeartbeats 4000000 in
set_option maxRecDepth 100000 in
theorem tX4_status_40 {E : EE} {B : BB} {l : Launch} {L : St2 → St2} {N : Nat} {k24 : Int32 → Int32 → Option (Int32 × St2)} {x : St2} {v1 : Int32} {v3 : Int32} {s0 : Int32} {res : (Int32 × St2)} (C : Cx E B l cX4_status RX4 (some .int) 4 1 25) (hL : Ln 51 10 L) (hQ : Fin9 E B (some (.int res.1)) (L res.2)) (hk24 : ∀ (v2 : Int32) (v3 : Int32), k24 v2 v3 = some res → V E B (L x) 24 [(0, .ref (ad B 51)), (1, .int v1), (2, .int v2), (3, .int v3)] []) (hf : fX4_status_40 N k24 x v1 v3 s0 = some res) : V E B (L x) 40 [(0, .ref (ad B 51)), (1, .int v1), (3, .int v3)] [.int s0] := by
  unfold fX4_status_40 at hf
  refine v_aload_n C 0 dX4_status_40 rfl rfl ?_
  refine g_getR (K := 51) (i := 4) (j := 51 + 4) C (by decide) rfl rfl inX4 (by decide) rfl wd_671 dX4_status_41 ?_
  refine v_iload_n C 2 dX4_status_44 rfl rfl ?_
  refine s_ald (k := 4) C hL (by decide) rfl dX4_status_45 hf (fun a2 hf => ?_)
  refine v_goto (tgt := 50) C dX4_status_46 (by decide) ?_
  exact tX4_status_50 C hL hQ hk24 hf
def fX4_status_24 (N : Nat) (x : St2) (v1 : Int32) : Nat → Int32 → Int32 → Option (Int32 × St2)
  | 0, _, _ => none
  | n + 1, v2, v3 => if 7 ≤ v3 then (some (v2, x)) else (if v1 < 0 then (fX4_status_40 N (fX4_status_24 N x v1 n) x v1 v3 v2) else (if v1 = v3 then (fX4_status_40 N (fX4_status_24 N x v1 n) x v1 v3 v2) else (fX4_status_50 N (fX4_status_24 N x v1 n) x v1 v3 0 v2)))
set_option maxHeartbeats 4000000 in
set_option maxRecDepth 100000 in
theorem tX4_status_24 {E : EE} {B : BB} {l : Launch} {L : St2 → St2} {N : Nat} {x : St2} {v1 : Int32} {res : (Int32 × St2)} (C : Cx E B l cX4_status RX4 (some .int) 4 1 25) (hL : Ln 51 10 L) (hQ : Fin9 E B (some (.int res.1)) (L res.2)) : ∀ (n : Nat) (v2 : Int32) (v3 : Int32), fX4_status_24 N x v1 n v2 v3 = some res → V E B (L x) 24 [(0, .ref (ad B 51)), (1, .int v1), (2, .int v2), (3, .int v3)] [] := by
  intro n
  induction n with
  | zero =>
    intro v2 v3 hf
    cases hf
  | succ n ih =>
    intro v2 v3 hf
    rw [fX4_status_24] at hf
    refine v_iload_n C 3 dX4_status_24 rfl rfl ?_
    refine v_bipush (v := 7) C dX4_status_25 (by decide) ?_
    refine v_icmp_ge (tgt := 58) C dX4_status_27 (by decide) hf (fun hf => ?_) (fun hf => ?_)
    · refine v_iload_n C 2 dX4_status_58 rfl rfl ?_
      exact v_iret C dX4_status_59 (fin_im hf hQ)
    · refine v_iload_n C 2 dX4_status_30 rfl rfl ?_
      refine v_iload_n C 1 dX4_status_31 rfl rfl ?_
      refine v_if_lt (tgt := 40) C dX4_status_32 (by decide) hf (fun hf => ?_) (fun hf => ?_)
      · refine v_sub [0, 1, 3] rfl ?_
        exact tX4_status_40 C hL hQ ih hf
      · refine v_iload_n C 1 dX4_status_35 rfl rfl ?_
        refine v_iload_n C 3 dX4_status_36 rfl rfl ?_
        refine v_icmp_ne (tgt := 49) C dX4_status_37 (by decide) hf (fun hf => ?_) (fun hf => ?_)
        · refine v_iconst (v := 0) C dX4_status_49 (by decide) ?_
          refine v_sub [0, 1, 3] rfl ?_
          exact tX4_status_50 C hL hQ ih hf
        · refine v_sub [0, 1, 3] rfl ?_
          exact tX4_status_40 C hL hQ ih hf
def fX4_status (N : Nat) (x : St2) (v1 : Int32) : Option (Int32 × St2) := (fX4_in v1.toInt64 (-1) 6).bind fun y1 => if y1 = 0 then ((fX4_finds x 0).bind fun y5 => some (y5.1, y5.2)) else (fX4_status_24 N x v1 N 0 0)
set_option maxHeartbeats 4000000 in
set_option maxRecDepth 100000 in
theorem tX4_status {E : EE} {B : BB} {l : Launch} {L : St2 → St2} {N : Nat} {x : St2} {v1 : Int32} {res : (Int32 × St2)} (C : Cx E B l cX4_status RX4 (some .int) 4 1 25) (hL : Ln 51 10 L) (hQ : Fin9 E B (some (.int res.1)) (L res.2)) (hf : fX4_status N x v1 = some res) : V E B (L x) 0 [(0, .ref (ad B 51)), (1, .int v1)] [] := by
  unfold fX4_status at hf
  refine v_iload_n C 1 dX4_status_0 rfl rfl ?_
  refine v_i2l C dX4_status_1 ?_
  refine v_ldc2 C wd_1128 dX4_status_2 ?_
  refine v_ldc2 C wd_775 dX4_status_5 ?_
  obtain ⟨y1, hy1, hf⟩ := bnd hf
  refine v_callS (r := some (.int y1)) (As := [.long v1.toInt64, .long (-1), .long 6]) (rest := []) C (mX4_in  hy1) cw_X4_in wd_721 ⟨Nat.le_of_ble_eq_true rfl, Nat.le_of_ble_eq_true rfl⟩ rfl rfl (Nat.le_of_ble_eq_true rfl) dX4_status_8 ?_
  refine v_if_ne (tgt := 20) C dX4_status_11 (by decide) hf (fun hf => ?_) (fun hf => ?_)
  · refine v_iconst (v := 0) C dX4_status_20 (by decide) ?_
    refine v_istore_n (lv' := [(0, .ref (ad B 51)), (1, .int v1), (2, .int 0)]) C [1, 2, 0] dX4_status_21 rfl (by decide) rfl ?_
    refine v_iconst (v := 0) C dX4_status_22 (by decide) ?_
    refine v_istore_n (lv' := [(0, .ref (ad B 51)), (1, .int v1), (2, .int 0), (3, .int 0)]) C [1, 2, 3, 0] dX4_status_23 rfl (by decide) rfl ?_
    exact tX4_status_24 C hL hQ N 0 0 hf
  · refine v_aload_n C 0 dX4_status_14 rfl rfl ?_
    refine v_iconst (v := 0) C dX4_status_15 (by decide) ?_
    obtain ⟨y5, hy5, hf⟩ := bnd hf
    refine v_callV (r := some (.int y5.1)) (As := [.int 0]) (rest := []) (K := 51) C (mX4_finds hL hy5) cw_X4_finds wd_725 (by decide) rfl rfl ⟨Nat.le_of_ble_eq_true rfl, Nat.le_of_ble_eq_true rfl⟩ rfl rfl (Nat.le_of_ble_eq_true rfl) dX4_status_16 ?_
    exact v_iret C dX4_status_19 (fin_im hf hQ)
theorem mX4_status {B : BB} {l : Launch} {L : St2 → St2} {N : Nat} {x : St2} {v1 : Int32} {res : (Int32 × St2)} (hL : Ln 51 10 L) (hf : fX4_status N x v1 = some res) : Ret l B yX4_status cX4_status 4 (some .int) 1 25 [.ref (ad B 51), .int v1] (L x) (some (.int res.1)) (L res.2) := ret_of (own := RX4) (by decide) rfl (Nat.le_of_ble_eq_true rfl) (fun E C hQ => tX4_status C hL hQ hf)
