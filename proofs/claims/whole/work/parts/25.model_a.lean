def fX4_in (v0 : Int64) (v2 : Int64) (v4 : Int64) : Option Int32 := if (lg_cmp v0 v2) < 0 then (some 0) else (if 0 < (lg_cmp v0 v4) then (some 0) else (some 1))
set_option maxHeartbeats 4000000 in
set_option maxRecDepth 100000 in
theorem tX4_in {E : EE} {B : BB} {l : Launch} {σ : St2} {v0 : Int64} {v2 : Int64} {v4 : Int64} {res : Int32} (C : Cx E B l cX4_in RX4 (some .boolean) 6 0 0) (hQ : Fin9 E B (some (.int res)) σ) (hf : fX4_in v0 v2 v4 = some res) : V E B σ 0 [(0, .long v0), (2, .long v2), (4, .long v4)] [] := by
  unfold fX4_in at hf
  refine v_lload_n C 0 dX4_in_0 rfl rfl ?_
  refine v_lload_n C 1 dX4_in_1 rfl rfl ?_
  refine v_lcmp C dX4_in_2 ?_
  refine v_if_lt (tgt := 17) C dX4_in_3 (by decide) hf (fun hf => ?_) (fun hf => ?_)
  · refine v_iconst (v := 0) C dX4_in_17 (by decide) ?_
    exact v_zret C (Or.inl rfl) dX4_in_18 (fin_i hf hQ)
  · refine v_lload_n C 0 dX4_in_6 rfl rfl ?_
    refine v_lload C 2 dX4_in_7 rfl ?_
    refine v_lcmp C dX4_in_9 ?_
    refine v_if_gt (tgt := 17) C dX4_in_10 (by decide) hf (fun hf => ?_) (fun hf => ?_)
    · refine v_iconst (v := 0) C dX4_in_17 (by decide) ?_
      exact v_zret C (Or.inl rfl) dX4_in_18 (fin_i hf hQ)
    · refine v_iconst (v := 1) C dX4_in_13 (by decide) ?_
      refine v_goto (tgt := 18) C dX4_in_14 (by decide) ?_
      exact v_zret C (Or.inr rfl) dX4_in_18 (fin_i hf hQ)
theorem mX4_in {B : BB} {l : Launch} {σ : St2} {v0 : Int64} {v2 : Int64} {v4 : Int64} {res : Int32} (hf : fX4_in v0 v2 v4 = some res) : Ret l B yX4_in cX4_in 6 (some .boolean) 0 0 [.long v0, .long v2, .long v4] σ (some (.int res)) σ := ret_of (own := RX4) (by decide) rfl (Nat.le_of_ble_eq_true rfl) (fun E C hQ => tX4_in C hQ hf)
def fX4_isCell (v0 : Int32) : Option Int32 := (fX4_in v0.toInt64 0 23).bind fun y1 => (bz y1).bind fun w2 => some w2
set_option maxHeartbeats 4000000 in
set_option maxRecDepth 100000 in
theorem tX4_isCell {E : EE} {B : BB} {l : Launch} {σ : St2} {v0 : Int32} {res : Int32} (C : Cx E B l cX4_isCell RX4 (some .boolean) 1 1 25) (hQ : Fin9 E B (some (.int res)) σ) (hf : fX4_isCell v0 = some res) : V E B σ 0 [(0, .int v0)] [] := by
  unfold fX4_isCell at hf
  refine v_iload_n C 0 dX4_isCell_0 rfl rfl ?_
  refine v_i2l C dX4_isCell_1 ?_
  refine v_lconst (v := 0) C dX4_isCell_2 (by decide) ?_
  refine v_ldc2 C wd_720 dX4_isCell_3 ?_
  obtain ⟨y1, hy1, hf⟩ := bnd hf
  refine v_callS (r := some (.int y1)) (As := [.long v0.toInt64, .long 0, .long 23]) (rest := []) C (mX4_in  hy1) cw_X4_in wd_721 ⟨Nat.le_of_ble_eq_true rfl, Nat.le_of_ble_eq_true rfl⟩ rfl rfl (Nat.le_of_ble_eq_true rfl) dX4_isCell_6 ?_
  obtain ⟨hz, hf⟩ := bz_b hf
  exact v_zret C hz dX4_isCell_9 (fin_i hf hQ)
theorem mX4_isCell {B : BB} {l : Launch} {σ : St2} {v0 : Int32} {res : Int32} (hf : fX4_isCell v0 = some res) : Ret l B yX4_isCell cX4_isCell 1 (some .boolean) 1 25 [.int v0] σ (some (.int res)) σ := ret_of (own := RX4) (by decide) rfl (Nat.le_of_ble_eq_true rfl) (fun E C hQ => tX4_isCell C hQ hf)
def fX4_ones_4 (N : Nat) (v0 : Int32) : Nat → Int32 → Int32 → Option Int32
  | 0, _, _ => none
  | n + 1, v1, v2 => if 24 ≤ v2 then (some v1) else ((some (v1 + ((v0 >>> (v2 &&& 31)) &&& 1))).bind fun w1 => (fX4_ones_4 N v0 n) w1 (v2 + 1))
set_option maxHeartbeats 4000000 in
set_option maxRecDepth 100000 in
theorem tX4_ones_4 {E : EE} {B : BB} {l : Launch} {σ : St2} {N : Nat} {v0 : Int32} {res : Int32} (C : Cx E B l cX4_ones RX4 (some .int) 3 0 0) (hQ : Fin9 E B (some (.int res)) σ) : ∀ (n : Nat) (v1 : Int32) (v2 : Int32), fX4_ones_4 N v0 n v1 v2 = some res → V E B σ 4 [(0, .int v0), (1, .int v1), (2, .int v2)] [] := by
  intro n
  induction n with
  | zero =>
    intro v1 v2 hf
    cases hf
  | succ n ih =>
    intro v1 v2 hf
    rw [fX4_ones_4] at hf
    refine v_iload_n C 2 dX4_ones_4 rfl rfl ?_
    refine v_bipush (v := 24) C dX4_ones_5 (by decide) ?_
    refine v_icmp_ge (tgt := 24) C dX4_ones_7 (by decide) hf (fun hf => ?_) (fun hf => ?_)
    · refine v_iload_n C 1 dX4_ones_24 rfl rfl ?_
      exact v_iret C dX4_ones_25 (fin_i hf hQ)
    · refine v_iload_n C 1 dX4_ones_10 rfl rfl ?_
      refine v_iload_n C 0 dX4_ones_11 rfl rfl ?_
      refine v_iload_n C 2 dX4_ones_12 rfl rfl ?_
      refine v_ishr C dX4_ones_13 ?_
      refine v_iconst (v := 1) C dX4_ones_14 (by decide) ?_
      refine v_iand C dX4_ones_15 ?_
      refine v_iadd C dX4_ones_16 ?_
      refine v_top hf (fun w1 hf => ?_)
      refine v_istore_n (lv' := [(0, .int v0), (1, .int w1), (2, .int v2)]) C [1, 0, 2] dX4_ones_17 rfl (by decide) rfl ?_
      refine v_iinc (q := 2) (v := v2 + 1) (lv' := [(0, .int v0), (1, .int w1), (2, .int (v2 + 1))]) C [1, 2, 0] dX4_ones_18 rfl rfl (by decide) rfl ?_
      refine v_goto (tgt := 4) C dX4_ones_21 (by decide) ?_
      exact ih w1 (v2 + 1) hf
def fX4_ones (N : Nat) (v0 : Int32) : Option Int32 := fX4_ones_4 N v0 N 0 0
set_option maxHeartbeats 4000000 in
set_option maxRecDepth 100000 in
theorem tX4_ones {E : EE} {B : BB} {l : Launch} {σ : St2} {N : Nat} {v0 : Int32} {res : Int32} (C : Cx E B l cX4_ones RX4 (some .int) 3 0 0) (hQ : Fin9 E B (some (.int res)) σ) (hf : fX4_ones N v0 = some res) : V E B σ 0 [(0, .int v0)] [] := by
  unfold fX4_ones at hf
  refine v_iconst (v := 0) C dX4_ones_0 (by decide) ?_
  refine v_istore_n (lv' := [(0, .int v0), (1, .int 0)]) C [1, 0] dX4_ones_1 rfl (by decide) rfl ?_
  refine v_iconst (v := 0) C dX4_ones_2 (by decide) ?_
  refine v_istore_n (lv' := [(0, .int v0), (1, .int 0), (2, .int 0)]) C [1, 2, 0] dX4_ones_3 rfl (by decide) rfl ?_
  exact tX4_ones_4 C hQ N 0 0 hf
theorem mX4_ones {B : BB} {l : Launch} {σ : St2} {N : Nat} {v0 : Int32} {res : Int32} (hf : fX4_ones N v0 = some res) : Ret l B yX4_ones cX4_ones 3 (some .int) 0 0 [.int v0] σ (some (.int res)) σ := ret_of (own := RX4) (by decide) rfl (Nat.le_of_ble_eq_true rfl) (fun E C hQ => tX4_ones C hQ hf)
def fX4_aboveOf (v0 : Int32) : Option Int32 := if v0 = 3 then (some 2) else (if v0 = 4 then (some 3) else (if v0 = 6 then (some 1) else (some 0)))
set_option maxHeartbeats 4000000 in
set_option maxRecDepth 100000 in
theorem tX4_aboveOf {E : EE} {B : BB} {l : Launch} {σ : St2} {v0 : Int32} {res : Int32} (C : Cx E B l cX4_aboveOf RX4 (some .int) 1 0 0) (hQ : Fin9 E B (some (.int res)) σ) (hf : fX4_aboveOf v0 = some res) : V E B σ 0 [(0, .int v0)] [] := by
  unfold fX4_aboveOf at hf
  refine v_iload_n C 0 dX4_aboveOf_0 rfl rfl ?_
  refine v_iconst (v := 3) C dX4_aboveOf_1 (by decide) ?_
  refine v_icmp_ne (tgt := 9) C dX4_aboveOf_2 (by decide) hf (fun hf => ?_) (fun hf => ?_)
  · refine v_iload_n C 0 dX4_aboveOf_9 rfl rfl ?_
    refine v_iconst (v := 4) C dX4_aboveOf_10 (by decide) ?_
    refine v_icmp_ne (tgt := 18) C dX4_aboveOf_11 (by decide) hf (fun hf => ?_) (fun hf => ?_)
    · refine v_iload_n C 0 dX4_aboveOf_18 rfl rfl ?_
      refine v_bipush (v := 6) C dX4_aboveOf_19 (by decide) ?_
      refine v_icmp_ne (tgt := 28) C dX4_aboveOf_21 (by decide) hf (fun hf => ?_) (fun hf => ?_)
      · refine v_iconst (v := 0) C dX4_aboveOf_28 (by decide) ?_
        exact v_iret C dX4_aboveOf_29 (fin_i hf hQ)
      · refine v_iconst (v := 1) C dX4_aboveOf_24 (by decide) ?_
        refine v_goto (tgt := 29) C dX4_aboveOf_25 (by decide) ?_
        exact v_iret C dX4_aboveOf_29 (fin_i hf hQ)
    · refine v_iconst (v := 3) C dX4_aboveOf_14 (by decide) ?_
      refine v_goto (tgt := 29) C dX4_aboveOf_15 (by decide) ?_
      exact v_iret C dX4_aboveOf_29 (fin_i hf hQ)
  · refine v_iconst (v := 2) C dX4_aboveOf_5 (by decide) ?_
    refine v_goto (tgt := 29) C dX4_aboveOf_6 (by decide) ?_
    exact v_iret C dX4_aboveOf_29 (fin_i hf hQ)
theorem mX4_aboveOf {B : BB} {l : Launch} {σ : St2} {v0 : Int32} {res : Int32} (hf : fX4_aboveOf v0 = some res) : Ret l B yX4_aboveOf cX4_aboveOf 1 (some .int) 0 0 [.int v0] σ (some (.int res)) σ := ret_of (own := RX4) (by decide) rfl (Nat.le_of_ble_eq_true rfl) (fun E C hQ => tX4_aboveOf C hQ hf)
def fX4_isUnder_19 (N : Nat) (v1 : Int32) (v2 : Int32) : Option Int32 := if v2 = v1 then (some 1) else (some 0)
set_option maxHeartbeats 4000000 in
set_option maxRecDepth 100000 in
theorem tX4_isUnder_19 {E : EE} {B : BB} {l : Launch} {σ : St2} {N : Nat} {v1 : Int32} {v2 : Int32} {res : Int32} (C : Cx E B l cX4_isUnder RX4 (some .boolean) 3 1 20) (hQ : Fin9 E B (some (.int res)) σ) (hf : fX4_isUnder_19 N v1 v2 = some res) : V E B σ 19 [(1, .int v1), (2, .int v2)] [] := by
  unfold fX4_isUnder_19 at hf
  refine v_iload_n C 1 dX4_isUnder_19 rfl rfl ?_
  refine v_iload_n C 0 dX4_isUnder_20 rfl rfl ?_
  refine v_icmp_ne (tgt := 28) C dX4_isUnder_21 (by decide) hf (fun hf => ?_) (fun hf => ?_)
  · refine v_iconst (v := 0) C dX4_isUnder_28 (by decide) ?_
    exact v_zret C (Or.inl rfl) dX4_isUnder_29 (fin_i hf hQ)
  · refine v_iconst (v := 1) C dX4_isUnder_24 (by decide) ?_
    refine v_goto (tgt := 29) C dX4_isUnder_25 (by decide) ?_
    exact v_zret C (Or.inr rfl) dX4_isUnder_29 (fin_i hf hQ)
def fX4_isUnder_2 (N : Nat) (v1 : Int32) : Nat → Int32 → Option Int32
  | 0, _ => none
  | n + 1, v2 => if v2 = 0 then (fX4_isUnder_19 N v1 v2) else (if v2 = v1 then (fX4_isUnder_19 N v1 v2) else ((fX4_aboveOf v2).bind fun y1 => (fX4_isUnder_2 N v1 n) y1))
set_option maxHeartbeats 4000000 in
set_option maxRecDepth 100000 in
theorem tX4_isUnder_2 {E : EE} {B : BB} {l : Launch} {σ : St2} {N : Nat} {v1 : Int32} {res : Int32} (C : Cx E B l cX4_isUnder RX4 (some .boolean) 3 1 20) (hQ : Fin9 E B (some (.int res)) σ) : ∀ (n : Nat) (v2 : Int32), fX4_isUnder_2 N v1 n v2 = some res → V E B σ 2 [(1, .int v1), (2, .int v2)] [] := by
  intro n
  induction n with
  | zero =>
    intro v2 hf
    cases hf
  | succ n ih =>
    intro v2 hf
    rw [fX4_isUnder_2] at hf
    refine v_iload_n C 1 dX4_isUnder_2 rfl rfl ?_
    refine v_if_eq (tgt := 19) C dX4_isUnder_3 (by decide) hf (fun hf => ?_) (fun hf => ?_)
    · exact tX4_isUnder_19 C hQ hf
    · refine v_iload_n C 1 dX4_isUnder_6 rfl rfl ?_
      refine v_iload_n C 0 dX4_isUnder_7 rfl rfl ?_
      refine v_icmp_eq (tgt := 19) C dX4_isUnder_8 (by decide) hf (fun hf => ?_) (fun hf => ?_)
      · exact tX4_isUnder_19 C hQ hf
      · refine v_iload_n C 1 dX4_isUnder_11 rfl rfl ?_
        obtain ⟨y1, hy1, hf⟩ := bnd hf
        refine v_callS (r := some (.int y1)) (As := [.int v2]) (rest := []) C (mX4_aboveOf  hy1) cw_X4_aboveOf wd_1081 ⟨Nat.le_of_ble_eq_true rfl, Nat.le_of_ble_eq_true rfl⟩ rfl rfl (Nat.le_of_ble_eq_true rfl) dX4_isUnder_12 ?_
        refine v_istore_n (lv' := [(1, .int v1), (2, .int y1)]) C [1, 0] dX4_isUnder_15 rfl (by decide) rfl ?_
        refine v_goto (tgt := 2) C dX4_isUnder_16 (by decide) ?_
        exact ih y1 hf
def fX4_isUnder (N : Nat) (v0 : Int32) (v1 : Int32) : Option Int32 := fX4_isUnder_2 N v1 N v0
set_option maxHeartbeats 4000000 in
set_option maxRecDepth 100000 in
theorem tX4_isUnder {E : EE} {B : BB} {l : Launch} {σ : St2} {N : Nat} {v0 : Int32} {v1 : Int32} {res : Int32} (C : Cx E B l cX4_isUnder RX4 (some .boolean) 3 1 20) (hQ : Fin9 E B (some (.int res)) σ) (hf : fX4_isUnder N v0 v1 = some res) : V E B σ 0 [(0, .int v0), (1, .int v1)] [] := by
  unfold fX4_isUnder at hf
  refine v_iload_n C 0 dX4_isUnder_0 rfl rfl ?_
  refine v_istore_n (lv' := [(0, .int v0), (1, .int v1), (2, .int v0)]) C [1, 2, 0] dX4_isUnder_1 rfl (by decide) rfl ?_
  refine v_sub [1, 2] rfl ?_
  exact tX4_isUnder_2 C hQ N v0 hf
theorem mX4_isUnder {B : BB} {l : Launch} {σ : St2} {N : Nat} {v0 : Int32} {v1 : Int32} {res : Int32} (hf : fX4_isUnder N v0 v1 = some res) : Ret l B yX4_isUnder cX4_isUnder 3 (some .boolean) 1 20 [.int v0, .int v1] σ (some (.int res)) σ := ret_of (own := RX4) (by decide) rfl (Nat.le_of_ble_eq_true rfl) (fun E C hQ => tX4_isUnder C hQ hf)
def fX4_isKind (v0 : Int32) : Option Int32 := (fX4_in v0.toInt64 0 6).bind fun y1 => (bz y1).bind fun w2 => some w2
set_option maxHeartbeats 4000000 in
set_option maxRecDepth 100000 in
theorem tX4_isKind {E : EE} {B : BB} {l : Launch} {σ : St2} {v0 : Int32} {res : Int32} (C : Cx E B l cX4_isKind RX4 (some .boolean) 1 1 25) (hQ : Fin9 E B (some (.int res)) σ) (hf : fX4_isKind v0 = some res) : V E B σ 0 [(0, .int v0)] [] := by
  unfold fX4_isKind at hf
  refine v_iload_n C 0 dX4_isKind_0 rfl rfl ?_
  refine v_i2l C dX4_isKind_1 ?_
  refine v_lconst (v := 0) C dX4_isKind_2 (by decide) ?_
  refine v_ldc2 C wd_775 dX4_isKind_3 ?_
  obtain ⟨y1, hy1, hf⟩ := bnd hf
  refine v_callS (r := some (.int y1)) (As := [.long v0.toInt64, .long 0, .long 6]) (rest := []) C (mX4_in  hy1) cw_X4_in wd_721 ⟨Nat.le_of_ble_eq_true rfl, Nat.le_of_ble_eq_true rfl⟩ rfl rfl (Nat.le_of_ble_eq_true rfl) dX4_isKind_6 ?_
  obtain ⟨hz, hf⟩ := bz_b hf
  exact v_zret C hz dX4_isKind_9 (fin_i hf hQ)
theorem mX4_isKind {B : BB} {l : Launch} {σ : St2} {v0 : Int32} {res : Int32} (hf : fX4_isKind v0 = some res) : Ret l B yX4_isKind cX4_isKind 1 (some .boolean) 1 25 [.int v0] σ (some (.int res)) σ := ret_of (own := RX4) (by decide) rfl (Nat.le_of_ble_eq_true rfl) (fun E C hQ => tX4_isKind C hQ hf)
def fX4_isAhead (v0 : Int32) : Option Int32 := (fX4_in v0.toInt64 0 100).bind fun y1 => (bz y1).bind fun w2 => some w2
set_option maxHeartbeats 4000000 in
set_option maxRecDepth 100000 in
theorem tX4_isAhead {E : EE} {B : BB} {l : Launch} {σ : St2} {v0 : Int32} {res : Int32} (C : Cx E B l cX4_isAhead RX4 (some .boolean) 1 1 25) (hQ : Fin9 E B (some (.int res)) σ) (hf : fX4_isAhead v0 = some res) : V E B σ 0 [(0, .int v0)] [] := by
  unfold fX4_isAhead at hf
  refine v_iload_n C 0 dX4_isAhead_0 rfl rfl ?_
  refine v_i2l C dX4_isAhead_1 ?_
  refine v_lconst (v := 0) C dX4_isAhead_2 (by decide) ?_
  refine v_ldc2 C wd_867 dX4_isAhead_3 ?_
  obtain ⟨y1, hy1, hf⟩ := bnd hf
  refine v_callS (r := some (.int y1)) (As := [.long v0.toInt64, .long 0, .long 100]) (rest := []) C (mX4_in  hy1) cw_X4_in wd_721 ⟨Nat.le_of_ble_eq_true rfl, Nat.le_of_ble_eq_true rfl⟩ rfl rfl (Nat.le_of_ble_eq_true rfl) dX4_isAhead_6 ?_
  obtain ⟨hz, hf⟩ := bz_b hf
  exact v_zret C hz dX4_isAhead_9 (fin_i hf hQ)
theorem mX4_isAhead {B : BB} {l : Launch} {σ : St2} {v0 : Int32} {res : Int32} (hf : fX4_isAhead v0 = some res) : Ret l B yX4_isAhead cX4_isAhead 1 (some .boolean) 1 25 [.int v0] σ (some (.int res)) σ := ret_of (own := RX4) (by decide) rfl (Nat.le_of_ble_eq_true rfl) (fun E C hQ => tX4_isAhead C hQ hf)
def fX4_isSoon (v0 : Int32) : Option Int32 := (fX4_in v0.toInt64 0 40).bind fun y1 => (bz y1).bind fun w2 => some w2
set_option maxHeartbeats 4000000 in
set_option maxRecDepth 100000 in
theorem tX4_isSoon {E : EE} {B : BB} {l : Launch} {σ : St2} {v0 : Int32} {res : Int32} (C : Cx E B l cX4_isSoon RX4 (some .boolean) 1 1 25) (hQ : Fin9 E B (some (.int res)) σ) (hf : fX4_isSoon v0 = some res) : V E B σ 0 [(0, .int v0)] [] := by
  unfold fX4_isSoon at hf
  refine v_iload_n C 0 dX4_isSoon_0 rfl rfl ?_
  refine v_i2l C dX4_isSoon_1 ?_
  refine v_lconst (v := 0) C dX4_isSoon_2 (by decide) ?_
  refine v_ldc2 C wd_914 dX4_isSoon_3 ?_
  obtain ⟨y1, hy1, hf⟩ := bnd hf
  refine v_callS (r := some (.int y1)) (As := [.long v0.toInt64, .long 0, .long 40]) (rest := []) C (mX4_in  hy1) cw_X4_in wd_721 ⟨Nat.le_of_ble_eq_true rfl, Nat.le_of_ble_eq_true rfl⟩ rfl rfl (Nat.le_of_ble_eq_true rfl) dX4_isSoon_6 ?_
  obtain ⟨hz, hf⟩ := bz_b hf
  exact v_zret C hz dX4_isSoon_9 (fin_i hf hQ)
theorem mX4_isSoon {B : BB} {l : Launch} {σ : St2} {v0 : Int32} {res : Int32} (hf : fX4_isSoon v0 = some res) : Ret l B yX4_isSoon cX4_isSoon 1 (some .boolean) 1 25 [.int v0] σ (some (.int res)) σ := ret_of (own := RX4) (by decide) rfl (Nat.le_of_ble_eq_true rfl) (fun E C hQ => tX4_isSoon C hQ hf)
def fX4_isSpot (v0 : Int32) : Option Int32 := (fX4_in v0.toInt64 0 9).bind fun y1 => (bz y1).bind fun w2 => some w2
set_option maxHeartbeats 4000000 in
set_option maxRecDepth 100000 in
theorem tX4_isSpot {E : EE} {B : BB} {l : Launch} {σ : St2} {v0 : Int32} {res : Int32} (C : Cx E B l cX4_isSpot RX4 (some .boolean) 1 1 25) (hQ : Fin9 E B (some (.int res)) σ) (hf : fX4_isSpot v0 = some res) : V E B σ 0 [(0, .int v0)] [] := by
  unfold fX4_isSpot at hf
  refine v_iload_n C 0 dX4_isSpot_0 rfl rfl ?_
  refine v_i2l C dX4_isSpot_1 ?_
  refine v_lconst (v := 0) C dX4_isSpot_2 (by decide) ?_
  refine v_ldc2 C wd_746 dX4_isSpot_3 ?_
  obtain ⟨y1, hy1, hf⟩ := bnd hf
  refine v_callS (r := some (.int y1)) (As := [.long v0.toInt64, .long 0, .long 9]) (rest := []) C (mX4_in  hy1) cw_X4_in wd_721 ⟨Nat.le_of_ble_eq_true rfl, Nat.le_of_ble_eq_true rfl⟩ rfl rfl (Nat.le_of_ble_eq_true rfl) dX4_isSpot_6 ?_
  obtain ⟨hz, hf⟩ := bz_b hf
  exact v_zret C hz dX4_isSpot_9 (fin_i hf hQ)
theorem mX4_isSpot {B : BB} {l : Launch} {σ : St2} {v0 : Int32} {res : Int32} (hf : fX4_isSpot v0 = some res) : Ret l B yX4_isSpot cX4_isSpot 1 (some .boolean) 1 25 [.int v0] σ (some (.int res)) σ := ret_of (own := RX4) (by decide) rfl (Nat.le_of_ble_eq_true rfl) (fun E C hQ => tX4_isSpot C hQ hf)
def fX4_isSheet (v0 : Int32) : Option Int32 := (fX4_in v0.toInt64 0 3).bind fun y1 => (bz y1).bind fun w2 => some w2
set_option maxHeartbeats 4000000 in
set_option maxRecDepth 100000 in
theorem tX4_isSheet {E : EE} {B : BB} {l : Launch} {σ : St2} {v0 : Int32} {res : Int32} (C : Cx E B l cX4_isSheet RX4 (some .boolean) 1 1 25) (hQ : Fin9 E B (some (.int res)) σ) (hf : fX4_isSheet v0 = some res) : V E B σ 0 [(0, .int v0)] [] := by
  unfold fX4_isSheet at hf
  refine v_iload_n C 0 dX4_isSheet_0 rfl rfl ?_
  refine v_i2l C dX4_isSheet_1 ?_
  refine v_lconst (v := 0) C dX4_isSheet_2 (by decide) ?_
  refine v_ldc2 C wd_724 dX4_isSheet_3 ?_
  obtain ⟨y1, hy1, hf⟩ := bnd hf
  refine v_callS (r := some (.int y1)) (As := [.long v0.toInt64, .long 0, .long 3]) (rest := []) C (mX4_in  hy1) cw_X4_in wd_721 ⟨Nat.le_of_ble_eq_true rfl, Nat.le_of_ble_eq_true rfl⟩ rfl rfl (Nat.le_of_ble_eq_true rfl) dX4_isSheet_6 ?_
  obtain ⟨hz, hf⟩ := bz_b hf
  exact v_zret C hz dX4_isSheet_9 (fin_i hf hQ)
theorem mX4_isSheet {B : BB} {l : Launch} {σ : St2} {v0 : Int32} {res : Int32} (hf : fX4_isSheet v0 = some res) : Ret l B yX4_isSheet cX4_isSheet 1 (some .boolean) 1 25 [.int v0] σ (some (.int res)) σ := ret_of (own := RX4) (by decide) rfl (Nat.le_of_ble_eq_true rfl) (fun E C hQ => tX4_isSheet C hQ hf)
def fX4_mayBe (v0 : Int32) (v1 : Int32) : Option Int32 := if v0 = 0 then ((fX4_isKind v1).bind fun y1 => (bz y1).bind fun w2 => some w2) else (if v0 = 1 then ((fX4_isCell v1).bind fun y3 => (bz y3).bind fun w4 => some w4) else (if v0 = 2 then ((fX4_in v1.toInt64 0 1).bind fun y5 => (bz y5).bind fun w6 => some w6) else (if v0 = 3 then ((fX4_in v1.toInt64 1 6).bind fun y7 => (bz y7).bind fun w8 => some w8) else (if v0 = 4 then ((fX4_in v1.toInt64 1 9).bind fun y9 => (bz y9).bind fun w10 => some w10) else (if v0 = 5 then ((fX4_in v1.toInt64 0 99999).bind fun y11 => if y11 = 0 then (some 0) else (some 1)) else (some 0))))))
set_option maxHeartbeats 4000000 in
set_option maxRecDepth 100000 in
theorem tX4_mayBe {E : EE} {B : BB} {l : Launch} {σ : St2} {v0 : Int32} {v1 : Int32} {res : Int32} (C : Cx E B l cX4_mayBe RX4 (some .boolean) 2 2 45) (hQ : Fin9 E B (some (.int res)) σ) (hf : fX4_mayBe v0 v1 = some res) : V E B σ 0 [(0, .int v0), (1, .int v1)] [] := by
  unfold fX4_mayBe at hf
  refine v_iload_n C 0 dX4_mayBe_0 rfl rfl ?_
  by_cases hc1_0 : v0 = 0
  · rw [if_pos hc1_0] at hf
    refine v_tabIn (tgt := 36) C dX4_mayBe_1 hc1_0 (by decide) (by decide) rfl (by decide) ?_
    refine v_iload_n C 1 dX4_mayBe_36 rfl rfl ?_
    obtain ⟨y1, hy1, hf⟩ := bnd hf
    refine v_callS (r := some (.int y1)) (As := [.int v1]) (rest := []) C (mX4_isKind  hy1) cw_X4_isKind wd_772 ⟨Nat.le_of_ble_eq_true rfl, Nat.le_of_ble_eq_true rfl⟩ rfl rfl (Nat.le_of_ble_eq_true rfl) dX4_mayBe_37 ?_
    obtain ⟨hz, hf⟩ := bz_b hf
    exact v_zret C hz dX4_mayBe_40 (fin_i hf hQ)
  · rw [if_neg hc1_0] at hf
    by_cases hc1_1 : v0 = 1
    · rw [if_pos hc1_1] at hf
      refine v_tabIn (tgt := 41) C dX4_mayBe_1 hc1_1 (by decide) (by decide) rfl (by decide) ?_
      refine v_iload_n C 1 dX4_mayBe_41 rfl rfl ?_
      obtain ⟨y3, hy3, hf⟩ := bnd hf
      refine v_callS (r := some (.int y3)) (As := [.int v1]) (rest := []) C (mX4_isCell  hy3) cw_X4_isCell wd_717 ⟨Nat.le_of_ble_eq_true rfl, Nat.le_of_ble_eq_true rfl⟩ rfl rfl (Nat.le_of_ble_eq_true rfl) dX4_mayBe_42 ?_
      obtain ⟨hz, hf⟩ := bz_b hf
      exact v_zret C hz dX4_mayBe_45 (fin_i hf hQ)
    · rw [if_neg hc1_1] at hf
      by_cases hc1_2 : v0 = 2
      · rw [if_pos hc1_2] at hf
        refine v_tabIn (tgt := 46) C dX4_mayBe_1 hc1_2 (by decide) (by decide) rfl (by decide) ?_
        refine v_iload_n C 1 dX4_mayBe_46 rfl rfl ?_
        refine v_i2l C dX4_mayBe_47 ?_
        refine v_lconst (v := 0) C dX4_mayBe_48 (by decide) ?_
        refine v_lconst (v := 1) C dX4_mayBe_49 (by decide) ?_
        obtain ⟨y5, hy5, hf⟩ := bnd hf
        refine v_callS (r := some (.int y5)) (As := [.long v1.toInt64, .long 0, .long 1]) (rest := []) C (mX4_in  hy5) cw_X4_in wd_721 ⟨Nat.le_of_ble_eq_true rfl, Nat.le_of_ble_eq_true rfl⟩ rfl rfl (Nat.le_of_ble_eq_true rfl) dX4_mayBe_50 ?_
        obtain ⟨hz, hf⟩ := bz_b hf
        exact v_zret C hz dX4_mayBe_53 (fin_i hf hQ)
      · rw [if_neg hc1_2] at hf
        by_cases hc1_3 : v0 = 3
        · rw [if_pos hc1_3] at hf
          refine v_tabIn (tgt := 54) C dX4_mayBe_1 hc1_3 (by decide) (by decide) rfl (by decide) ?_
          refine v_iload_n C 1 dX4_mayBe_54 rfl rfl ?_
          refine v_i2l C dX4_mayBe_55 ?_
          refine v_lconst (v := 1) C dX4_mayBe_56 (by decide) ?_
          refine v_ldc2 C wd_775 dX4_mayBe_57 ?_
          obtain ⟨y7, hy7, hf⟩ := bnd hf
          refine v_callS (r := some (.int y7)) (As := [.long v1.toInt64, .long 1, .long 6]) (rest := []) C (mX4_in  hy7) cw_X4_in wd_721 ⟨Nat.le_of_ble_eq_true rfl, Nat.le_of_ble_eq_true rfl⟩ rfl rfl (Nat.le_of_ble_eq_true rfl) dX4_mayBe_60 ?_
          obtain ⟨hz, hf⟩ := bz_b hf
          exact v_zret C hz dX4_mayBe_63 (fin_i hf hQ)
        · rw [if_neg hc1_3] at hf
          by_cases hc1_4 : v0 = 4
          · rw [if_pos hc1_4] at hf
            refine v_tabIn (tgt := 64) C dX4_mayBe_1 hc1_4 (by decide) (by decide) rfl (by decide) ?_
            refine v_iload_n C 1 dX4_mayBe_64 rfl rfl ?_
            refine v_i2l C dX4_mayBe_65 ?_
            refine v_lconst (v := 1) C dX4_mayBe_66 (by decide) ?_
            refine v_ldc2 C wd_746 dX4_mayBe_67 ?_
            obtain ⟨y9, hy9, hf⟩ := bnd hf
            refine v_callS (r := some (.int y9)) (As := [.long v1.toInt64, .long 1, .long 9]) (rest := []) C (mX4_in  hy9) cw_X4_in wd_721 ⟨Nat.le_of_ble_eq_true rfl, Nat.le_of_ble_eq_true rfl⟩ rfl rfl (Nat.le_of_ble_eq_true rfl) dX4_mayBe_70 ?_
            obtain ⟨hz, hf⟩ := bz_b hf
            exact v_zret C hz dX4_mayBe_73 (fin_i hf hQ)
          · rw [if_neg hc1_4] at hf
            have e1_0 : v0.toInt ≠ 0 := ne_ti (y := 0) hc1_0
            have e1_1 : v0.toInt ≠ 1 := ne_ti (y := 1) hc1_1
            have e1_2 : v0.toInt ≠ 2 := ne_ti (y := 2) hc1_2
            have e1_3 : v0.toInt ≠ 3 := ne_ti (y := 3) hc1_3
            have e1_4 : v0.toInt ≠ 4 := ne_ti (y := 4) hc1_4
            refine v_tabOut (tgt := 74) C dX4_mayBe_1 (by omega) (by decide) ?_
            refine v_iload_n C 0 dX4_mayBe_74 rfl rfl ?_
            refine v_iconst (v := 5) C dX4_mayBe_75 (by decide) ?_
            refine v_icmp_ne (tgt := 95) C dX4_mayBe_76 (by decide) hf (fun hf => ?_) (fun hf => ?_)
            · refine v_iconst (v := 0) C dX4_mayBe_95 (by decide) ?_
              exact v_zret C (Or.inl rfl) dX4_mayBe_96 (fin_i hf hQ)
            · refine v_iload_n C 1 dX4_mayBe_79 rfl rfl ?_
              refine v_i2l C dX4_mayBe_80 ?_
              refine v_lconst (v := 0) C dX4_mayBe_81 (by decide) ?_
              refine v_ldc2 C wd_813 dX4_mayBe_82 ?_
              obtain ⟨y11, hy11, hf⟩ := bnd hf
              refine v_callS (r := some (.int y11)) (As := [.long v1.toInt64, .long 0, .long 99999]) (rest := []) C (mX4_in  hy11) cw_X4_in wd_721 ⟨Nat.le_of_ble_eq_true rfl, Nat.le_of_ble_eq_true rfl⟩ rfl rfl (Nat.le_of_ble_eq_true rfl) dX4_mayBe_85 ?_
              refine v_if_eq (tgt := 95) C dX4_mayBe_88 (by decide) hf (fun hf => ?_) (fun hf => ?_)
              · refine v_iconst (v := 0) C dX4_mayBe_95 (by decide) ?_
                exact v_zret C (Or.inl rfl) dX4_mayBe_96 (fin_i hf hQ)
              · refine v_iconst (v := 1) C dX4_mayBe_91 (by decide) ?_
                refine v_goto (tgt := 96) C dX4_mayBe_92 (by decide) ?_
                exact v_zret C (Or.inr rfl) dX4_mayBe_96 (fin_i hf hQ)
theorem mX4_mayBe {B : BB} {l : Launch} {σ : St2} {v0 : Int32} {v1 : Int32} {res : Int32} (hf : fX4_mayBe v0 v1 = some res) : Ret l B yX4_mayBe cX4_mayBe 2 (some .boolean) 2 45 [.int v0, .int v1] σ (some (.int res)) σ := ret_of (own := RX4) (by decide) rfl (Nat.le_of_ble_eq_true rfl) (fun E C hQ => tX4_mayBe C hQ hf)
def fX4_become_2 (N : Nat) (ja : Nat) (jb : Nat) : Nat → St2 → Int32 → Option St2
  | 0, _, _ => none
  | n + 1, x, v2 => if 135 ≤ v2 then (some x) else ((rd (x ja) 135 v2).bind fun a1 => (wr x jb 135 v2 a1).bind fun x2 => (fX4_become_2 N ja jb n) x2 (v2 + 1))
set_option maxHeartbeats 4000000 in
set_option maxRecDepth 100000 in
theorem tX4_become_2 {E : EE} {B : BB} {l : Launch} {L : St2 → St2} {N : Nat} {ja : Nat} {jb : Nat} {res : St2} (C : Cx E B l cX4_become RX4 none 3 0 0) (hL : Ln 51 10 L) (hja : Mj ja) (hjb : Mj jb) (hQ : Fin9 E B none (L res)) : ∀ (n : Nat) (x : St2) (v2 : Int32), fX4_become_2 N ja jb n x v2 = some res → V E B (L x) 2 [(0, .ref (ad B (51 + ja))), (1, .ref (ad B (51 + jb))), (2, .int v2)] [] := by
  intro n
  induction n with
  | zero =>
    intro x v2 hf
    cases hf
  | succ n ih =>
    intro x v2 hf
    rw [fX4_become_2] at hf
    refine v_iload_n C 2 dX4_become_2 rfl rfl ?_
    refine v_sipush (v := 135) C dX4_become_3 (by decide) ?_
    refine v_icmp_ge (tgt := 21) C dX4_become_6 (by decide) hf (fun hf => ?_) (fun hf => ?_)
    · exact v_vret C dX4_become_21 (fin_v hf hQ)
    · refine v_aload_n C 1 dX4_become_9 rfl rfl ?_
      refine v_iload_n C 2 dX4_become_10 rfl rfl ?_
      refine v_aload_n C 0 dX4_become_11 rfl rfl ?_
      refine v_iload_n C 2 dX4_become_12 rfl rfl ?_
      refine s_ald (k := ja) C hL (Mj.lt hja) (Mj.tb hja) dX4_become_13 hf (fun a1 hf => ?_)
      refine s_ast (k := jb) C hL (Mj.lt hjb) (Mj.tb hjb) dX4_become_14 hf (fun x2 hf => ?_)
      refine v_iinc (q := 2) (v := v2 + 1) (lv' := [(0, .ref (ad B (51 + ja))), (1, .ref (ad B (51 + jb))), (2, .int (v2 + 1))]) C [1, 2, 0] dX4_become_15 rfl rfl (by decide) rfl ?_
      refine v_goto (tgt := 2) C dX4_become_18 (by decide) ?_
      exact ih x2 (v2 + 1) hf
def fX4_become (N : Nat) (ja : Nat) (jb : Nat) (x : St2) : Option St2 := fX4_become_2 N ja jb N x 0
set_option maxHeartbeats 4000000 in
set_option maxRecDepth 100000 in
theorem tX4_become {E : EE} {B : BB} {l : Launch} {L : St2 → St2} {N : Nat} {ja : Nat} {jb : Nat} {x : St2} {res : St2} (C : Cx E B l cX4_become RX4 none 3 0 0) (hL : Ln 51 10 L) (hja : Mj ja) (hjb : Mj jb) (hQ : Fin9 E B none (L res)) (hf : fX4_become N ja jb x = some res) : V E B (L x) 0 [(0, .ref (ad B (51 + ja))), (1, .ref (ad B (51 + jb)))] [] := by
  unfold fX4_become at hf
  refine v_iconst (v := 0) C dX4_become_0 (by decide) ?_
  refine v_istore_n (lv' := [(0, .ref (ad B (51 + ja))), (1, .ref (ad B (51 + jb))), (2, .int 0)]) C [1, 2, 0] dX4_become_1 rfl (by decide) rfl ?_
  exact tX4_become_2 C hL hja hjb hQ N x 0 hf
theorem mX4_become {B : BB} {l : Launch} {L : St2 → St2} {N : Nat} {ja : Nat} {jb : Nat} {x : St2} {res : St2} (hL : Ln 51 10 L) (hja : Mj ja) (hjb : Mj jb) (hf : fX4_become N ja jb x = some res) : Ret l B yX4_become cX4_become 3 none 0 0 [.ref (ad B (51 + ja)), .ref (ad B (51 + jb))] (L x) none (L res) := ret_of (own := RX4) (by decide) rfl (Nat.le_of_ble_eq_true rfl) (fun E C hQ => tX4_become C hL hja hjb hQ hf)
def fX4_finds (x : St2) (v1 : Int32) : Option (Int32 × St2) := (rd (x 4) 7 v1).bind fun a1 => (wr x 4 7 v1 (a1 + 1)).bind fun x2 => some (((-1000001) - v1), x2)
set_option maxHeartbeats 4000000 in
set_option maxRecDepth 100000 in
theorem tX4_finds {E : EE} {B : BB} {l : Launch} {L : St2 → St2} {x : St2} {v1 : Int32} {res : (Int32 × St2)} (C : Cx E B l cX4_finds RX4 (some .int) 2 0 0) (hL : Ln 51 10 L) (hQ : Fin9 E B (some (.int res.1)) (L res.2)) (hf : fX4_finds x v1 = some res) : V E B (L x) 0 [(0, .ref (ad B 51)), (1, .int v1)] [] := by
  unfold fX4_finds at hf
  refine v_aload_n C 0 dX4_finds_0 rfl rfl ?_
  refine g_getR (K := 51) (i := 4) (j := 51 + 4) C (by decide) rfl rfl inX4 (by decide) rfl wd_671 dX4_finds_1 ?_
  refine v_iload_n C 1 dX4_finds_4 rfl rfl ?_
  refine v_dup2 C dX4_finds_5 rfl rfl ?_
  refine s_ald (k := 4) C hL (by decide) rfl dX4_finds_6 hf (fun a1 hf => ?_)
  refine v_iconst (v := 1) C dX4_finds_7 (by decide) ?_
  refine v_iadd C dX4_finds_8 ?_
  refine s_ast (k := 4) C hL (by decide) rfl dX4_finds_9 hf (fun x2 hf => ?_)
  refine v_ldc C wd_729 dX4_finds_10 ?_
  refine v_iload_n C 1 dX4_finds_12 rfl rfl ?_
  refine v_isub C dX4_finds_13 ?_
  exact v_iret C dX4_finds_14 (fin_im hf hQ)
theorem mX4_finds {B : BB} {l : Launch} {L : St2 → St2} {x : St2} {v1 : Int32} {res : (Int32 × St2)} (hL : Ln 51 10 L) (hf : fX4_finds x v1 = some res) : Ret l B yX4_finds cX4_finds 2 (some .int) 0 0 [.ref (ad B 51), .int v1] (L x) (some (.int res.1)) (L res.2) := ret_of (own := RX4) (by decide) rfl (Nat.le_of_ble_eq_true rfl) (fun E C hQ => tX4_finds C hL hQ hf)
def fX4_lends (N : Nat) (x : St2) : Option St2 := (fX4_become N 1 3 x).bind fun y1 => some y1
set_option maxHeartbeats 4000000 in
set_option maxRecDepth 100000 in
theorem tX4_lends {E : EE} {B : BB} {l : Launch} {L : St2 → St2} {N : Nat} {x : St2} {res : St2} (C : Cx E B l cX4_lends RX4 none 1 1 22) (hL : Ln 51 10 L) (hQ : Fin9 E B none (L res)) (hf : fX4_lends N x = some res) : V E B (L x) 0 [(0, .ref (ad B 51))] [] := by
  unfold fX4_lends at hf
  refine v_aload_n C 0 dX4_lends_0 rfl rfl ?_
  refine g_getR (K := 51) (i := 0) (j := 51 + 1) C (by decide) rfl rfl inX4 (by decide) rfl wd_667 dX4_lends_1 ?_
  refine v_aload_n C 0 dX4_lends_4 rfl rfl ?_
  refine g_getR (K := 51) (i := 2) (j := 51 + 3) C (by decide) rfl rfl inX4 (by decide) rfl wd_669 dX4_lends_5 ?_
  obtain ⟨y1, hy1, hf⟩ := bnd hf
  refine v_callS (r := none) (As := [.ref (ad B (51 + 1)), .ref (ad B (51 + 3))]) (rest := []) C (mX4_become hL mj1 mj3 hy1) cw_X4_become wd_872 ⟨Nat.le_of_ble_eq_true rfl, Nat.le_of_ble_eq_true rfl⟩ rfl rfl (Nat.le_of_ble_eq_true rfl) dX4_lends_8 ?_
  exact v_vret C dX4_lends_11 (fin_v hf hQ)
theorem mX4_lends {B : BB} {l : Launch} {L : St2 → St2} {N : Nat} {x : St2} {res : St2} (hL : Ln 51 10 L) (hf : fX4_lends N x = some res) : Ret l B yX4_lends cX4_lends 1 none 1 22 [.ref (ad B 51)] (L x) none (L res) := ret_of (own := RX4) (by decide) rfl (Nat.le_of_ble_eq_true rfl) (fun E C hQ => tX4_lends C hL hQ hf)
def fX4_laysBack (N : Nat) (x : St2) : Option St2 := (fX4_become N 3 1 x).bind fun y1 => some y1
set_option maxHeartbeats 4000000 in
set_option maxRecDepth 100000 in
theorem tX4_laysBack {E : EE} {B : BB} {l : Launch} {L : St2 → St2} {N : Nat} {x : St2} {res : St2} (C : Cx E B l cX4_laysBack RX4 none 1 1 22) (hL : Ln 51 10 L) (hQ : Fin9 E B none (L res)) (hf : fX4_laysBack N x = some res) : V E B (L x) 0 [(0, .ref (ad B 51))] [] := by
  unfold fX4_laysBack at hf
  refine v_aload_n C 0 dX4_laysBack_0 rfl rfl ?_
  refine g_getR (K := 51) (i := 2) (j := 51 + 3) C (by decide) rfl rfl inX4 (by decide) rfl wd_669 dX4_laysBack_1 ?_
  refine v_aload_n C 0 dX4_laysBack_4 rfl rfl ?_
  refine g_getR (K := 51) (i := 0) (j := 51 + 1) C (by decide) rfl rfl inX4 (by decide) rfl wd_667 dX4_laysBack_5 ?_
  obtain ⟨y1, hy1, hf⟩ := bnd hf
  refine v_callS (r := none) (As := [.ref (ad B (51 + 3)), .ref (ad B (51 + 1))]) (rest := []) C (mX4_become hL mj3 mj1 hy1) cw_X4_become wd_872 ⟨Nat.le_of_ble_eq_true rfl, Nat.le_of_ble_eq_true rfl⟩ rfl rfl (Nat.le_of_ble_eq_true rfl) dX4_laysBack_8 ?_
  exact v_vret C dX4_laysBack_11 (fin_v hf hQ)
theorem mX4_laysBack {B : BB} {l : Launch} {L : St2 → St2} {N : Nat} {x : St2} {res : St2} (hL : Ln 51 10 L) (hf : fX4_laysBack N x = some res) : Ret l B yX4_laysBack cX4_laysBack 1 none 1 22 [.ref (ad B 51)] (L x) none (L res) := ret_of (own := RX4) (by decide) rfl (Nat.le_of_ble_eq_true rfl) (fun E C hQ => tX4_laysBack C hL hQ hf)
def fX4_isWalker (x : St2) (v1 : Int32) : Option Int32 := (rd (x 1) 135 2).bind fun a1 => (fX4_in v1.toInt64 0 ((a1 - 1).toInt64)).bind fun y2 => (bz y2).bind fun w3 => some w3
set_option maxHeartbeats 4000000 in
set_option maxRecDepth 100000 in
theorem tX4_isWalker {E : EE} {B : BB} {l : Launch} {L : St2 → St2} {x : St2} {v1 : Int32} {res : Int32} (C : Cx E B l cX4_isWalker RX4 (some .boolean) 2 1 25) (hL : Ln 51 10 L) (hQ : Fin9 E B (some (.int res)) (L x)) (hf : fX4_isWalker x v1 = some res) : V E B (L x) 0 [(0, .ref (ad B 51)), (1, .int v1)] [] := by
  unfold fX4_isWalker at hf
  refine v_iload_n C 1 dX4_isWalker_0 rfl rfl ?_
  refine v_i2l C dX4_isWalker_1 ?_
  refine v_lconst (v := 0) C dX4_isWalker_2 (by decide) ?_
  refine v_aload_n C 0 dX4_isWalker_3 rfl rfl ?_
  refine g_getR (K := 51) (i := 0) (j := 51 + 1) C (by decide) rfl rfl inX4 (by decide) rfl wd_667 dX4_isWalker_4 ?_
  refine v_iconst (v := 2) C dX4_isWalker_7 (by decide) ?_
  refine s_ald (k := 1) C hL (by decide) rfl dX4_isWalker_8 hf (fun a1 hf => ?_)
  refine v_iconst (v := 1) C dX4_isWalker_9 (by decide) ?_
  refine v_isub C dX4_isWalker_10 ?_
  refine v_i2l C dX4_isWalker_11 ?_
  obtain ⟨y2, hy2, hf⟩ := bnd hf
  refine v_callS (r := some (.int y2)) (As := [.long v1.toInt64, .long 0, .long ((a1 - 1).toInt64)]) (rest := []) C (mX4_in  hy2) cw_X4_in wd_721 ⟨Nat.le_of_ble_eq_true rfl, Nat.le_of_ble_eq_true rfl⟩ rfl rfl (Nat.le_of_ble_eq_true rfl) dX4_isWalker_12 ?_
  obtain ⟨hz, hf⟩ := bz_b hf
  exact v_zret C hz dX4_isWalker_15 (fin_i hf hQ)
theorem mX4_isWalker {B : BB} {l : Launch} {L : St2 → St2} {x : St2} {v1 : Int32} {res : Int32} (hL : Ln 51 10 L) (hf : fX4_isWalker x v1 = some res) : Ret l B yX4_isWalker cX4_isWalker 2 (some .boolean) 1 25 [.ref (ad B 51), .int v1] (L x) (some (.int res)) (L x) := ret_of (own := RX4) (by decide) rfl (Nat.le_of_ble_eq_true rfl) (fun E C hQ => tX4_isWalker C hL hQ hf)
def fX4_its (x : St2) (v1 : Int32) (v2 : Int32) : Option Int32 := (rd (x 1) 135 ((77 + (6 * v1)) + v2)).bind fun a1 => some a1
set_option maxHeartbeats 4000000 in
set_option maxRecDepth 100000 in
theorem tX4_its {E : EE} {B : BB} {l : Launch} {L : St2 → St2} {x : St2} {v1 : Int32} {v2 : Int32} {res : Int32} (C : Cx E B l cX4_its RX4 (some .int) 3 0 0) (hL : Ln 51 10 L) (hQ : Fin9 E B (some (.int res)) (L x)) (hf : fX4_its x v1 v2 = some res) : V E B (L x) 0 [(0, .ref (ad B 51)), (1, .int v1), (2, .int v2)] [] := by
  unfold fX4_its at hf
  refine v_aload_n C 0 dX4_its_0 rfl rfl ?_
  refine g_getR (K := 51) (i := 0) (j := 51 + 1) C (by decide) rfl rfl inX4 (by decide) rfl wd_667 dX4_its_1 ?_
  refine v_bipush (v := 77) C dX4_its_4 (by decide) ?_
  refine v_bipush (v := 6) C dX4_its_6 (by decide) ?_
  refine v_iload_n C 1 dX4_its_8 rfl rfl ?_
  refine v_imul C dX4_its_9 ?_
  refine v_iadd C dX4_its_10 ?_
  refine v_iload_n C 2 dX4_its_11 rfl rfl ?_
  refine v_iadd C dX4_its_12 ?_
  refine s_ald (k := 1) C hL (by decide) rfl dX4_its_13 hf (fun a1 hf => ?_)
  exact v_iret C dX4_its_14 (fin_i hf hQ)
theorem mX4_its {B : BB} {l : Launch} {L : St2 → St2} {x : St2} {v1 : Int32} {v2 : Int32} {res : Int32} (hL : Ln 51 10 L) (hf : fX4_its x v1 v2 = some res) : Ret l B yX4_its cX4_its 3 (some .int) 0 0 [.ref (ad B 51), .int v1, .int v2] (L x) (some (.int res)) (L x) := ret_of (own := RX4) (by decide) rfl (Nat.le_of_ble_eq_true rfl) (fun E C hQ => tX4_its C hL hQ hf)
def fX4_sets (x : St2) (v1 : Int32) (v2 : Int32) (v3 : Int32) : Option St2 := (wr x 1 135 ((77 + (6 * v1)) + v2) v3).bind fun x1 => some x1
set_option maxHeartbeats 4000000 in
set_option maxRecDepth 100000 in
theorem tX4_sets {E : EE} {B : BB} {l : Launch} {L : St2 → St2} {x : St2} {v1 : Int32} {v2 : Int32} {v3 : Int32} {res : St2} (C : Cx E B l cX4_sets RX4 none 4 0 0) (hL : Ln 51 10 L) (hQ : Fin9 E B none (L res)) (hf : fX4_sets x v1 v2 v3 = some res) : V E B (L x) 0 [(0, .ref (ad B 51)), (1, .int v1), (2, .int v2), (3, .int v3)] [] := by
  unfold fX4_sets at hf
  refine v_aload_n C 0 dX4_sets_0 rfl rfl ?_
  refine g_getR (K := 51) (i := 0) (j := 51 + 1) C (by decide) rfl rfl inX4 (by decide) rfl wd_667 dX4_sets_1 ?_
  refine v_bipush (v := 77) C dX4_sets_4 (by decide) ?_
  refine v_bipush (v := 6) C dX4_sets_6 (by decide) ?_
  refine v_iload_n C 1 dX4_sets_8 rfl rfl ?_
  refine v_imul C dX4_sets_9 ?_
  refine v_iadd C dX4_sets_10 ?_
  refine v_iload_n C 2 dX4_sets_11 rfl rfl ?_
  refine v_iadd C dX4_sets_12 ?_
  refine v_iload_n C 3 dX4_sets_13 rfl rfl ?_
  refine s_ast (k := 1) C hL (by decide) rfl dX4_sets_14 hf (fun x1 hf => ?_)
  exact v_vret C dX4_sets_15 (fin_v hf hQ)
theorem mX4_sets {B : BB} {l : Launch} {L : St2 → St2} {x : St2} {v1 : Int32} {v2 : Int32} {v3 : Int32} {res : St2} (hL : Ln 51 10 L) (hf : fX4_sets x v1 v2 v3 = some res) : Ret l B yX4_sets cX4_sets 4 none 0 0 [.ref (ad B 51), .int v1, .int v2, .int v3] (L x) none (L res) := ret_of (own := RX4) (by decide) rfl (Nat.le_of_ble_eq_true rfl) (fun E C hQ => tX4_sets C hL hQ hf)
def fX4_becomes (x : St2) (v1 : Int32) (v2 : Int32) : Option (Int32 × St2) := (rd (x 1) 135 v1).bind fun a1 => (wr x 1 135 v1 v2).bind fun x2 => some (a1, x2)
set_option maxHeartbeats 4000000 in
set_option maxRecDepth 100000 in
theorem tX4_becomes {E : EE} {B : BB} {l : Launch} {L : St2 → St2} {x : St2} {v1 : Int32} {v2 : Int32} {res : (Int32 × St2)} (C : Cx E B l cX4_becomes RX4 (some .int) 4 0 0) (hL : Ln 51 10 L) (hQ : Fin9 E B (some (.int res.1)) (L res.2)) (hf : fX4_becomes x v1 v2 = some res) : V E B (L x) 0 [(0, .ref (ad B 51)), (1, .int v1), (2, .int v2)] [] := by
  unfold fX4_becomes at hf
  refine v_aload_n C 0 dX4_becomes_0 rfl rfl ?_
  refine g_getR (K := 51) (i := 0) (j := 51 + 1) C (by decide) rfl rfl inX4 (by decide) rfl wd_667 dX4_becomes_1 ?_
  refine v_iload_n C 1 dX4_becomes_4 rfl rfl ?_
  refine s_ald (k := 1) C hL (by decide) rfl dX4_becomes_5 hf (fun a1 hf => ?_)
  refine v_istore_n (lv' := [(0, .ref (ad B 51)), (1, .int v1), (2, .int v2), (3, .int a1)]) C [1, 2, 3, 0] dX4_becomes_6 rfl (by decide) rfl ?_
  refine v_aload_n C 0 dX4_becomes_7 rfl rfl ?_
  refine g_getR (K := 51) (i := 0) (j := 51 + 1) C (by decide) rfl rfl inX4 (by decide) rfl wd_667 dX4_becomes_8 ?_
  refine v_iload_n C 1 dX4_becomes_11 rfl rfl ?_
  refine v_iload_n C 2 dX4_becomes_12 rfl rfl ?_
  refine s_ast (k := 1) C hL (by decide) rfl dX4_becomes_13 hf (fun x2 hf => ?_)
  refine v_iload_n C 3 dX4_becomes_14 rfl rfl ?_
  exact v_iret C dX4_becomes_15 (fin_im hf hQ)
theorem mX4_becomes {B : BB} {l : Launch} {L : St2 → St2} {x : St2} {v1 : Int32} {v2 : Int32} {res : (Int32 × St2)} (hL : Ln 51 10 L) (hf : fX4_becomes x v1 v2 = some res) : Ret l B yX4_becomes cX4_becomes 4 (some .int) 0 0 [.ref (ad B 51), .int v1, .int v2] (L x) (some (.int res.1)) (L res.2) := ret_of (own := RX4) (by decide) rfl (Nat.le_of_ble_eq_true rfl) (fun E C hQ => tX4_becomes C hL hQ hf)
def fX4_strides (x : St2) (v1 : Int32) : Option Int32 := (fX4_its x v1 3).bind fun y1 => (rd (x 1) 135 0).bind fun a2 => (some (y1 + (a2 - a2 / 2 * 2))).bind fun w3 => (fX4_its x v1 0).bind fun y4 => if y4 = 1 then (some w3) else (if y4 = 2 then (some 1) else (if y4 = 3 then (some (1 + (y1 / 2))) else (if y4 = 4 then (some (3 + (y1 / 2))) else (if y4 = 5 then (some y1) else (if y4 = 6 then (some (2 * w3)) else (some y1))))))
set_option maxHeartbeats 4000000 in
set_option maxRecDepth 100000 in
theorem tX4_strides {E : EE} {B : BB} {l : Launch} {L : St2 → St2} {x : St2} {v1 : Int32} {res : Int32} (C : Cx E B l cX4_strides RX4 (some .int) 4 1 22) (hL : Ln 51 10 L) (hQ : Fin9 E B (some (.int res)) (L x)) (hf : fX4_strides x v1 = some res) : V E B (L x) 0 [(0, .ref (ad B 51)), (1, .int v1)] [] := by
  unfold fX4_strides at hf
  refine v_aload_n C 0 dX4_strides_0 rfl rfl ?_
  refine v_iload_n C 1 dX4_strides_1 rfl rfl ?_
  refine v_iconst (v := 3) C dX4_strides_2 (by decide) ?_
  obtain ⟨y1, hy1, hf⟩ := bnd hf
  refine v_callV (r := some (.int y1)) (As := [.int v1, .int 3]) (rest := []) (K := 51) C (mX4_its hL hy1) cw_X4_its wd_734 (by decide) rfl rfl ⟨Nat.le_of_ble_eq_true rfl, Nat.le_of_ble_eq_true rfl⟩ rfl rfl (Nat.le_of_ble_eq_true rfl) dX4_strides_3 ?_
  refine v_istore_n (lv' := [(0, .ref (ad B 51)), (1, .int v1), (2, .int y1)]) C [1, 2, 0] dX4_strides_6 rfl (by decide) rfl ?_
  refine v_iload_n C 2 dX4_strides_7 rfl rfl ?_
  refine v_aload_n C 0 dX4_strides_8 rfl rfl ?_
  refine g_getR (K := 51) (i := 0) (j := 51 + 1) C (by decide) rfl rfl inX4 (by decide) rfl wd_667 dX4_strides_9 ?_
  refine v_iconst (v := 0) C dX4_strides_12 (by decide) ?_
  refine s_ald (k := 1) C hL (by decide) rfl dX4_strides_13 hf (fun a2 hf => ?_)
  refine v_iconst (v := 2) C dX4_strides_14 (by decide) ?_
  refine v_irem C dX4_strides_15 (by decide) ?_
  refine v_iadd C dX4_strides_16 ?_
  refine v_top hf (fun w3 hf => ?_)
  refine v_istore_n (lv' := [(0, .ref (ad B 51)), (1, .int v1), (2, .int y1), (3, .int w3)]) C [1, 2, 3, 0] dX4_strides_17 rfl (by decide) rfl ?_
  refine v_aload_n C 0 dX4_strides_18 rfl rfl ?_
  refine v_iload_n C 1 dX4_strides_19 rfl rfl ?_
  refine v_iconst (v := 0) C dX4_strides_20 (by decide) ?_
  obtain ⟨y4, hy4, hf⟩ := bnd hf
  refine v_callV (r := some (.int y4)) (As := [.int v1, .int 0]) (rest := []) (K := 51) C (mX4_its hL hy4) cw_X4_its wd_734 (by decide) rfl rfl ⟨Nat.le_of_ble_eq_true rfl, Nat.le_of_ble_eq_true rfl⟩ rfl rfl (Nat.le_of_ble_eq_true rfl) dX4_strides_21 ?_
  by_cases hc24_1 : y4 = 1
  · rw [if_pos hc24_1] at hf
    refine v_tabIn (tgt := 64) C dX4_strides_24 hc24_1 (by decide) (by decide) rfl (by decide) ?_
    refine v_iload_n C 3 dX4_strides_64 rfl rfl ?_
    exact v_iret C dX4_strides_65 (fin_i hf hQ)
  · rw [if_neg hc24_1] at hf
    by_cases hc24_2 : y4 = 2
    · rw [if_pos hc24_2] at hf
      refine v_tabIn (tgt := 70) C dX4_strides_24 hc24_2 (by decide) (by decide) rfl (by decide) ?_
      refine v_iconst (v := 1) C dX4_strides_70 (by decide) ?_
      exact v_iret C dX4_strides_71 (fin_i hf hQ)
    · rw [if_neg hc24_2] at hf
      by_cases hc24_3 : y4 = 3
      · rw [if_pos hc24_3] at hf
        refine v_tabIn (tgt := 72) C dX4_strides_24 hc24_3 (by decide) (by decide) rfl (by decide) ?_
        refine v_iconst (v := 1) C dX4_strides_72 (by decide) ?_
        refine v_iload_n C 2 dX4_strides_73 rfl rfl ?_
        refine v_iconst (v := 2) C dX4_strides_74 (by decide) ?_
        refine v_idiv C dX4_strides_75 (by decide) ?_
        refine v_iadd C dX4_strides_76 ?_
        exact v_iret C dX4_strides_77 (fin_i hf hQ)
      · rw [if_neg hc24_3] at hf
        by_cases hc24_4 : y4 = 4
        · rw [if_pos hc24_4] at hf
          refine v_tabIn (tgt := 78) C dX4_strides_24 hc24_4 (by decide) (by decide) rfl (by decide) ?_
          refine v_iconst (v := 3) C dX4_strides_78 (by decide) ?_
          refine v_iload_n C 2 dX4_strides_79 rfl rfl ?_
          refine v_iconst (v := 2) C dX4_strides_80 (by decide) ?_
          refine v_idiv C dX4_strides_81 (by decide) ?_
          refine v_iadd C dX4_strides_82 ?_
          exact v_iret C dX4_strides_83 (fin_i hf hQ)
        · rw [if_neg hc24_4] at hf
          by_cases hc24_5 : y4 = 5
          · rw [if_pos hc24_5] at hf
            refine v_tabIn (tgt := 84) C dX4_strides_24 hc24_5 (by decide) (by decide) rfl (by decide) ?_
            refine v_iload_n C 2 dX4_strides_84 rfl rfl ?_
            exact v_iret C dX4_strides_85 (fin_i hf hQ)
          · rw [if_neg hc24_5] at hf
            by_cases hc24_6 : y4 = 6
            · rw [if_pos hc24_6] at hf
              refine v_tabIn (tgt := 66) C dX4_strides_24 hc24_6 (by decide) (by decide) rfl (by decide) ?_
              refine v_iconst (v := 2) C dX4_strides_66 (by decide) ?_
              refine v_iload_n C 3 dX4_strides_67 rfl rfl ?_
              refine v_imul C dX4_strides_68 ?_
              exact v_iret C dX4_strides_69 (fin_i hf hQ)
            · rw [if_neg hc24_6] at hf
              have e24_1 : y4.toInt ≠ 1 := ne_ti (y := 1) hc24_1
              have e24_2 : y4.toInt ≠ 2 := ne_ti (y := 2) hc24_2
              have e24_3 : y4.toInt ≠ 3 := ne_ti (y := 3) hc24_3
              have e24_4 : y4.toInt ≠ 4 := ne_ti (y := 4) hc24_4
              have e24_5 : y4.toInt ≠ 5 := ne_ti (y := 5) hc24_5
              have e24_6 : y4.toInt ≠ 6 := ne_ti (y := 6) hc24_6
              refine v_tabOut (tgt := 84) C dX4_strides_24 (by omega) (by decide) ?_
              refine v_iload_n C 2 dX4_strides_84 rfl rfl ?_
              exact v_iret C dX4_strides_85 (fin_i hf hQ)
theorem mX4_strides {B : BB} {l : Launch} {L : St2 → St2} {x : St2} {v1 : Int32} {res : Int32} (hL : Ln 51 10 L) (hf : fX4_strides x v1 = some res) : Ret l B yX4_strides cX4_strides 4 (some .int) 1 22 [.ref (ad B 51), .int v1] (L x) (some (.int res)) (L x) := ret_of (own := RX4) (by decide) rfl (Nat.le_of_ble_eq_true rfl) (fun E C hQ => tX4_strides C hL hQ hf)
def fX4_presses (x : St2) (v1 : Int32) : Option Int32 := (fX4_its x v1 4).bind fun y1 => (fX4_its x v1 0).bind fun y2 => if y2 = 1 then ((some (y1 / 2)).bind fun w3 => some (imin 9 w3)) else (if y2 = 2 then ((some (y1 + 3)).bind fun w4 => some (imin 9 w4)) else (if y2 = 3 then ((some (y1 + 4)).bind fun w5 => some (imin 9 w5)) else (if y2 = 4 then ((fX4_its x v1 3).bind fun y6 => if y6 ≤ 3 then ((some (y1 + 2)).bind fun w7 => some (imin 9 w7)) else ((some (y1 + 4)).bind fun w8 => some (imin 9 w8))) else (if y2 = 5 then (some (imin 9 1)) else (if y2 = 6 then ((some (imax 0 ((y1 / 2) - 1))).bind fun w9 => some (imin 9 w9)) else (some (imin 9 y1)))))))
set_option maxHeartbeats 4000000 in
set_option maxRecDepth 100000 in
theorem tX4_presses {E : EE} {B : BB} {l : Launch} {L : St2 → St2} {x : St2} {v1 : Int32} {res : Int32} (C : Cx E B l cX4_presses RX4 (some .int) 4 1 22) (hL : Ln 51 10 L) (hQ : Fin9 E B (some (.int res)) (L x)) (hf : fX4_presses x v1 = some res) : V E B (L x) 0 [(0, .ref (ad B 51)), (1, .int v1)] [] := by
  unfold fX4_presses at hf
  refine v_aload_n C 0 dX4_presses_0 rfl rfl ?_
  refine v_iload_n C 1 dX4_presses_1 rfl rfl ?_
  refine v_iconst (v := 4) C dX4_presses_2 (by decide) ?_
  obtain ⟨y1, hy1, hf⟩ := bnd hf
  refine v_callV (r := some (.int y1)) (As := [.int v1, .int 4]) (rest := []) (K := 51) C (mX4_its hL hy1) cw_X4_its wd_734 (by decide) rfl rfl ⟨Nat.le_of_ble_eq_true rfl, Nat.le_of_ble_eq_true rfl⟩ rfl rfl (Nat.le_of_ble_eq_true rfl) dX4_presses_3 ?_
  refine v_istore_n (lv' := [(0, .ref (ad B 51)), (1, .int v1), (2, .int y1)]) C [1, 2, 0] dX4_presses_6 rfl (by decide) rfl ?_
  refine v_iload_n C 2 dX4_presses_7 rfl rfl ?_
  refine v_istore_n (lv' := [(0, .ref (ad B 51)), (1, .int v1), (2, .int y1), (3, .int y1)]) C [1, 2, 3, 0] dX4_presses_8 rfl (by decide) rfl ?_
  refine v_aload_n C 0 dX4_presses_9 rfl rfl ?_
  refine v_iload_n C 1 dX4_presses_10 rfl rfl ?_
  refine v_iconst (v := 0) C dX4_presses_11 (by decide) ?_
  obtain ⟨y2, hy2, hf⟩ := bnd hf
  refine v_callV (r := some (.int y2)) (As := [.int v1, .int 0]) (rest := []) (K := 51) C (mX4_its hL hy2) cw_X4_its wd_734 (by decide) rfl rfl ⟨Nat.le_of_ble_eq_true rfl, Nat.le_of_ble_eq_true rfl⟩ rfl rfl (Nat.le_of_ble_eq_true rfl) dX4_presses_12 ?_
  by_cases hc15_1 : y2 = 1
  · rw [if_pos hc15_1] at hf
    refine v_tabIn (tgt := 52) C dX4_presses_15 hc15_1 (by decide) (by decide) rfl (by decide) ?_
    refine v_iload_n C 2 dX4_presses_52 rfl rfl ?_
    refine v_iconst (v := 2) C dX4_presses_53 (by decide) ?_
    refine v_idiv C dX4_presses_54 (by decide) ?_
    refine v_top hf (fun w3 hf => ?_)
    refine v_istore_n (lv' := [(0, .ref (ad B 51)), (1, .int v1), (2, .int y1), (3, .int w3)]) C [1, 2, 3, 0] dX4_presses_55 rfl (by decide) rfl ?_
    refine v_goto (tgt := 112) C dX4_presses_56 (by decide) ?_
    refine v_bipush (v := 9) C dX4_presses_112 (by decide) ?_
    refine v_iload_n C 3 dX4_presses_114 rfl rfl ?_
    refine w_mmin C wd_797 (by decide) (Nat.le_of_ble_eq_true rfl) dX4_presses_115 ?_
    exact v_iret C dX4_presses_118 (fin_i hf hQ)
  · rw [if_neg hc15_1] at hf
    by_cases hc15_2 : y2 = 2
    · rw [if_pos hc15_2] at hf
      refine v_tabIn (tgt := 72) C dX4_presses_15 hc15_2 (by decide) (by decide) rfl (by decide) ?_
      refine v_iload_n C 2 dX4_presses_72 rfl rfl ?_
      refine v_iconst (v := 3) C dX4_presses_73 (by decide) ?_
      refine v_iadd C dX4_presses_74 ?_
      refine v_top hf (fun w4 hf => ?_)
      refine v_istore_n (lv' := [(0, .ref (ad B 51)), (1, .int v1), (2, .int y1), (3, .int w4)]) C [1, 2, 3, 0] dX4_presses_75 rfl (by decide) rfl ?_
      refine v_goto (tgt := 112) C dX4_presses_76 (by decide) ?_
      refine v_bipush (v := 9) C dX4_presses_112 (by decide) ?_
      refine v_iload_n C 3 dX4_presses_114 rfl rfl ?_
      refine w_mmin C wd_797 (by decide) (Nat.le_of_ble_eq_true rfl) dX4_presses_115 ?_
      exact v_iret C dX4_presses_118 (fin_i hf hQ)
    · rw [if_neg hc15_2] at hf
      by_cases hc15_3 : y2 = 3
      · rw [if_pos hc15_3] at hf
        refine v_tabIn (tgt := 79) C dX4_presses_15 hc15_3 (by decide) (by decide) rfl (by decide) ?_
        refine v_iload_n C 2 dX4_presses_79 rfl rfl ?_
        refine v_iconst (v := 4) C dX4_presses_80 (by decide) ?_
        refine v_iadd C dX4_presses_81 ?_
        refine v_top hf (fun w5 hf => ?_)
        refine v_istore_n (lv' := [(0, .ref (ad B 51)), (1, .int v1), (2, .int y1), (3, .int w5)]) C [1, 2, 3, 0] dX4_presses_82 rfl (by decide) rfl ?_
        refine v_goto (tgt := 112) C dX4_presses_83 (by decide) ?_
        refine v_bipush (v := 9) C dX4_presses_112 (by decide) ?_
        refine v_iload_n C 3 dX4_presses_114 rfl rfl ?_
        refine w_mmin C wd_797 (by decide) (Nat.le_of_ble_eq_true rfl) dX4_presses_115 ?_
        exact v_iret C dX4_presses_118 (fin_i hf hQ)
      · rw [if_neg hc15_3] at hf
        by_cases hc15_4 : y2 = 4
        · rw [if_pos hc15_4] at hf
          refine v_tabIn (tgt := 86) C dX4_presses_15 hc15_4 (by decide) (by decide) rfl (by decide) ?_
          refine v_iload_n C 2 dX4_presses_86 rfl rfl ?_
          refine v_aload_n C 0 dX4_presses_87 rfl rfl ?_
          refine v_iload_n C 1 dX4_presses_88 rfl rfl ?_
          refine v_iconst (v := 3) C dX4_presses_89 (by decide) ?_
          obtain ⟨y6, hy6, hf⟩ := bnd hf
          refine v_callV (r := some (.int y6)) (As := [.int v1, .int 3]) (rest := [.int y1]) (K := 51) C (mX4_its hL hy6) cw_X4_its wd_734 (by decide) rfl rfl ⟨Nat.le_of_ble_eq_true rfl, Nat.le_of_ble_eq_true rfl⟩ rfl rfl (Nat.le_of_ble_eq_true rfl) dX4_presses_90 ?_
          refine v_iconst (v := 3) C dX4_presses_93 (by decide) ?_
          refine v_icmp_le (tgt := 101) C dX4_presses_94 (by decide) hf (fun hf => ?_) (fun hf => ?_)
          · refine v_iconst (v := 2) C dX4_presses_101 (by decide) ?_
            refine v_iadd C dX4_presses_102 ?_
            refine v_top hf (fun w7 hf => ?_)
            refine v_istore_n (lv' := [(0, .ref (ad B 51)), (1, .int v1), (2, .int y1), (3, .int w7)]) C [1, 2, 3, 0] dX4_presses_103 rfl (by decide) rfl ?_
            refine v_goto (tgt := 112) C dX4_presses_104 (by decide) ?_
            refine v_bipush (v := 9) C dX4_presses_112 (by decide) ?_
            refine v_iload_n C 3 dX4_presses_114 rfl rfl ?_
            refine w_mmin C wd_797 (by decide) (Nat.le_of_ble_eq_true rfl) dX4_presses_115 ?_
            exact v_iret C dX4_presses_118 (fin_i hf hQ)
          · refine v_iconst (v := 4) C dX4_presses_97 (by decide) ?_
            refine v_goto (tgt := 102) C dX4_presses_98 (by decide) ?_
            refine v_iadd C dX4_presses_102 ?_
            refine v_top hf (fun w8 hf => ?_)
            refine v_istore_n (lv' := [(0, .ref (ad B 51)), (1, .int v1), (2, .int y1), (3, .int w8)]) C [1, 2, 3, 0] dX4_presses_103 rfl (by decide) rfl ?_
            refine v_goto (tgt := 112) C dX4_presses_104 (by decide) ?_
            refine v_bipush (v := 9) C dX4_presses_112 (by decide) ?_
            refine v_iload_n C 3 dX4_presses_114 rfl rfl ?_
            refine w_mmin C wd_797 (by decide) (Nat.le_of_ble_eq_true rfl) dX4_presses_115 ?_
            exact v_iret C dX4_presses_118 (fin_i hf hQ)
        · rw [if_neg hc15_4] at hf
          by_cases hc15_5 : y2 = 5
          · rw [if_pos hc15_5] at hf
            refine v_tabIn (tgt := 107) C dX4_presses_15 hc15_5 (by decide) (by decide) rfl (by decide) ?_
            refine v_iconst (v := 1) C dX4_presses_107 (by decide) ?_
            refine v_istore_n (lv' := [(0, .ref (ad B 51)), (1, .int v1), (2, .int y1), (3, .int 1)]) C [1, 2, 3, 0] dX4_presses_108 rfl (by decide) rfl ?_
            refine v_goto (tgt := 112) C dX4_presses_109 (by decide) ?_
            refine v_bipush (v := 9) C dX4_presses_112 (by decide) ?_
            refine v_iload_n C 3 dX4_presses_114 rfl rfl ?_
            refine w_mmin C wd_797 (by decide) (Nat.le_of_ble_eq_true rfl) dX4_presses_115 ?_
            exact v_iret C dX4_presses_118 (fin_i hf hQ)
          · rw [if_neg hc15_5] at hf
            by_cases hc15_6 : y2 = 6
            · rw [if_pos hc15_6] at hf
              refine v_tabIn (tgt := 59) C dX4_presses_15 hc15_6 (by decide) (by decide) rfl (by decide) ?_
              refine v_iconst (v := 0) C dX4_presses_59 (by decide) ?_
              refine v_iload_n C 2 dX4_presses_60 rfl rfl ?_
              refine v_iconst (v := 2) C dX4_presses_61 (by decide) ?_
              refine v_idiv C dX4_presses_62 (by decide) ?_
              refine v_iconst (v := 1) C dX4_presses_63 (by decide) ?_
              refine v_isub C dX4_presses_64 ?_
              refine w_mmax C wd_796 (by decide) (Nat.le_of_ble_eq_true rfl) dX4_presses_65 ?_
              refine v_top hf (fun w9 hf => ?_)
              refine v_istore_n (lv' := [(0, .ref (ad B 51)), (1, .int v1), (2, .int y1), (3, .int w9)]) C [1, 2, 3, 0] dX4_presses_68 rfl (by decide) rfl ?_
              refine v_goto (tgt := 112) C dX4_presses_69 (by decide) ?_
              refine v_bipush (v := 9) C dX4_presses_112 (by decide) ?_
              refine v_iload_n C 3 dX4_presses_114 rfl rfl ?_
              refine w_mmin C wd_797 (by decide) (Nat.le_of_ble_eq_true rfl) dX4_presses_115 ?_
              exact v_iret C dX4_presses_118 (fin_i hf hQ)
            · rw [if_neg hc15_6] at hf
              have e15_1 : y2.toInt ≠ 1 := ne_ti (y := 1) hc15_1
              have e15_2 : y2.toInt ≠ 2 := ne_ti (y := 2) hc15_2
              have e15_3 : y2.toInt ≠ 3 := ne_ti (y := 3) hc15_3
              have e15_4 : y2.toInt ≠ 4 := ne_ti (y := 4) hc15_4
              have e15_5 : y2.toInt ≠ 5 := ne_ti (y := 5) hc15_5
              have e15_6 : y2.toInt ≠ 6 := ne_ti (y := 6) hc15_6
              refine v_tabOut (tgt := 112) C dX4_presses_15 (by omega) (by decide) ?_
              refine v_bipush (v := 9) C dX4_presses_112 (by decide) ?_
              refine v_iload_n C 3 dX4_presses_114 rfl rfl ?_
              refine w_mmin C wd_797 (by decide) (Nat.le_of_ble_eq_true rfl) dX4_presses_115 ?_
              exact v_iret C dX4_presses_118 (fin_i hf hQ)
theorem mX4_presses {B : BB} {l : Launch} {L : St2 → St2} {x : St2} {v1 : Int32} {res : Int32} (hL : Ln 51 10 L) (hf : fX4_presses x v1 = some res) : Ret l B yX4_presses cX4_presses 4 (some .int) 1 22 [.ref (ad B 51), .int v1] (L x) (some (.int res)) (L x) := ret_of (own := RX4) (by decide) rfl (Nat.le_of_ble_eq_true rfl) (fun E C hQ => tX4_presses C hL hQ hf)
def fX4_looks (x : St2) (v1 : Int32) : Option Int32 := (fX4_its x v1 0).bind fun y1 => if y1 = 5 then ((fX4_its x v1 2).bind fun y3 => some (1 - y3)) else ((fX4_its x v1 2).bind fun y2 => some y2)
set_option maxHeartbeats 4000000 in
set_option maxRecDepth 100000 in
theorem tX4_looks {E : EE} {B : BB} {l : Launch} {L : St2 → St2} {x : St2} {v1 : Int32} {res : Int32} (C : Cx E B l cX4_looks RX4 (some .int) 2 1 22) (hL : Ln 51 10 L) (hQ : Fin9 E B (some (.int res)) (L x)) (hf : fX4_looks x v1 = some res) : V E B (L x) 0 [(0, .ref (ad B 51)), (1, .int v1)] [] := by
  unfold fX4_looks at hf
  refine v_aload_n C 0 dX4_looks_0 rfl rfl ?_
  refine v_iload_n C 1 dX4_looks_1 rfl rfl ?_
  refine v_iconst (v := 0) C dX4_looks_2 (by decide) ?_
  obtain ⟨y1, hy1, hf⟩ := bnd hf
  refine v_callV (r := some (.int y1)) (As := [.int v1, .int 0]) (rest := []) (K := 51) C (mX4_its hL hy1) cw_X4_its wd_734 (by decide) rfl rfl ⟨Nat.le_of_ble_eq_true rfl, Nat.le_of_ble_eq_true rfl⟩ rfl rfl (Nat.le_of_ble_eq_true rfl) dX4_looks_3 ?_
  refine v_iconst (v := 5) C dX4_looks_6 (by decide) ?_
  refine v_icmp_ne (tgt := 21) C dX4_looks_7 (by decide) hf (fun hf => ?_) (fun hf => ?_)
  · refine v_aload_n C 0 dX4_looks_21 rfl rfl ?_
    refine v_iload_n C 1 dX4_looks_22 rfl rfl ?_
    refine v_iconst (v := 2) C dX4_looks_23 (by decide) ?_
    obtain ⟨y2, hy2, hf⟩ := bnd hf
    refine v_callV (r := some (.int y2)) (As := [.int v1, .int 2]) (rest := []) (K := 51) C (mX4_its hL hy2) cw_X4_its wd_734 (by decide) rfl rfl ⟨Nat.le_of_ble_eq_true rfl, Nat.le_of_ble_eq_true rfl⟩ rfl rfl (Nat.le_of_ble_eq_true rfl) dX4_looks_24 ?_
    exact v_iret C dX4_looks_27 (fin_i hf hQ)
  · refine v_iconst (v := 1) C dX4_looks_10 (by decide) ?_
    refine v_aload_n C 0 dX4_looks_11 rfl rfl ?_
    refine v_iload_n C 1 dX4_looks_12 rfl rfl ?_
    refine v_iconst (v := 2) C dX4_looks_13 (by decide) ?_
    obtain ⟨y3, hy3, hf⟩ := bnd hf
    refine v_callV (r := some (.int y3)) (As := [.int v1, .int 2]) (rest := [.int 1]) (K := 51) C (mX4_its hL hy3) cw_X4_its wd_734 (by decide) rfl rfl ⟨Nat.le_of_ble_eq_true rfl, Nat.le_of_ble_eq_true rfl⟩ rfl rfl (Nat.le_of_ble_eq_true rfl) dX4_looks_14 ?_
    refine v_isub C dX4_looks_17 ?_
    refine v_goto (tgt := 27) C dX4_looks_18 (by decide) ?_
    exact v_iret C dX4_looks_27 (fin_i hf hQ)
theorem mX4_looks {B : BB} {l : Launch} {L : St2 → St2} {x : St2} {v1 : Int32} {res : Int32} (hL : Ln 51 10 L) (hf : fX4_looks x v1 = some res) : Ret l B yX4_looks cX4_looks 2 (some .int) 1 22 [.ref (ad B 51), .int v1] (L x) (some (.int res)) (L x) := ret_of (own := RX4) (by decide) rfl (Nat.le_of_ble_eq_true rfl) (fun E C hQ => tX4_looks C hL hQ hf)
def fX4_workOf_30 (N : Nat) (k4 : Int32 → Int32 → Option Int32) (x : St2) (v1 : Int32) (v3 : Int32) (s0 : Int32) (s1 : Int32) : Option Int32 := (some (s1 ||| s0)).bind fun w2 => k4 w2 (v3 + 1)
set_option maxHeartbeats 4000000 in
set_option maxRecDepth 100000 in
theorem tX4_workOf_30 {E : EE} {B : BB} {l : Launch} {L : St2 → St2} {N : Nat} {k4 : Int32 → Int32 → Option Int32} {x : St2} {v1 : Int32} {v3 : Int32} {s0 : Int32} {s1 : Int32} {res : Int32} (C : Cx E B l cX4_workOf RX4 (some .int) 4 0 0) (hL : Ln 51 10 L) (hQ : Fin9 E B (some (.int res)) (L x)) (hk4 : ∀ (v2 : Int32) (v3 : Int32), k4 v2 v3 = some res → V E B (L x) 4 [(0, .ref (ad B 51)), (1, .int v1), (2, .int v2), (3, .int v3)] []) (hf : fX4_workOf_30 N k4 x v1 v3 s0 s1 = some res) : V E B (L x) 30 [(0, .ref (ad B 51)), (1, .int v1), (3, .int v3)] [.int s0, .int s1] := by
  unfold fX4_workOf_30 at hf
  refine v_ior C dX4_workOf_30 ?_
  refine v_top hf (fun w2 hf => ?_)
  refine v_istore_n (lv' := [(0, .ref (ad B 51)), (1, .int v1), (2, .int w2), (3, .int v3)]) C [1, 2, 0, 3] dX4_workOf_31 rfl (by decide) rfl ?_
  refine v_iinc (q := 3) (v := v3 + 1) (lv' := [(0, .ref (ad B 51)), (1, .int v1), (2, .int w2), (3, .int (v3 + 1))]) C [1, 2, 3, 0] dX4_workOf_32 rfl rfl (by decide) rfl ?_
  refine v_goto (tgt := 4) C dX4_workOf_35 (by decide) ?_
  exact hk4 w2 (v3 + 1) hf
def fX4_workOf_4 (N : Nat) (x : St2) (v1 : Int32) : Nat → Int32 → Int32 → Option Int32
  | 0, _, _ => none
  | n + 1, v2, v3 => if 24 ≤ v3 then (some v2) else ((rd (x 1) 135 (5 + v3)).bind fun a1 => if a1 = v1 then (fX4_workOf_30 N (fX4_workOf_4 N x v1 n) x v1 v3 (1 <<< (v3 &&& 31)) v2) else (fX4_workOf_30 N (fX4_workOf_4 N x v1 n) x v1 v3 0 v2))
set_option maxHeartbeats 4000000 in
set_option maxRecDepth 100000 in
theorem tX4_workOf_4 {E : EE} {B : BB} {l : Launch} {L : St2 → St2} {N : Nat} {x : St2} {v1 : Int32} {res : Int32} (C : Cx E B l cX4_workOf RX4 (some .int) 4 0 0) (hL : Ln 51 10 L) (hQ : Fin9 E B (some (.int res)) (L x)) : ∀ (n : Nat) (v2 : Int32) (v3 : Int32), fX4_workOf_4 N x v1 n v2 v3 = some res → V E B (L x) 4 [(0, .ref (ad B 51)), (1, .int v1), (2, .int v2), (3, .int v3)] [] := by
  intro n
  induction n with
  | zero =>
    intro v2 v3 hf
    cases hf
  | succ n ih =>
    intro v2 v3 hf
    rw [fX4_workOf_4] at hf
    refine v_iload_n C 3 dX4_workOf_4 rfl rfl ?_
    refine v_bipush (v := 24) C dX4_workOf_5 (by decide) ?_
    refine v_icmp_ge (tgt := 38) C dX4_workOf_7 (by decide) hf (fun hf => ?_) (fun hf => ?_)
    · refine v_iload_n C 2 dX4_workOf_38 rfl rfl ?_
      exact v_iret C dX4_workOf_39 (fin_i hf hQ)
    · refine v_iload_n C 2 dX4_workOf_10 rfl rfl ?_
      refine v_aload_n C 0 dX4_workOf_11 rfl rfl ?_
      refine g_getR (K := 51) (i := 0) (j := 51 + 1) C (by decide) rfl rfl inX4 (by decide) rfl wd_667 dX4_workOf_12 ?_
      refine v_iconst (v := 5) C dX4_workOf_15 (by decide) ?_
      refine v_iload_n C 3 dX4_workOf_16 rfl rfl ?_
      refine v_iadd C dX4_workOf_17 ?_
      refine s_ald (k := 1) C hL (by decide) rfl dX4_workOf_18 hf (fun a1 hf => ?_)
      refine v_iload_n C 1 dX4_workOf_19 rfl rfl ?_
      refine v_icmp_ne (tgt := 29) C dX4_workOf_20 (by decide) hf (fun hf => ?_) (fun hf => ?_)
      · refine v_iconst (v := 0) C dX4_workOf_29 (by decide) ?_
        refine v_sub [0, 1, 3] rfl ?_
        exact tX4_workOf_30 C hL hQ ih hf
      · refine v_iconst (v := 1) C dX4_workOf_23 (by decide) ?_
        refine v_iload_n C 3 dX4_workOf_24 rfl rfl ?_
        refine v_ishl C dX4_workOf_25 ?_
        refine v_goto (tgt := 30) C dX4_workOf_26 (by decide) ?_
        refine v_sub [0, 1, 3] rfl ?_
        exact tX4_workOf_30 C hL hQ ih hf
def fX4_workOf (N : Nat) (x : St2) (v1 : Int32) : Option Int32 := fX4_workOf_4 N x v1 N 0 0
set_option maxHeartbeats 4000000 in
set_option maxRecDepth 100000 in
theorem tX4_workOf {E : EE} {B : BB} {l : Launch} {L : St2 → St2} {N : Nat} {x : St2} {v1 : Int32} {res : Int32} (C : Cx E B l cX4_workOf RX4 (some .int) 4 0 0) (hL : Ln 51 10 L) (hQ : Fin9 E B (some (.int res)) (L x)) (hf : fX4_workOf N x v1 = some res) : V E B (L x) 0 [(0, .ref (ad B 51)), (1, .int v1)] [] := by
  unfold fX4_workOf at hf
  refine v_iconst (v := 0) C dX4_workOf_0 (by decide) ?_
  refine v_istore_n (lv' := [(0, .ref (ad B 51)), (1, .int v1), (2, .int 0)]) C [1, 2, 0] dX4_workOf_1 rfl (by decide) rfl ?_
  refine v_iconst (v := 0) C dX4_workOf_2 (by decide) ?_
  refine v_istore_n (lv' := [(0, .ref (ad B 51)), (1, .int v1), (2, .int 0), (3, .int 0)]) C [1, 2, 3, 0] dX4_workOf_3 rfl (by decide) rfl ?_
  exact tX4_workOf_4 C hL hQ N 0 0 hf
theorem mX4_workOf {B : BB} {l : Launch} {L : St2 → St2} {N : Nat} {x : St2} {v1 : Int32} {res : Int32} (hL : Ln 51 10 L) (hf : fX4_workOf N x v1 = some res) : Ret l B yX4_workOf cX4_workOf 4 (some .int) 0 0 [.ref (ad B 51), .int v1] (L x) (some (.int res)) (L x) := ret_of (own := RX4) (by decide) rfl (Nat.le_of_ble_eq_true rfl) (fun E C hQ => tX4_workOf C hL hQ hf)
def fX4_adds (x : St2) (v1 : Int32) (v2 : Int32) : Option (Int32 × St2) := (rd (x 1) 135 2).bind fun a1 => (rd (x 1) 135 2).bind fun a2 => (wr x 1 135 2 (a2 + 1)).bind fun x3 => (fX4_sets x3 a1 0 v1).bind fun y4 => (fX4_sets y4 a1 1 v2).bind fun y5 => (fX4_sets y5 a1 2 1).bind fun y6 => (fX4_sets y6 a1 3 1).bind fun y7 => (fX4_sets y7 a1 4 4).bind fun y8 => (fX4_sets y8 a1 5 0).bind fun y9 => some (a1, y9)
set_option maxHeartbeats 4000000 in
set_option maxRecDepth 100000 in
theorem tX4_adds {E : EE} {B : BB} {l : Launch} {L : St2 → St2} {x : St2} {v1 : Int32} {v2 : Int32} {res : (Int32 × St2)} (C : Cx E B l cX4_adds RX4 (some .int) 4 1 23) (hL : Ln 51 10 L) (hQ : Fin9 E B (some (.int res.1)) (L res.2)) (hf : fX4_adds x v1 v2 = some res) : V E B (L x) 0 [(0, .ref (ad B 51)), (1, .int v1), (2, .int v2)] [] := by
  unfold fX4_adds at hf
  refine v_aload_n C 0 dX4_adds_0 rfl rfl ?_
  refine g_getR (K := 51) (i := 0) (j := 51 + 1) C (by decide) rfl rfl inX4 (by decide) rfl wd_667 dX4_adds_1 ?_
  refine v_iconst (v := 2) C dX4_adds_4 (by decide) ?_
  refine s_ald (k := 1) C hL (by decide) rfl dX4_adds_5 hf (fun a1 hf => ?_)
  refine v_istore_n (lv' := [(0, .ref (ad B 51)), (1, .int v1), (2, .int v2), (3, .int a1)]) C [1, 2, 3, 0] dX4_adds_6 rfl (by decide) rfl ?_
  refine v_aload_n C 0 dX4_adds_7 rfl rfl ?_
  refine g_getR (K := 51) (i := 0) (j := 51 + 1) C (by decide) rfl rfl inX4 (by decide) rfl wd_667 dX4_adds_8 ?_
  refine v_iconst (v := 2) C dX4_adds_11 (by decide) ?_
  refine v_dup2 C dX4_adds_12 rfl rfl ?_
  refine s_ald (k := 1) C hL (by decide) rfl dX4_adds_13 hf (fun a2 hf => ?_)
  refine v_iconst (v := 1) C dX4_adds_14 (by decide) ?_
  refine v_iadd C dX4_adds_15 ?_
  refine s_ast (k := 1) C hL (by decide) rfl dX4_adds_16 hf (fun x3 hf => ?_)
  refine v_aload_n C 0 dX4_adds_17 rfl rfl ?_
  refine v_iload_n C 3 dX4_adds_18 rfl rfl ?_
  refine v_iconst (v := 0) C dX4_adds_19 (by decide) ?_
  refine v_iload_n C 1 dX4_adds_20 rfl rfl ?_
  obtain ⟨y4, hy4, hf⟩ := bnd hf
  refine v_callV (r := none) (As := [.int a1, .int 0, .int v1]) (rest := []) (K := 51) C (mX4_sets hL hy4) cw_X4_sets wd_780 (by decide) rfl rfl ⟨Nat.le_of_ble_eq_true rfl, Nat.le_of_ble_eq_true rfl⟩ rfl rfl (Nat.le_of_ble_eq_true rfl) dX4_adds_21 ?_
  refine v_aload_n C 0 dX4_adds_24 rfl rfl ?_
  refine v_iload_n C 3 dX4_adds_25 rfl rfl ?_
  refine v_iconst (v := 1) C dX4_adds_26 (by decide) ?_
  refine v_iload_n C 2 dX4_adds_27 rfl rfl ?_
  obtain ⟨y5, hy5, hf⟩ := bnd hf
  refine v_callV (r := none) (As := [.int a1, .int 1, .int v2]) (rest := []) (K := 51) C (mX4_sets hL hy5) cw_X4_sets wd_780 (by decide) rfl rfl ⟨Nat.le_of_ble_eq_true rfl, Nat.le_of_ble_eq_true rfl⟩ rfl rfl (Nat.le_of_ble_eq_true rfl) dX4_adds_28 ?_
  refine v_aload_n C 0 dX4_adds_31 rfl rfl ?_
  refine v_iload_n C 3 dX4_adds_32 rfl rfl ?_
  refine v_iconst (v := 2) C dX4_adds_33 (by decide) ?_
  refine v_iconst (v := 1) C dX4_adds_34 (by decide) ?_
  obtain ⟨y6, hy6, hf⟩ := bnd hf
  refine v_callV (r := none) (As := [.int a1, .int 2, .int 1]) (rest := []) (K := 51) C (mX4_sets hL hy6) cw_X4_sets wd_780 (by decide) rfl rfl ⟨Nat.le_of_ble_eq_true rfl, Nat.le_of_ble_eq_true rfl⟩ rfl rfl (Nat.le_of_ble_eq_true rfl) dX4_adds_35 ?_
  refine v_aload_n C 0 dX4_adds_38 rfl rfl ?_
  refine v_iload_n C 3 dX4_adds_39 rfl rfl ?_
  refine v_iconst (v := 3) C dX4_adds_40 (by decide) ?_
  refine v_iconst (v := 1) C dX4_adds_41 (by decide) ?_
  obtain ⟨y7, hy7, hf⟩ := bnd hf
  refine v_callV (r := none) (As := [.int a1, .int 3, .int 1]) (rest := []) (K := 51) C (mX4_sets hL hy7) cw_X4_sets wd_780 (by decide) rfl rfl ⟨Nat.le_of_ble_eq_true rfl, Nat.le_of_ble_eq_true rfl⟩ rfl rfl (Nat.le_of_ble_eq_true rfl) dX4_adds_42 ?_
  refine v_aload_n C 0 dX4_adds_45 rfl rfl ?_
  refine v_iload_n C 3 dX4_adds_46 rfl rfl ?_
  refine v_iconst (v := 4) C dX4_adds_47 (by decide) ?_
  refine v_iconst (v := 4) C dX4_adds_48 (by decide) ?_
  obtain ⟨y8, hy8, hf⟩ := bnd hf
  refine v_callV (r := none) (As := [.int a1, .int 4, .int 4]) (rest := []) (K := 51) C (mX4_sets hL hy8) cw_X4_sets wd_780 (by decide) rfl rfl ⟨Nat.le_of_ble_eq_true rfl, Nat.le_of_ble_eq_true rfl⟩ rfl rfl (Nat.le_of_ble_eq_true rfl) dX4_adds_49 ?_
  refine v_aload_n C 0 dX4_adds_52 rfl rfl ?_
  refine v_iload_n C 3 dX4_adds_53 rfl rfl ?_
  refine v_iconst (v := 5) C dX4_adds_54 (by decide) ?_
  refine v_iconst (v := 0) C dX4_adds_55 (by decide) ?_
  obtain ⟨y9, hy9, hf⟩ := bnd hf
  refine v_callV (r := none) (As := [.int a1, .int 5, .int 0]) (rest := []) (K := 51) C (mX4_sets hL hy9) cw_X4_sets wd_780 (by decide) rfl rfl ⟨Nat.le_of_ble_eq_true rfl, Nat.le_of_ble_eq_true rfl⟩ rfl rfl (Nat.le_of_ble_eq_true rfl) dX4_adds_56 ?_
  refine v_iload_n C 3 dX4_adds_59 rfl rfl ?_
  exact v_iret C dX4_adds_60 (fin_im hf hQ)
theorem mX4_adds {B : BB} {l : Launch} {L : St2 → St2} {x : St2} {v1 : Int32} {v2 : Int32} {res : (Int32 × St2)} (hL : Ln 51 10 L) (hf : fX4_adds x v1 v2 = some res) : Ret l B yX4_adds cX4_adds 4 (some .int) 1 23 [.ref (ad B 51), .int v1, .int v2] (L x) (some (.int res.1)) (L res.2) := ret_of (own := RX4) (by decide) rfl (Nat.le_of_ble_eq_true rfl) (fun E C hQ => tX4_adds C hL hQ hf)
def fX4_walkersAt_32 (N : Nat) (k4 : Int32 → Int32 → Option Int32) (x : St2) (v1 : Int32) (v3 : Int32) (s0 : Int32) (s1 : Int32) : Option Int32 := (some (s1 ||| s0)).bind fun w3 => k4 w3 (v3 + 1)
set_option maxHeartbeats 4000000 in
set_option maxRecDepth 100000 in
theorem tX4_walkersAt_32 {E : EE} {B : BB} {l : Launch} {L : St2 → St2} {N : Nat} {k4 : Int32 → Int32 → Option Int32} {x : St2} {v1 : Int32} {v3 : Int32} {s0 : Int32} {s1 : Int32} {res : Int32} (C : Cx E B l cX4_walkersAt RX4 (some .int) 4 1 22) (hL : Ln 51 10 L) (hQ : Fin9 E B (some (.int res)) (L x)) (hk4 : ∀ (v2 : Int32) (v3 : Int32), k4 v2 v3 = some res → V E B (L x) 4 [(0, .ref (ad B 51)), (1, .int v1), (2, .int v2), (3, .int v3)] []) (hf : fX4_walkersAt_32 N k4 x v1 v3 s0 s1 = some res) : V E B (L x) 32 [(0, .ref (ad B 51)), (1, .int v1), (3, .int v3)] [.int s0, .int s1] := by
  unfold fX4_walkersAt_32 at hf
  refine v_ior C dX4_walkersAt_32 ?_
  refine v_top hf (fun w3 hf => ?_)
  refine v_istore_n (lv' := [(0, .ref (ad B 51)), (1, .int v1), (2, .int w3), (3, .int v3)]) C [1, 2, 0, 3] dX4_walkersAt_33 rfl (by decide) rfl ?_
  refine v_iinc (q := 3) (v := v3 + 1) (lv' := [(0, .ref (ad B 51)), (1, .int v1), (2, .int w3), (3, .int (v3 + 1))]) C [1, 2, 3, 0] dX4_walkersAt_34 rfl rfl (by decide) rfl ?_
  refine v_goto (tgt := 4) C dX4_walkersAt_37 (by decide) ?_
  exact hk4 w3 (v3 + 1) hf
def fX4_walkersAt_4 (N : Nat) (x : St2) (v1 : Int32) : Nat → Int32 → Int32 → Option Int32
  | 0, _, _ => none
  | n + 1, v2, v3 => (rd (x 1) 135 2).bind fun a1 => if a1 ≤ v3 then (some v2) else ((fX4_its x v3 1).bind fun y2 => if y2 = v1 then (fX4_walkersAt_32 N (fX4_walkersAt_4 N x v1 n) x v1 v3 (1 <<< (v3 &&& 31)) v2) else (fX4_walkersAt_32 N (fX4_walkersAt_4 N x v1 n) x v1 v3 0 v2))
set_option maxHeartbeats 4000000 in
set_option maxRecDepth 100000 in
theorem tX4_walkersAt_4 {E : EE} {B : BB} {l : Launch} {L : St2 → St2} {N : Nat} {x : St2} {v1 : Int32} {res : Int32} (C : Cx E B l cX4_walkersAt RX4 (some .int) 4 1 22) (hL : Ln 51 10 L) (hQ : Fin9 E B (some (.int res)) (L x)) : ∀ (n : Nat) (v2 : Int32) (v3 : Int32), fX4_walkersAt_4 N x v1 n v2 v3 = some res → V E B (L x) 4 [(0, .ref (ad B 51)), (1, .int v1), (2, .int v2), (3, .int v3)] [] := by
  intro n
  induction n with
  | zero =>
    intro v2 v3 hf
    cases hf
  | succ n ih =>
    intro v2 v3 hf
    rw [fX4_walkersAt_4] at hf
    refine v_iload_n C 3 dX4_walkersAt_4 rfl rfl ?_
    refine v_aload_n C 0 dX4_walkersAt_5 rfl rfl ?_
    refine g_getR (K := 51) (i := 0) (j := 51 + 1) C (by decide) rfl rfl inX4 (by decide) rfl wd_667 dX4_walkersAt_6 ?_
    refine v_iconst (v := 2) C dX4_walkersAt_9 (by decide) ?_
    refine s_ald (k := 1) C hL (by decide) rfl dX4_walkersAt_10 hf (fun a1 hf => ?_)
    refine v_icmp_ge (tgt := 40) C dX4_walkersAt_11 (by decide) hf (fun hf => ?_) (fun hf => ?_)
    · refine v_iload_n C 2 dX4_walkersAt_40 rfl rfl ?_
      exact v_iret C dX4_walkersAt_41 (fin_i hf hQ)
    · refine v_iload_n C 2 dX4_walkersAt_14 rfl rfl ?_
      refine v_aload_n C 0 dX4_walkersAt_15 rfl rfl ?_
      refine v_iload_n C 3 dX4_walkersAt_16 rfl rfl ?_
      refine v_iconst (v := 1) C dX4_walkersAt_17 (by decide) ?_
      obtain ⟨y2, hy2, hf⟩ := bnd hf
      refine v_callV (r := some (.int y2)) (As := [.int v3, .int 1]) (rest := [.int v2]) (K := 51) C (mX4_its hL hy2) cw_X4_its wd_734 (by decide) rfl rfl ⟨Nat.le_of_ble_eq_true rfl, Nat.le_of_ble_eq_true rfl⟩ rfl rfl (Nat.le_of_ble_eq_true rfl) dX4_walkersAt_18 ?_
      refine v_iload_n C 1 dX4_walkersAt_21 rfl rfl ?_
      refine v_icmp_ne (tgt := 31) C dX4_walkersAt_22 (by decide) hf (fun hf => ?_) (fun hf => ?_)
      · refine v_iconst (v := 0) C dX4_walkersAt_31 (by decide) ?_
        refine v_sub [0, 1, 3] rfl ?_
        exact tX4_walkersAt_32 C hL hQ ih hf
      · refine v_iconst (v := 1) C dX4_walkersAt_25 (by decide) ?_
        refine v_iload_n C 3 dX4_walkersAt_26 rfl rfl ?_
        refine v_ishl C dX4_walkersAt_27 ?_
        refine v_goto (tgt := 32) C dX4_walkersAt_28 (by decide) ?_
        refine v_sub [0, 1, 3] rfl ?_
        exact tX4_walkersAt_32 C hL hQ ih hf
def fX4_walkersAt (N : Nat) (x : St2) (v1 : Int32) : Option Int32 := fX4_walkersAt_4 N x v1 N 0 0
set_option maxHeartbeats 4000000 in
set_option maxRecDepth 100000 in
theorem tX4_walkersAt {E : EE} {B : BB} {l : Launch} {L : St2 → St2} {N : Nat} {x : St2} {v1 : Int32} {res : Int32} (C : Cx E B l cX4_walkersAt RX4 (some .int) 4 1 22) (hL : Ln 51 10 L) (hQ : Fin9 E B (some (.int res)) (L x)) (hf : fX4_walkersAt N x v1 = some res) : V E B (L x) 0 [(0, .ref (ad B 51)), (1, .int v1)] [] := by
  unfold fX4_walkersAt at hf
  refine v_iconst (v := 0) C dX4_walkersAt_0 (by decide) ?_
  refine v_istore_n (lv' := [(0, .ref (ad B 51)), (1, .int v1), (2, .int 0)]) C [1, 2, 0] dX4_walkersAt_1 rfl (by decide) rfl ?_
  refine v_iconst (v := 0) C dX4_walkersAt_2 (by decide) ?_
  refine v_istore_n (lv' := [(0, .ref (ad B 51)), (1, .int v1), (2, .int 0), (3, .int 0)]) C [1, 2, 3, 0] dX4_walkersAt_3 rfl (by decide) rfl ?_
  exact tX4_walkersAt_4 C hL hQ N 0 0 hf
theorem mX4_walkersAt {B : BB} {l : Launch} {L : St2 → St2} {N : Nat} {x : St2} {v1 : Int32} {res : Int32} (hL : Ln 51 10 L) (hf : fX4_walkersAt N x v1 = some res) : Ret l B yX4_walkersAt cX4_walkersAt 4 (some .int) 1 22 [.ref (ad B 51), .int v1] (L x) (some (.int res)) (L x) := ret_of (own := RX4) (by decide) rfl (Nat.le_of_ble_eq_true rfl) (fun E C hQ => tX4_walkersAt C hL hQ hf)
def fX4_cell (N : Nat) (x : St2) (v1 : Int32) (v2 : Int32) : Option (Int32 × St2) := (fX4_isCell v1).bind fun y1 => if y1 = 0 then ((fX4_finds x 0).bind fun y2 => some (y2.1, y2.2)) else ((fX4_in v2.toInt64 0 3).bind fun y3 => if y3 = 0 then ((fX4_finds x 0).bind fun y6 => some (y6.1, y6.2)) else (if v2 = 3 then ((fX4_walkersAt N x v1).bind fun y5 => some (y5, x)) else ((rd (x 1) 135 ((5 + (24 * v2)) + v1)).bind fun a4 => some (a4, x))))
set_option maxHeartbeats 4000000 in
set_option maxRecDepth 100000 in
theorem tX4_cell {E : EE} {B : BB} {l : Launch} {L : St2 → St2} {N : Nat} {x : St2} {v1 : Int32} {v2 : Int32} {res : (Int32 × St2)} (C : Cx E B l cX4_cell RX4 (some .int) 3 2 45) (hL : Ln 51 10 L) (hQ : Fin9 E B (some (.int res.1)) (L res.2)) (hf : fX4_cell N x v1 v2 = some res) : V E B (L x) 0 [(0, .ref (ad B 51)), (1, .int v1), (2, .int v2)] [] := by
  unfold fX4_cell at hf
  refine v_iload_n C 1 dX4_cell_0 rfl rfl ?_
  obtain ⟨y1, hy1, hf⟩ := bnd hf
  refine v_callS (r := some (.int y1)) (As := [.int v1]) (rest := []) C (mX4_isCell  hy1) cw_X4_isCell wd_717 ⟨Nat.le_of_ble_eq_true rfl, Nat.le_of_ble_eq_true rfl⟩ rfl rfl (Nat.le_of_ble_eq_true rfl) dX4_cell_1 ?_
  refine v_if_eq (tgt := 19) C dX4_cell_4 (by decide) hf (fun hf => ?_) (fun hf => ?_)
  · refine v_aload_n C 0 dX4_cell_19 rfl rfl ?_
    refine v_iconst (v := 0) C dX4_cell_20 (by decide) ?_
    obtain ⟨y2, hy2, hf⟩ := bnd hf
    refine v_callV (r := some (.int y2.1)) (As := [.int 0]) (rest := []) (K := 51) C (mX4_finds hL hy2) cw_X4_finds wd_725 (by decide) rfl rfl ⟨Nat.le_of_ble_eq_true rfl, Nat.le_of_ble_eq_true rfl⟩ rfl rfl (Nat.le_of_ble_eq_true rfl) dX4_cell_21 ?_
    exact v_iret C dX4_cell_24 (fin_im hf hQ)
  · refine v_iload_n C 2 dX4_cell_7 rfl rfl ?_
    refine v_i2l C dX4_cell_8 ?_
    refine v_lconst (v := 0) C dX4_cell_9 (by decide) ?_
    refine v_ldc2 C wd_724 dX4_cell_10 ?_
    obtain ⟨y3, hy3, hf⟩ := bnd hf
    refine v_callS (r := some (.int y3)) (As := [.long v2.toInt64, .long 0, .long 3]) (rest := []) C (mX4_in  hy3) cw_X4_in wd_721 ⟨Nat.le_of_ble_eq_true rfl, Nat.le_of_ble_eq_true rfl⟩ rfl rfl (Nat.le_of_ble_eq_true rfl) dX4_cell_13 ?_
    refine v_if_ne (tgt := 25) C dX4_cell_16 (by decide) hf (fun hf => ?_) (fun hf => ?_)
    · refine v_iload_n C 2 dX4_cell_25 rfl rfl ?_
      refine v_iconst (v := 3) C dX4_cell_26 (by decide) ?_
      refine v_icmp_ne (tgt := 38) C dX4_cell_27 (by decide) hf (fun hf => ?_) (fun hf => ?_)
      · refine v_aload_n C 0 dX4_cell_38 rfl rfl ?_
        refine g_getR (K := 51) (i := 0) (j := 51 + 1) C (by decide) rfl rfl inX4 (by decide) rfl wd_667 dX4_cell_39 ?_
        refine v_iconst (v := 5) C dX4_cell_42 (by decide) ?_
        refine v_bipush (v := 24) C dX4_cell_43 (by decide) ?_
        refine v_iload_n C 2 dX4_cell_45 rfl rfl ?_
        refine v_imul C dX4_cell_46 ?_
        refine v_iadd C dX4_cell_47 ?_
        refine v_iload_n C 1 dX4_cell_48 rfl rfl ?_
        refine v_iadd C dX4_cell_49 ?_
        refine s_ald (k := 1) C hL (by decide) rfl dX4_cell_50 hf (fun a4 hf => ?_)
        exact v_iret C dX4_cell_51 (fin_im hf hQ)
      · refine v_aload_n C 0 dX4_cell_30 rfl rfl ?_
        refine v_iload_n C 1 dX4_cell_31 rfl rfl ?_
        obtain ⟨y5, hy5, hf⟩ := bnd hf
        refine v_callV (r := some (.int y5)) (As := [.int v1]) (rest := []) (K := 51) C (mX4_walkersAt hL hy5) cw_X4_walkersAt wd_730 (by decide) rfl rfl ⟨Nat.le_of_ble_eq_true rfl, Nat.le_of_ble_eq_true rfl⟩ rfl rfl (Nat.le_of_ble_eq_true rfl) dX4_cell_32 ?_
        refine v_goto (tgt := 51) C dX4_cell_35 (by decide) ?_
        exact v_iret C dX4_cell_51 (fin_im hf hQ)
    · refine v_aload_n C 0 dX4_cell_19 rfl rfl ?_
      refine v_iconst (v := 0) C dX4_cell_20 (by decide) ?_
      obtain ⟨y6, hy6, hf⟩ := bnd hf
      refine v_callV (r := some (.int y6.1)) (As := [.int 0]) (rest := []) (K := 51) C (mX4_finds hL hy6) cw_X4_finds wd_725 (by decide) rfl rfl ⟨Nat.le_of_ble_eq_true rfl, Nat.le_of_ble_eq_true rfl⟩ rfl rfl (Nat.le_of_ble_eq_true rfl) dX4_cell_21 ?_
      exact v_iret C dX4_cell_24 (fin_im hf hQ)
theorem mX4_cell {B : BB} {l : Launch} {L : St2 → St2} {N : Nat} {x : St2} {v1 : Int32} {v2 : Int32} {res : (Int32 × St2)} (hL : Ln 51 10 L) (hf : fX4_cell N x v1 v2 = some res) : Ret l B yX4_cell cX4_cell 3 (some .int) 2 45 [.ref (ad B 51), .int v1, .int v2] (L x) (some (.int res.1)) (L res.2) := ret_of (own := RX4) (by decide) rfl (Nat.le_of_ble_eq_true rfl) (fun E C hQ => tX4_cell C hL hQ hf)
def fX4_prints_26 (x : St2) (v1 : Int32) (v2 : Int32) (v4 : Int32) (s0 : Int32) (s1 : Int32) : Option St2 := (wr x 1 135 s1 s0).bind fun x2 => if 0 ≤ v2 then ((wr x2 1 135 (53 + v1) v4).bind fun x3 => some x3) else ((wr x2 1 135 (53 + v1) 0).bind fun x4 => some x4)
set_option maxHeartbeats 4000000 in
set_option maxRecDepth 100000 in
theorem tX4_prints_26 {E : EE} {B : BB} {l : Launch} {L : St2 → St2} {x : St2} {v1 : Int32} {v2 : Int32} {v4 : Int32} {s0 : Int32} {s1 : Int32} {res : St2} (C : Cx E B l cX4_prints RX4 none 5 0 0) (hL : Ln 51 10 L) (hQ : Fin9 E B none (L res)) (hf : fX4_prints_26 x v1 v2 v4 s0 s1 = some res) : V E B (L x) 26 [(0, .ref (ad B 51)), (1, .int v1), (2, .int v2), (4, .int v4)] [.int s0, .int s1, .ref (ad B (51 + 1))] := by
  unfold fX4_prints_26 at hf
  refine s_ast (k := 1) C hL (by decide) rfl dX4_prints_26 hf (fun x2 hf => ?_)
  refine v_aload_n C 0 dX4_prints_27 rfl rfl ?_
  refine g_getR (K := 51) (i := 0) (j := 51 + 1) C (by decide) rfl rfl inX4 (by decide) rfl wd_667 dX4_prints_28 ?_
  refine v_bipush (v := 53) C dX4_prints_31 (by decide) ?_
  refine v_iload_n C 1 dX4_prints_33 rfl rfl ?_
  refine v_iadd C dX4_prints_34 ?_
  refine v_iload_n C 2 dX4_prints_35 rfl rfl ?_
  refine v_if_ge (tgt := 43) C dX4_prints_36 (by decide) hf (fun hf => ?_) (fun hf => ?_)
  · refine v_iload C 3 dX4_prints_43 rfl ?_
    refine s_ast (k := 1) C hL (by decide) rfl dX4_prints_45 hf (fun x3 hf => ?_)
    exact v_vret C dX4_prints_46 (fin_v hf hQ)
  · refine v_iconst (v := 0) C dX4_prints_39 (by decide) ?_
    refine v_goto (tgt := 45) C dX4_prints_40 (by decide) ?_
    refine s_ast (k := 1) C hL (by decide) rfl dX4_prints_45 hf (fun x4 hf => ?_)
    exact v_vret C dX4_prints_46 (fin_v hf hQ)
def fX4_prints (x : St2) (v1 : Int32) (v2 : Int32) (v3 : Int32) (v4 : Int32) : Option St2 := (wr x 1 135 (5 + v1) v2).bind fun x1 => if 0 ≤ v2 then (fX4_prints_26 x1 v1 v2 v4 v3 (29 + v1)) else (fX4_prints_26 x1 v1 v2 v4 0 (29 + v1))
set_option maxHeartbeats 4000000 in
set_option maxRecDepth 100000 in
theorem tX4_prints {E : EE} {B : BB} {l : Launch} {L : St2 → St2} {x : St2} {v1 : Int32} {v2 : Int32} {v3 : Int32} {v4 : Int32} {res : St2} (C : Cx E B l cX4_prints RX4 none 5 0 0) (hL : Ln 51 10 L) (hQ : Fin9 E B none (L res)) (hf : fX4_prints x v1 v2 v3 v4 = some res) : V E B (L x) 0 [(0, .ref (ad B 51)), (1, .int v1), (2, .int v2), (3, .int v3), (4, .int v4)] [] := by
  unfold fX4_prints at hf
  refine v_aload_n C 0 dX4_prints_0 rfl rfl ?_
  refine g_getR (K := 51) (i := 0) (j := 51 + 1) C (by decide) rfl rfl inX4 (by decide) rfl wd_667 dX4_prints_1 ?_
  refine v_iconst (v := 5) C dX4_prints_4 (by decide) ?_
  refine v_iload_n C 1 dX4_prints_5 rfl rfl ?_
  refine v_iadd C dX4_prints_6 ?_
  refine v_iload_n C 2 dX4_prints_7 rfl rfl ?_
  refine s_ast (k := 1) C hL (by decide) rfl dX4_prints_8 hf (fun x1 hf => ?_)
  refine v_aload_n C 0 dX4_prints_9 rfl rfl ?_
  refine g_getR (K := 51) (i := 0) (j := 51 + 1) C (by decide) rfl rfl inX4 (by decide) rfl wd_667 dX4_prints_10 ?_
  refine v_bipush (v := 29) C dX4_prints_13 (by decide) ?_
  refine v_iload_n C 1 dX4_prints_15 rfl rfl ?_
  refine v_iadd C dX4_prints_16 ?_
  refine v_iload_n C 2 dX4_prints_17 rfl rfl ?_
  refine v_if_ge (tgt := 25) C dX4_prints_18 (by decide) hf (fun hf => ?_) (fun hf => ?_)
  · refine v_iload_n C 3 dX4_prints_25 rfl rfl ?_
    refine v_sub [0, 1, 2, 4] rfl ?_
    exact tX4_prints_26 C hL hQ hf
  · refine v_iconst (v := 0) C dX4_prints_21 (by decide) ?_
    refine v_goto (tgt := 26) C dX4_prints_22 (by decide) ?_
    refine v_sub [0, 1, 2, 4] rfl ?_
    exact tX4_prints_26 C hL hQ hf
theorem mX4_prints {B : BB} {l : Launch} {L : St2 → St2} {x : St2} {v1 : Int32} {v2 : Int32} {v3 : Int32} {v4 : Int32} {res : St2} (hL : Ln 51 10 L) (hf : fX4_prints x v1 v2 v3 v4 = some res) : Ret l B yX4_prints cX4_prints 5 none 0 0 [.ref (ad B 51), .int v1, .int v2, .int v3, .int v4] (L x) none (L res) := ret_of (own := RX4) (by decide) rfl (Nat.le_of_ble_eq_true rfl) (fun E C hQ => tX4_prints C hL hQ hf)
def fX4_print_20 (x : St2) (v1 : Int32) (v2 : Int32) (v3 : Int32) : Option (Int32 × St2) := (fX4_in v3.toInt64 0 9).bind fun y3 => if y3 = 0 then ((fX4_finds x 0).bind fun y8 => some (y8.1, y8.2)) else ((rd (x 1) 135 (5 + v1)).bind fun a4 => if 0 ≤ v2 then ((fX4_its x v2 2).bind fun y5 => (fX4_prints x v1 v2 v3 y5).bind fun y6 => some (a4, y6)) else ((fX4_prints x v1 v2 v3 0).bind fun y7 => some (a4, y7)))
set_option maxHeartbeats 4000000 in
set_option maxRecDepth 100000 in
theorem tX4_print_20 {E : EE} {B : BB} {l : Launch} {L : St2 → St2} {x : St2} {v1 : Int32} {v2 : Int32} {v3 : Int32} {res : (Int32 × St2)} (C : Cx E B l cX4_print RX4 (some .int) 5 2 46) (hL : Ln 51 10 L) (hQ : Fin9 E B (some (.int res.1)) (L res.2)) (hf : fX4_print_20 x v1 v2 v3 = some res) : V E B (L x) 20 [(0, .ref (ad B 51)), (1, .int v1), (2, .int v2), (3, .int v3)] [] := by
  unfold fX4_print_20 at hf
  refine v_iload_n C 3 dX4_print_20 rfl rfl ?_
  refine v_i2l C dX4_print_21 ?_
  refine v_lconst (v := 0) C dX4_print_22 (by decide) ?_
  refine v_ldc2 C wd_746 dX4_print_23 ?_
  obtain ⟨y3, hy3, hf⟩ := bnd hf
  refine v_callS (r := some (.int y3)) (As := [.long v3.toInt64, .long 0, .long 9]) (rest := []) C (mX4_in  hy3) cw_X4_in wd_721 ⟨Nat.le_of_ble_eq_true rfl, Nat.le_of_ble_eq_true rfl⟩ rfl rfl (Nat.le_of_ble_eq_true rfl) dX4_print_26 ?_
  refine v_if_ne (tgt := 38) C dX4_print_29 (by decide) hf (fun hf => ?_) (fun hf => ?_)
  · refine v_aload_n C 0 dX4_print_38 rfl rfl ?_
    refine g_getR (K := 51) (i := 0) (j := 51 + 1) C (by decide) rfl rfl inX4 (by decide) rfl wd_667 dX4_print_39 ?_
    refine v_iconst (v := 5) C dX4_print_42 (by decide) ?_
    refine v_iload_n C 1 dX4_print_43 rfl rfl ?_
    refine v_iadd C dX4_print_44 ?_
    refine s_ald (k := 1) C hL (by decide) rfl dX4_print_45 hf (fun a4 hf => ?_)
    refine v_istore (lv' := [(0, .ref (ad B 51)), (1, .int v1), (2, .int v2), (3, .int v3), (4, .int a4)]) C [1, 2, 3, 4, 0] dX4_print_46 (by decide) rfl ?_
    refine v_aload_n C 0 dX4_print_48 rfl rfl ?_
    refine v_iload_n C 1 dX4_print_49 rfl rfl ?_
    refine v_iload_n C 2 dX4_print_50 rfl rfl ?_
    refine v_iload_n C 3 dX4_print_51 rfl rfl ?_
    refine v_iload_n C 2 dX4_print_52 rfl rfl ?_
    refine v_if_ge (tgt := 60) C dX4_print_53 (by decide) hf (fun hf => ?_) (fun hf => ?_)
    · refine v_aload_n C 0 dX4_print_60 rfl rfl ?_
      refine v_iload_n C 2 dX4_print_61 rfl rfl ?_
      refine v_iconst (v := 2) C dX4_print_62 (by decide) ?_
      obtain ⟨y5, hy5, hf⟩ := bnd hf
      refine v_callV (r := some (.int y5)) (As := [.int v2, .int 2]) (rest := [.int v3, .int v2, .int v1, .ref (ad B 51)]) (K := 51) C (mX4_its hL hy5) cw_X4_its wd_734 (by decide) rfl rfl ⟨Nat.le_of_ble_eq_true rfl, Nat.le_of_ble_eq_true rfl⟩ rfl rfl (Nat.le_of_ble_eq_true rfl) dX4_print_63 ?_
      obtain ⟨y6, hy6, hf⟩ := bnd hf
      refine v_callV (r := none) (As := [.int v1, .int v2, .int v3, .int y5]) (rest := []) (K := 51) C (mX4_prints hL hy6) cw_X4_prints wd_747 (by decide) rfl rfl ⟨Nat.le_of_ble_eq_true rfl, Nat.le_of_ble_eq_true rfl⟩ rfl rfl (Nat.le_of_ble_eq_true rfl) dX4_print_66 ?_
      refine v_iload C 4 dX4_print_69 rfl ?_
      exact v_iret C dX4_print_71 (fin_im hf hQ)
    · refine v_iconst (v := 0) C dX4_print_56 (by decide) ?_
      refine v_goto (tgt := 66) C dX4_print_57 (by decide) ?_
      obtain ⟨y7, hy7, hf⟩ := bnd hf
      refine v_callV (r := none) (As := [.int v1, .int v2, .int v3, .int 0]) (rest := []) (K := 51) C (mX4_prints hL hy7) cw_X4_prints wd_747 (by decide) rfl rfl ⟨Nat.le_of_ble_eq_true rfl, Nat.le_of_ble_eq_true rfl⟩ rfl rfl (Nat.le_of_ble_eq_true rfl) dX4_print_66 ?_
      refine v_iload C 4 dX4_print_69 rfl ?_
      exact v_iret C dX4_print_71 (fin_im hf hQ)
  · refine v_aload_n C 0 dX4_print_32 rfl rfl ?_
    refine v_iconst (v := 0) C dX4_print_33 (by decide) ?_
    obtain ⟨y8, hy8, hf⟩ := bnd hf
    refine v_callV (r := some (.int y8.1)) (As := [.int 0]) (rest := []) (K := 51) C (mX4_finds hL hy8) cw_X4_finds wd_725 (by decide) rfl rfl ⟨Nat.le_of_ble_eq_true rfl, Nat.le_of_ble_eq_true rfl⟩ rfl rfl (Nat.le_of_ble_eq_true rfl) dX4_print_34 ?_
    exact v_iret C dX4_print_37 (fin_im hf hQ)
def fX4_print (x : St2) (v1 : Int32) (v2 : Int32) (v3 : Int32) : Option (Int32 × St2) := (fX4_isCell v1).bind fun y1 => if y1 = 0 then ((fX4_finds x 0).bind fun y2 => some (y2.1, y2.2)) else (if v2 = (-1) then (fX4_print_20 x v1 v2 v3) else ((fX4_isWalker x v2).bind fun y9 => if y9 = 0 then ((fX4_finds x 0).bind fun y10 => some (y10.1, y10.2)) else (fX4_print_20 x v1 v2 v3)))
set_option maxHeartbeats 4000000 in
set_option maxRecDepth 100000 in
theorem tX4_print {E : EE} {B : BB} {l : Launch} {L : St2 → St2} {x : St2} {v1 : Int32} {v2 : Int32} {v3 : Int32} {res : (Int32 × St2)} (C : Cx E B l cX4_print RX4 (some .int) 5 2 46) (hL : Ln 51 10 L) (hQ : Fin9 E B (some (.int res.1)) (L res.2)) (hf : fX4_print x v1 v2 v3 = some res) : V E B (L x) 0 [(0, .ref (ad B 51)), (1, .int v1), (2, .int v2), (3, .int v3)] [] := by
  unfold fX4_print at hf
  refine v_iload_n C 1 dX4_print_0 rfl rfl ?_
  obtain ⟨y1, hy1, hf⟩ := bnd hf
  refine v_callS (r := some (.int y1)) (As := [.int v1]) (rest := []) C (mX4_isCell  hy1) cw_X4_isCell wd_717 ⟨Nat.le_of_ble_eq_true rfl, Nat.le_of_ble_eq_true rfl⟩ rfl rfl (Nat.le_of_ble_eq_true rfl) dX4_print_1 ?_
  refine v_if_eq (tgt := 32) C dX4_print_4 (by decide) hf (fun hf => ?_) (fun hf => ?_)
  · refine v_aload_n C 0 dX4_print_32 rfl rfl ?_
    refine v_iconst (v := 0) C dX4_print_33 (by decide) ?_
    obtain ⟨y2, hy2, hf⟩ := bnd hf
    refine v_callV (r := some (.int y2.1)) (As := [.int 0]) (rest := []) (K := 51) C (mX4_finds hL hy2) cw_X4_finds wd_725 (by decide) rfl rfl ⟨Nat.le_of_ble_eq_true rfl, Nat.le_of_ble_eq_true rfl⟩ rfl rfl (Nat.le_of_ble_eq_true rfl) dX4_print_34 ?_
    exact v_iret C dX4_print_37 (fin_im hf hQ)
  · refine v_iload_n C 2 dX4_print_7 rfl rfl ?_
    refine v_iconst (v := (-1)) C dX4_print_8 (by decide) ?_
    refine v_icmp_eq (tgt := 20) C dX4_print_9 (by decide) hf (fun hf => ?_) (fun hf => ?_)
    · exact tX4_print_20 C hL hQ hf
    · refine v_aload_n C 0 dX4_print_12 rfl rfl ?_
      refine v_iload_n C 2 dX4_print_13 rfl rfl ?_
      obtain ⟨y9, hy9, hf⟩ := bnd hf
      refine v_callV (r := some (.int y9)) (As := [.int v2]) (rest := []) (K := 51) C (mX4_isWalker hL hy9) cw_X4_isWalker wd_742 (by decide) rfl rfl ⟨Nat.le_of_ble_eq_true rfl, Nat.le_of_ble_eq_true rfl⟩ rfl rfl (Nat.le_of_ble_eq_true rfl) dX4_print_14 ?_
      refine v_if_eq (tgt := 32) C dX4_print_17 (by decide) hf (fun hf => ?_) (fun hf => ?_)
      · refine v_aload_n C 0 dX4_print_32 rfl rfl ?_
        refine v_iconst (v := 0) C dX4_print_33 (by decide) ?_
        obtain ⟨y10, hy10, hf⟩ := bnd hf
        refine v_callV (r := some (.int y10.1)) (As := [.int 0]) (rest := []) (K := 51) C (mX4_finds hL hy10) cw_X4_finds wd_725 (by decide) rfl rfl ⟨Nat.le_of_ble_eq_true rfl, Nat.le_of_ble_eq_true rfl⟩ rfl rfl (Nat.le_of_ble_eq_true rfl) dX4_print_34 ?_
        exact v_iret C dX4_print_37 (fin_im hf hQ)
      · exact tX4_print_20 C hL hQ hf
theorem mX4_print {B : BB} {l : Launch} {L : St2 → St2} {x : St2} {v1 : Int32} {v2 : Int32} {v3 : Int32} {res : (Int32 × St2)} (hL : Ln 51 10 L) (hf : fX4_print x v1 v2 v3 = some res) : Ret l B yX4_print cX4_print 5 (some .int) 2 46 [.ref (ad B 51), .int v1, .int v2, .int v3] (L x) (some (.int res.1)) (L res.2) := ret_of (own := RX4) (by decide) rfl (Nat.le_of_ble_eq_true rfl) (fun E C hQ => tX4_print C hL hQ hf)
def fX4_reach (x : St2) (v1 : Int32) : Option (Int32 × St2) := (fX4_in v1.toInt64 0 24).bind fun y1 => if y1 = 0 then ((fX4_finds x 0).bind fun y2 => some (y2.1, y2.2)) else ((fX4_becomes x 3 v1).bind fun y3 => some (y3.1, y3.2))
set_option maxHeartbeats 4000000 in
set_option maxRecDepth 100000 in
theorem tX4_reach {E : EE} {B : BB} {l : Launch} {L : St2 → St2} {x : St2} {v1 : Int32} {res : (Int32 × St2)} (C : Cx E B l cX4_reach RX4 (some .int) 2 1 25) (hL : Ln 51 10 L) (hQ : Fin9 E B (some (.int res.1)) (L res.2)) (hf : fX4_reach x v1 = some res) : V E B (L x) 0 [(0, .ref (ad B 51)), (1, .int v1)] [] := by
  unfold fX4_reach at hf
  refine v_iload_n C 1 dX4_reach_0 rfl rfl ?_
  refine v_i2l C dX4_reach_1 ?_
  refine v_lconst (v := 0) C dX4_reach_2 (by decide) ?_
  refine v_ldc2 C wd_755 dX4_reach_3 ?_
  obtain ⟨y1, hy1, hf⟩ := bnd hf
  refine v_callS (r := some (.int y1)) (As := [.long v1.toInt64, .long 0, .long 24]) (rest := []) C (mX4_in  hy1) cw_X4_in wd_721 ⟨Nat.le_of_ble_eq_true rfl, Nat.le_of_ble_eq_true rfl⟩ rfl rfl (Nat.le_of_ble_eq_true rfl) dX4_reach_6 ?_
  refine v_if_eq (tgt := 21) C dX4_reach_9 (by decide) hf (fun hf => ?_) (fun hf => ?_)
  · refine v_aload_n C 0 dX4_reach_21 rfl rfl ?_
    refine v_iconst (v := 0) C dX4_reach_22 (by decide) ?_
    obtain ⟨y2, hy2, hf⟩ := bnd hf
    refine v_callV (r := some (.int y2.1)) (As := [.int 0]) (rest := []) (K := 51) C (mX4_finds hL hy2) cw_X4_finds wd_725 (by decide) rfl rfl ⟨Nat.le_of_ble_eq_true rfl, Nat.le_of_ble_eq_true rfl⟩ rfl rfl (Nat.le_of_ble_eq_true rfl) dX4_reach_23 ?_
    exact v_iret C dX4_reach_26 (fin_im hf hQ)
  · refine v_aload_n C 0 dX4_reach_12 rfl rfl ?_
    refine v_iconst (v := 3) C dX4_reach_13 (by decide) ?_
    refine v_iload_n C 1 dX4_reach_14 rfl rfl ?_
    obtain ⟨y3, hy3, hf⟩ := bnd hf
    refine v_callV (r := some (.int y3.1)) (As := [.int 3, .int v1]) (rest := []) (K := 51) C (mX4_becomes hL hy3) cw_X4_becomes wd_756 (by decide) rfl rfl ⟨Nat.le_of_ble_eq_true rfl, Nat.le_of_ble_eq_true rfl⟩ rfl rfl (Nat.le_of_ble_eq_true rfl) dX4_reach_15 ?_
    refine v_goto (tgt := 26) C dX4_reach_18 (by decide) ?_
    exact v_iret C dX4_reach_26 (fin_im hf hQ)
theorem mX4_reach {B : BB} {l : Launch} {L : St2 → St2} {x : St2} {v1 : Int32} {res : (Int32 × St2)} (hL : Ln 51 10 L) (hf : fX4_reach x v1 = some res) : Ret l B yX4_reach cX4_reach 2 (some .int) 1 25 [.ref (ad B 51), .int v1] (L x) (some (.int res.1)) (L res.2) := ret_of (own := RX4) (by decide) rfl (Nat.le_of_ble_eq_true rfl) (fun E C hQ => tX4_reach C hL hQ hf)
def fX4_theTide_66 (N : Nat) (k4 : St2 → Int32 → Int32 → Option (Int32 × St2)) (x : St2) (v1 : Int32) (v2 : Int32) : Option (Int32 × St2) := k4 x v1 (v2 + 1)
set_option maxHeartbeats 4000000 in
set_option maxRecDepth 100000 in
theorem tX4_theTide_66 {E : EE} {B : BB} {l : Launch} {L : St2 → St2} {N : Nat} {k4 : St2 → Int32 → Int32 → Option (Int32 × St2)} {x : St2} {v1 : Int32} {v2 : Int32} {res : (Int32 × St2)} (C : Cx E B l cX4_theTide RX4 (some .int) 3 1 24) (hL : Ln 51 10 L) (hQ : Fin9 E B (some (.int res.1)) (L res.2)) (hk4 : ∀ (x : St2) (v1 : Int32) (v2 : Int32), k4 x v1 v2 = some res → V E B (L x) 4 [(0, .ref (ad B 51)), (1, .int v1), (2, .int v2)] []) (hf : fX4_theTide_66 N k4 x v1 v2 = some res) : V E B (L x) 66 [(0, .ref (ad B 51)), (1, .int v1), (2, .int v2)] [] := by
  unfold fX4_theTide_66 at hf
  refine v_iinc (q := 2) (v := v2 + 1) (lv' := [(0, .ref (ad B 51)), (1, .int v1), (2, .int (v2 + 1))]) C [1, 2, 0] dX4_theTide_66 rfl rfl (by decide) rfl ?_
  refine v_goto (tgt := 4) C dX4_theTide_69 (by decide) ?_
  exact hk4 x v1 (v2 + 1) hf
def fX4_theTide_4 (N : Nat) : Nat → St2 → Int32 → Int32 → Option (Int32 × St2)
  | 0, _, _, _ => none
  | n + 1, x, v1, v2 => (rd (x 1) 135 3).bind fun a1 => if a1 ≤ v2 then (some (v1, x)) else ((rd (x 1) 135 (5 + v2)).bind fun a2 => if a2 < 0 then (fX4_theTide_66 N (fX4_theTide_4 N n) x v1 v2) else ((rd (x 1) 135 (29 + v2)).bind fun a4 => if a4 < 8 then ((fX4_prints x v2 (-1) 0 0).bind fun y5 => fX4_theTide_66 N (fX4_theTide_4 N n) y5 (v1 + 1) v2) else ((rd (x 1) 135 (29 + v2)).bind fun a7 => (wr x 1 135 (29 + v2) (a7 - 1)).bind fun x8 => fX4_theTide_66 N (fX4_theTide_4 N n) x8 v1 v2)))
set_option maxHeartbeats 4000000 in
set_option maxRecDepth 100000 in
theorem tX4_theTide_4 {E : EE} {B : BB} {l : Launch} {L : St2 → St2} {N : Nat} {res : (Int32 × St2)} (C : Cx E B l cX4_theTide RX4 (some .int) 3 1 24) (hL : Ln 51 10 L) (hQ : Fin9 E B (some (.int res.1)) (L res.2)) : ∀ (n : Nat) (x : St2) (v1 : Int32) (v2 : Int32), fX4_theTide_4 N n x v1 v2 = some res → V E B (L x) 4 [(0, .ref (ad B 51)), (1, .int v1), (2, .int v2)] [] := by
  intro n
  induction n with
  | zero =>
    intro x v1 v2 hf
    cases hf
  | succ n ih =>
    intro x v1 v2 hf
    rw [fX4_theTide_4] at hf
    refine v_iload_n C 2 dX4_theTide_4 rfl rfl ?_
    refine v_aload_n C 0 dX4_theTide_5 rfl rfl ?_
    refine g_getR (K := 51) (i := 0) (j := 51 + 1) C (by decide) rfl rfl inX4 (by decide) rfl wd_667 dX4_theTide_6 ?_
    refine v_iconst (v := 3) C dX4_theTide_9 (by decide) ?_
    refine s_ald (k := 1) C hL (by decide) rfl dX4_theTide_10 hf (fun a1 hf => ?_)
    refine v_icmp_ge (tgt := 72) C dX4_theTide_11 (by decide) hf (fun hf => ?_) (fun hf => ?_)
    · refine v_iload_n C 1 dX4_theTide_72 rfl rfl ?_
      exact v_iret C dX4_theTide_73 (fin_im hf hQ)
    · refine v_aload_n C 0 dX4_theTide_14 rfl rfl ?_
      refine g_getR (K := 51) (i := 0) (j := 51 + 1) C (by decide) rfl rfl inX4 (by decide) rfl wd_667 dX4_theTide_15 ?_
      refine v_iconst (v := 5) C dX4_theTide_18 (by decide) ?_
      refine v_iload_n C 2 dX4_theTide_19 rfl rfl ?_
      refine v_iadd C dX4_theTide_20 ?_
      refine s_ald (k := 1) C hL (by decide) rfl dX4_theTide_21 hf (fun a2 hf => ?_)
      refine v_if_lt (tgt := 66) C dX4_theTide_22 (by decide) hf (fun hf => ?_) (fun hf => ?_)
      · exact tX4_theTide_66 C hL hQ ih hf
      · refine v_aload_n C 0 dX4_theTide_25 rfl rfl ?_
        refine g_getR (K := 51) (i := 0) (j := 51 + 1) C (by decide) rfl rfl inX4 (by decide) rfl wd_667 dX4_theTide_26 ?_
        refine v_bipush (v := 29) C dX4_theTide_29 (by decide) ?_
        refine v_iload_n C 2 dX4_theTide_31 rfl rfl ?_
        refine v_iadd C dX4_theTide_32 ?_
        refine s_ald (k := 1) C hL (by decide) rfl dX4_theTide_33 hf (fun a4 hf => ?_)
        refine v_bipush (v := 8) C dX4_theTide_34 (by decide) ?_
        refine v_icmp_lt (tgt := 55) C dX4_theTide_36 (by decide) hf (fun hf => ?_) (fun hf => ?_)
        · refine v_aload_n C 0 dX4_theTide_55 rfl rfl ?_
          refine v_iload_n C 2 dX4_theTide_56 rfl rfl ?_
          refine v_iconst (v := (-1)) C dX4_theTide_57 (by decide) ?_
          refine v_iconst (v := 0) C dX4_theTide_58 (by decide) ?_
          refine v_iconst (v := 0) C dX4_theTide_59 (by decide) ?_
          obtain ⟨y5, hy5, hf⟩ := bnd hf
          refine v_callV (r := none) (As := [.int v2, .int (-1), .int 0, .int 0]) (rest := []) (K := 51) C (mX4_prints hL hy5) cw_X4_prints wd_747 (by decide) rfl rfl ⟨Nat.le_of_ble_eq_true rfl, Nat.le_of_ble_eq_true rfl⟩ rfl rfl (Nat.le_of_ble_eq_true rfl) dX4_theTide_60 ?_
          refine v_iinc (q := 1) (v := v1 + 1) (lv' := [(0, .ref (ad B 51)), (1, .int (v1 + 1)), (2, .int v2)]) C [1, 0, 2] dX4_theTide_63 rfl rfl (by decide) rfl ?_
          exact tX4_theTide_66 C hL hQ ih hf
        · refine v_aload_n C 0 dX4_theTide_39 rfl rfl ?_
          refine g_getR (K := 51) (i := 0) (j := 51 + 1) C (by decide) rfl rfl inX4 (by decide) rfl wd_667 dX4_theTide_40 ?_
          refine v_bipush (v := 29) C dX4_theTide_43 (by decide) ?_
          refine v_iload_n C 2 dX4_theTide_45 rfl rfl ?_
          refine v_iadd C dX4_theTide_46 ?_
          refine v_dup2 C dX4_theTide_47 rfl rfl ?_
          refine s_ald (k := 1) C hL (by decide) rfl dX4_theTide_48 hf (fun a7 hf => ?_)
          refine v_iconst (v := 1) C dX4_theTide_49 (by decide) ?_
          refine v_isub C dX4_theTide_50 ?_
          refine s_ast (k := 1) C hL (by decide) rfl dX4_theTide_51 hf (fun x8 hf => ?_)
          refine v_goto (tgt := 66) C dX4_theTide_52 (by decide) ?_
          exact tX4_theTide_66 C hL hQ ih hf
def fX4_theTide (N : Nat) (x : St2) : Option (Int32 × St2) := fX4_theTide_4 N N x 0 0
set_option maxHeartbeats 4000000 in
set_option maxRecDepth 100000 in
theorem tX4_theTide {E : EE} {B : BB} {l : Launch} {L : St2 → St2} {N : Nat} {x : St2} {res : (Int32 × St2)} (C : Cx E B l cX4_theTide RX4 (some .int) 3 1 24) (hL : Ln 51 10 L) (hQ : Fin9 E B (some (.int res.1)) (L res.2)) (hf : fX4_theTide N x = some res) : V E B (L x) 0 [(0, .ref (ad B 51))] [] := by
  unfold fX4_theTide at hf
  refine v_iconst (v := 0) C dX4_theTide_0 (by decide) ?_
  refine v_istore_n (lv' := [(0, .ref (ad B 51)), (1, .int 0)]) C [1, 0] dX4_theTide_1 rfl (by decide) rfl ?_
  refine v_iconst (v := 0) C dX4_theTide_2 (by decide) ?_
  refine v_istore_n (lv' := [(0, .ref (ad B 51)), (1, .int 0), (2, .int 0)]) C [1, 2, 0] dX4_theTide_3 rfl (by decide) rfl ?_
  exact tX4_theTide_4 C hL hQ N x 0 0 hf
theorem mX4_theTide {B : BB} {l : Launch} {L : St2 → St2} {N : Nat} {x : St2} {res : (Int32 × St2)} (hL : Ln 51 10 L) (hf : fX4_theTide N x = some res) : Ret l B yX4_theTide cX4_theTide 3 (some .int) 1 24 [.ref (ad B 51)] (L x) (some (.int res.1)) (L res.2) := ret_of (own := RX4) (by decide) rfl (Nat.le_of_ble_eq_true rfl) (fun E C hQ => tX4_theTide C hL hQ hf)
def fX4_tide (N : Nat) (x : St2) : Option (Int32 × St2) := (fX4_theTide N x).bind fun y1 => some (y1.1, y1.2)
set_option maxHeartbeats 4000000 in
set_option maxRecDepth 100000 in
theorem tX4_tide {E : EE} {B : BB} {l : Launch} {L : St2 → St2} {N : Nat} {x : St2} {res : (Int32 × St2)} (C : Cx E B l cX4_tide RX4 (some .int) 1 2 46) (hL : Ln 51 10 L) (hQ : Fin9 E B (some (.int res.1)) (L res.2)) (hf : fX4_tide N x = some res) : V E B (L x) 0 [(0, .ref (ad B 51))] [] := by
  unfold fX4_tide at hf
  refine v_aload_n C 0 dX4_tide_0 rfl rfl ?_
  obtain ⟨y1, hy1, hf⟩ := bnd hf
  refine v_callV (r := some (.int y1.1)) (As := []) (rest := []) (K := 51) C (mX4_theTide hL hy1) cw_X4_theTide wd_764 (by decide) rfl rfl ⟨Nat.le_of_ble_eq_true rfl, Nat.le_of_ble_eq_true rfl⟩ rfl rfl (Nat.le_of_ble_eq_true rfl) dX4_tide_1 ?_
  exact v_iret C dX4_tide_4 (fin_im hf hQ)
theorem mX4_tide {B : BB} {l : Launch} {L : St2 → St2} {N : Nat} {x : St2} {res : (Int32 × St2)} (hL : Ln 51 10 L) (hf : fX4_tide N x = some res) : Ret l B yX4_tide cX4_tide 1 (some .int) 2 46 [.ref (ad B 51)] (L x) (some (.int res.1)) (L res.2) := ret_of (own := RX4) (by decide) rfl (Nat.le_of_ble_eq_true rfl) (fun E C hQ => tX4_tide C hL hQ hf)
def fX4_walker (x : St2) (v1 : Int32) (v2 : Int32) : Option (Int32 × St2) := (fX4_isKind v1).bind fun y1 => if y1 = 0 then ((fX4_finds x 0).bind fun y2 => some (y2.1, y2.2)) else ((fX4_isCell v2).bind fun y3 => if y3 = 0 then ((fX4_finds x 0).bind fun y7 => some (y7.1, y7.2)) else ((rd (x 1) 135 2).bind fun a4 => if a4 = 8 then ((fX4_finds x 1).bind fun y6 => some (y6.1, y6.2)) else ((fX4_adds x v1 v2).bind fun y5 => some (y5.1, y5.2))))
set_option maxHeartbeats 4000000 in
set_option maxRecDepth 100000 in
theorem tX4_walker {E : EE} {B : BB} {l : Launch} {L : St2 → St2} {x : St2} {v1 : Int32} {v2 : Int32} {res : (Int32 × St2)} (C : Cx E B l cX4_walker RX4 (some .int) 3 2 46) (hL : Ln 51 10 L) (hQ : Fin9 E B (some (.int res.1)) (L res.2)) (hf : fX4_walker x v1 v2 = some res) : V E B (L x) 0 [(0, .ref (ad B 51)), (1, .int v1), (2, .int v2)] [] := by
  unfold fX4_walker at hf
  refine v_iload_n C 1 dX4_walker_0 rfl rfl ?_
  obtain ⟨y1, hy1, hf⟩ := bnd hf
  refine v_callS (r := some (.int y1)) (As := [.int v1]) (rest := []) C (mX4_isKind  hy1) cw_X4_isKind wd_772 ⟨Nat.le_of_ble_eq_true rfl, Nat.le_of_ble_eq_true rfl⟩ rfl rfl (Nat.le_of_ble_eq_true rfl) dX4_walker_1 ?_
  refine v_if_eq (tgt := 14) C dX4_walker_4 (by decide) hf (fun hf => ?_) (fun hf => ?_)
  · refine v_aload_n C 0 dX4_walker_14 rfl rfl ?_
    refine v_iconst (v := 0) C dX4_walker_15 (by decide) ?_
    obtain ⟨y2, hy2, hf⟩ := bnd hf
    refine v_callV (r := some (.int y2.1)) (As := [.int 0]) (rest := []) (K := 51) C (mX4_finds hL hy2) cw_X4_finds wd_725 (by decide) rfl rfl ⟨Nat.le_of_ble_eq_true rfl, Nat.le_of_ble_eq_true rfl⟩ rfl rfl (Nat.le_of_ble_eq_true rfl) dX4_walker_16 ?_
    exact v_iret C dX4_walker_19 (fin_im hf hQ)
  · refine v_iload_n C 2 dX4_walker_7 rfl rfl ?_
    obtain ⟨y3, hy3, hf⟩ := bnd hf
    refine v_callS (r := some (.int y3)) (As := [.int v2]) (rest := []) C (mX4_isCell  hy3) cw_X4_isCell wd_717 ⟨Nat.le_of_ble_eq_true rfl, Nat.le_of_ble_eq_true rfl⟩ rfl rfl (Nat.le_of_ble_eq_true rfl) dX4_walker_8 ?_
    refine v_if_ne (tgt := 20) C dX4_walker_11 (by decide) hf (fun hf => ?_) (fun hf => ?_)
    · refine v_aload_n C 0 dX4_walker_20 rfl rfl ?_
      refine g_getR (K := 51) (i := 0) (j := 51 + 1) C (by decide) rfl rfl inX4 (by decide) rfl wd_667 dX4_walker_21 ?_
      refine v_iconst (v := 2) C dX4_walker_24 (by decide) ?_
      refine s_ald (k := 1) C hL (by decide) rfl dX4_walker_25 hf (fun a4 hf => ?_)
      refine v_bipush (v := 8) C dX4_walker_26 (by decide) ?_
      refine v_icmp_ne (tgt := 39) C dX4_walker_28 (by decide) hf (fun hf => ?_) (fun hf => ?_)
      · refine v_aload_n C 0 dX4_walker_39 rfl rfl ?_
        refine v_iload_n C 1 dX4_walker_40 rfl rfl ?_
        refine v_iload_n C 2 dX4_walker_41 rfl rfl ?_
        obtain ⟨y5, hy5, hf⟩ := bnd hf
        refine v_callV (r := some (.int y5.1)) (As := [.int v1, .int v2]) (rest := []) (K := 51) C (mX4_adds hL hy5) cw_X4_adds wd_776 (by decide) rfl rfl ⟨Nat.le_of_ble_eq_true rfl, Nat.le_of_ble_eq_true rfl⟩ rfl rfl (Nat.le_of_ble_eq_true rfl) dX4_walker_42 ?_
        exact v_iret C dX4_walker_45 (fin_im hf hQ)
      · refine v_aload_n C 0 dX4_walker_31 rfl rfl ?_
        refine v_iconst (v := 1) C dX4_walker_32 (by decide) ?_
        obtain ⟨y6, hy6, hf⟩ := bnd hf
        refine v_callV (r := some (.int y6.1)) (As := [.int 1]) (rest := []) (K := 51) C (mX4_finds hL hy6) cw_X4_finds wd_725 (by decide) rfl rfl ⟨Nat.le_of_ble_eq_true rfl, Nat.le_of_ble_eq_true rfl⟩ rfl rfl (Nat.le_of_ble_eq_true rfl) dX4_walker_33 ?_
        refine v_goto (tgt := 45) C dX4_walker_36 (by decide) ?_
        exact v_iret C dX4_walker_45 (fin_im hf hQ)
    · refine v_aload_n C 0 dX4_walker_14 rfl rfl ?_
      refine v_iconst (v := 0) C dX4_walker_15 (by decide) ?_
      obtain ⟨y7, hy7, hf⟩ := bnd hf
      refine v_callV (r := some (.int y7.1)) (As := [.int 0]) (rest := []) (K := 51) C (mX4_finds hL hy7) cw_X4_finds wd_725 (by decide) rfl rfl ⟨Nat.le_of_ble_eq_true rfl, Nat.le_of_ble_eq_true rfl⟩ rfl rfl (Nat.le_of_ble_eq_true rfl) dX4_walker_16 ?_
      exact v_iret C dX4_walker_19 (fin_im hf hQ)
theorem mX4_walker {B : BB} {l : Launch} {L : St2 → St2} {x : St2} {v1 : Int32} {v2 : Int32} {res : (Int32 × St2)} (hL : Ln 51 10 L) (hf : fX4_walker x v1 v2 = some res) : Ret l B yX4_walker cX4_walker 3 (some .int) 2 46 [.ref (ad B 51), .int v1, .int v2] (L x) (some (.int res.1)) (L res.2) := ret_of (own := RX4) (by decide) rfl (Nat.le_of_ble_eq_true rfl) (fun E C hQ => tX4_walker C hL hQ hf)
def fX4_of (N : Nat) (x : St2) (v1 : Int32) (v2 : Int32) : Option (Int32 × St2) := (fX4_isWalker x v1).bind fun y1 => if y1 = 0 then ((fX4_finds x 0).bind fun y2 => some (y2.1, y2.2)) else ((fX4_in v2.toInt64 0 9).bind fun y3 => if y3 = 0 then ((fX4_finds x 0).bind fun y9 => some (y9.1, y9.2)) else (if v2 = 6 then ((fX4_strides x v1).bind fun y4 => some (y4, x)) else (if v2 = 7 then ((fX4_presses x v1).bind fun y5 => some (y5, x)) else (if v2 = 8 then ((fX4_looks x v1).bind fun y6 => some (y6, x)) else (if v2 = 9 then ((fX4_workOf N x v1).bind fun y7 => some (y7, x)) else ((fX4_its x v1 v2).bind fun y8 => some (y8, x)))))))
set_option maxHeartbeats 4000000 in
set_option maxRecDepth 100000 in
theorem tX4_of {E : EE} {B : BB} {l : Launch} {L : St2 → St2} {N : Nat} {x : St2} {v1 : Int32} {v2 : Int32} {res : (Int32 × St2)} (C : Cx E B l cX4_of RX4 (some .int) 3 2 46) (hL : Ln 51 10 L) (hQ : Fin9 E B (some (.int res.1)) (L res.2)) (hf : fX4_of N x v1 v2 = some res) : V E B (L x) 0 [(0, .ref (ad B 51)), (1, .int v1), (2, .int v2)] [] := by
  unfold fX4_of at hf
  refine v_aload_n C 0 dX4_of_0 rfl rfl ?_
  refine v_iload_n C 1 dX4_of_1 rfl rfl ?_
  obtain ⟨y1, hy1, hf⟩ := bnd hf
  refine v_callV (r := some (.int y1)) (As := [.int v1]) (rest := []) (K := 51) C (mX4_isWalker hL hy1) cw_X4_isWalker wd_742 (by decide) rfl rfl ⟨Nat.le_of_ble_eq_true rfl, Nat.le_of_ble_eq_true rfl⟩ rfl rfl (Nat.le_of_ble_eq_true rfl) dX4_of_2 ?_
  refine v_if_eq (tgt := 20) C dX4_of_5 (by decide) hf (fun hf => ?_) (fun hf => ?_)
  · refine v_aload_n C 0 dX4_of_20 rfl rfl ?_
    refine v_iconst (v := 0) C dX4_of_21 (by decide) ?_
    obtain ⟨y2, hy2, hf⟩ := bnd hf
    refine v_callV (r := some (.int y2.1)) (As := [.int 0]) (rest := []) (K := 51) C (mX4_finds hL hy2) cw_X4_finds wd_725 (by decide) rfl rfl ⟨Nat.le_of_ble_eq_true rfl, Nat.le_of_ble_eq_true rfl⟩ rfl rfl (Nat.le_of_ble_eq_true rfl) dX4_of_22 ?_
    exact v_iret C dX4_of_25 (fin_im hf hQ)
  · refine v_iload_n C 2 dX4_of_8 rfl rfl ?_
    refine v_i2l C dX4_of_9 ?_
    refine v_lconst (v := 0) C dX4_of_10 (by decide) ?_
    refine v_ldc2 C wd_746 dX4_of_11 ?_
    obtain ⟨y3, hy3, hf⟩ := bnd hf
    refine v_callS (r := some (.int y3)) (As := [.long v2.toInt64, .long 0, .long 9]) (rest := []) C (mX4_in  hy3) cw_X4_in wd_721 ⟨Nat.le_of_ble_eq_true rfl, Nat.le_of_ble_eq_true rfl⟩ rfl rfl (Nat.le_of_ble_eq_true rfl) dX4_of_14 ?_
    refine v_if_ne (tgt := 26) C dX4_of_17 (by decide) hf (fun hf => ?_) (fun hf => ?_)
    · refine v_iload_n C 2 dX4_of_26 rfl rfl ?_
      by_cases hc27_6 : v2 = 6
      · rw [if_pos hc27_6] at hf
        refine v_tabIn (tgt := 56) C dX4_of_27 hc27_6 (by decide) (by decide) rfl (by decide) ?_
        refine v_aload_n C 0 dX4_of_56 rfl rfl ?_
        refine v_iload_n C 1 dX4_of_57 rfl rfl ?_
        obtain ⟨y4, hy4, hf⟩ := bnd hf
        refine v_callV (r := some (.int y4)) (As := [.int v1]) (rest := []) (K := 51) C (mX4_strides hL hy4) cw_X4_strides wd_788 (by decide) rfl rfl ⟨Nat.le_of_ble_eq_true rfl, Nat.le_of_ble_eq_true rfl⟩ rfl rfl (Nat.le_of_ble_eq_true rfl) dX4_of_58 ?_
        exact v_iret C dX4_of_61 (fin_im hf hQ)
      · rw [if_neg hc27_6] at hf
        by_cases hc27_7 : v2 = 7
        · rw [if_pos hc27_7] at hf
          refine v_tabIn (tgt := 62) C dX4_of_27 hc27_7 (by decide) (by decide) rfl (by decide) ?_
          refine v_aload_n C 0 dX4_of_62 rfl rfl ?_
          refine v_iload_n C 1 dX4_of_63 rfl rfl ?_
          obtain ⟨y5, hy5, hf⟩ := bnd hf
          refine v_callV (r := some (.int y5)) (As := [.int v1]) (rest := []) (K := 51) C (mX4_presses hL hy5) cw_X4_presses wd_792 (by decide) rfl rfl ⟨Nat.le_of_ble_eq_true rfl, Nat.le_of_ble_eq_true rfl⟩ rfl rfl (Nat.le_of_ble_eq_true rfl) dX4_of_64 ?_
          exact v_iret C dX4_of_67 (fin_im hf hQ)
        · rw [if_neg hc27_7] at hf
          by_cases hc27_8 : v2 = 8
          · rw [if_pos hc27_8] at hf
            refine v_tabIn (tgt := 68) C dX4_of_27 hc27_8 (by decide) (by decide) rfl (by decide) ?_
            refine v_aload_n C 0 dX4_of_68 rfl rfl ?_
            refine v_iload_n C 1 dX4_of_69 rfl rfl ?_
            obtain ⟨y6, hy6, hf⟩ := bnd hf
            refine v_callV (r := some (.int y6)) (As := [.int v1]) (rest := []) (K := 51) C (mX4_looks hL hy6) cw_X4_looks wd_798 (by decide) rfl rfl ⟨Nat.le_of_ble_eq_true rfl, Nat.le_of_ble_eq_true rfl⟩ rfl rfl (Nat.le_of_ble_eq_true rfl) dX4_of_70 ?_
            exact v_iret C dX4_of_73 (fin_im hf hQ)
          · rw [if_neg hc27_8] at hf
            by_cases hc27_9 : v2 = 9
            · rw [if_pos hc27_9] at hf
              refine v_tabIn (tgt := 74) C dX4_of_27 hc27_9 (by decide) (by decide) rfl (by decide) ?_
              refine v_aload_n C 0 dX4_of_74 rfl rfl ?_
              refine v_iload_n C 1 dX4_of_75 rfl rfl ?_
              obtain ⟨y7, hy7, hf⟩ := bnd hf
              refine v_callV (r := some (.int y7)) (As := [.int v1]) (rest := []) (K := 51) C (mX4_workOf hL hy7) cw_X4_workOf wd_802 (by decide) rfl rfl ⟨Nat.le_of_ble_eq_true rfl, Nat.le_of_ble_eq_true rfl⟩ rfl rfl (Nat.le_of_ble_eq_true rfl) dX4_of_76 ?_
              exact v_iret C dX4_of_79 (fin_im hf hQ)
            · rw [if_neg hc27_9] at hf
              have e27_6 : v2.toInt ≠ 6 := ne_ti (y := 6) hc27_6
              have e27_7 : v2.toInt ≠ 7 := ne_ti (y := 7) hc27_7
              have e27_8 : v2.toInt ≠ 8 := ne_ti (y := 8) hc27_8
              have e27_9 : v2.toInt ≠ 9 := ne_ti (y := 9) hc27_9
              refine v_tabOut (tgt := 80) C dX4_of_27 (by omega) (by decide) ?_
              refine v_aload_n C 0 dX4_of_80 rfl rfl ?_
              refine v_iload_n C 1 dX4_of_81 rfl rfl ?_
              refine v_iload_n C 2 dX4_of_82 rfl rfl ?_
              obtain ⟨y8, hy8, hf⟩ := bnd hf
              refine v_callV (r := some (.int y8)) (As := [.int v1, .int v2]) (rest := []) (K := 51) C (mX4_its hL hy8) cw_X4_its wd_734 (by decide) rfl rfl ⟨Nat.le_of_ble_eq_true rfl, Nat.le_of_ble_eq_true rfl⟩ rfl rfl (Nat.le_of_ble_eq_true rfl) dX4_of_83 ?_
              exact v_iret C dX4_of_86 (fin_im hf hQ)
    · refine v_aload_n C 0 dX4_of_20 rfl rfl ?_
      refine v_iconst (v := 0) C dX4_of_21 (by decide) ?_
      obtain ⟨y9, hy9, hf⟩ := bnd hf
      refine v_callV (r := some (.int y9.1)) (As := [.int 0]) (rest := []) (K := 51) C (mX4_finds hL hy9) cw_X4_finds wd_725 (by decide) rfl rfl ⟨Nat.le_of_ble_eq_true rfl, Nat.le_of_ble_eq_true rfl⟩ rfl rfl (Nat.le_of_ble_eq_true rfl) dX4_of_22 ?_
      exact v_iret C dX4_of_25 (fin_im hf hQ)
theorem mX4_of {B : BB} {l : Launch} {L : St2 → St2} {N : Nat} {x : St2} {v1 : Int32} {v2 : Int32} {res : (Int32 × St2)} (hL : Ln 51 10 L) (hf : fX4_of N x v1 v2 = some res) : Ret l B yX4_of cX4_of 3 (some .int) 2 46 [.ref (ad B 51), .int v1, .int v2] (L x) (some (.int res.1)) (L res.2) := ret_of (own := RX4) (by decide) rfl (Nat.le_of_ble_eq_true rfl) (fun E C hQ => tX4_of C hL hQ hf)
def fX4_change (x : St2) (v1 : Int32) (v2 : Int32) (v3 : Int32) : Option (Int32 × St2) := (fX4_isWalker x v1).bind fun y1 => if y1 = 0 then ((fX4_finds x 0).bind fun y2 => some (y2.1, y2.2)) else ((fX4_mayBe v2 v3).bind fun y3 => if y3 = 0 then ((fX4_finds x 0).bind fun y4 => some (y4.1, y4.2)) else ((fX4_becomes x ((77 + (6 * v1)) + v2) v3).bind fun y5 => some (y5.1, y5.2)))
set_option maxHeartbeats 4000000 in
set_option maxRecDepth 100000 in
theorem tX4_change {E : EE} {B : BB} {l : Launch} {L : St2 → St2} {x : St2} {v1 : Int32} {v2 : Int32} {v3 : Int32} {res : (Int32 × St2)} (C : Cx E B l cX4_change RX4 (some .int) 4 3 66) (hL : Ln 51 10 L) (hQ : Fin9 E B (some (.int res.1)) (L res.2)) (hf : fX4_change x v1 v2 v3 = some res) : V E B (L x) 0 [(0, .ref (ad B 51)), (1, .int v1), (2, .int v2), (3, .int v3)] [] := by
  unfold fX4_change at hf
  refine v_aload_n C 0 dX4_change_0 rfl rfl ?_
  refine v_iload_n C 1 dX4_change_1 rfl rfl ?_
  obtain ⟨y1, hy1, hf⟩ := bnd hf
  refine v_callV (r := some (.int y1)) (As := [.int v1]) (rest := []) (K := 51) C (mX4_isWalker hL hy1) cw_X4_isWalker wd_742 (by decide) rfl rfl ⟨Nat.le_of_ble_eq_true rfl, Nat.le_of_ble_eq_true rfl⟩ rfl rfl (Nat.le_of_ble_eq_true rfl) dX4_change_2 ?_
  refine v_if_eq (tgt := 33) C dX4_change_5 (by decide) hf (fun hf => ?_) (fun hf => ?_)
  · refine v_aload_n C 0 dX4_change_33 rfl rfl ?_
    refine v_iconst (v := 0) C dX4_change_34 (by decide) ?_
    obtain ⟨y2, hy2, hf⟩ := bnd hf
    refine v_callV (r := some (.int y2.1)) (As := [.int 0]) (rest := []) (K := 51) C (mX4_finds hL hy2) cw_X4_finds wd_725 (by decide) rfl rfl ⟨Nat.le_of_ble_eq_true rfl, Nat.le_of_ble_eq_true rfl⟩ rfl rfl (Nat.le_of_ble_eq_true rfl) dX4_change_35 ?_
    exact v_iret C dX4_change_38 (fin_im hf hQ)
  · refine v_iload_n C 2 dX4_change_8 rfl rfl ?_
    refine v_iload_n C 3 dX4_change_9 rfl rfl ?_
    obtain ⟨y3, hy3, hf⟩ := bnd hf
    refine v_callS (r := some (.int y3)) (As := [.int v2, .int v3]) (rest := []) C (mX4_mayBe  hy3) cw_X4_mayBe wd_810 ⟨Nat.le_of_ble_eq_true rfl, Nat.le_of_ble_eq_true rfl⟩ rfl rfl (Nat.le_of_ble_eq_true rfl) dX4_change_10 ?_
    refine v_if_eq (tgt := 33) C dX4_change_13 (by decide) hf (fun hf => ?_) (fun hf => ?_)
    · refine v_aload_n C 0 dX4_change_33 rfl rfl ?_
      refine v_iconst (v := 0) C dX4_change_34 (by decide) ?_
      obtain ⟨y4, hy4, hf⟩ := bnd hf
      refine v_callV (r := some (.int y4.1)) (As := [.int 0]) (rest := []) (K := 51) C (mX4_finds hL hy4) cw_X4_finds wd_725 (by decide) rfl rfl ⟨Nat.le_of_ble_eq_true rfl, Nat.le_of_ble_eq_true rfl⟩ rfl rfl (Nat.le_of_ble_eq_true rfl) dX4_change_35 ?_
      exact v_iret C dX4_change_38 (fin_im hf hQ)
    · refine v_aload_n C 0 dX4_change_16 rfl rfl ?_
      refine v_bipush (v := 77) C dX4_change_17 (by decide) ?_
      refine v_bipush (v := 6) C dX4_change_19 (by decide) ?_
      refine v_iload_n C 1 dX4_change_21 rfl rfl ?_
      refine v_imul C dX4_change_22 ?_
      refine v_iadd C dX4_change_23 ?_
      refine v_iload_n C 2 dX4_change_24 rfl rfl ?_
      refine v_iadd C dX4_change_25 ?_
      refine v_iload_n C 3 dX4_change_26 rfl rfl ?_
      obtain ⟨y5, hy5, hf⟩ := bnd hf
      refine v_callV (r := some (.int y5.1)) (As := [.int ((77 + (6 * v1)) + v2), .int v3]) (rest := []) (K := 51) C (mX4_becomes hL hy5) cw_X4_becomes wd_756 (by decide) rfl rfl ⟨Nat.le_of_ble_eq_true rfl, Nat.le_of_ble_eq_true rfl⟩ rfl rfl (Nat.le_of_ble_eq_true rfl) dX4_change_27 ?_
      refine v_goto (tgt := 38) C dX4_change_30 (by decide) ?_
      exact v_iret C dX4_change_38 (fin_im hf hQ)
theorem mX4_change {B : BB} {l : Launch} {L : St2 → St2} {x : St2} {v1 : Int32} {v2 : Int32} {v3 : Int32} {res : (Int32 × St2)} (hL : Ln 51 10 L) (hf : fX4_change x v1 v2 v3 = some res) : Ret l B yX4_change cX4_change 4 (some .int) 3 66 [.ref (ad B 51), .int v1, .int v2, .int v3] (L x) (some (.int res.1)) (L res.2) := ret_of (own := RX4) (by decide) rfl (Nat.le_of_ble_eq_true rfl) (fun E C hQ => tX4_change C hL hQ hf)
def fX4_goes_122 (x : St2) (v1 : Int32) (v3 : Int32) : Option St2 := (fX4_sets x v1 1 v3).bind fun y11 => (fX4_its y11 v1 5).bind fun y12 => (fX4_sets y11 v1 5 (imin 99999 (y12 + 1))).bind fun y13 => some y13
set_option maxHeartbeats 4000000 in
set_option maxRecDepth 100000 in
theorem tX4_goes_122 {E : EE} {B : BB} {l : Launch} {L : St2 → St2} {x : St2} {v1 : Int32} {v3 : Int32} {res : St2} (C : Cx E B l cX4_goes RX4 none 5 2 45) (hL : Ln 51 10 L) (hQ : Fin9 E B none (L res)) (hf : fX4_goes_122 x v1 v3 = some res) : V E B (L x) 122 [(0, .ref (ad B 51)), (1, .int v1), (3, .int v3)] [] := by
  unfold fX4_goes_122 at hf
  refine v_aload_n C 0 dX4_goes_122 rfl rfl ?_
  refine v_iload_n C 1 dX4_goes_123 rfl rfl ?_
  refine v_iconst (v := 1) C dX4_goes_124 (by decide) ?_
  refine v_iload_n C 2 dX4_goes_125 rfl rfl ?_
  obtain ⟨y11, hy11, hf⟩ := bnd hf
  refine v_callV (r := none) (As := [.int v1, .int 1, .int v3]) (rest := []) (K := 51) C (mX4_sets hL hy11) cw_X4_sets wd_780 (by decide) rfl rfl ⟨Nat.le_of_ble_eq_true rfl, Nat.le_of_ble_eq_true rfl⟩ rfl rfl (Nat.le_of_ble_eq_true rfl) dX4_goes_126 ?_
  refine v_aload_n C 0 dX4_goes_129 rfl rfl ?_
  refine v_iload_n C 1 dX4_goes_130 rfl rfl ?_
  refine v_iconst (v := 5) C dX4_goes_131 (by decide) ?_
  refine v_ldc C wd_819 dX4_goes_132 ?_
  refine v_aload_n C 0 dX4_goes_134 rfl rfl ?_
  refine v_iload_n C 1 dX4_goes_135 rfl rfl ?_
  refine v_iconst (v := 5) C dX4_goes_136 (by decide) ?_
  obtain ⟨y12, hy12, hf⟩ := bnd hf
  refine v_callV (r := some (.int y12)) (As := [.int v1, .int 5]) (rest := [.int 99999, .int 5, .int v1, .ref (ad B 51)]) (K := 51) C (mX4_its hL hy12) cw_X4_its wd_734 (by decide) rfl rfl ⟨Nat.le_of_ble_eq_true rfl, Nat.le_of_ble_eq_true rfl⟩ rfl rfl (Nat.le_of_ble_eq_true rfl) dX4_goes_137 ?_
  refine v_iconst (v := 1) C dX4_goes_140 (by decide) ?_
  refine v_iadd C dX4_goes_141 ?_
  refine w_mmin C wd_797 (by decide) (Nat.le_of_ble_eq_true rfl) dX4_goes_142 ?_
  obtain ⟨y13, hy13, hf⟩ := bnd hf
  refine v_callV (r := none) (As := [.int v1, .int 5, .int (imin 99999 (y12 + 1))]) (rest := []) (K := 51) C (mX4_sets hL hy13) cw_X4_sets wd_780 (by decide) rfl rfl ⟨Nat.le_of_ble_eq_true rfl, Nat.le_of_ble_eq_true rfl⟩ rfl rfl (Nat.le_of_ble_eq_true rfl) dX4_goes_145 ?_
  exact v_vret C dX4_goes_148 (fin_v hf hQ)
def fX4_goes_80 (x : St2) (v1 : Int32) (v2 : Int32) (v3 : Int32) : Option St2 := (fX4_presses x v1).bind fun y7 => (fX4_looks x v1).bind fun y8 => (fX4_prints x v3 v1 y7 y8).bind fun y9 => (fX4_its y9 v1 1).bind fun y10 => if v3 = (y10 + v2) then (fX4_goes_122 y9 v1 v3) else ((fX4_its y9 v1 2).bind fun y14 => (fX4_sets y9 v1 2 (1 - y14)).bind fun y15 => fX4_goes_122 y15 v1 v3)
set_option maxHeartbeats 4000000 in
set_option maxRecDepth 100000 in
theorem tX4_goes_80 {E : EE} {B : BB} {l : Launch} {L : St2 → St2} {x : St2} {v1 : Int32} {v2 : Int32} {v3 : Int32} {res : St2} (C : Cx E B l cX4_goes RX4 none 5 2 45) (hL : Ln 51 10 L) (hQ : Fin9 E B none (L res)) (hf : fX4_goes_80 x v1 v2 v3 = some res) : V E B (L x) 80 [(0, .ref (ad B 51)), (1, .int v1), (2, .int v2), (3, .int v3)] [] := by
  unfold fX4_goes_80 at hf
  refine v_aload_n C 0 dX4_goes_80 rfl rfl ?_
  refine v_iload_n C 3 dX4_goes_81 rfl rfl ?_
  refine v_iload_n C 1 dX4_goes_82 rfl rfl ?_
  refine v_aload_n C 0 dX4_goes_83 rfl rfl ?_
  refine v_iload_n C 1 dX4_goes_84 rfl rfl ?_
  obtain ⟨y7, hy7, hf⟩ := bnd hf
  refine v_callV (r := some (.int y7)) (As := [.int v1]) (rest := [.int v1, .int v3, .ref (ad B 51)]) (K := 51) C (mX4_presses hL hy7) cw_X4_presses wd_792 (by decide) rfl rfl ⟨Nat.le_of_ble_eq_true rfl, Nat.le_of_ble_eq_true rfl⟩ rfl rfl (Nat.le_of_ble_eq_true rfl) dX4_goes_85 ?_
  refine v_aload_n C 0 dX4_goes_88 rfl rfl ?_
  refine v_iload_n C 1 dX4_goes_89 rfl rfl ?_
  obtain ⟨y8, hy8, hf⟩ := bnd hf
  refine v_callV (r := some (.int y8)) (As := [.int v1]) (rest := [.int y7, .int v1, .int v3, .ref (ad B 51)]) (K := 51) C (mX4_looks hL hy8) cw_X4_looks wd_798 (by decide) rfl rfl ⟨Nat.le_of_ble_eq_true rfl, Nat.le_of_ble_eq_true rfl⟩ rfl rfl (Nat.le_of_ble_eq_true rfl) dX4_goes_90 ?_
  obtain ⟨y9, hy9, hf⟩ := bnd hf
  refine v_callV (r := none) (As := [.int v3, .int v1, .int y7, .int y8]) (rest := []) (K := 51) C (mX4_prints hL hy9) cw_X4_prints wd_747 (by decide) rfl rfl ⟨Nat.le_of_ble_eq_true rfl, Nat.le_of_ble_eq_true rfl⟩ rfl rfl (Nat.le_of_ble_eq_true rfl) dX4_goes_93 ?_
  refine v_iload_n C 3 dX4_goes_96 rfl rfl ?_
  refine v_aload_n C 0 dX4_goes_97 rfl rfl ?_
  refine v_iload_n C 1 dX4_goes_98 rfl rfl ?_
  refine v_iconst (v := 1) C dX4_goes_99 (by decide) ?_
  obtain ⟨y10, hy10, hf⟩ := bnd hf
  refine v_callV (r := some (.int y10)) (As := [.int v1, .int 1]) (rest := [.int v3]) (K := 51) C (mX4_its hL hy10) cw_X4_its wd_734 (by decide) rfl rfl ⟨Nat.le_of_ble_eq_true rfl, Nat.le_of_ble_eq_true rfl⟩ rfl rfl (Nat.le_of_ble_eq_true rfl) dX4_goes_100 ?_
  refine v_iload_n C 2 dX4_goes_103 rfl rfl ?_
  refine v_iadd C dX4_goes_104 ?_
  refine v_icmp_eq (tgt := 122) C dX4_goes_105 (by decide) hf (fun hf => ?_) (fun hf => ?_)
  · refine v_sub [0, 1, 3] rfl ?_
    exact tX4_goes_122 C hL hQ hf
  · refine v_aload_n C 0 dX4_goes_108 rfl rfl ?_
    refine v_iload_n C 1 dX4_goes_109 rfl rfl ?_
    refine v_iconst (v := 2) C dX4_goes_110 (by decide) ?_
    refine v_iconst (v := 1) C dX4_goes_111 (by decide) ?_
    refine v_aload_n C 0 dX4_goes_112 rfl rfl ?_
    refine v_iload_n C 1 dX4_goes_113 rfl rfl ?_
    refine v_iconst (v := 2) C dX4_goes_114 (by decide) ?_
    obtain ⟨y14, hy14, hf⟩ := bnd hf
    refine v_callV (r := some (.int y14)) (As := [.int v1, .int 2]) (rest := [.int 1, .int 2, .int v1, .ref (ad B 51)]) (K := 51) C (mX4_its hL hy14) cw_X4_its wd_734 (by decide) rfl rfl ⟨Nat.le_of_ble_eq_true rfl, Nat.le_of_ble_eq_true rfl⟩ rfl rfl (Nat.le_of_ble_eq_true rfl) dX4_goes_115 ?_
    refine v_isub C dX4_goes_118 ?_
    obtain ⟨y15, hy15, hf⟩ := bnd hf
    refine v_callV (r := none) (As := [.int v1, .int 2, .int (1 - y14)]) (rest := []) (K := 51) C (mX4_sets hL hy15) cw_X4_sets wd_780 (by decide) rfl rfl ⟨Nat.le_of_ble_eq_true rfl, Nat.le_of_ble_eq_true rfl⟩ rfl rfl (Nat.le_of_ble_eq_true rfl) dX4_goes_119 ?_
    refine v_sub [0, 1, 3] rfl ?_
    exact tX4_goes_122 C hL hQ hf
def fX4_goes_20 (x : St2) (v1 : Int32) (s0 : Int32) (s1 : Int32) : Option St2 := (some (s1 * s0)).bind fun w3 => (fX4_its x v1 1).bind fun y4 => (some (imax 0 (imin 23 (y4 + w3)))).bind fun w5 => (rd (x 1) 135 (5 + w5)).bind fun a6 => if a6 < 0 then (fX4_goes_80 x v1 w3 w5) else (if a6 = v1 then (fX4_goes_80 x v1 w3 w5) else ((rd (x 1) 135 4).bind fun a16 => (wr x 1 135 4 (imin 99999 (a16 + 1))).bind fun x17 => fX4_goes_80 x17 v1 w3 w5))
set_option maxHeartbeats 4000000 in
set_option maxRecDepth 100000 in
theorem tX4_goes_20 {E : EE} {B : BB} {l : Launch} {L : St2 → St2} {x : St2} {v1 : Int32} {s0 : Int32} {s1 : Int32} {res : St2} (C : Cx E B l cX4_goes RX4 none 5 2 45) (hL : Ln 51 10 L) (hQ : Fin9 E B none (L res)) (hf : fX4_goes_20 x v1 s0 s1 = some res) : V E B (L x) 20 [(0, .ref (ad B 51)), (1, .int v1)] [.int s0, .int s1] := by
  unfold fX4_goes_20 at hf
  refine v_imul C dX4_goes_20 ?_
  refine v_top hf (fun w3 hf => ?_)
  refine v_istore_n (lv' := [(0, .ref (ad B 51)), (1, .int v1), (2, .int w3)]) C [1, 2, 0] dX4_goes_21 rfl (by decide) rfl ?_
  refine v_iconst (v := 0) C dX4_goes_22 (by decide) ?_
  refine v_bipush (v := 23) C dX4_goes_23 (by decide) ?_
  refine v_aload_n C 0 dX4_goes_25 rfl rfl ?_
  refine v_iload_n C 1 dX4_goes_26 rfl rfl ?_
  refine v_iconst (v := 1) C dX4_goes_27 (by decide) ?_
  obtain ⟨y4, hy4, hf⟩ := bnd hf
  refine v_callV (r := some (.int y4)) (As := [.int v1, .int 1]) (rest := [.int 23, .int 0]) (K := 51) C (mX4_its hL hy4) cw_X4_its wd_734 (by decide) rfl rfl ⟨Nat.le_of_ble_eq_true rfl, Nat.le_of_ble_eq_true rfl⟩ rfl rfl (Nat.le_of_ble_eq_true rfl) dX4_goes_28 ?_
  refine v_iload_n C 2 dX4_goes_31 rfl rfl ?_
  refine v_iadd C dX4_goes_32 ?_
  refine w_mmin C wd_797 (by decide) (Nat.le_of_ble_eq_true rfl) dX4_goes_33 ?_
  refine w_mmax C wd_796 (by decide) (Nat.le_of_ble_eq_true rfl) dX4_goes_36 ?_
  refine v_top hf (fun w5 hf => ?_)
  refine v_istore_n (lv' := [(0, .ref (ad B 51)), (1, .int v1), (2, .int w3), (3, .int w5)]) C [1, 2, 3, 0] dX4_goes_39 rfl (by decide) rfl ?_
  refine v_aload_n C 0 dX4_goes_40 rfl rfl ?_
  refine g_getR (K := 51) (i := 0) (j := 51 + 1) C (by decide) rfl rfl inX4 (by decide) rfl wd_667 dX4_goes_41 ?_
  refine v_iconst (v := 5) C dX4_goes_44 (by decide) ?_
  refine v_iload_n C 3 dX4_goes_45 rfl rfl ?_
  refine v_iadd C dX4_goes_46 ?_
  refine s_ald (k := 1) C hL (by decide) rfl dX4_goes_47 hf (fun a6 hf => ?_)
  refine v_istore (lv' := [(0, .ref (ad B 51)), (1, .int v1), (2, .int w3), (3, .int w5), (4, .int a6)]) C [1, 2, 3, 4, 0] dX4_goes_48 (by decide) rfl ?_
  refine v_iload C 4 dX4_goes_50 rfl ?_
  refine v_if_lt (tgt := 80) C dX4_goes_52 (by decide) hf (fun hf => ?_) (fun hf => ?_)
  · refine v_sub [0, 1, 2, 3] rfl ?_
    exact tX4_goes_80 C hL hQ hf
  · refine v_iload C 4 dX4_goes_55 rfl ?_
    refine v_iload_n C 1 dX4_goes_57 rfl rfl ?_
    refine v_icmp_eq (tgt := 80) C dX4_goes_58 (by decide) hf (fun hf => ?_) (fun hf => ?_)
    · refine v_sub [0, 1, 2, 3] rfl ?_
      exact tX4_goes_80 C hL hQ hf
    · refine v_aload_n C 0 dX4_goes_61 rfl rfl ?_
      refine g_getR (K := 51) (i := 0) (j := 51 + 1) C (by decide) rfl rfl inX4 (by decide) rfl wd_667 dX4_goes_62 ?_
      refine v_iconst (v := 4) C dX4_goes_65 (by decide) ?_
      refine v_ldc C wd_819 dX4_goes_66 ?_
      refine v_aload_n C 0 dX4_goes_68 rfl rfl ?_
      refine g_getR (K := 51) (i := 0) (j := 51 + 1) C (by decide) rfl rfl inX4 (by decide) rfl wd_667 dX4_goes_69 ?_
      refine v_iconst (v := 4) C dX4_goes_72 (by decide) ?_
      refine s_ald (k := 1) C hL (by decide) rfl dX4_goes_73 hf (fun a16 hf => ?_)
      refine v_iconst (v := 1) C dX4_goes_74 (by decide) ?_
      refine v_iadd C dX4_goes_75 ?_
      refine w_mmin C wd_797 (by decide) (Nat.le_of_ble_eq_true rfl) dX4_goes_76 ?_
      refine s_ast (k := 1) C hL (by decide) rfl dX4_goes_79 hf (fun x17 hf => ?_)
      refine v_sub [0, 1, 2, 3] rfl ?_
      exact tX4_goes_80 C hL hQ hf
def fX4_goes (x : St2) (v1 : Int32) : Option St2 := (fX4_strides x v1).bind fun y1 => (fX4_its x v1 2).bind fun y2 => if y2 = 1 then (fX4_goes_20 x v1 1 y1) else (fX4_goes_20 x v1 (-1) y1)
set_option maxHeartbeats 4000000 in
set_option maxRecDepth 100000 in
theorem tX4_goes {E : EE} {B : BB} {l : Launch} {L : St2 → St2} {x : St2} {v1 : Int32} {res : St2} (C : Cx E B l cX4_goes RX4 none 5 2 45) (hL : Ln 51 10 L) (hQ : Fin9 E B none (L res)) (hf : fX4_goes x v1 = some res) : V E B (L x) 0 [(0, .ref (ad B 51)), (1, .int v1)] [] := by
  unfold fX4_goes at hf
  refine v_aload_n C 0 dX4_goes_0 rfl rfl ?_
  refine v_iload_n C 1 dX4_goes_1 rfl rfl ?_
  obtain ⟨y1, hy1, hf⟩ := bnd hf
  refine v_callV (r := some (.int y1)) (As := [.int v1]) (rest := []) (K := 51) C (mX4_strides hL hy1) cw_X4_strides wd_788 (by decide) rfl rfl ⟨Nat.le_of_ble_eq_true rfl, Nat.le_of_ble_eq_true rfl⟩ rfl rfl (Nat.le_of_ble_eq_true rfl) dX4_goes_2 ?_
  refine v_aload_n C 0 dX4_goes_5 rfl rfl ?_
  refine v_iload_n C 1 dX4_goes_6 rfl rfl ?_
  refine v_iconst (v := 2) C dX4_goes_7 (by decide) ?_
  obtain ⟨y2, hy2, hf⟩ := bnd hf
  refine v_callV (r := some (.int y2)) (As := [.int v1, .int 2]) (rest := [.int y1]) (K := 51) C (mX4_its hL hy2) cw_X4_its wd_734 (by decide) rfl rfl ⟨Nat.le_of_ble_eq_true rfl, Nat.le_of_ble_eq_true rfl⟩ rfl rfl (Nat.le_of_ble_eq_true rfl) dX4_goes_8 ?_
  refine v_iconst (v := 1) C dX4_goes_11 (by decide) ?_
  refine v_icmp_ne (tgt := 19) C dX4_goes_12 (by decide) hf (fun hf => ?_) (fun hf => ?_)
  · refine v_iconst (v := (-1)) C dX4_goes_19 (by decide) ?_
    exact tX4_goes_20 C hL hQ hf
  · refine v_iconst (v := 1) C dX4_goes_15 (by decide) ?_
    refine v_goto (tgt := 20) C dX4_goes_16 (by decide) ?_
    exact tX4_goes_20 C hL hQ hf
theorem mX4_goes {B : BB} {l : Launch} {L : St2 → St2} {x : St2} {v1 : Int32} {res : St2} (hL : Ln 51 10 L) (hf : fX4_goes x v1 = some res) : Ret l B yX4_goes cX4_goes 5 none 2 45 [.ref (ad B 51), .int v1] (L x) none (L res) := ret_of (own := RX4) (by decide) rfl (Nat.le_of_ble_eq_true rfl) (fun E C hQ => tX4_goes C hL hQ hf)
def fX4_anHour_28 (N : Nat) (k2 : St2 → Int32 → Option St2) (x : St2) (v1 : Int32) : Option St2 := k2 x (v1 + 1)
set_option maxHeartbeats 4000000 in
set_option maxRecDepth 100000 in
theorem tX4_anHour_28 {E : EE} {B : BB} {l : Launch} {L : St2 → St2} {N : Nat} {k2 : St2 → Int32 → Option St2} {x : St2} {v1 : Int32} {res : St2} (C : Cx E B l cX4_anHour RX4 none 2 3 69) (hL : Ln 51 10 L) (hQ : Fin9 E B none (L res)) (hk2 : ∀ (x : St2) (v1 : Int32), k2 x v1 = some res → V E B (L x) 2 [(0, .ref (ad B 51)), (1, .int v1)] []) (hf : fX4_anHour_28 N k2 x v1 = some res) : V E B (L x) 28 [(0, .ref (ad B 51)), (1, .int v1)] [] := by
  unfold fX4_anHour_28 at hf
  refine v_iinc (q := 1) (v := v1 + 1) (lv' := [(0, .ref (ad B 51)), (1, .int (v1 + 1))]) C [1, 0] dX4_anHour_28 rfl rfl (by decide) rfl ?_
  refine v_goto (tgt := 2) C dX4_anHour_31 (by decide) ?_
  exact hk2 x (v1 + 1) hf
def fX4_anHour_2 (N : Nat) : Nat → St2 → Int32 → Option St2
  | 0, _, _ => none
  | n + 1, x, v1 => (rd (x 1) 135 2).bind fun a1 => if a1 ≤ v1 then ((rd (x 1) 135 0).bind fun a2 => (wr x 1 135 0 (a2 + 1)).bind fun x3 => (rd (x3 1) 135 0).bind fun a4 => if (a4 - a4 / 6 * 6) = 0 then ((fX4_theTide N x3).bind fun y5 => some y5.2) else (some x3)) else (if (((x 0 5) >>> (v1 &&& 31)) &&& 1) = 0 then ((fX4_goes x v1).bind fun y7 => fX4_anHour_28 N (fX4_anHour_2 N n) y7 v1) else (fX4_anHour_28 N (fX4_anHour_2 N n) x v1))
set_option maxHeartbeats 4000000 in
set_option maxRecDepth 100000 in
theorem tX4_anHour_2 {E : EE} {B : BB} {l : Launch} {L : St2 → St2} {N : Nat} {res : St2} (C : Cx E B l cX4_anHour RX4 none 2 3 69) (hL : Ln 51 10 L) (hQ : Fin9 E B none (L res)) : ∀ (n : Nat) (x : St2) (v1 : Int32), fX4_anHour_2 N n x v1 = some res → V E B (L x) 2 [(0, .ref (ad B 51)), (1, .int v1)] [] := by
  intro n
  induction n with
  | zero =>
    intro x v1 hf
    cases hf
  | succ n ih =>
    intro x v1 hf
    rw [fX4_anHour_2] at hf
    refine v_iload_n C 1 dX4_anHour_2 rfl rfl ?_
    refine v_aload_n C 0 dX4_anHour_3 rfl rfl ?_
    refine g_getR (K := 51) (i := 0) (j := 51 + 1) C (by decide) rfl rfl inX4 (by decide) rfl wd_667 dX4_anHour_4 ?_
    refine v_iconst (v := 2) C dX4_anHour_7 (by decide) ?_
    refine s_ald (k := 1) C hL (by decide) rfl dX4_anHour_8 hf (fun a1 hf => ?_)
    refine v_icmp_ge (tgt := 34) C dX4_anHour_9 (by decide) hf (fun hf => ?_) (fun hf => ?_)
    · refine v_aload_n C 0 dX4_anHour_34 rfl rfl ?_
      refine g_getR (K := 51) (i := 0) (j := 51 + 1) C (by decide) rfl rfl inX4 (by decide) rfl wd_667 dX4_anHour_35 ?_
      refine v_iconst (v := 0) C dX4_anHour_38 (by decide) ?_
      refine v_dup2 C dX4_anHour_39 rfl rfl ?_
      refine s_ald (k := 1) C hL (by decide) rfl dX4_anHour_40 hf (fun a2 hf => ?_)
      refine v_iconst (v := 1) C dX4_anHour_41 (by decide) ?_
      refine v_iadd C dX4_anHour_42 ?_
      refine s_ast (k := 1) C hL (by decide) rfl dX4_anHour_43 hf (fun x3 hf => ?_)
      refine v_aload_n C 0 dX4_anHour_44 rfl rfl ?_
      refine g_getR (K := 51) (i := 0) (j := 51 + 1) C (by decide) rfl rfl inX4 (by decide) rfl wd_667 dX4_anHour_45 ?_
      refine v_iconst (v := 0) C dX4_anHour_48 (by decide) ?_
      refine s_ald (k := 1) C hL (by decide) rfl dX4_anHour_49 hf (fun a4 hf => ?_)
      refine v_bipush (v := 6) C dX4_anHour_50 (by decide) ?_
      refine v_irem C dX4_anHour_52 (by decide) ?_
      refine v_if_ne (tgt := 61) C dX4_anHour_53 (by decide) hf (fun hf => ?_) (fun hf => ?_)
      · exact v_vret C dX4_anHour_61 (fin_v hf hQ)
      · refine v_aload_n C 0 dX4_anHour_56 rfl rfl ?_
        obtain ⟨y5, hy5, hf⟩ := bnd hf
        refine v_callV (r := some (.int y5.1)) (As := []) (rest := []) (K := 51) C (mX4_theTide hL hy5) cw_X4_theTide wd_764 (by decide) rfl rfl ⟨Nat.le_of_ble_eq_true rfl, Nat.le_of_ble_eq_true rfl⟩ rfl rfl (Nat.le_of_ble_eq_true rfl) dX4_anHour_57 ?_
        refine v_istore_n (lv' := [(0, .ref (ad B 51)), (1, .int y5.1)]) C [1, 0] dX4_anHour_60 rfl (by decide) rfl ?_
        exact v_vret C dX4_anHour_61 (fin_v hf hQ)
    · refine v_aload_n C 0 dX4_anHour_12 rfl rfl ?_
      refine s_getI (k := 0) (i := 5) C hL (by decide) rfl rfl inX4 (by decide) rfl wd_672 dX4_anHour_13 ?_
      refine v_iload_n C 1 dX4_anHour_16 rfl rfl ?_
      refine v_ishr C dX4_anHour_17 ?_
      refine v_iconst (v := 1) C dX4_anHour_18 (by decide) ?_
      refine v_iand C dX4_anHour_19 ?_
      refine v_if_ne (tgt := 28) C dX4_anHour_20 (by decide) hf (fun hf => ?_) (fun hf => ?_)
      · exact tX4_anHour_28 C hL hQ ih hf
      · refine v_aload_n C 0 dX4_anHour_23 rfl rfl ?_
        refine v_iload_n C 1 dX4_anHour_24 rfl rfl ?_
        obtain ⟨y7, hy7, hf⟩ := bnd hf
        refine v_callV (r := none) (As := [.int v1]) (rest := []) (K := 51) C (mX4_goes hL hy7) cw_X4_goes wd_828 (by decide) rfl rfl ⟨Nat.le_of_ble_eq_true rfl, Nat.le_of_ble_eq_true rfl⟩ rfl rfl (Nat.le_of_ble_eq_true rfl) dX4_anHour_25 ?_
        exact tX4_anHour_28 C hL hQ ih hf
def fX4_anHour (N : Nat) (x : St2) : Option St2 := fX4_anHour_2 N N x 0
set_option maxHeartbeats 4000000 in
set_option maxRecDepth 100000 in
theorem tX4_anHour {E : EE} {B : BB} {l : Launch} {L : St2 → St2} {N : Nat} {x : St2} {res : St2} (C : Cx E B l cX4_anHour RX4 none 2 3 69) (hL : Ln 51 10 L) (hQ : Fin9 E B none (L res)) (hf : fX4_anHour N x = some res) : V E B (L x) 0 [(0, .ref (ad B 51))] [] := by
  unfold fX4_anHour at hf
  refine v_iconst (v := 0) C dX4_anHour_0 (by decide) ?_
  refine v_istore_n (lv' := [(0, .ref (ad B 51)), (1, .int 0)]) C [1, 0] dX4_anHour_1 rfl (by decide) rfl ?_
  exact tX4_anHour_2 C hL hQ N x 0 hf
theorem mX4_anHour {B : BB} {l : Launch} {L : St2 → St2} {N : Nat} {x : St2} {res : St2} (hL : Ln 51 10 L) (hf : fX4_anHour N x = some res) : Ret l B yX4_anHour cX4_anHour 2 none 3 69 [.ref (ad B 51)] (L x) none (L res) := ret_of (own := RX4) (by decide) rfl (Nat.le_of_ble_eq_true rfl) (fun E C hQ => tX4_anHour C hL hQ hf)
def fX4_hours_2 (N : Nat) (v1 : Int32) : Nat → St2 → Int32 → Option St2
  | 0, _, _ => none
  | n + 1, x, v2 => if v1 ≤ v2 then (some x) else ((fX4_anHour N x).bind fun y1 => (fX4_hours_2 N v1 n) y1 (v2 + 1))
set_option maxHeartbeats 4000000 in
set_option maxRecDepth 100000 in
theorem tX4_hours_2 {E : EE} {B : BB} {l : Launch} {L : St2 → St2} {N : Nat} {v1 : Int32} {res : St2} (C : Cx E B l cX4_hours RX4 none 3 4 90) (hL : Ln 51 10 L) (hQ : Fin9 E B none (L res)) : ∀ (n : Nat) (x : St2) (v2 : Int32), fX4_hours_2 N v1 n x v2 = some res → V E B (L x) 2 [(0, .ref (ad B 51)), (1, .int v1), (2, .int v2)] [] := by
  intro n
  induction n with
  | zero =>
    intro x v2 hf
    cases hf
  | succ n ih =>
    intro x v2 hf
    rw [fX4_hours_2] at hf
    refine v_iload_n C 2 dX4_hours_2 rfl rfl ?_
    refine v_iload_n C 1 dX4_hours_3 rfl rfl ?_
    refine v_icmp_ge (tgt := 17) C dX4_hours_4 (by decide) hf (fun hf => ?_) (fun hf => ?_)
    · exact v_vret C dX4_hours_17 (fin_v hf hQ)
    · refine v_aload_n C 0 dX4_hours_7 rfl rfl ?_
      obtain ⟨y1, hy1, hf⟩ := bnd hf
      refine v_callV (r := none) (As := []) (rest := []) (K := 51) C (mX4_anHour hL hy1) cw_X4_anHour wd_824 (by decide) rfl rfl ⟨Nat.le_of_ble_eq_true rfl, Nat.le_of_ble_eq_true rfl⟩ rfl rfl (Nat.le_of_ble_eq_true rfl) dX4_hours_8 ?_
      refine v_iinc (q := 2) (v := v2 + 1) (lv' := [(0, .ref (ad B 51)), (1, .int v1), (2, .int (v2 + 1))]) C [1, 2, 0] dX4_hours_11 rfl rfl (by decide) rfl ?_
      refine v_goto (tgt := 2) C dX4_hours_14 (by decide) ?_
      exact ih y1 (v2 + 1) hf
def fX4_hours (N : Nat) (x : St2) (v1 : Int32) : Option St2 := fX4_hours_2 N v1 N x 0
set_option maxHeartbeats 4000000 in
set_option maxRecDepth 100000 in
theorem tX4_hours {E : EE} {B : BB} {l : Launch} {L : St2 → St2} {N : Nat} {x : St2} {v1 : Int32} {res : St2} (C : Cx E B l cX4_hours RX4 none 3 4 90) (hL : Ln 51 10 L) (hQ : Fin9 E B none (L res)) (hf : fX4_hours N x v1 = some res) : V E B (L x) 0 [(0, .ref (ad B 51)), (1, .int v1)] [] := by
  unfold fX4_hours at hf
  refine v_iconst (v := 0) C dX4_hours_0 (by decide) ?_
  refine v_istore_n (lv' := [(0, .ref (ad B 51)), (1, .int v1), (2, .int 0)]) C [1, 2, 0] dX4_hours_1 rfl (by decide) rfl ?_
  exact tX4_hours_2 C hL hQ N x 0 hf
theorem mX4_hours {B : BB} {l : Launch} {L : St2 → St2} {N : Nat} {x : St2} {v1 : Int32} {res : St2} (hL : Ln 51 10 L) (hf : fX4_hours N x v1 = some res) : Ret l B yX4_hours cX4_hours 3 none 4 90 [.ref (ad B 51), .int v1] (L x) none (L res) := ret_of (own := RX4) (by decide) rfl (Nat.le_of_ble_eq_true rfl) (fun E C hQ => tX4_hours C hL hQ hf)
def fX4_printed_29 (N : Nat) (k4 : Int32 → Int32 → Option Int32) (x : St2) (v2 : Int32) (s0 : Int32) (s1 : Int32) : Option Int32 := (some (s1 ||| s0)).bind fun w2 => k4 w2 (v2 + 1)
set_option maxHeartbeats 4000000 in
set_option maxRecDepth 100000 in
theorem tX4_printed_29 {E : EE} {B : BB} {l : Launch} {L : St2 → St2} {N : Nat} {k4 : Int32 → Int32 → Option Int32} {x : St2} {v2 : Int32} {s0 : Int32} {s1 : Int32} {res : Int32} (C : Cx E B l cX4_printed RX4 (some .int) 3 0 0) (hL : Ln 51 10 L) (hQ : Fin9 E B (some (.int res)) (L x)) (hk4 : ∀ (v1 : Int32) (v2 : Int32), k4 v1 v2 = some res → V E B (L x) 4 [(0, .ref (ad B 51)), (1, .int v1), (2, .int v2)] []) (hf : fX4_printed_29 N k4 x v2 s0 s1 = some res) : V E B (L x) 29 [(0, .ref (ad B 51)), (2, .int v2)] [.int s0, .int s1] := by
  unfold fX4_printed_29 at hf
  refine v_ior C dX4_printed_29 ?_
  refine v_top hf (fun w2 hf => ?_)
  refine v_istore_n (lv' := [(0, .ref (ad B 51)), (1, .int w2), (2, .int v2)]) C [1, 0, 2] dX4_printed_30 rfl (by decide) rfl ?_
  refine v_iinc (q := 2) (v := v2 + 1) (lv' := [(0, .ref (ad B 51)), (1, .int w2), (2, .int (v2 + 1))]) C [1, 2, 0] dX4_printed_31 rfl rfl (by decide) rfl ?_
  refine v_goto (tgt := 4) C dX4_printed_34 (by decide) ?_
  exact hk4 w2 (v2 + 1) hf
def fX4_printed_4 (N : Nat) (x : St2) : Nat → Int32 → Int32 → Option Int32
  | 0, _, _ => none
  | n + 1, v1, v2 => if 24 ≤ v2 then (some v1) else ((rd (x 1) 135 (5 + v2)).bind fun a1 => if a1 < 0 then (fX4_printed_29 N (fX4_printed_4 N x n) x v2 0 v1) else (fX4_printed_29 N (fX4_printed_4 N x n) x v2 (1 <<< (v2 &&& 31)) v1))
set_option maxHeartbeats 4000000 in
set_option maxRecDepth 100000 in
theorem tX4_printed_4 {E : EE} {B : BB} {l : Launch} {L : St2 → St2} {N : Nat} {x : St2} {res : Int32} (C : Cx E B l cX4_printed RX4 (some .int) 3 0 0) (hL : Ln 51 10 L) (hQ : Fin9 E B (some (.int res)) (L x)) : ∀ (n : Nat) (v1 : Int32) (v2 : Int32), fX4_printed_4 N x n v1 v2 = some res → V E B (L x) 4 [(0, .ref (ad B 51)), (1, .int v1), (2, .int v2)] [] := by
  intro n
  induction n with
  | zero =>
    intro v1 v2 hf
    cases hf
  | succ n ih =>
    intro v1 v2 hf
    rw [fX4_printed_4] at hf
    refine v_iload_n C 2 dX4_printed_4 rfl rfl ?_
    refine v_bipush (v := 24) C dX4_printed_5 (by decide) ?_
    refine v_icmp_ge (tgt := 37) C dX4_printed_7 (by decide) hf (fun hf => ?_) (fun hf => ?_)
    · refine v_iload_n C 1 dX4_printed_37 rfl rfl ?_
      exact v_iret C dX4_printed_38 (fin_i hf hQ)
    · refine v_iload_n C 1 dX4_printed_10 rfl rfl ?_
      refine v_aload_n C 0 dX4_printed_11 rfl rfl ?_
      refine g_getR (K := 51) (i := 0) (j := 51 + 1) C (by decide) rfl rfl inX4 (by decide) rfl wd_667 dX4_printed_12 ?_
      refine v_iconst (v := 5) C dX4_printed_15 (by decide) ?_
      refine v_iload_n C 2 dX4_printed_16 rfl rfl ?_
      refine v_iadd C dX4_printed_17 ?_
      refine s_ald (k := 1) C hL (by decide) rfl dX4_printed_18 hf (fun a1 hf => ?_)
      refine v_if_lt (tgt := 28) C dX4_printed_19 (by decide) hf (fun hf => ?_) (fun hf => ?_)
      · refine v_iconst (v := 0) C dX4_printed_28 (by decide) ?_
        refine v_sub [0, 2] rfl ?_
        exact tX4_printed_29 C hL hQ ih hf
      · refine v_iconst (v := 1) C dX4_printed_22 (by decide) ?_
        refine v_iload_n C 2 dX4_printed_23 rfl rfl ?_
        refine v_ishl C dX4_printed_24 ?_
        refine v_goto (tgt := 29) C dX4_printed_25 (by decide) ?_
        refine v_sub [0, 2] rfl ?_
        exact tX4_printed_29 C hL hQ ih hf
def fX4_printed (N : Nat) (x : St2) : Option Int32 := fX4_printed_4 N x N 0 0
set_option maxHeartbeats 4000000 in
set_option maxRecDepth 100000 in
theorem tX4_printed {E : EE} {B : BB} {l : Launch} {L : St2 → St2} {N : Nat} {x : St2} {res : Int32} (C : Cx E B l cX4_printed RX4 (some .int) 3 0 0) (hL : Ln 51 10 L) (hQ : Fin9 E B (some (.int res)) (L x)) (hf : fX4_printed N x = some res) : V E B (L x) 0 [(0, .ref (ad B 51))] [] := by
  unfold fX4_printed at hf
  refine v_iconst (v := 0) C dX4_printed_0 (by decide) ?_
  refine v_istore_n (lv' := [(0, .ref (ad B 51)), (1, .int 0)]) C [1, 0] dX4_printed_1 rfl (by decide) rfl ?_
  refine v_iconst (v := 0) C dX4_printed_2 (by decide) ?_
  refine v_istore_n (lv' := [(0, .ref (ad B 51)), (1, .int 0), (2, .int 0)]) C [1, 2, 0] dX4_printed_3 rfl (by decide) rfl ?_
  exact tX4_printed_4 C hL hQ N 0 0 hf
theorem mX4_printed {B : BB} {l : Launch} {L : St2 → St2} {N : Nat} {x : St2} {res : Int32} (hL : Ln 51 10 L) (hf : fX4_printed N x = some res) : Ret l B yX4_printed cX4_printed 3 (some .int) 0 0 [.ref (ad B 51)] (L x) (some (.int res)) (L x) := ret_of (own := RX4) (by decide) rfl (Nat.le_of_ble_eq_true rfl) (fun E C hQ => tX4_printed C hL hQ hf)
def fX4_go (N : Nat) (x : St2) (v1 : Int32) : Option (Int32 × St2) := (fX4_in v1.toInt64 1 60).bind fun y1 => if y1 = 0 then ((fX4_finds x 0).bind fun y7 => some (y7.1, y7.2)) else ((rd (x 1) 135 0).bind fun a2 => if (a2 + v1) ≤ 99999 then ((fX4_hours N x v1).bind fun y3 => (fX4_printed N y3).bind fun y4 => (fX4_ones N y4).bind fun y5 => some (y5, y3)) else ((fX4_finds x 4).bind fun y6 => some (y6.1, y6.2)))
set_option maxHeartbeats 4000000 in
set_option maxRecDepth 100000 in
theorem tX4_go {E : EE} {B : BB} {l : Launch} {L : St2 → St2} {N : Nat} {x : St2} {v1 : Int32} {res : (Int32 × St2)} (C : Cx E B l cX4_go RX4 (some .int) 2 5 112) (hL : Ln 51 10 L) (hQ : Fin9 E B (some (.int res.1)) (L res.2)) (hf : fX4_go N x v1 = some res) : V E B (L x) 0 [(0, .ref (ad B 51)), (1, .int v1)] [] := by
  unfold fX4_go at hf
  refine v_iload_n C 1 dX4_go_0 rfl rfl ?_
  refine v_i2l C dX4_go_1 ?_
  refine v_lconst (v := 1) C dX4_go_2 (by decide) ?_
  refine v_ldc2 C wd_818 dX4_go_3 ?_
  obtain ⟨y1, hy1, hf⟩ := bnd hf
  refine v_callS (r := some (.int y1)) (As := [.long v1.toInt64, .long 1, .long 60]) (rest := []) C (mX4_in  hy1) cw_X4_in wd_721 ⟨Nat.le_of_ble_eq_true rfl, Nat.le_of_ble_eq_true rfl⟩ rfl rfl (Nat.le_of_ble_eq_true rfl) dX4_go_6 ?_
  refine v_if_ne (tgt := 18) C dX4_go_9 (by decide) hf (fun hf => ?_) (fun hf => ?_)
  · refine v_aload_n C 0 dX4_go_18 rfl rfl ?_
    refine g_getR (K := 51) (i := 0) (j := 51 + 1) C (by decide) rfl rfl inX4 (by decide) rfl wd_667 dX4_go_19 ?_
    refine v_iconst (v := 0) C dX4_go_22 (by decide) ?_
    refine s_ald (k := 1) C hL (by decide) rfl dX4_go_23 hf (fun a2 hf => ?_)
    refine v_iload_n C 1 dX4_go_24 rfl rfl ?_
    refine v_iadd C dX4_go_25 ?_
    refine v_ldc C wd_819 dX4_go_26 ?_
    refine v_icmp_le (tgt := 37) C dX4_go_28 (by decide) hf (fun hf => ?_) (fun hf => ?_)
    · refine v_aload_n C 0 dX4_go_37 rfl rfl ?_
      refine v_iload_n C 1 dX4_go_38 rfl rfl ?_
      obtain ⟨y3, hy3, hf⟩ := bnd hf
      refine v_callV (r := none) (As := [.int v1]) (rest := []) (K := 51) C (mX4_hours hL hy3) cw_X4_hours wd_820 (by decide) rfl rfl ⟨Nat.le_of_ble_eq_true rfl, Nat.le_of_ble_eq_true rfl⟩ rfl rfl (Nat.le_of_ble_eq_true rfl) dX4_go_39 ?_
      refine v_aload_n C 0 dX4_go_42 rfl rfl ?_
      obtain ⟨y4, hy4, hf⟩ := bnd hf
      refine v_callV (r := some (.int y4)) (As := []) (rest := []) (K := 51) C (mX4_printed hL hy4) cw_X4_printed wd_832 (by decide) rfl rfl ⟨Nat.le_of_ble_eq_true rfl, Nat.le_of_ble_eq_true rfl⟩ rfl rfl (Nat.le_of_ble_eq_true rfl) dX4_go_43 ?_
      obtain ⟨y5, hy5, hf⟩ := bnd hf
      refine v_callS (r := some (.int y5)) (As := [.int y4]) (rest := []) C (mX4_ones  hy5) cw_X4_ones wd_836 ⟨Nat.le_of_ble_eq_true rfl, Nat.le_of_ble_eq_true rfl⟩ rfl rfl (Nat.le_of_ble_eq_true rfl) dX4_go_46 ?_
      exact v_iret C dX4_go_49 (fin_im hf hQ)
    · refine v_aload_n C 0 dX4_go_31 rfl rfl ?_
      refine v_iconst (v := 4) C dX4_go_32 (by decide) ?_
      obtain ⟨y6, hy6, hf⟩ := bnd hf
      refine v_callV (r := some (.int y6.1)) (As := [.int 4]) (rest := []) (K := 51) C (mX4_finds hL hy6) cw_X4_finds wd_725 (by decide) rfl rfl ⟨Nat.le_of_ble_eq_true rfl, Nat.le_of_ble_eq_true rfl⟩ rfl rfl (Nat.le_of_ble_eq_true rfl) dX4_go_33 ?_
      exact v_iret C dX4_go_36 (fin_im hf hQ)
  · refine v_aload_n C 0 dX4_go_12 rfl rfl ?_
    refine v_iconst (v := 0) C dX4_go_13 (by decide) ?_
    obtain ⟨y7, hy7, hf⟩ := bnd hf
    refine v_callV (r := some (.int y7.1)) (As := [.int 0]) (rest := []) (K := 51) C (mX4_finds hL hy7) cw_X4_finds wd_725 (by decide) rfl rfl ⟨Nat.le_of_ble_eq_true rfl, Nat.le_of_ble_eq_true rfl⟩ rfl rfl (Nat.le_of_ble_eq_true rfl) dX4_go_14 ?_
    exact v_iret C dX4_go_17 (fin_im hf hQ)
theorem mX4_go {B : BB} {l : Launch} {L : St2 → St2} {N : Nat} {x : St2} {v1 : Int32} {res : (Int32 × St2)} (hL : Ln 51 10 L) (hf : fX4_go N x v1 = some res) : Ret l B yX4_go cX4_go 2 (some .int) 5 112 [.ref (ad B 51), .int v1] (L x) (some (.int res.1)) (L res.2) := ret_of (own := RX4) (by decide) rfl (Nat.le_of_ble_eq_true rfl) (fun E C hQ => tX4_go C hL hQ hf)
def fX4_depths_4 (N : Nat) (x : St2) : Nat → Int32 → Int32 → Option Int32
  | 0, _, _ => none
  | n + 1, v1, v2 => if 24 ≤ v2 then (some v1) else ((rd (x 1) 135 (29 + v2)).bind fun a1 => (some (v1 + a1)).bind fun w2 => (fX4_depths_4 N x n) w2 (v2 + 1))
set_option maxHeartbeats 4000000 in
set_option maxRecDepth 100000 in
theorem tX4_depths_4 {E : EE} {B : BB} {l : Launch} {L : St2 → St2} {N : Nat} {x : St2} {res : Int32} (C : Cx E B l cX4_depths RX4 (some .int) 3 0 0) (hL : Ln 51 10 L) (hQ : Fin9 E B (some (.int res)) (L x)) : ∀ (n : Nat) (v1 : Int32) (v2 : Int32), fX4_depths_4 N x n v1 v2 = some res → V E B (L x) 4 [(0, .ref (ad B 51)), (1, .int v1), (2, .int v2)] [] := by
  intro n
  induction n with
  | zero =>
    intro v1 v2 hf
    cases hf
  | succ n ih =>
    intro v1 v2 hf
    rw [fX4_depths_4] at hf
    refine v_iload_n C 2 dX4_depths_4 rfl rfl ?_
    refine v_bipush (v := 24) C dX4_depths_5 (by decide) ?_
    refine v_icmp_ge (tgt := 28) C dX4_depths_7 (by decide) hf (fun hf => ?_) (fun hf => ?_)
    · refine v_iload_n C 1 dX4_depths_28 rfl rfl ?_
      exact v_iret C dX4_depths_29 (fin_i hf hQ)
    · refine v_iload_n C 1 dX4_depths_10 rfl rfl ?_
      refine v_aload_n C 0 dX4_depths_11 rfl rfl ?_
      refine g_getR (K := 51) (i := 0) (j := 51 + 1) C (by decide) rfl rfl inX4 (by decide) rfl wd_667 dX4_depths_12 ?_
      refine v_bipush (v := 29) C dX4_depths_15 (by decide) ?_
      refine v_iload_n C 2 dX4_depths_17 rfl rfl ?_
      refine v_iadd C dX4_depths_18 ?_
      refine s_ald (k := 1) C hL (by decide) rfl dX4_depths_19 hf (fun a1 hf => ?_)
      refine v_iadd C dX4_depths_20 ?_
      refine v_top hf (fun w2 hf => ?_)
      refine v_istore_n (lv' := [(0, .ref (ad B 51)), (1, .int w2), (2, .int v2)]) C [1, 0, 2] dX4_depths_21 rfl (by decide) rfl ?_
      refine v_iinc (q := 2) (v := v2 + 1) (lv' := [(0, .ref (ad B 51)), (1, .int w2), (2, .int (v2 + 1))]) C [1, 2, 0] dX4_depths_22 rfl rfl (by decide) rfl ?_
      refine v_goto (tgt := 4) C dX4_depths_25 (by decide) ?_
      exact ih w2 (v2 + 1) hf
def fX4_depths (N : Nat) (x : St2) : Option Int32 := fX4_depths_4 N x N 0 0
set_option maxHeartbeats 4000000 in
set_option maxRecDepth 100000 in
theorem tX4_depths {E : EE} {B : BB} {l : Launch} {L : St2 → St2} {N : Nat} {x : St2} {res : Int32} (C : Cx E B l cX4_depths RX4 (some .int) 3 0 0) (hL : Ln 51 10 L) (hQ : Fin9 E B (some (.int res)) (L x)) (hf : fX4_depths N x = some res) : V E B (L x) 0 [(0, .ref (ad B 51))] [] := by
  unfold fX4_depths at hf
  refine v_iconst (v := 0) C dX4_depths_0 (by decide) ?_
  refine v_istore_n (lv' := [(0, .ref (ad B 51)), (1, .int 0)]) C [1, 0] dX4_depths_1 rfl (by decide) rfl ?_
  refine v_iconst (v := 0) C dX4_depths_2 (by decide) ?_
  refine v_istore_n (lv' := [(0, .ref (ad B 51)), (1, .int 0), (2, .int 0)]) C [1, 2, 0] dX4_depths_3 rfl (by decide) rfl ?_
  exact tX4_depths_4 C hL hQ N 0 0 hf
theorem mX4_depths {B : BB} {l : Launch} {L : St2 → St2} {N : Nat} {x : St2} {res : Int32} (hL : Ln 51 10 L) (hf : fX4_depths N x = some res) : Ret l B yX4_depths cX4_depths 3 (some .int) 0 0 [.ref (ad B 51)] (L x) (some (.int res)) (L x) := ret_of (own := RX4) (by decide) rfl (Nat.le_of_ble_eq_true rfl) (fun E C hQ => tX4_depths C hL hQ hf)
def fX4_greatest_42 (N : Nat) (k4 : Int32 → Int32 → Option Int32) (x : St2) (v2 : Int32) (s0 : Int32) : Option Int32 := k4 s0 (v2 + 1)
set_option maxHeartbeats 4000000 in
set_option maxRecDepth 100000 in
theorem tX4_greatest_42 {E : EE} {B : BB} {l : Launch} {L : St2 → St2} {N : Nat} {k4 : Int32 → Int32 → Option Int32} {x : St2} {v2 : Int32} {s0 : Int32} {res : Int32} (C : Cx E B l cX4_greatest RX4 (some .int) 3 1 23) (hL : Ln 51 10 L) (hQ : Fin9 E B (some (.int res)) (L x)) (hk4 : ∀ (v1 : Int32) (v2 : Int32), k4 v1 v2 = some res → V E B (L x) 4 [(0, .ref (ad B 51)), (1, .int v1), (2, .int v2)] []) (hf : fX4_greatest_42 N k4 x v2 s0 = some res) : V E B (L x) 42 [(0, .ref (ad B 51)), (2, .int v2)] [.int s0] := by
  unfold fX4_greatest_42 at hf
  refine v_istore_n (lv' := [(0, .ref (ad B 51)), (1, .int s0), (2, .int v2)]) C [1, 0, 2] dX4_greatest_42 rfl (by decide) rfl ?_
  refine v_iinc (q := 2) (v := v2 + 1) (lv' := [(0, .ref (ad B 51)), (1, .int s0), (2, .int (v2 + 1))]) C [1, 2, 0] dX4_greatest_43 rfl rfl (by decide) rfl ?_
  refine v_goto (tgt := 4) C dX4_greatest_46 (by decide) ?_
  exact hk4 s0 (v2 + 1) hf
def fX4_greatest_37 (N : Nat) (k4 : Int32 → Int32 → Option Int32) (x : St2) (v2 : Int32) : Option Int32 := fX4_greatest_42 N k4 x v2 v2
set_option maxHeartbeats 4000000 in
set_option maxRecDepth 100000 in
theorem tX4_greatest_37 {E : EE} {B : BB} {l : Launch} {L : St2 → St2} {N : Nat} {k4 : Int32 → Int32 → Option Int32} {x : St2} {v2 : Int32} {res : Int32} (C : Cx E B l cX4_greatest RX4 (some .int) 3 1 23) (hL : Ln 51 10 L) (hQ : Fin9 E B (some (.int res)) (L x)) (hk4 : ∀ (v1 : Int32) (v2 : Int32), k4 v1 v2 = some res → V E B (L x) 4 [(0, .ref (ad B 51)), (1, .int v1), (2, .int v2)] []) (hf : fX4_greatest_37 N k4 x v2 = some res) : V E B (L x) 37 [(0, .ref (ad B 51)), (2, .int v2)] [] := by
  unfold fX4_greatest_37 at hf
  refine v_iload_n C 1 dX4_greatest_37 rfl rfl ?_
  refine v_goto (tgt := 42) C dX4_greatest_38 (by decide) ?_
  exact tX4_greatest_42 C hL hQ hk4 hf
def fX4_greatest_4 (N : Nat) (x : St2) : Nat → Int32 → Int32 → Option Int32
  | 0, _, _ => none
  | n + 1, v1, v2 => (rd (x 1) 135 2).bind fun a1 => if a1 ≤ v2 then (some v1) else (if v1 < 0 then (fX4_greatest_37 N (fX4_greatest_4 N x n) x v2) else ((fX4_workOf N x v2).bind fun y3 => (fX4_ones N y3).bind fun y4 => (fX4_workOf N x v1).bind fun y5 => (fX4_ones N y5).bind fun y6 => if y4 ≤ y6 then (fX4_greatest_42 N (fX4_greatest_4 N x n) x v2 v1) else (fX4_greatest_37 N (fX4_greatest_4 N x n) x v2)))
set_option maxHeartbeats 4000000 in
set_option maxRecDepth 100000 in
theorem tX4_greatest_4 {E : EE} {B : BB} {l : Launch} {L : St2 → St2} {N : Nat} {x : St2} {res : Int32} (C : Cx E B l cX4_greatest RX4 (some .int) 3 1 23) (hL : Ln 51 10 L) (hQ : Fin9 E B (some (.int res)) (L x)) : ∀ (n : Nat) (v1 : Int32) (v2 : Int32), fX4_greatest_4 N x n v1 v2 = some res → V E B (L x) 4 [(0, .ref (ad B 51)), (1, .int v1), (2, .int v2)] [] := by
  intro n
  induction n with
  | zero =>
    intro v1 v2 hf
    cases hf
  | succ n ih =>
    intro v1 v2 hf
    rw [fX4_greatest_4] at hf
    refine v_iload_n C 2 dX4_greatest_4 rfl rfl ?_
    refine v_aload_n C 0 dX4_greatest_5 rfl rfl ?_
    refine g_getR (K := 51) (i := 0) (j := 51 + 1) C (by decide) rfl rfl inX4 (by decide) rfl wd_667 dX4_greatest_6 ?_
    refine v_iconst (v := 2) C dX4_greatest_9 (by decide) ?_
    refine s_ald (k := 1) C hL (by decide) rfl dX4_greatest_10 hf (fun a1 hf => ?_)
    refine v_icmp_ge (tgt := 49) C dX4_greatest_11 (by decide) hf (fun hf => ?_) (fun hf => ?_)
    · refine v_iload_n C 1 dX4_greatest_49 rfl rfl ?_
      exact v_iret C dX4_greatest_50 (fin_i hf hQ)
    · refine v_iload_n C 1 dX4_greatest_14 rfl rfl ?_
      refine v_if_lt (tgt := 37) C dX4_greatest_15 (by decide) hf (fun hf => ?_) (fun hf => ?_)
      · refine v_sub [0, 2] rfl ?_
        exact tX4_greatest_37 C hL hQ ih hf
      · refine v_aload_n C 0 dX4_greatest_18 rfl rfl ?_
        refine v_iload_n C 2 dX4_greatest_19 rfl rfl ?_
        obtain ⟨y3, hy3, hf⟩ := bnd hf
        refine v_callV (r := some (.int y3)) (As := [.int v2]) (rest := []) (K := 51) C (mX4_workOf hL hy3) cw_X4_workOf wd_802 (by decide) rfl rfl ⟨Nat.le_of_ble_eq_true rfl, Nat.le_of_ble_eq_true rfl⟩ rfl rfl (Nat.le_of_ble_eq_true rfl) dX4_greatest_20 ?_
        obtain ⟨y4, hy4, hf⟩ := bnd hf
        refine v_callS (r := some (.int y4)) (As := [.int y3]) (rest := []) C (mX4_ones  hy4) cw_X4_ones wd_836 ⟨Nat.le_of_ble_eq_true rfl, Nat.le_of_ble_eq_true rfl⟩ rfl rfl (Nat.le_of_ble_eq_true rfl) dX4_greatest_23 ?_
        refine v_aload_n C 0 dX4_greatest_26 rfl rfl ?_
        refine v_iload_n C 1 dX4_greatest_27 rfl rfl ?_
        obtain ⟨y5, hy5, hf⟩ := bnd hf
        refine v_callV (r := some (.int y5)) (As := [.int v1]) (rest := [.int y4]) (K := 51) C (mX4_workOf hL hy5) cw_X4_workOf wd_802 (by decide) rfl rfl ⟨Nat.le_of_ble_eq_true rfl, Nat.le_of_ble_eq_true rfl⟩ rfl rfl (Nat.le_of_ble_eq_true rfl) dX4_greatest_28 ?_
        obtain ⟨y6, hy6, hf⟩ := bnd hf
        refine v_callS (r := some (.int y6)) (As := [.int y5]) (rest := [.int y4]) C (mX4_ones  hy6) cw_X4_ones wd_836 ⟨Nat.le_of_ble_eq_true rfl, Nat.le_of_ble_eq_true rfl⟩ rfl rfl (Nat.le_of_ble_eq_true rfl) dX4_greatest_31 ?_
        refine v_icmp_le (tgt := 41) C dX4_greatest_34 (by decide) hf (fun hf => ?_) (fun hf => ?_)
        · refine v_iload_n C 1 dX4_greatest_41 rfl rfl ?_
          refine v_sub [0, 2] rfl ?_
          exact tX4_greatest_42 C hL hQ ih hf
        · refine v_sub [0, 2] rfl ?_
          exact tX4_greatest_37 C hL hQ ih hf
def fX4_greatest (N : Nat) (x : St2) : Option Int32 := fX4_greatest_4 N x N (-1) 0
set_option maxHeartbeats 4000000 in
set_option maxRecDepth 100000 in
theorem tX4_greatest {E : EE} {B : BB} {l : Launch} {L : St2 → St2} {N : Nat} {x : St2} {res : Int32} (C : Cx E B l cX4_greatest RX4 (some .int) 3 1 23) (hL : Ln 51 10 L) (hQ : Fin9 E B (some (.int res)) (L x)) (hf : fX4_greatest N x = some res) : V E B (L x) 0 [(0, .ref (ad B 51))] [] := by
  unfold fX4_greatest at hf
  refine v_iconst (v := (-1)) C dX4_greatest_0 (by decide) ?_
  refine v_istore_n (lv' := [(0, .ref (ad B 51)), (1, .int (-1))]) C [1, 0] dX4_greatest_1 rfl (by decide) rfl ?_
  refine v_iconst (v := 0) C dX4_greatest_2 (by decide) ?_
  refine v_istore_n (lv' := [(0, .ref (ad B 51)), (1, .int (-1)), (2, .int 0)]) C [1, 2, 0] dX4_greatest_3 rfl (by decide) rfl ?_
  exact tX4_greatest_4 C hL hQ N (-1) 0 hf
theorem mX4_greatest {B : BB} {l : Launch} {L : St2 → St2} {N : Nat} {x : St2} {res : Int32} (hL : Ln 51 10 L) (hf : fX4_greatest N x = some res) : Ret l B yX4_greatest cX4_greatest 3 (some .int) 1 23 [.ref (ad B 51)] (L x) (some (.int res)) (L x) := ret_of (own := RX4) (by decide) rfl (Nat.le_of_ble_eq_true rfl) (fun E C hQ => tX4_greatest C hL hQ hf)
def fX4_allSteps_4 (N : Nat) (x : St2) : Nat → Int32 → Int32 → Option Int32
  | 0, _, _ => none
  | n + 1, v1, v2 => (rd (x 1) 135 2).bind fun a1 => if a1 ≤ v2 then (some v1) else ((fX4_its x v2 5).bind fun y2 => (some (v1 + y2)).bind fun w3 => (fX4_allSteps_4 N x n) w3 (v2 + 1))
set_option maxHeartbeats 4000000 in
set_option maxRecDepth 100000 in
theorem tX4_allSteps_4 {E : EE} {B : BB} {l : Launch} {L : St2 → St2} {N : Nat} {x : St2} {res : Int32} (C : Cx E B l cX4_allSteps RX4 (some .int) 3 1 22) (hL : Ln 51 10 L) (hQ : Fin9 E B (some (.int res)) (L x)) : ∀ (n : Nat) (v1 : Int32) (v2 : Int32), fX4_allSteps_4 N x n v1 v2 = some res → V E B (L x) 4 [(0, .ref (ad B 51)), (1, .int v1), (2, .int v2)] [] := by
  intro n
  induction n with
  | zero =>
    intro v1 v2 hf
    cases hf
  | succ n ih =>
    intro v1 v2 hf
    rw [fX4_allSteps_4] at hf
    refine v_iload_n C 2 dX4_allSteps_4 rfl rfl ?_
    refine v_aload_n C 0 dX4_allSteps_5 rfl rfl ?_
    refine g_getR (K := 51) (i := 0) (j := 51 + 1) C (by decide) rfl rfl inX4 (by decide) rfl wd_667 dX4_allSteps_6 ?_
    refine v_iconst (v := 2) C dX4_allSteps_9 (by decide) ?_
    refine s_ald (k := 1) C hL (by decide) rfl dX4_allSteps_10 hf (fun a1 hf => ?_)
    refine v_icmp_ge (tgt := 29) C dX4_allSteps_11 (by decide) hf (fun hf => ?_) (fun hf => ?_)
    · refine v_iload_n C 1 dX4_allSteps_29 rfl rfl ?_
      exact v_iret C dX4_allSteps_30 (fin_i hf hQ)
    · refine v_iload_n C 1 dX4_allSteps_14 rfl rfl ?_
      refine v_aload_n C 0 dX4_allSteps_15 rfl rfl ?_
      refine v_iload_n C 2 dX4_allSteps_16 rfl rfl ?_
      refine v_iconst (v := 5) C dX4_allSteps_17 (by decide) ?_
      obtain ⟨y2, hy2, hf⟩ := bnd hf
      refine v_callV (r := some (.int y2)) (As := [.int v2, .int 5]) (rest := [.int v1]) (K := 51) C (mX4_its hL hy2) cw_X4_its wd_734 (by decide) rfl rfl ⟨Nat.le_of_ble_eq_true rfl, Nat.le_of_ble_eq_true rfl⟩ rfl rfl (Nat.le_of_ble_eq_true rfl) dX4_allSteps_18 ?_
      refine v_iadd C dX4_allSteps_21 ?_
      refine v_top hf (fun w3 hf => ?_)
      refine v_istore_n (lv' := [(0, .ref (ad B 51)), (1, .int w3), (2, .int v2)]) C [1, 0, 2] dX4_allSteps_22 rfl (by decide) rfl ?_
      refine v_iinc (q := 2) (v := v2 + 1) (lv' := [(0, .ref (ad B 51)), (1, .int w3), (2, .int (v2 + 1))]) C [1, 2, 0] dX4_allSteps_23 rfl rfl (by decide) rfl ?_
      refine v_goto (tgt := 4) C dX4_allSteps_26 (by decide) ?_
      exact ih w3 (v2 + 1) hf
def fX4_allSteps (N : Nat) (x : St2) : Option Int32 := fX4_allSteps_4 N x N 0 0
set_option maxHeartbeats 4000000 in
set_option maxRecDepth 100000 in
theorem tX4_allSteps {E : EE} {B : BB} {l : Launch} {L : St2 → St2} {N : Nat} {x : St2} {res : Int32} (C : Cx E B l cX4_allSteps RX4 (some .int) 3 1 22) (hL : Ln 51 10 L) (hQ : Fin9 E B (some (.int res)) (L x)) (hf : fX4_allSteps N x = some res) : V E B (L x) 0 [(0, .ref (ad B 51))] [] := by
  unfold fX4_allSteps at hf
  refine v_iconst (v := 0) C dX4_allSteps_0 (by decide) ?_
  refine v_istore_n (lv' := [(0, .ref (ad B 51)), (1, .int 0)]) C [1, 0] dX4_allSteps_1 rfl (by decide) rfl ?_
  refine v_iconst (v := 0) C dX4_allSteps_2 (by decide) ?_
  refine v_istore_n (lv' := [(0, .ref (ad B 51)), (1, .int 0), (2, .int 0)]) C [1, 2, 0] dX4_allSteps_3 rfl (by decide) rfl ?_
  exact tX4_allSteps_4 C hL hQ N 0 0 hf
theorem mX4_allSteps {B : BB} {l : Launch} {L : St2 → St2} {N : Nat} {x : St2} {res : Int32} (hL : Ln 51 10 L) (hf : fX4_allSteps N x = some res) : Ret l B yX4_allSteps cX4_allSteps 3 (some .int) 1 22 [.ref (ad B 51)] (L x) (some (.int res)) (L x) := ret_of (own := RX4) (by decide) rfl (Nat.le_of_ble_eq_true rfl) (fun E C hQ => tX4_allSteps C hL hQ hf)
def fX4_now (N : Nat) (x : St2) (v1 : Int32) : Option (Int32 × St2) := if v1 = 0 then ((rd (x 1) 135 0).bind fun a1 => some (a1, x)) else (if v1 = 1 then ((fX4_printed N x).bind fun y2 => (fX4_ones N y2).bind fun y3 => some (y3, x)) else (if v1 = 2 then ((rd (x 1) 135 4).bind fun a4 => some (a4, x)) else (if v1 = 3 then ((fX4_printed N x).bind fun y5 => some (y5, x)) else (if v1 = 4 then ((fX4_depths N x).bind fun y6 => some (y6, x)) else (if v1 = 5 then ((fX4_greatest N x).bind fun y7 => some (y7, x)) else (if v1 = 6 then ((fX4_allSteps N x).bind fun y8 => some (y8, x)) else ((fX4_finds x 0).bind fun y9 => some (y9.1, y9.2))))))))
set_option maxHeartbeats 4000000 in
set_option maxRecDepth 100000 in
theorem tX4_now {E : EE} {B : BB} {l : Launch} {L : St2 → St2} {N : Nat} {x : St2} {v1 : Int32} {res : (Int32 × St2)} (C : Cx E B l cX4_now RX4 (some .int) 2 2 45) (hL : Ln 51 10 L) (hQ : Fin9 E B (some (.int res.1)) (L res.2)) (hf : fX4_now N x v1 = some res) : V E B (L x) 0 [(0, .ref (ad B 51)), (1, .int v1)] [] := by
  unfold fX4_now at hf
  refine v_iload_n C 1 dX4_now_0 rfl rfl ?_
  by_cases hc1_0 : v1 = 0
  · rw [if_pos hc1_0] at hf
    refine v_tabIn (tgt := 44) C dX4_now_1 hc1_0 (by decide) (by decide) rfl (by decide) ?_
    refine v_aload_n C 0 dX4_now_44 rfl rfl ?_
    refine g_getR (K := 51) (i := 0) (j := 51 + 1) C (by decide) rfl rfl inX4 (by decide) rfl wd_667 dX4_now_45 ?_
    refine v_iconst (v := 0) C dX4_now_48 (by decide) ?_
    refine s_ald (k := 1) C hL (by decide) rfl dX4_now_49 hf (fun a1 hf => ?_)
    exact v_iret C dX4_now_50 (fin_im hf hQ)
  · rw [if_neg hc1_0] at hf
    by_cases hc1_1 : v1 = 1
    · rw [if_pos hc1_1] at hf
      refine v_tabIn (tgt := 51) C dX4_now_1 hc1_1 (by decide) (by decide) rfl (by decide) ?_
      refine v_aload_n C 0 dX4_now_51 rfl rfl ?_
      obtain ⟨y2, hy2, hf⟩ := bnd hf
      refine v_callV (r := some (.int y2)) (As := []) (rest := []) (K := 51) C (mX4_printed hL hy2) cw_X4_printed wd_832 (by decide) rfl rfl ⟨Nat.le_of_ble_eq_true rfl, Nat.le_of_ble_eq_true rfl⟩ rfl rfl (Nat.le_of_ble_eq_true rfl) dX4_now_52 ?_
      obtain ⟨y3, hy3, hf⟩ := bnd hf
      refine v_callS (r := some (.int y3)) (As := [.int y2]) (rest := []) C (mX4_ones  hy3) cw_X4_ones wd_836 ⟨Nat.le_of_ble_eq_true rfl, Nat.le_of_ble_eq_true rfl⟩ rfl rfl (Nat.le_of_ble_eq_true rfl) dX4_now_55 ?_
      exact v_iret C dX4_now_58 (fin_im hf hQ)
    · rw [if_neg hc1_1] at hf
      by_cases hc1_2 : v1 = 2
      · rw [if_pos hc1_2] at hf
        refine v_tabIn (tgt := 59) C dX4_now_1 hc1_2 (by decide) (by decide) rfl (by decide) ?_
        refine v_aload_n C 0 dX4_now_59 rfl rfl ?_
        refine g_getR (K := 51) (i := 0) (j := 51 + 1) C (by decide) rfl rfl inX4 (by decide) rfl wd_667 dX4_now_60 ?_
        refine v_iconst (v := 4) C dX4_now_63 (by decide) ?_
        refine s_ald (k := 1) C hL (by decide) rfl dX4_now_64 hf (fun a4 hf => ?_)
        exact v_iret C dX4_now_65 (fin_im hf hQ)
      · rw [if_neg hc1_2] at hf
        by_cases hc1_3 : v1 = 3
        · rw [if_pos hc1_3] at hf
          refine v_tabIn (tgt := 66) C dX4_now_1 hc1_3 (by decide) (by decide) rfl (by decide) ?_
          refine v_aload_n C 0 dX4_now_66 rfl rfl ?_
          obtain ⟨y5, hy5, hf⟩ := bnd hf
          refine v_callV (r := some (.int y5)) (As := []) (rest := []) (K := 51) C (mX4_printed hL hy5) cw_X4_printed wd_832 (by decide) rfl rfl ⟨Nat.le_of_ble_eq_true rfl, Nat.le_of_ble_eq_true rfl⟩ rfl rfl (Nat.le_of_ble_eq_true rfl) dX4_now_67 ?_
          exact v_iret C dX4_now_70 (fin_im hf hQ)
        · rw [if_neg hc1_3] at hf
          by_cases hc1_4 : v1 = 4
          · rw [if_pos hc1_4] at hf
            refine v_tabIn (tgt := 71) C dX4_now_1 hc1_4 (by decide) (by decide) rfl (by decide) ?_
            refine v_aload_n C 0 dX4_now_71 rfl rfl ?_
            obtain ⟨y6, hy6, hf⟩ := bnd hf
            refine v_callV (r := some (.int y6)) (As := []) (rest := []) (K := 51) C (mX4_depths hL hy6) cw_X4_depths wd_843 (by decide) rfl rfl ⟨Nat.le_of_ble_eq_true rfl, Nat.le_of_ble_eq_true rfl⟩ rfl rfl (Nat.le_of_ble_eq_true rfl) dX4_now_72 ?_
            exact v_iret C dX4_now_75 (fin_im hf hQ)
          · rw [if_neg hc1_4] at hf
            by_cases hc1_5 : v1 = 5
            · rw [if_pos hc1_5] at hf
              refine v_tabIn (tgt := 76) C dX4_now_1 hc1_5 (by decide) (by decide) rfl (by decide) ?_
              refine v_aload_n C 0 dX4_now_76 rfl rfl ?_
              obtain ⟨y7, hy7, hf⟩ := bnd hf
              refine v_callV (r := some (.int y7)) (As := []) (rest := []) (K := 51) C (mX4_greatest hL hy7) cw_X4_greatest wd_847 (by decide) rfl rfl ⟨Nat.le_of_ble_eq_true rfl, Nat.le_of_ble_eq_true rfl⟩ rfl rfl (Nat.le_of_ble_eq_true rfl) dX4_now_77 ?_
              exact v_iret C dX4_now_80 (fin_im hf hQ)
            · rw [if_neg hc1_5] at hf
              by_cases hc1_6 : v1 = 6
              · rw [if_pos hc1_6] at hf
                refine v_tabIn (tgt := 81) C dX4_now_1 hc1_6 (by decide) (by decide) rfl (by decide) ?_
                refine v_aload_n C 0 dX4_now_81 rfl rfl ?_
                obtain ⟨y8, hy8, hf⟩ := bnd hf
                refine v_callV (r := some (.int y8)) (As := []) (rest := []) (K := 51) C (mX4_allSteps hL hy8) cw_X4_allSteps wd_851 (by decide) rfl rfl ⟨Nat.le_of_ble_eq_true rfl, Nat.le_of_ble_eq_true rfl⟩ rfl rfl (Nat.le_of_ble_eq_true rfl) dX4_now_82 ?_
                exact v_iret C dX4_now_85 (fin_im hf hQ)
              · rw [if_neg hc1_6] at hf
                have e1_0 : v1.toInt ≠ 0 := ne_ti (y := 0) hc1_0
                have e1_1 : v1.toInt ≠ 1 := ne_ti (y := 1) hc1_1
                have e1_2 : v1.toInt ≠ 2 := ne_ti (y := 2) hc1_2
                have e1_3 : v1.toInt ≠ 3 := ne_ti (y := 3) hc1_3
                have e1_4 : v1.toInt ≠ 4 := ne_ti (y := 4) hc1_4
                have e1_5 : v1.toInt ≠ 5 := ne_ti (y := 5) hc1_5
                have e1_6 : v1.toInt ≠ 6 := ne_ti (y := 6) hc1_6
                refine v_tabOut (tgt := 86) C dX4_now_1 (by omega) (by decide) ?_
                refine v_aload_n C 0 dX4_now_86 rfl rfl ?_
                refine v_iconst (v := 0) C dX4_now_87 (by decide) ?_
                obtain ⟨y9, hy9, hf⟩ := bnd hf
                refine v_callV (r := some (.int y9.1)) (As := [.int 0]) (rest := []) (K := 51) C (mX4_finds hL hy9) cw_X4_finds wd_725 (by decide) rfl rfl ⟨Nat.le_of_ble_eq_true rfl, Nat.le_of_ble_eq_true rfl⟩ rfl rfl (Nat.le_of_ble_eq_true rfl) dX4_now_88 ?_
                exact v_iret C dX4_now_91 (fin_im hf hQ)
theorem mX4_now {B : BB} {l : Launch} {L : St2 → St2} {N : Nat} {x : St2} {v1 : Int32} {res : (Int32 × St2)} (hL : Ln 51 10 L) (hf : fX4_now N x v1 = some res) : Ret l B yX4_now cX4_now 2 (some .int) 2 45 [.ref (ad B 51), .int v1] (L x) (some (.int res.1)) (L res.2) := ret_of (own := RX4) (by decide) rfl (Nat.le_of_ble_eq_true rfl) (fun E C hQ => tX4_now C hL hQ hf)
def fX4_line_48 (N : Nat) (k21 : Int32 → Int32 → Int32 → Option (Int32 × St2)) (x : St2) (v1 : Int32) (v2 : Int32) (v4 : Int32) (s0 : Int32) : Option (Int32 × St2) := (some (imax v2 s0)).bind fun w3 => k21 w3 s0 (v4 + 1)
set_option maxHeartbeats 4000000 in
set_option maxRecDepth 100000 in
theorem tX4_line_48 {E : EE} {B : BB} {l : Launch} {L : St2 → St2} {N : Nat} {k21 : Int32 → Int32 → Int32 → Option (Int32 × St2)} {x : St2} {v1 : Int32} {v2 : Int32} {v4 : Int32} {s0 : Int32} {res : (Int32 × St2)} (C : Cx E B l cX4_line RX4 (some .int) 5 2 46) (hL : Ln 51 10 L) (hQ : Fin9 E B (some (.int res.1)) (L res.2)) (hk21 : ∀ (v2 : Int32) (v3 : Int32) (v4 : Int32), k21 v2 v3 v4 = some res → V E B (L x) 21 [(0, .ref (ad B 51)), (1, .int v1), (2, .int v2), (3, .int v3), (4, .int v4)] []) (hf : fX4_line_48 N k21 x v1 v2 v4 s0 = some res) : V E B (L x) 48 [(0, .ref (ad B 51)), (1, .int v1), (2, .int v2), (4, .int v4)] [.int s0] := by
  unfold fX4_line_48 at hf
  refine v_istore_n (lv' := [(0, .ref (ad B 51)), (1, .int v1), (2, .int v2), (3, .int s0), (4, .int v4)]) C [1, 2, 3, 0, 4] dX4_line_48 rfl (by decide) rfl ?_
  refine v_iload_n C 2 dX4_line_49 rfl rfl ?_
  refine v_iload_n C 3 dX4_line_50 rfl rfl ?_
  refine w_mmax C wd_796 (by decide) (Nat.le_of_ble_eq_true rfl) dX4_line_51 ?_
  refine v_top hf (fun w3 hf => ?_)
  refine v_istore_n (lv' := [(0, .ref (ad B 51)), (1, .int v1), (2, .int w3), (3, .int s0), (4, .int v4)]) C [1, 2, 0, 3, 4] dX4_line_54 rfl (by decide) rfl ?_
  refine v_iinc (q := 4) (v := v4 + 1) (lv' := [(0, .ref (ad B 51)), (1, .int v1), (2, .int w3), (3, .int s0), (4, .int (v4 + 1))]) C [1, 2, 3, 4, 0] dX4_line_55 rfl rfl (by decide) rfl ?_
  refine v_goto (tgt := 21) C dX4_line_58 (by decide) ?_
  exact hk21 w3 s0 (v4 + 1) hf
def fX4_line_21 (N : Nat) (x : St2) (v1 : Int32) : Nat → Int32 → Int32 → Int32 → Option (Int32 × St2)
  | 0, _, _, _ => none
  | n + 1, v2, v3, v4 => if 24 ≤ v4 then (some (v2, x)) else ((rd (x 1) 135 (5 + v4)).bind fun a2 => if a2 = v1 then (fX4_line_48 N (fX4_line_21 N x v1 n) x v1 v2 v4 (v3 + 1)) else (fX4_line_48 N (fX4_line_21 N x v1 n) x v1 v2 v4 0))
set_option maxHeartbeats 4000000 in
set_option maxRecDepth 100000 in
theorem tX4_line_21 {E : EE} {B : BB} {l : Launch} {L : St2 → St2} {N : Nat} {x : St2} {v1 : Int32} {res : (Int32 × St2)} (C : Cx E B l cX4_line RX4 (some .int) 5 2 46) (hL : Ln 51 10 L) (hQ : Fin9 E B (some (.int res.1)) (L res.2)) : ∀ (n : Nat) (v2 : Int32) (v3 : Int32) (v4 : Int32), fX4_line_21 N x v1 n v2 v3 v4 = some res → V E B (L x) 21 [(0, .ref (ad B 51)), (1, .int v1), (2, .int v2), (3, .int v3), (4, .int v4)] [] := by
  intro n
  induction n with
  | zero =>
    intro v2 v3 v4 hf
    cases hf
  | succ n ih =>
    intro v2 v3 v4 hf
    rw [fX4_line_21] at hf
    refine v_iload C 4 dX4_line_21 rfl ?_
    refine v_bipush (v := 24) C dX4_line_23 (by decide) ?_
    refine v_icmp_ge (tgt := 61) C dX4_line_25 (by decide) hf (fun hf => ?_) (fun hf => ?_)
    · refine v_iload_n C 2 dX4_line_61 rfl rfl ?_
      exact v_iret C dX4_line_62 (fin_im hf hQ)
    · refine v_aload_n C 0 dX4_line_28 rfl rfl ?_
      refine g_getR (K := 51) (i := 0) (j := 51 + 1) C (by decide) rfl rfl inX4 (by decide) rfl wd_667 dX4_line_29 ?_
      refine v_iconst (v := 5) C dX4_line_32 (by decide) ?_
      refine v_iload C 4 dX4_line_33 rfl ?_
      refine v_iadd C dX4_line_35 ?_
      refine s_ald (k := 1) C hL (by decide) rfl dX4_line_36 hf (fun a2 hf => ?_)
      refine v_iload_n C 1 dX4_line_37 rfl rfl ?_
      refine v_icmp_ne (tgt := 47) C dX4_line_38 (by decide) hf (fun hf => ?_) (fun hf => ?_)
      · refine v_iconst (v := 0) C dX4_line_47 (by decide) ?_
        refine v_sub [0, 1, 2, 4] rfl ?_
        exact tX4_line_48 C hL hQ ih hf
      · refine v_iload_n C 3 dX4_line_41 rfl rfl ?_
        refine v_iconst (v := 1) C dX4_line_42 (by decide) ?_
        refine v_iadd C dX4_line_43 ?_
        refine v_goto (tgt := 48) C dX4_line_44 (by decide) ?_
        refine v_sub [0, 1, 2, 4] rfl ?_
        exact tX4_line_48 C hL hQ ih hf
def fX4_line (N : Nat) (x : St2) (v1 : Int32) : Option (Int32 × St2) := (fX4_isWalker x v1).bind fun y1 => if y1 = 0 then ((fX4_finds x 0).bind fun y5 => some (y5.1, y5.2)) else (fX4_line_21 N x v1 N 0 0 0)
set_option maxHeartbeats 4000000 in
set_option maxRecDepth 100000 in
theorem tX4_line {E : EE} {B : BB} {l : Launch} {L : St2 → St2} {N : Nat} {x : St2} {v1 : Int32} {res : (Int32 × St2)} (C : Cx E B l cX4_line RX4 (some .int) 5 2 46) (hL : Ln 51 10 L) (hQ : Fin9 E B (some (.int res.1)) (L res.2)) (hf : fX4_line N x v1 = some res) : V E B (L x) 0 [(0, .ref (ad B 51)), (1, .int v1)] [] := by
  unfold fX4_line at hf
  refine v_aload_n C 0 dX4_line_0 rfl rfl ?_
  refine v_iload_n C 1 dX4_line_1 rfl rfl ?_
  obtain ⟨y1, hy1, hf⟩ := bnd hf
  refine v_callV (r := some (.int y1)) (As := [.int v1]) (rest := []) (K := 51) C (mX4_isWalker hL hy1) cw_X4_isWalker wd_742 (by decide) rfl rfl ⟨Nat.le_of_ble_eq_true rfl, Nat.le_of_ble_eq_true rfl⟩ rfl rfl (Nat.le_of_ble_eq_true rfl) dX4_line_2 ?_
  refine v_if_ne (tgt := 14) C dX4_line_5 (by decide) hf (fun hf => ?_) (fun hf => ?_)
  · refine v_iconst (v := 0) C dX4_line_14 (by decide) ?_
    refine v_istore_n (lv' := [(0, .ref (ad B 51)), (1, .int v1), (2, .int 0)]) C [1, 2, 0] dX4_line_15 rfl (by decide) rfl ?_
    refine v_iconst (v := 0) C dX4_line_16 (by decide) ?_
    refine v_istore_n (lv' := [(0, .ref (ad B 51)), (1, .int v1), (2, .int 0), (3, .int 0)]) C [1, 2, 3, 0] dX4_line_17 rfl (by decide) rfl ?_
    refine v_iconst (v := 0) C dX4_line_18 (by decide) ?_
    refine v_istore (lv' := [(0, .ref (ad B 51)), (1, .int v1), (2, .int 0), (3, .int 0), (4, .int 0)]) C [1, 2, 3, 4, 0] dX4_line_19 (by decide) rfl ?_
    exact tX4_line_21 C hL hQ N 0 0 0 hf
  · refine v_aload_n C 0 dX4_line_8 rfl rfl ?_
    refine v_iconst (v := 0) C dX4_line_9 (by decide) ?_
    obtain ⟨y5, hy5, hf⟩ := bnd hf
    refine v_callV (r := some (.int y5.1)) (As := [.int 0]) (rest := []) (K := 51) C (mX4_finds hL hy5) cw_X4_finds wd_725 (by decide) rfl rfl ⟨Nat.le_of_ble_eq_true rfl, Nat.le_of_ble_eq_true rfl⟩ rfl rfl (Nat.le_of_ble_eq_true rfl) dX4_line_10 ?_
    exact v_iret C dX4_line_13 (fin_im hf hQ)
theorem mX4_line {B : BB} {l : Launch} {L : St2 → St2} {N : Nat} {x : St2} {v1 : Int32} {res : (Int32 × St2)} (hL : Ln 51 10 L) (hf : fX4_line N x v1 = some res) : Ret l B yX4_line cX4_line 5 (some .int) 2 46 [.ref (ad B 51), .int v1] (L x) (some (.int res.1)) (L res.2) := ret_of (own := RX4) (by decide) rfl (Nat.le_of_ble_eq_true rfl) (fun E C hQ => tX4_line C hL hQ hf)
