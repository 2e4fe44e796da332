def fX3_within (v0 : Int32) (v1 : Int32) (v2 : Int32) : Option Int32 := if v0 < v1 then (some 0) else (if v2 < v0 then (some 0) else (some 1))
set_option maxHeartbeats 4000000 in
set_option maxRecDepth 100000 in
theorem tX3_within {E : EE} {B : BB} {l : Launch} {σ : St2} {v0 : Int32} {v1 : Int32} {v2 : Int32} {res : Int32} (C : Cx E B l cX3_within RX3 (some .boolean) 3 0 0) (hQ : Fin9 E B (some (.int res)) σ) (hf : fX3_within v0 v1 v2 = some res) : V E B σ 0 [(0, .int v0), (1, .int v1), (2, .int v2)] [] := by
  unfold fX3_within at hf
  refine v_iload_n C 0 dX3_within_0 rfl rfl ?_
  refine v_iload_n C 1 dX3_within_1 rfl rfl ?_
  refine v_icmp_lt (tgt := 14) C dX3_within_2 (by decide) hf (fun hf => ?_) (fun hf => ?_)
  · refine v_iconst (v := 0) C dX3_within_14 (by decide) ?_
    exact v_zret C (Or.inl rfl) dX3_within_15 (fin_i hf hQ)
  · refine v_iload_n C 0 dX3_within_5 rfl rfl ?_
    refine v_iload_n C 2 dX3_within_6 rfl rfl ?_
    refine v_icmp_gt (tgt := 14) C dX3_within_7 (by decide) hf (fun hf => ?_) (fun hf => ?_)
    · refine v_iconst (v := 0) C dX3_within_14 (by decide) ?_
      exact v_zret C (Or.inl rfl) dX3_within_15 (fin_i hf hQ)
    · refine v_iconst (v := 1) C dX3_within_10 (by decide) ?_
      refine v_goto (tgt := 15) C dX3_within_11 (by decide) ?_
      exact v_zret C (Or.inr rfl) dX3_within_15 (fin_i hf hQ)
theorem mX3_within {B : BB} {l : Launch} {σ : St2} {v0 : Int32} {v1 : Int32} {v2 : Int32} {res : Int32} (hf : fX3_within v0 v1 v2 = some res) : Ret l B yX3_within cX3_within 3 (some .boolean) 0 0 [.int v0, .int v1, .int v2] σ (some (.int res)) σ := ret_of (own := RX3) (by decide) rfl (Nat.le_of_ble_eq_true rfl) (fun E C hQ => tX3_within C hQ hf)
def fX3_isCell (v0 : Int32) : Option Int32 := (fX3_within v0 0 23).bind fun y1 => (bz y1).bind fun w2 => some w2
set_option maxHeartbeats 4000000 in
set_option maxRecDepth 100000 in
theorem tX3_isCell {E : EE} {B : BB} {l : Launch} {σ : St2} {v0 : Int32} {res : Int32} (C : Cx E B l cX3_isCell RX3 (some .boolean) 1 1 22) (hQ : Fin9 E B (some (.int res)) σ) (hf : fX3_isCell v0 = some res) : V E B σ 0 [(0, .int v0)] [] := by
  unfold fX3_isCell at hf
  refine v_iload_n C 0 dX3_isCell_0 rfl rfl ?_
  refine v_iconst (v := 0) C dX3_isCell_1 (by decide) ?_
  refine v_bipush (v := 23) C dX3_isCell_2 (by decide) ?_
  obtain ⟨y1, hy1, hf⟩ := bnd hf
  refine v_callS (r := some (.int y1)) (As := [.int v0, .int 0, .int 23]) (rest := []) C (mX3_within  hy1) cw_X3_within wd_141 ⟨Nat.le_of_ble_eq_true rfl, Nat.le_of_ble_eq_true rfl⟩ rfl rfl (Nat.le_of_ble_eq_true rfl) dX3_isCell_4 ?_
  obtain ⟨hz, hf⟩ := bz_b hf
  exact v_zret C hz dX3_isCell_7 (fin_i hf hQ)
theorem mX3_isCell {B : BB} {l : Launch} {σ : St2} {v0 : Int32} {res : Int32} (hf : fX3_isCell v0 = some res) : Ret l B yX3_isCell cX3_isCell 1 (some .boolean) 1 22 [.int v0] σ (some (.int res)) σ := ret_of (own := RX3) (by decide) rfl (Nat.le_of_ble_eq_true rfl) (fun E C hQ => tX3_isCell C hQ hf)
def fJ6_bitCount_0f7a4 (v0 : Int32) : Option Int32 := (some (v0 - (((v0.toUInt32 >>> ((1 : Int32).toUInt32 &&& Int32.toUInt32 31)).toInt32) &&& 1431655765))).bind fun w1 => (some ((w1 &&& 858993459) + (((w1.toUInt32 >>> ((2 : Int32).toUInt32 &&& Int32.toUInt32 31)).toInt32) &&& 858993459))).bind fun w2 => (some ((w2 + ((w2.toUInt32 >>> ((4 : Int32).toUInt32 &&& Int32.toUInt32 31)).toInt32)) &&& 252645135)).bind fun w3 => (some (w3 + ((w3.toUInt32 >>> ((8 : Int32).toUInt32 &&& Int32.toUInt32 31)).toInt32))).bind fun w4 => (some (w4 + ((w4.toUInt32 >>> ((16 : Int32).toUInt32 &&& Int32.toUInt32 31)).toInt32))).bind fun w5 => some (w5 &&& 63)
set_option maxHeartbeats 4000000 in
set_option maxRecDepth 100000 in
theorem tJ6_bitCount_0f7a4 {E : EE} {B : BB} {l : Launch} {σ : St2} {v0 : Int32} {res : Int32} (C : Cx E B l cJ6_bitCount_0f7a4 RJ6 (some .int) 1 0 0) (hQ : Fin9 E B (some (.int res)) σ) (hf : fJ6_bitCount_0f7a4 v0 = some res) : V E B σ 0 [(0, .int v0)] [] := by
  unfold fJ6_bitCount_0f7a4 at hf
  refine v_iload_n C 0 dJ6_bitCount_0f7a4_0 rfl rfl ?_
  refine v_iload_n C 0 dJ6_bitCount_0f7a4_1 rfl rfl ?_
  refine v_iconst (v := 1) C dJ6_bitCount_0f7a4_2 (by decide) ?_
  refine v_iushr C dJ6_bitCount_0f7a4_3 ?_
  refine v_ldcw C wd_271 dJ6_bitCount_0f7a4_4 ?_
  refine v_iand C dJ6_bitCount_0f7a4_7 ?_
  refine v_isub C dJ6_bitCount_0f7a4_8 ?_
  refine v_top hf (fun w1 hf => ?_)
  refine v_istore_n (lv' := [(0, .int w1)]) C [0] dJ6_bitCount_0f7a4_9 rfl (by decide) rfl ?_
  refine v_iload_n C 0 dJ6_bitCount_0f7a4_10 rfl rfl ?_
  refine v_ldcw C wd_272 dJ6_bitCount_0f7a4_11 ?_
  refine v_iand C dJ6_bitCount_0f7a4_14 ?_
  refine v_iload_n C 0 dJ6_bitCount_0f7a4_15 rfl rfl ?_
  refine v_iconst (v := 2) C dJ6_bitCount_0f7a4_16 (by decide) ?_
  refine v_iushr C dJ6_bitCount_0f7a4_17 ?_
  refine v_ldcw C wd_272 dJ6_bitCount_0f7a4_18 ?_
  refine v_iand C dJ6_bitCount_0f7a4_21 ?_
  refine v_iadd C dJ6_bitCount_0f7a4_22 ?_
  refine v_top hf (fun w2 hf => ?_)
  refine v_istore_n (lv' := [(0, .int w2)]) C [0] dJ6_bitCount_0f7a4_23 rfl (by decide) rfl ?_
  refine v_iload_n C 0 dJ6_bitCount_0f7a4_24 rfl rfl ?_
  refine v_iload_n C 0 dJ6_bitCount_0f7a4_25 rfl rfl ?_
  refine v_iconst (v := 4) C dJ6_bitCount_0f7a4_26 (by decide) ?_
  refine v_iushr C dJ6_bitCount_0f7a4_27 ?_
  refine v_iadd C dJ6_bitCount_0f7a4_28 ?_
  refine v_ldcw C wd_273 dJ6_bitCount_0f7a4_29 ?_
  refine v_iand C dJ6_bitCount_0f7a4_32 ?_
  refine v_top hf (fun w3 hf => ?_)
  refine v_istore_n (lv' := [(0, .int w3)]) C [0] dJ6_bitCount_0f7a4_33 rfl (by decide) rfl ?_
  refine v_iload_n C 0 dJ6_bitCount_0f7a4_34 rfl rfl ?_
  refine v_iload_n C 0 dJ6_bitCount_0f7a4_35 rfl rfl ?_
  refine v_bipush (v := 8) C dJ6_bitCount_0f7a4_36 (by decide) ?_
  refine v_iushr C dJ6_bitCount_0f7a4_38 ?_
  refine v_iadd C dJ6_bitCount_0f7a4_39 ?_
  refine v_top hf (fun w4 hf => ?_)
  refine v_istore_n (lv' := [(0, .int w4)]) C [0] dJ6_bitCount_0f7a4_40 rfl (by decide) rfl ?_
  refine v_iload_n C 0 dJ6_bitCount_0f7a4_41 rfl rfl ?_
  refine v_iload_n C 0 dJ6_bitCount_0f7a4_42 rfl rfl ?_
  refine v_bipush (v := 16) C dJ6_bitCount_0f7a4_43 (by decide) ?_
  refine v_iushr C dJ6_bitCount_0f7a4_45 ?_
  refine v_iadd C dJ6_bitCount_0f7a4_46 ?_
  refine v_top hf (fun w5 hf => ?_)
  refine v_istore_n (lv' := [(0, .int w5)]) C [0] dJ6_bitCount_0f7a4_47 rfl (by decide) rfl ?_
  refine v_iload_n C 0 dJ6_bitCount_0f7a4_48 rfl rfl ?_
  refine v_bipush (v := 63) C dJ6_bitCount_0f7a4_49 (by decide) ?_
  refine v_iand C dJ6_bitCount_0f7a4_51 ?_
  exact v_iret C dJ6_bitCount_0f7a4_52 (fin_i hf hQ)
theorem mJ6_bitCount_0f7a4 {B : BB} {l : Launch} {σ : St2} {v0 : Int32} {res : Int32} (hf : fJ6_bitCount_0f7a4 v0 = some res) : Ret l B yJ6_bitCount_0f7a4 cJ6_bitCount_0f7a4 1 (some .int) 0 0 [.int v0] σ (some (.int res)) σ := ret_of (own := RJ6) (by decide) rfl (Nat.le_of_ble_eq_true rfl) (fun E C hQ => tJ6_bitCount_0f7a4 C hQ hf)
def fX1_isWalker (x : St2) (v1 : Int32) : Option Int32 := (fX3_within v1 0 ((x 0 3) - 1)).bind fun y1 => (bz y1).bind fun w2 => some w2
set_option maxHeartbeats 4000000 in
set_option maxRecDepth 100000 in
theorem tX1_isWalker {E : EE} {B : BB} {l : Launch} {L : St2 → St2} {b : Nat} {x : St2} {v1 : Int32} {res : Int32} (C : Cx E B l cX1_isWalker RX1 (some .boolean) 2 1 22) (hb : Sb b) (hL : Ln b 13 L) (hQ : Fin9 E B (some (.int res)) (L x)) (hf : fX1_isWalker x v1 = some res) : V E B (L x) 0 [(0, .ref (ad B b)), (1, .int v1)] [] := by
  unfold fX1_isWalker at hf
  refine v_iload_n C 1 dX1_isWalker_0 rfl rfl ?_
  refine v_iconst (v := 0) C dX1_isWalker_1 (by decide) ?_
  refine v_aload_n C 0 dX1_isWalker_2 rfl rfl ?_
  refine sh_getI (i := 3) C hb hL (by decide) rfl wd_36 dX1_isWalker_3 ?_
  refine v_iconst (v := 1) C dX1_isWalker_6 (by decide) ?_
  refine v_isub C dX1_isWalker_7 ?_
  obtain ⟨y1, hy1, hf⟩ := bnd hf
  refine v_callSN (r := some (.int y1)) (As := [.int v1, .int 0, .int ((x 0 3) - 1)]) (rest := []) C (mX3_within  hy1) cw_X3_within nw0 ⟨Nat.le_of_ble_eq_true rfl, Nat.le_of_ble_eq_true rfl⟩ rfl rfl (Nat.le_of_ble_eq_true rfl) dX1_isWalker_8 ?_
  obtain ⟨hz, hf⟩ := bz_b hf
  exact v_zret C hz dX1_isWalker_11 (fin_i hf hQ)
theorem mX1_isWalker {B : BB} {l : Launch} {L : St2 → St2} {b : Nat} {x : St2} {v1 : Int32} {res : Int32} (hb : Sb b) (hL : Ln b 13 L) (hf : fX1_isWalker x v1 = some res) : Ret l B yX1_isWalker cX1_isWalker 2 (some .boolean) 1 22 [.ref (ad B b), .int v1] (L x) (some (.int res)) (L x) := ret_of (own := RX1) (by decide) rfl (Nat.le_of_ble_eq_true rfl) (fun E C hQ => tX1_isWalker C hb hL hQ hf)
theorem nX1_isWalker {B : BB} {l : Launch} {L : St2 → St2} {b : Nat} {κ : St2} {v1 : Int32} {res : Int32} (hL : LnC L) (hb : Sb b) (hf : fX1_isWalker (vw κ b) v1 = some res) : Ret l B yX1_isWalker cX1_isWalker 2 (some .boolean) 1 22 [.ref (ad B b), .int v1] (L κ) (some (.int res)) (L (κ)) := by
  have h : Ret l B yX1_isWalker cX1_isWalker 2 (some .boolean) 1 22 [.ref (ad B b), .int v1] (L (putS κ b (vw κ b))) (some (.int res)) (L (putS κ b (vw κ b))) := mX1_isWalker (L := fun z => L (putS κ b z)) (x := vw κ b) hb (lnS_of hL hb κ) hf
  rw [putS_vw] at h
  exact h
def fX1_isWalkerOrNobody (x : St2) (v1 : Int32) : Option Int32 := (fX3_within v1 (-1) ((x 0 3) - 1)).bind fun y1 => (bz y1).bind fun w2 => some w2
set_option maxHeartbeats 4000000 in
set_option maxRecDepth 100000 in
theorem tX1_isWalkerOrNobody {E : EE} {B : BB} {l : Launch} {L : St2 → St2} {b : Nat} {x : St2} {v1 : Int32} {res : Int32} (C : Cx E B l cX1_isWalkerOrNobody RX1 (some .boolean) 2 1 22) (hb : Sb b) (hL : Ln b 13 L) (hQ : Fin9 E B (some (.int res)) (L x)) (hf : fX1_isWalkerOrNobody x v1 = some res) : V E B (L x) 0 [(0, .ref (ad B b)), (1, .int v1)] [] := by
  unfold fX1_isWalkerOrNobody at hf
  refine v_iload_n C 1 dX1_isWalkerOrNobody_0 rfl rfl ?_
  refine v_iconst (v := (-1)) C dX1_isWalkerOrNobody_1 (by decide) ?_
  refine v_aload_n C 0 dX1_isWalkerOrNobody_2 rfl rfl ?_
  refine sh_getI (i := 3) C hb hL (by decide) rfl wd_36 dX1_isWalkerOrNobody_3 ?_
  refine v_iconst (v := 1) C dX1_isWalkerOrNobody_6 (by decide) ?_
  refine v_isub C dX1_isWalkerOrNobody_7 ?_
  obtain ⟨y1, hy1, hf⟩ := bnd hf
  refine v_callSN (r := some (.int y1)) (As := [.int v1, .int (-1), .int ((x 0 3) - 1)]) (rest := []) C (mX3_within  hy1) cw_X3_within nw0 ⟨Nat.le_of_ble_eq_true rfl, Nat.le_of_ble_eq_true rfl⟩ rfl rfl (Nat.le_of_ble_eq_true rfl) dX1_isWalkerOrNobody_8 ?_
  obtain ⟨hz, hf⟩ := bz_b hf
  exact v_zret C hz dX1_isWalkerOrNobody_11 (fin_i hf hQ)
theorem mX1_isWalkerOrNobody {B : BB} {l : Launch} {L : St2 → St2} {b : Nat} {x : St2} {v1 : Int32} {res : Int32} (hb : Sb b) (hL : Ln b 13 L) (hf : fX1_isWalkerOrNobody x v1 = some res) : Ret l B yX1_isWalkerOrNobody cX1_isWalkerOrNobody 2 (some .boolean) 1 22 [.ref (ad B b), .int v1] (L x) (some (.int res)) (L x) := ret_of (own := RX1) (by decide) rfl (Nat.le_of_ble_eq_true rfl) (fun E C hQ => tX1_isWalkerOrNobody C hb hL hQ hf)
theorem nX1_isWalkerOrNobody {B : BB} {l : Launch} {L : St2 → St2} {b : Nat} {κ : St2} {v1 : Int32} {res : Int32} (hL : LnC L) (hb : Sb b) (hf : fX1_isWalkerOrNobody (vw κ b) v1 = some res) : Ret l B yX1_isWalkerOrNobody cX1_isWalkerOrNobody 2 (some .boolean) 1 22 [.ref (ad B b), .int v1] (L κ) (some (.int res)) (L (κ)) := by
  have h : Ret l B yX1_isWalkerOrNobody cX1_isWalkerOrNobody 2 (some .boolean) 1 22 [.ref (ad B b), .int v1] (L (putS κ b (vw κ b))) (some (.int res)) (L (putS κ b (vw κ b))) := mX1_isWalkerOrNobody (L := fun z => L (putS κ b z)) (x := vw κ b) hb (lnS_of hL hb κ) hf
  rw [putS_vw] at h
  exact h
def fX1_hasRoom (x : St2) : Option Int32 := if 8 ≤ (x 0 3) then (some 0) else (some 1)
set_option maxHeartbeats 4000000 in
set_option maxRecDepth 100000 in
theorem tX1_hasRoom {E : EE} {B : BB} {l : Launch} {L : St2 → St2} {b : Nat} {x : St2} {res : Int32} (C : Cx E B l cX1_hasRoom RX1 (some .boolean) 1 0 0) (hb : Sb b) (hL : Ln b 13 L) (hQ : Fin9 E B (some (.int res)) (L x)) (hf : fX1_hasRoom x = some res) : V E B (L x) 0 [(0, .ref (ad B b))] [] := by
  unfold fX1_hasRoom at hf
  refine v_aload_n C 0 dX1_hasRoom_0 rfl rfl ?_
  refine sh_getI (i := 3) C hb hL (by decide) rfl wd_36 dX1_hasRoom_1 ?_
  refine v_bipush (v := 8) C dX1_hasRoom_4 (by decide) ?_
  refine v_icmp_ge (tgt := 13) C dX1_hasRoom_6 (by decide) hf (fun hf => ?_) (fun hf => ?_)
  · refine v_iconst (v := 0) C dX1_hasRoom_13 (by decide) ?_
    exact v_zret C (Or.inl rfl) dX1_hasRoom_14 (fin_i hf hQ)
  · refine v_iconst (v := 1) C dX1_hasRoom_9 (by decide) ?_
    refine v_goto (tgt := 14) C dX1_hasRoom_10 (by decide) ?_
    exact v_zret C (Or.inr rfl) dX1_hasRoom_14 (fin_i hf hQ)
theorem mX1_hasRoom {B : BB} {l : Launch} {L : St2 → St2} {b : Nat} {x : St2} {res : Int32} (hb : Sb b) (hL : Ln b 13 L) (hf : fX1_hasRoom x = some res) : Ret l B yX1_hasRoom cX1_hasRoom 1 (some .boolean) 0 0 [.ref (ad B b)] (L x) (some (.int res)) (L x) := ret_of (own := RX1) (by decide) rfl (Nat.le_of_ble_eq_true rfl) (fun E C hQ => tX1_hasRoom C hb hL hQ hf)
theorem nX1_hasRoom {B : BB} {l : Launch} {L : St2 → St2} {b : Nat} {κ : St2} {res : Int32} (hL : LnC L) (hb : Sb b) (hf : fX1_hasRoom (vw κ b) = some res) : Ret l B yX1_hasRoom cX1_hasRoom 1 (some .boolean) 0 0 [.ref (ad B b)] (L κ) (some (.int res)) (L (κ)) := by
  have h : Ret l B yX1_hasRoom cX1_hasRoom 1 (some .boolean) 0 0 [.ref (ad B b)] (L (putS κ b (vw κ b))) (some (.int res)) (L (putS κ b (vw κ b))) := mX1_hasRoom (L := fun z => L (putS κ b z)) (x := vw κ b) hb (lnS_of hL hb κ) hf
  rw [putS_vw] at h
  exact h
def fX1_add (x : St2) (v1 : Int32) (v2 : Int32) : Option (Int32 × St2) := (some (x 0 3)).bind fun w1 => (wr x 6 8 w1 v1).bind fun x2 => (wr x2 7 8 w1 v2).bind fun x3 => (wr x3 8 8 w1 1).bind fun x4 => (wr x4 9 8 w1 1).bind fun x5 => (wr x5 10 8 w1 4).bind fun x6 => (wr x6 11 8 w1 0).bind fun x7 => (pf x7 0 3 ((x7 0 3) + 1)).bind fun x8 => some (w1, x8)
set_option maxHeartbeats 4000000 in
set_option maxRecDepth 100000 in
theorem tX1_add {E : EE} {B : BB} {l : Launch} {L : St2 → St2} {b : Nat} {x : St2} {v1 : Int32} {v2 : Int32} {res : (Int32 × St2)} (C : Cx E B l cX1_add RX1 (some .int) 4 0 0) (hb : Sb b) (hL : Ln b 13 L) (hQ : Fin9 E B (some (.int res.1)) (L res.2)) (hf : fX1_add x v1 v2 = some res) : V E B (L x) 0 [(0, .ref (ad B b)), (1, .int v1), (2, .int v2)] [] := by
  unfold fX1_add at hf
  refine v_aload_n C 0 dX1_add_0 rfl rfl ?_
  refine sh_getI (i := 3) C hb hL (by decide) rfl wd_36 dX1_add_1 ?_
  refine v_top hf (fun w1 hf => ?_)
  refine v_istore_n (lv' := [(0, .ref (ad B b)), (1, .int v1), (2, .int v2), (3, .int w1)]) C [1, 2, 3, 0] dX1_add_4 rfl (by decide) rfl ?_
  refine v_aload_n C 0 dX1_add_5 rfl rfl ?_
  refine sh_getR (i := 1) (j := b + 5) C hb (by decide) rfl wd_31 dX1_add_6 ?_
  refine v_iconst (v := 0) C dX1_add_9 (by decide) ?_
  refine sh_trS C 0 hb rfl (by decide) dX1_add_10 ?_
  refine v_iload_n C 3 dX1_add_11 rfl rfl ?_
  refine v_iload_n C 1 dX1_add_12 rfl rfl ?_
  refine s_ast (k := 6) C hL (by decide) (tb_tr hb (r := 0) (by decide)) dX1_add_13 hf (fun x2 hf => ?_)
  refine v_aload_n C 0 dX1_add_14 rfl rfl ?_
  refine sh_getR (i := 1) (j := b + 5) C hb (by decide) rfl wd_31 dX1_add_15 ?_
  refine v_iconst (v := 1) C dX1_add_18 (by decide) ?_
  refine sh_trS C 1 hb rfl (by decide) dX1_add_19 ?_
  refine v_iload_n C 3 dX1_add_20 rfl rfl ?_
  refine v_iload_n C 2 dX1_add_21 rfl rfl ?_
  refine s_ast (k := 7) C hL (by decide) (tb_tr hb (r := 1) (by decide)) dX1_add_22 hf (fun x3 hf => ?_)
  refine v_aload_n C 0 dX1_add_23 rfl rfl ?_
  refine sh_getR (i := 1) (j := b + 5) C hb (by decide) rfl wd_31 dX1_add_24 ?_
  refine v_iconst (v := 2) C dX1_add_27 (by decide) ?_
  refine sh_trS C 2 hb rfl (by decide) dX1_add_28 ?_
  refine v_iload_n C 3 dX1_add_29 rfl rfl ?_
  refine v_iconst (v := 1) C dX1_add_30 (by decide) ?_
  refine s_ast (k := 8) C hL (by decide) (tb_tr hb (r := 2) (by decide)) dX1_add_31 hf (fun x4 hf => ?_)
  refine v_aload_n C 0 dX1_add_32 rfl rfl ?_
  refine sh_getR (i := 1) (j := b + 5) C hb (by decide) rfl wd_31 dX1_add_33 ?_
  refine v_iconst (v := 3) C dX1_add_36 (by decide) ?_
  refine sh_trS C 3 hb rfl (by decide) dX1_add_37 ?_
  refine v_iload_n C 3 dX1_add_38 rfl rfl ?_
  refine v_iconst (v := 1) C dX1_add_39 (by decide) ?_
  refine s_ast (k := 9) C hL (by decide) (tb_tr hb (r := 3) (by decide)) dX1_add_40 hf (fun x5 hf => ?_)
  refine v_aload_n C 0 dX1_add_41 rfl rfl ?_
  refine sh_getR (i := 1) (j := b + 5) C hb (by decide) rfl wd_31 dX1_add_42 ?_
  refine v_iconst (v := 4) C dX1_add_45 (by decide) ?_
  refine sh_trS C 4 hb rfl (by decide) dX1_add_46 ?_
  refine v_iload_n C 3 dX1_add_47 rfl rfl ?_
  refine v_iconst (v := 4) C dX1_add_48 (by decide) ?_
  refine s_ast (k := 10) C hL (by decide) (tb_tr hb (r := 4) (by decide)) dX1_add_49 hf (fun x6 hf => ?_)
  refine v_aload_n C 0 dX1_add_50 rfl rfl ?_
  refine sh_getR (i := 1) (j := b + 5) C hb (by decide) rfl wd_31 dX1_add_51 ?_
  refine v_iconst (v := 5) C dX1_add_54 (by decide) ?_
  refine sh_trS C 5 hb rfl (by decide) dX1_add_55 ?_
  refine v_iload_n C 3 dX1_add_56 rfl rfl ?_
  refine v_iconst (v := 0) C dX1_add_57 (by decide) ?_
  refine s_ast (k := 11) C hL (by decide) (tb_tr hb (r := 5) (by decide)) dX1_add_58 hf (fun x7 hf => ?_)
  refine v_aload_n C 0 dX1_add_59 rfl rfl ?_
  refine v_dup C dX1_add_60 rfl ?_
  refine sh_getI (i := 3) C hb hL (by decide) rfl wd_36 dX1_add_61 ?_
  refine v_iconst (v := 1) C dX1_add_64 (by decide) ?_
  refine v_iadd C dX1_add_65 ?_
  refine sh_putI (i := 3) C hb hL (by decide) rfl wd_36 rfl (by decide +kernel) dX1_add_66 hf (fun x8 hf => ?_)
  refine v_iload_n C 3 dX1_add_69 rfl rfl ?_
  exact v_iret C dX1_add_70 (fin_im hf hQ)
theorem mX1_add {B : BB} {l : Launch} {L : St2 → St2} {b : Nat} {x : St2} {v1 : Int32} {v2 : Int32} {res : (Int32 × St2)} (hb : Sb b) (hL : Ln b 13 L) (hf : fX1_add x v1 v2 = some res) : Ret l B yX1_add cX1_add 4 (some .int) 0 0 [.ref (ad B b), .int v1, .int v2] (L x) (some (.int res.1)) (L res.2) := ret_of (own := RX1) (by decide) rfl (Nat.le_of_ble_eq_true rfl) (fun E C hQ => tX1_add C hb hL hQ hf)
theorem nX1_add {B : BB} {l : Launch} {L : St2 → St2} {b : Nat} {κ : St2} {v1 : Int32} {v2 : Int32} {res : (Int32 × St2)} (hL : LnC L) (hb : Sb b) (hf : fX1_add (vw κ b) v1 v2 = some res) : Ret l B yX1_add cX1_add 4 (some .int) 0 0 [.ref (ad B b), .int v1, .int v2] (L κ) (some (.int res.1)) (L (putS κ b res.2)) := by
  have h : Ret l B yX1_add cX1_add 4 (some .int) 0 0 [.ref (ad B b), .int v1, .int v2] (L (putS κ b (vw κ b))) (some (.int res.1)) (L (putS κ b res.2)) := mX1_add (L := fun z => L (putS κ b z)) (x := vw κ b) hb (lnS_of hL hb κ) hf
  rw [putS_vw] at h
  exact h
def fX1_put (x : St2) (v1 : Int32) (v2 : Int32) (v3 : Int32) (v4 : Int32) : Option St2 := (wr x 2 24 v1 v2).bind fun x1 => (wr x1 3 24 v1 v3).bind fun x2 => (wr x2 4 24 v1 v4).bind fun x3 => some x3
set_option maxHeartbeats 4000000 in
set_option maxRecDepth 100000 in
theorem tX1_put {E : EE} {B : BB} {l : Launch} {L : St2 → St2} {b : Nat} {x : St2} {v1 : Int32} {v2 : Int32} {v3 : Int32} {v4 : Int32} {res : St2} (C : Cx E B l cX1_put RX1 none 5 0 0) (hb : Sb b) (hL : Ln b 13 L) (hQ : Fin9 E B none (L res)) (hf : fX1_put x v1 v2 v3 v4 = some res) : V E B (L x) 0 [(0, .ref (ad B b)), (1, .int v1), (2, .int v2), (3, .int v3), (4, .int v4)] [] := by
  unfold fX1_put at hf
  refine v_aload_n C 0 dX1_put_0 rfl rfl ?_
  refine sh_getR (i := 0) (j := b + 1) C hb (by decide) rfl wd_29 dX1_put_1 ?_
  refine v_iconst (v := 0) C dX1_put_4 (by decide) ?_
  refine sh_prS C 0 hb rfl (by decide) dX1_put_5 ?_
  refine v_iload_n C 1 dX1_put_6 rfl rfl ?_
  refine v_iload_n C 2 dX1_put_7 rfl rfl ?_
  refine s_ast (k := 2) C hL (by decide) (tb_pr hb (r := 0) (by decide)) dX1_put_8 hf (fun x1 hf => ?_)
  refine v_aload_n C 0 dX1_put_9 rfl rfl ?_
  refine sh_getR (i := 0) (j := b + 1) C hb (by decide) rfl wd_29 dX1_put_10 ?_
  refine v_iconst (v := 1) C dX1_put_13 (by decide) ?_
  refine sh_prS C 1 hb rfl (by decide) dX1_put_14 ?_
  refine v_iload_n C 1 dX1_put_15 rfl rfl ?_
  refine v_iload_n C 3 dX1_put_16 rfl rfl ?_
  refine s_ast (k := 3) C hL (by decide) (tb_pr hb (r := 1) (by decide)) dX1_put_17 hf (fun x2 hf => ?_)
  refine v_aload_n C 0 dX1_put_18 rfl rfl ?_
  refine sh_getR (i := 0) (j := b + 1) C hb (by decide) rfl wd_29 dX1_put_19 ?_
  refine v_iconst (v := 2) C dX1_put_22 (by decide) ?_
  refine sh_prS C 2 hb rfl (by decide) dX1_put_23 ?_
  refine v_iload_n C 1 dX1_put_24 rfl rfl ?_
  refine v_iload C 4 dX1_put_25 rfl ?_
  refine s_ast (k := 4) C hL (by decide) (tb_pr hb (r := 2) (by decide)) dX1_put_27 hf (fun x3 hf => ?_)
  exact v_vret C dX1_put_28 (fin_v hf hQ)
theorem mX1_put {B : BB} {l : Launch} {L : St2 → St2} {b : Nat} {x : St2} {v1 : Int32} {v2 : Int32} {v3 : Int32} {v4 : Int32} {res : St2} (hb : Sb b) (hL : Ln b 13 L) (hf : fX1_put x v1 v2 v3 v4 = some res) : Ret l B yX1_put cX1_put 5 none 0 0 [.ref (ad B b), .int v1, .int v2, .int v3, .int v4] (L x) none (L res) := ret_of (own := RX1) (by decide) rfl (Nat.le_of_ble_eq_true rfl) (fun E C hQ => tX1_put C hb hL hQ hf)
theorem nX1_put {B : BB} {l : Launch} {L : St2 → St2} {b : Nat} {κ : St2} {v1 : Int32} {v2 : Int32} {v3 : Int32} {v4 : Int32} {res : St2} (hL : LnC L) (hb : Sb b) (hf : fX1_put (vw κ b) v1 v2 v3 v4 = some res) : Ret l B yX1_put cX1_put 5 none 0 0 [.ref (ad B b), .int v1, .int v2, .int v3, .int v4] (L κ) none (L (putS κ b res)) := by
  have h : Ret l B yX1_put cX1_put 5 none 0 0 [.ref (ad B b), .int v1, .int v2, .int v3, .int v4] (L (putS κ b (vw κ b))) none (L (putS κ b res)) := mX1_put (L := fun z => L (putS κ b z)) (x := vw κ b) hb (lnS_of hL hb κ) hf
  rw [putS_vw] at h
  exact h
def fX1_clear (x : St2) (v1 : Int32) : Option St2 := (fX1_put x v1 (-1) 0 0).bind fun y1 => some y1
set_option maxHeartbeats 4000000 in
set_option maxRecDepth 100000 in
theorem tX1_clear {E : EE} {B : BB} {l : Launch} {L : St2 → St2} {b : Nat} {x : St2} {v1 : Int32} {res : St2} (C : Cx E B l cX1_clear RX1 none 2 1 24) (hb : Sb b) (hL : Ln b 13 L) (hQ : Fin9 E B none (L res)) (hf : fX1_clear x v1 = some res) : V E B (L x) 0 [(0, .ref (ad B b)), (1, .int v1)] [] := by
  unfold fX1_clear at hf
  refine v_aload_n C 0 dX1_clear_0 rfl rfl ?_
  refine v_iload_n C 1 dX1_clear_1 rfl rfl ?_
  refine v_iconst (v := (-1)) C dX1_clear_2 (by decide) ?_
  refine v_iconst (v := 0) C dX1_clear_3 (by decide) ?_
  refine v_iconst (v := 0) C dX1_clear_4 (by decide) ?_
  obtain ⟨y1, hy1, hf⟩ := bnd hf
  refine v_callV (r := none) (As := [.int v1, .int (-1), .int 0, .int 0]) (rest := []) (K := b) C (mX1_put hb hL hy1) cw_X1_put wd_166 (by have := Sb.le hb; omega) (tb_o hb) rfl ⟨Nat.le_of_ble_eq_true rfl, Nat.le_of_ble_eq_true rfl⟩ rfl rfl (Nat.le_of_ble_eq_true rfl) dX1_clear_5 ?_
  exact v_vret C dX1_clear_8 (fin_v hf hQ)
theorem mX1_clear {B : BB} {l : Launch} {L : St2 → St2} {b : Nat} {x : St2} {v1 : Int32} {res : St2} (hb : Sb b) (hL : Ln b 13 L) (hf : fX1_clear x v1 = some res) : Ret l B yX1_clear cX1_clear 2 none 1 24 [.ref (ad B b), .int v1] (L x) none (L res) := ret_of (own := RX1) (by decide) rfl (Nat.le_of_ble_eq_true rfl) (fun E C hQ => tX1_clear C hb hL hQ hf)
theorem nX1_clear {B : BB} {l : Launch} {L : St2 → St2} {b : Nat} {κ : St2} {v1 : Int32} {res : St2} (hL : LnC L) (hb : Sb b) (hf : fX1_clear (vw κ b) v1 = some res) : Ret l B yX1_clear cX1_clear 2 none 1 24 [.ref (ad B b), .int v1] (L κ) none (L (putS κ b res)) := by
  have h : Ret l B yX1_clear cX1_clear 2 none 1 24 [.ref (ad B b), .int v1] (L (putS κ b (vw κ b))) none (L (putS κ b res)) := mX1_clear (L := fun z => L (putS κ b z)) (x := vw κ b) hb (lnS_of hL hb κ) hf
  rw [putS_vw] at h
  exact h
def fX1_strides (x : St2) (v1 : Int32) : Option Int32 := (rd (x 9) 8 v1).bind fun a1 => (some (a1 + ((x 0 6) - (x 0 6) / 2 * 2))).bind fun w2 => (some (1 + (a1 / 2))).bind fun w3 => (rd (x 6) 8 v1).bind fun a4 => if a4 = 1 then (some w2) else (if a4 = 2 then (some 1) else (if a4 = 3 then (some w3) else (if a4 = 4 then (some (w3 + 2)) else (if a4 = 5 then (some a1) else (if a4 = 6 then (some (2 * w2)) else (some a1))))))
set_option maxHeartbeats 4000000 in
set_option maxRecDepth 100000 in
theorem tX1_strides {E : EE} {B : BB} {l : Launch} {L : St2 → St2} {b : Nat} {x : St2} {v1 : Int32} {res : Int32} (C : Cx E B l cX1_strides RX1 (some .int) 5 0 0) (hb : Sb b) (hL : Ln b 13 L) (hQ : Fin9 E B (some (.int res)) (L x)) (hf : fX1_strides x v1 = some res) : V E B (L x) 0 [(0, .ref (ad B b)), (1, .int v1)] [] := by
  unfold fX1_strides at hf
  refine v_aload_n C 0 dX1_strides_0 rfl rfl ?_
  refine sh_getR (i := 1) (j := b + 5) C hb (by decide) rfl wd_31 dX1_strides_1 ?_
  refine v_iconst (v := 3) C dX1_strides_4 (by decide) ?_
  refine sh_trS C 3 hb rfl (by decide) dX1_strides_5 ?_
  refine v_iload_n C 1 dX1_strides_6 rfl rfl ?_
  refine s_ald (k := 9) C hL (by decide) (tb_tr hb (r := 3) (by decide)) dX1_strides_7 hf (fun a1 hf => ?_)
  refine v_istore_n (lv' := [(0, .ref (ad B b)), (1, .int v1), (2, .int a1)]) C [1, 2, 0] dX1_strides_8 rfl (by decide) rfl ?_
  refine v_iload_n C 2 dX1_strides_9 rfl rfl ?_
  refine v_aload_n C 0 dX1_strides_10 rfl rfl ?_
  refine sh_getI (i := 6) C hb hL (by decide) rfl wd_44 dX1_strides_11 ?_
  refine v_iconst (v := 2) C dX1_strides_14 (by decide) ?_
  refine v_irem C dX1_strides_15 (by decide) ?_
  refine v_iadd C dX1_strides_16 ?_
  refine v_top hf (fun w2 hf => ?_)
  refine v_istore_n (lv' := [(0, .ref (ad B b)), (1, .int v1), (2, .int a1), (3, .int w2)]) C [1, 2, 3, 0] dX1_strides_17 rfl (by decide) rfl ?_
  refine v_iconst (v := 1) C dX1_strides_18 (by decide) ?_
  refine v_iload_n C 2 dX1_strides_19 rfl rfl ?_
  refine v_iconst (v := 2) C dX1_strides_20 (by decide) ?_
  refine v_idiv C dX1_strides_21 (by decide) ?_
  refine v_iadd C dX1_strides_22 ?_
  refine v_top hf (fun w3 hf => ?_)
  refine v_istore (lv' := [(0, .ref (ad B b)), (1, .int v1), (2, .int a1), (3, .int w2), (4, .int w3)]) C [1, 2, 3, 4, 0] dX1_strides_23 (by decide) rfl ?_
  refine v_aload_n C 0 dX1_strides_25 rfl rfl ?_
  refine sh_getR (i := 1) (j := b + 5) C hb (by decide) rfl wd_31 dX1_strides_26 ?_
  refine v_iconst (v := 0) C dX1_strides_29 (by decide) ?_
  refine sh_trS C 0 hb rfl (by decide) dX1_strides_30 ?_
  refine v_iload_n C 1 dX1_strides_31 rfl rfl ?_
  refine s_ald (k := 6) C hL (by decide) (tb_tr hb (r := 0) (by decide)) dX1_strides_32 hf (fun a4 hf => ?_)
  by_cases hc33_1 : a4 = 1
  · rw [if_pos hc33_1] at hf
    refine v_tabIn (tgt := 72) C dX1_strides_33 hc33_1 (by decide) (by decide) rfl (by decide) ?_
    refine v_iload_n C 3 dX1_strides_72 rfl rfl ?_
    exact v_iret C dX1_strides_73 (fin_i hf hQ)
  · rw [if_neg hc33_1] at hf
    by_cases hc33_2 : a4 = 2
    · rw [if_pos hc33_2] at hf
      refine v_tabIn (tgt := 78) C dX1_strides_33 hc33_2 (by decide) (by decide) rfl (by decide) ?_
      refine v_iconst (v := 1) C dX1_strides_78 (by decide) ?_
      exact v_iret C dX1_strides_79 (fin_i hf hQ)
    · rw [if_neg hc33_2] at hf
      by_cases hc33_3 : a4 = 3
      · rw [if_pos hc33_3] at hf
        refine v_tabIn (tgt := 80) C dX1_strides_33 hc33_3 (by decide) (by decide) rfl (by decide) ?_
        refine v_iload C 4 dX1_strides_80 rfl ?_
        exact v_iret C dX1_strides_82 (fin_i hf hQ)
      · rw [if_neg hc33_3] at hf
        by_cases hc33_4 : a4 = 4
        · rw [if_pos hc33_4] at hf
          refine v_tabIn (tgt := 83) C dX1_strides_33 hc33_4 (by decide) (by decide) rfl (by decide) ?_
          refine v_iload C 4 dX1_strides_83 rfl ?_
          refine v_iconst (v := 2) C dX1_strides_85 (by decide) ?_
          refine v_iadd C dX1_strides_86 ?_
          exact v_iret C dX1_strides_87 (fin_i hf hQ)
        · rw [if_neg hc33_4] at hf
          by_cases hc33_5 : a4 = 5
          · rw [if_pos hc33_5] at hf
            refine v_tabIn (tgt := 88) C dX1_strides_33 hc33_5 (by decide) (by decide) rfl (by decide) ?_
            refine v_iload_n C 2 dX1_strides_88 rfl rfl ?_
            exact v_iret C dX1_strides_89 (fin_i hf hQ)
          · rw [if_neg hc33_5] at hf
            by_cases hc33_6 : a4 = 6
            · rw [if_pos hc33_6] at hf
              refine v_tabIn (tgt := 74) C dX1_strides_33 hc33_6 (by decide) (by decide) rfl (by decide) ?_
              refine v_iconst (v := 2) C dX1_strides_74 (by decide) ?_
              refine v_iload_n C 3 dX1_strides_75 rfl rfl ?_
              refine v_imul C dX1_strides_76 ?_
              exact v_iret C dX1_strides_77 (fin_i hf hQ)
            · rw [if_neg hc33_6] at hf
              have e33_1 : a4.toInt ≠ 1 := ne_ti (y := 1) hc33_1
              have e33_2 : a4.toInt ≠ 2 := ne_ti (y := 2) hc33_2
              have e33_3 : a4.toInt ≠ 3 := ne_ti (y := 3) hc33_3
              have e33_4 : a4.toInt ≠ 4 := ne_ti (y := 4) hc33_4
              have e33_5 : a4.toInt ≠ 5 := ne_ti (y := 5) hc33_5
              have e33_6 : a4.toInt ≠ 6 := ne_ti (y := 6) hc33_6
              refine v_tabOut (tgt := 88) C dX1_strides_33 (by omega) (by decide) ?_
              refine v_iload_n C 2 dX1_strides_88 rfl rfl ?_
              exact v_iret C dX1_strides_89 (fin_i hf hQ)
theorem mX1_strides {B : BB} {l : Launch} {L : St2 → St2} {b : Nat} {x : St2} {v1 : Int32} {res : Int32} (hb : Sb b) (hL : Ln b 13 L) (hf : fX1_strides x v1 = some res) : Ret l B yX1_strides cX1_strides 5 (some .int) 0 0 [.ref (ad B b), .int v1] (L x) (some (.int res)) (L x) := ret_of (own := RX1) (by decide) rfl (Nat.le_of_ble_eq_true rfl) (fun E C hQ => tX1_strides C hb hL hQ hf)
theorem nX1_strides {B : BB} {l : Launch} {L : St2 → St2} {b : Nat} {κ : St2} {v1 : Int32} {res : Int32} (hL : LnC L) (hb : Sb b) (hf : fX1_strides (vw κ b) v1 = some res) : Ret l B yX1_strides cX1_strides 5 (some .int) 0 0 [.ref (ad B b), .int v1] (L κ) (some (.int res)) (L (κ)) := by
  have h : Ret l B yX1_strides cX1_strides 5 (some .int) 0 0 [.ref (ad B b), .int v1] (L (putS κ b (vw κ b))) (some (.int res)) (L (putS κ b (vw κ b))) := mX1_strides (L := fun z => L (putS κ b z)) (x := vw κ b) hb (lnS_of hL hb κ) hf
  rw [putS_vw] at h
  exact h
def fX1_presses (x : St2) (v1 : Int32) : Option Int32 := (rd (x 10) 8 v1).bind fun a1 => (some ((a1 + 3) + 1)).bind fun w2 => (rd (x 6) 8 v1).bind fun a3 => if a3 = 1 then (some (a1 / 2)) else (if a3 = 2 then (some (imin 9 (a1 + 3))) else (if a3 = 3 then (some (imin 9 w2)) else (if a3 = 4 then ((rd (x 9) 8 v1).bind fun a4 => if a4 ≤ 3 then (some (imin 9 (w2 - 2))) else (some (imin 9 w2))) else (if a3 = 5 then (some 1) else (if a3 = 6 then (some (imax 0 ((a1 / 2) - 1))) else (some a1))))))
set_option maxHeartbeats 4000000 in
set_option maxRecDepth 100000 in
theorem tX1_presses {E : EE} {B : BB} {l : Launch} {L : St2 → St2} {b : Nat} {x : St2} {v1 : Int32} {res : Int32} (C : Cx E B l cX1_presses RX1 (some .int) 4 1 21) (hb : Sb b) (hL : Ln b 13 L) (hQ : Fin9 E B (some (.int res)) (L x)) (hf : fX1_presses x v1 = some res) : V E B (L x) 0 [(0, .ref (ad B b)), (1, .int v1)] [] := by
  unfold fX1_presses at hf
  refine v_aload_n C 0 dX1_presses_0 rfl rfl ?_
  refine sh_getR (i := 1) (j := b + 5) C hb (by decide) rfl wd_31 dX1_presses_1 ?_
  refine v_iconst (v := 4) C dX1_presses_4 (by decide) ?_
  refine sh_trS C 4 hb rfl (by decide) dX1_presses_5 ?_
  refine v_iload_n C 1 dX1_presses_6 rfl rfl ?_
  refine s_ald (k := 10) C hL (by decide) (tb_tr hb (r := 4) (by decide)) dX1_presses_7 hf (fun a1 hf => ?_)
  refine v_istore_n (lv' := [(0, .ref (ad B b)), (1, .int v1), (2, .int a1)]) C [1, 2, 0] dX1_presses_8 rfl (by decide) rfl ?_
  refine v_iload_n C 2 dX1_presses_9 rfl rfl ?_
  refine v_iconst (v := 3) C dX1_presses_10 (by decide) ?_
  refine v_iadd C dX1_presses_11 ?_
  refine v_iconst (v := 1) C dX1_presses_12 (by decide) ?_
  refine v_iadd C dX1_presses_13 ?_
  refine v_top hf (fun w2 hf => ?_)
  refine v_istore_n (lv' := [(0, .ref (ad B b)), (1, .int v1), (2, .int a1), (3, .int w2)]) C [1, 2, 3, 0] dX1_presses_14 rfl (by decide) rfl ?_
  refine v_aload_n C 0 dX1_presses_15 rfl rfl ?_
  refine sh_getR (i := 1) (j := b + 5) C hb (by decide) rfl wd_31 dX1_presses_16 ?_
  refine v_iconst (v := 0) C dX1_presses_19 (by decide) ?_
  refine sh_trS C 0 hb rfl (by decide) dX1_presses_20 ?_
  refine v_iload_n C 1 dX1_presses_21 rfl rfl ?_
  refine s_ald (k := 6) C hL (by decide) (tb_tr hb (r := 0) (by decide)) dX1_presses_22 hf (fun a3 hf => ?_)
  by_cases hc23_1 : a3 = 1
  · rw [if_pos hc23_1] at hf
    refine v_tabIn (tgt := 60) C dX1_presses_23 hc23_1 (by decide) (by decide) rfl (by decide) ?_
    refine v_iload_n C 2 dX1_presses_60 rfl rfl ?_
    refine v_iconst (v := 2) C dX1_presses_61 (by decide) ?_
    refine v_idiv C dX1_presses_62 (by decide) ?_
    exact v_iret C dX1_presses_63 (fin_i hf hQ)
  · rw [if_neg hc23_1] at hf
    by_cases hc23_2 : a3 = 2
    · rw [if_pos hc23_2] at hf
      refine v_tabIn (tgt := 74) C dX1_presses_23 hc23_2 (by decide) (by decide) rfl (by decide) ?_
      refine v_bipush (v := 9) C dX1_presses_74 (by decide) ?_
      refine v_iload_n C 2 dX1_presses_76 rfl rfl ?_
      refine v_iconst (v := 3) C dX1_presses_77 (by decide) ?_
      refine v_iadd C dX1_presses_78 ?_
      refine w_mmin C wd_216 (by decide) (Nat.le_of_ble_eq_true rfl) dX1_presses_79 ?_
      exact v_iret C dX1_presses_82 (fin_i hf hQ)
    · rw [if_neg hc23_2] at hf
      by_cases hc23_3 : a3 = 3
      · rw [if_pos hc23_3] at hf
        refine v_tabIn (tgt := 83) C dX1_presses_23 hc23_3 (by decide) (by decide) rfl (by decide) ?_
        refine v_bipush (v := 9) C dX1_presses_83 (by decide) ?_
        refine v_iload_n C 3 dX1_presses_85 rfl rfl ?_
        refine w_mmin C wd_216 (by decide) (Nat.le_of_ble_eq_true rfl) dX1_presses_86 ?_
        exact v_iret C dX1_presses_89 (fin_i hf hQ)
      · rw [if_neg hc23_3] at hf
        by_cases hc23_4 : a3 = 4
        · rw [if_pos hc23_4] at hf
          refine v_tabIn (tgt := 90) C dX1_presses_23 hc23_4 (by decide) (by decide) rfl (by decide) ?_
          refine v_bipush (v := 9) C dX1_presses_90 (by decide) ?_
          refine v_aload_n C 0 dX1_presses_92 rfl rfl ?_
          refine sh_getR (i := 1) (j := b + 5) C hb (by decide) rfl wd_31 dX1_presses_93 ?_
          refine v_iconst (v := 3) C dX1_presses_96 (by decide) ?_
          refine sh_trS C 3 hb rfl (by decide) dX1_presses_97 ?_
          refine v_iload_n C 1 dX1_presses_98 rfl rfl ?_
          refine s_ald (k := 9) C hL (by decide) (tb_tr hb (r := 3) (by decide)) dX1_presses_99 hf (fun a4 hf => ?_)
          refine v_iconst (v := 3) C dX1_presses_100 (by decide) ?_
          refine v_icmp_le (tgt := 108) C dX1_presses_101 (by decide) hf (fun hf => ?_) (fun hf => ?_)
          · refine v_iload_n C 3 dX1_presses_108 rfl rfl ?_
            refine v_iconst (v := 2) C dX1_presses_109 (by decide) ?_
            refine v_isub C dX1_presses_110 ?_
            refine w_mmin C wd_216 (by decide) (Nat.le_of_ble_eq_true rfl) dX1_presses_111 ?_
            exact v_iret C dX1_presses_114 (fin_i hf hQ)
          · refine v_iload_n C 3 dX1_presses_104 rfl rfl ?_
            refine v_goto (tgt := 111) C dX1_presses_105 (by decide) ?_
            refine w_mmin C wd_216 (by decide) (Nat.le_of_ble_eq_true rfl) dX1_presses_111 ?_
            exact v_iret C dX1_presses_114 (fin_i hf hQ)
        · rw [if_neg hc23_4] at hf
          by_cases hc23_5 : a3 = 5
          · rw [if_pos hc23_5] at hf
            refine v_tabIn (tgt := 115) C dX1_presses_23 hc23_5 (by decide) (by decide) rfl (by decide) ?_
            refine v_iconst (v := 1) C dX1_presses_115 (by decide) ?_
            exact v_iret C dX1_presses_116 (fin_i hf hQ)
          · rw [if_neg hc23_5] at hf
            by_cases hc23_6 : a3 = 6
            · rw [if_pos hc23_6] at hf
              refine v_tabIn (tgt := 64) C dX1_presses_23 hc23_6 (by decide) (by decide) rfl (by decide) ?_
              refine v_iconst (v := 0) C dX1_presses_64 (by decide) ?_
              refine v_iload_n C 2 dX1_presses_65 rfl rfl ?_
              refine v_iconst (v := 2) C dX1_presses_66 (by decide) ?_
              refine v_idiv C dX1_presses_67 (by decide) ?_
              refine v_iconst (v := 1) C dX1_presses_68 (by decide) ?_
              refine v_isub C dX1_presses_69 ?_
              refine w_mmax C wd_213 (by decide) (Nat.le_of_ble_eq_true rfl) dX1_presses_70 ?_
              exact v_iret C dX1_presses_73 (fin_i hf hQ)
            · rw [if_neg hc23_6] at hf
              have e23_1 : a3.toInt ≠ 1 := ne_ti (y := 1) hc23_1
              have e23_2 : a3.toInt ≠ 2 := ne_ti (y := 2) hc23_2
              have e23_3 : a3.toInt ≠ 3 := ne_ti (y := 3) hc23_3
              have e23_4 : a3.toInt ≠ 4 := ne_ti (y := 4) hc23_4
              have e23_5 : a3.toInt ≠ 5 := ne_ti (y := 5) hc23_5
              have e23_6 : a3.toInt ≠ 6 := ne_ti (y := 6) hc23_6
              refine v_tabOut (tgt := 117) C dX1_presses_23 (by omega) (by decide) ?_
              refine v_iload_n C 2 dX1_presses_117 rfl rfl ?_
              exact v_iret C dX1_presses_118 (fin_i hf hQ)
theorem mX1_presses {B : BB} {l : Launch} {L : St2 → St2} {b : Nat} {x : St2} {v1 : Int32} {res : Int32} (hb : Sb b) (hL : Ln b 13 L) (hf : fX1_presses x v1 = some res) : Ret l B yX1_presses cX1_presses 4 (some .int) 1 21 [.ref (ad B b), .int v1] (L x) (some (.int res)) (L x) := ret_of (own := RX1) (by decide) rfl (Nat.le_of_ble_eq_true rfl) (fun E C hQ => tX1_presses C hb hL hQ hf)
theorem nX1_presses {B : BB} {l : Launch} {L : St2 → St2} {b : Nat} {κ : St2} {v1 : Int32} {res : Int32} (hL : LnC L) (hb : Sb b) (hf : fX1_presses (vw κ b) v1 = some res) : Ret l B yX1_presses cX1_presses 4 (some .int) 1 21 [.ref (ad B b), .int v1] (L κ) (some (.int res)) (L (κ)) := by
  have h : Ret l B yX1_presses cX1_presses 4 (some .int) 1 21 [.ref (ad B b), .int v1] (L (putS κ b (vw κ b))) (some (.int res)) (L (putS κ b (vw κ b))) := mX1_presses (L := fun z => L (putS κ b z)) (x := vw κ b) hb (lnS_of hL hb κ) hf
  rw [putS_vw] at h
  exact h
def fX1_looks (x : St2) (v1 : Int32) : Option Int32 := (rd (x 8) 8 v1).bind fun a1 => (rd (x 6) 8 v1).bind fun a2 => if a2 = 5 then (some (1 - a1)) else (some a1)
set_option maxHeartbeats 4000000 in
set_option maxRecDepth 100000 in
theorem tX1_looks {E : EE} {B : BB} {l : Launch} {L : St2 → St2} {b : Nat} {x : St2} {v1 : Int32} {res : Int32} (C : Cx E B l cX1_looks RX1 (some .int) 3 0 0) (hb : Sb b) (hL : Ln b 13 L) (hQ : Fin9 E B (some (.int res)) (L x)) (hf : fX1_looks x v1 = some res) : V E B (L x) 0 [(0, .ref (ad B b)), (1, .int v1)] [] := by
  unfold fX1_looks at hf
  refine v_aload_n C 0 dX1_looks_0 rfl rfl ?_
  refine sh_getR (i := 1) (j := b + 5) C hb (by decide) rfl wd_31 dX1_looks_1 ?_
  refine v_iconst (v := 2) C dX1_looks_4 (by decide) ?_
  refine sh_trS C 2 hb rfl (by decide) dX1_looks_5 ?_
  refine v_iload_n C 1 dX1_looks_6 rfl rfl ?_
  refine s_ald (k := 8) C hL (by decide) (tb_tr hb (r := 2) (by decide)) dX1_looks_7 hf (fun a1 hf => ?_)
  refine v_istore_n (lv' := [(0, .ref (ad B b)), (1, .int v1), (2, .int a1)]) C [1, 2, 0] dX1_looks_8 rfl (by decide) rfl ?_
  refine v_aload_n C 0 dX1_looks_9 rfl rfl ?_
  refine sh_getR (i := 1) (j := b + 5) C hb (by decide) rfl wd_31 dX1_looks_10 ?_
  refine v_iconst (v := 0) C dX1_looks_13 (by decide) ?_
  refine sh_trS C 0 hb rfl (by decide) dX1_looks_14 ?_
  refine v_iload_n C 1 dX1_looks_15 rfl rfl ?_
  refine s_ald (k := 6) C hL (by decide) (tb_tr hb (r := 0) (by decide)) dX1_looks_16 hf (fun a2 hf => ?_)
  refine v_iconst (v := 5) C dX1_looks_17 (by decide) ?_
  refine v_icmp_ne (tgt := 27) C dX1_looks_18 (by decide) hf (fun hf => ?_) (fun hf => ?_)
  · refine v_iload_n C 2 dX1_looks_27 rfl rfl ?_
    exact v_iret C dX1_looks_28 (fin_i hf hQ)
  · refine v_iconst (v := 1) C dX1_looks_21 (by decide) ?_
    refine v_iload_n C 2 dX1_looks_22 rfl rfl ?_
    refine v_isub C dX1_looks_23 ?_
    refine v_goto (tgt := 28) C dX1_looks_24 (by decide) ?_
    exact v_iret C dX1_looks_28 (fin_i hf hQ)
theorem mX1_looks {B : BB} {l : Launch} {L : St2 → St2} {b : Nat} {x : St2} {v1 : Int32} {res : Int32} (hb : Sb b) (hL : Ln b 13 L) (hf : fX1_looks x v1 = some res) : Ret l B yX1_looks cX1_looks 3 (some .int) 0 0 [.ref (ad B b), .int v1] (L x) (some (.int res)) (L x) := ret_of (own := RX1) (by decide) rfl (Nat.le_of_ble_eq_true rfl) (fun E C hQ => tX1_looks C hb hL hQ hf)
theorem nX1_looks {B : BB} {l : Launch} {L : St2 → St2} {b : Nat} {κ : St2} {v1 : Int32} {res : Int32} (hL : LnC L) (hb : Sb b) (hf : fX1_looks (vw κ b) v1 = some res) : Ret l B yX1_looks cX1_looks 3 (some .int) 0 0 [.ref (ad B b), .int v1] (L κ) (some (.int res)) (L (κ)) := by
  have h : Ret l B yX1_looks cX1_looks 3 (some .int) 0 0 [.ref (ad B b), .int v1] (L (putS κ b (vw κ b))) (some (.int res)) (L (putS κ b (vw κ b))) := mX1_looks (L := fun z => L (putS κ b z)) (x := vw κ b) hb (lnS_of hL hb κ) hf
  rw [putS_vw] at h
  exact h
def fX1_goOn_135 (x : St2) (v1 : Int32) : Option St2 := (rd (x 11) 8 v1).bind fun a11 => (wr x 11 8 v1 (imin 99999 (a11 + 1))).bind fun x12 => some x12
set_option maxHeartbeats 4000000 in
set_option maxRecDepth 100000 in
theorem tX1_goOn_135 {E : EE} {B : BB} {l : Launch} {L : St2 → St2} {b : Nat} {x : St2} {v1 : Int32} {res : St2} (C : Cx E B l cX1_goOn RX1 none 5 2 44) (hb : Sb b) (hL : Ln b 13 L) (hQ : Fin9 E B none (L res)) (hf : fX1_goOn_135 x v1 = some res) : V E B (L x) 135 [(0, .ref (ad B b)), (1, .int v1)] [] := by
  unfold fX1_goOn_135 at hf
  refine v_aload_n C 0 dX1_goOn_135 rfl rfl ?_
  refine sh_getR (i := 1) (j := b + 5) C hb (by decide) rfl wd_31 dX1_goOn_136 ?_
  refine v_iconst (v := 5) C dX1_goOn_139 (by decide) ?_
  refine sh_trS C 5 hb rfl (by decide) dX1_goOn_140 ?_
  refine v_iload_n C 1 dX1_goOn_141 rfl rfl ?_
  refine v_ldc C wd_254 dX1_goOn_142 ?_
  refine v_aload_n C 0 dX1_goOn_144 rfl rfl ?_
  refine sh_getR (i := 1) (j := b + 5) C hb (by decide) rfl wd_31 dX1_goOn_145 ?_
  refine v_iconst (v := 5) C dX1_goOn_148 (by decide) ?_
  refine sh_trS C 5 hb rfl (by decide) dX1_goOn_149 ?_
  refine v_iload_n C 1 dX1_goOn_150 rfl rfl ?_
  refine s_ald (k := 11) C hL (by decide) (tb_tr hb (r := 5) (by decide)) dX1_goOn_151 hf (fun a11 hf => ?_)
  refine v_iconst (v := 1) C dX1_goOn_152 (by decide) ?_
  refine v_iadd C dX1_goOn_153 ?_
  refine w_mmin C wd_216 (by decide) (Nat.le_of_ble_eq_true rfl) dX1_goOn_154 ?_
  refine s_ast (k := 11) C hL (by decide) (tb_tr hb (r := 5) (by decide)) dX1_goOn_157 hf (fun x12 hf => ?_)
  exact v_vret C dX1_goOn_158 (fin_v hf hQ)
def fX1_goOn_91 (x : St2) (v1 : Int32) (v2 : Int32) (v3 : Int32) (v4 : Int32) : Option St2 := (fX1_presses x v1).bind fun y7 => (fX1_looks x v1).bind fun y8 => (fX1_put x v4 v1 y7 y8).bind fun y9 => (wr y9 7 8 v1 v4).bind fun x10 => if v4 = v3 then (fX1_goOn_135 x10 v1) else ((wr x10 8 8 v1 (1 - v2)).bind fun x13 => fX1_goOn_135 x13 v1)
set_option maxHeartbeats 4000000 in
set_option maxRecDepth 100000 in
theorem tX1_goOn_91 {E : EE} {B : BB} {l : Launch} {L : St2 → St2} {b : Nat} {x : St2} {v1 : Int32} {v2 : Int32} {v3 : Int32} {v4 : Int32} {res : St2} (C : Cx E B l cX1_goOn RX1 none 5 2 44) (hb : Sb b) (hL : Ln b 13 L) (hQ : Fin9 E B none (L res)) (hf : fX1_goOn_91 x v1 v2 v3 v4 = some res) : V E B (L x) 91 [(0, .ref (ad B b)), (1, .int v1), (2, .int v2), (3, .int v3), (4, .int v4)] [] := by
  unfold fX1_goOn_91 at hf
  refine v_aload_n C 0 dX1_goOn_91 rfl rfl ?_
  refine v_iload C 4 dX1_goOn_92 rfl ?_
  refine v_iload_n C 1 dX1_goOn_94 rfl rfl ?_
  refine v_aload_n C 0 dX1_goOn_95 rfl rfl ?_
  refine v_iload_n C 1 dX1_goOn_96 rfl rfl ?_
  obtain ⟨y7, hy7, hf⟩ := bnd hf
  refine v_callV (r := some (.int y7)) (As := [.int v1]) (rest := [.int v1, .int v4, .ref (ad B b)]) (K := b) C (mX1_presses hb hL hy7) cw_X1_presses wd_255 (by have := Sb.le hb; omega) (tb_o hb) rfl ⟨Nat.le_of_ble_eq_true rfl, Nat.le_of_ble_eq_true rfl⟩ rfl rfl (Nat.le_of_ble_eq_true rfl) dX1_goOn_97 ?_
  refine v_aload_n C 0 dX1_goOn_100 rfl rfl ?_
  refine v_iload_n C 1 dX1_goOn_101 rfl rfl ?_
  obtain ⟨y8, hy8, hf⟩ := bnd hf
  refine v_callV (r := some (.int y8)) (As := [.int v1]) (rest := [.int y7, .int v1, .int v4, .ref (ad B b)]) (K := b) C (mX1_looks hb hL hy8) cw_X1_looks wd_256 (by have := Sb.le hb; omega) (tb_o hb) rfl ⟨Nat.le_of_ble_eq_true rfl, Nat.le_of_ble_eq_true rfl⟩ rfl rfl (Nat.le_of_ble_eq_true rfl) dX1_goOn_102 ?_
  obtain ⟨y9, hy9, hf⟩ := bnd hf
  refine v_callV (r := none) (As := [.int v4, .int v1, .int y7, .int y8]) (rest := []) (K := b) C (mX1_put hb hL hy9) cw_X1_put wd_166 (by have := Sb.le hb; omega) (tb_o hb) rfl ⟨Nat.le_of_ble_eq_true rfl, Nat.le_of_ble_eq_true rfl⟩ rfl rfl (Nat.le_of_ble_eq_true rfl) dX1_goOn_105 ?_
  refine v_aload_n C 0 dX1_goOn_108 rfl rfl ?_
  refine sh_getR (i := 1) (j := b + 5) C hb (by decide) rfl wd_31 dX1_goOn_109 ?_
  refine v_iconst (v := 1) C dX1_goOn_112 (by decide) ?_
  refine sh_trS C 1 hb rfl (by decide) dX1_goOn_113 ?_
  refine v_iload_n C 1 dX1_goOn_114 rfl rfl ?_
  refine v_iload C 4 dX1_goOn_115 rfl ?_
  refine s_ast (k := 7) C hL (by decide) (tb_tr hb (r := 1) (by decide)) dX1_goOn_117 hf (fun x10 hf => ?_)
  refine v_iload C 4 dX1_goOn_118 rfl ?_
  refine v_iload_n C 3 dX1_goOn_120 rfl rfl ?_
  refine v_icmp_eq (tgt := 135) C dX1_goOn_121 (by decide) hf (fun hf => ?_) (fun hf => ?_)
  · refine v_sub [0, 1] rfl ?_
    exact tX1_goOn_135 C hb hL hQ hf
  · refine v_aload_n C 0 dX1_goOn_124 rfl rfl ?_
    refine sh_getR (i := 1) (j := b + 5) C hb (by decide) rfl wd_31 dX1_goOn_125 ?_
    refine v_iconst (v := 2) C dX1_goOn_128 (by decide) ?_
    refine sh_trS C 2 hb rfl (by decide) dX1_goOn_129 ?_
    refine v_iload_n C 1 dX1_goOn_130 rfl rfl ?_
    refine v_iconst (v := 1) C dX1_goOn_131 (by decide) ?_
    refine v_iload_n C 2 dX1_goOn_132 rfl rfl ?_
    refine v_isub C dX1_goOn_133 ?_
    refine s_ast (k := 8) C hL (by decide) (tb_tr hb (r := 2) (by decide)) dX1_goOn_134 hf (fun x13 hf => ?_)
    refine v_sub [0, 1] rfl ?_
    exact tX1_goOn_135 C hb hL hQ hf
def fX1_goOn_36 (x : St2) (v1 : Int32) (v2 : Int32) (s0 : Int32) (s1 : Int32) : Option St2 := (some (s1 + s0)).bind fun w4 => (some (imax 0 (imin 23 w4))).bind fun w5 => (rd (x 2) 24 w5).bind fun a6 => if a6 = (-1) then (fX1_goOn_91 x v1 v2 w4 w5) else ((rd (x 2) 24 w5).bind fun a14 => if a14 = v1 then (fX1_goOn_91 x v1 v2 w4 w5) else ((pf x 0 5 (imin 99999 ((x 0 5) + 1))).bind fun x15 => fX1_goOn_91 x15 v1 v2 w4 w5))
set_option maxHeartbeats 4000000 in
set_option maxRecDepth 100000 in
theorem tX1_goOn_36 {E : EE} {B : BB} {l : Launch} {L : St2 → St2} {b : Nat} {x : St2} {v1 : Int32} {v2 : Int32} {s0 : Int32} {s1 : Int32} {res : St2} (C : Cx E B l cX1_goOn RX1 none 5 2 44) (hb : Sb b) (hL : Ln b 13 L) (hQ : Fin9 E B none (L res)) (hf : fX1_goOn_36 x v1 v2 s0 s1 = some res) : V E B (L x) 36 [(0, .ref (ad B b)), (1, .int v1), (2, .int v2)] [.int s0, .int s1] := by
  unfold fX1_goOn_36 at hf
  refine v_iadd C dX1_goOn_36 ?_
  refine v_top hf (fun w4 hf => ?_)
  refine v_istore_n (lv' := [(0, .ref (ad B b)), (1, .int v1), (2, .int v2), (3, .int w4)]) C [1, 2, 3, 0] dX1_goOn_37 rfl (by decide) rfl ?_
  refine v_iconst (v := 0) C dX1_goOn_38 (by decide) ?_
  refine v_bipush (v := 23) C dX1_goOn_39 (by decide) ?_
  refine v_iload_n C 3 dX1_goOn_41 rfl rfl ?_
  refine w_mmin C wd_216 (by decide) (Nat.le_of_ble_eq_true rfl) dX1_goOn_42 ?_
  refine w_mmax C wd_213 (by decide) (Nat.le_of_ble_eq_true rfl) dX1_goOn_45 ?_
  refine v_top hf (fun w5 hf => ?_)
  refine v_istore (lv' := [(0, .ref (ad B b)), (1, .int v1), (2, .int v2), (3, .int w4), (4, .int w5)]) C [1, 2, 3, 4, 0] dX1_goOn_48 (by decide) rfl ?_
  refine v_aload_n C 0 dX1_goOn_50 rfl rfl ?_
  refine sh_getR (i := 0) (j := b + 1) C hb (by decide) rfl wd_29 dX1_goOn_51 ?_
  refine v_iconst (v := 0) C dX1_goOn_54 (by decide) ?_
  refine sh_prS C 0 hb rfl (by decide) dX1_goOn_55 ?_
  refine v_iload C 4 dX1_goOn_56 rfl ?_
  refine s_ald (k := 2) C hL (by decide) (tb_pr hb (r := 0) (by decide)) dX1_goOn_58 hf (fun a6 hf => ?_)
  refine v_iconst (v := (-1)) C dX1_goOn_59 (by decide) ?_
  refine v_icmp_eq (tgt := 91) C dX1_goOn_60 (by decide) hf (fun hf => ?_) (fun hf => ?_)
  · exact tX1_goOn_91 C hb hL hQ hf
  · refine v_aload_n C 0 dX1_goOn_63 rfl rfl ?_
    refine sh_getR (i := 0) (j := b + 1) C hb (by decide) rfl wd_29 dX1_goOn_64 ?_
    refine v_iconst (v := 0) C dX1_goOn_67 (by decide) ?_
    refine sh_prS C 0 hb rfl (by decide) dX1_goOn_68 ?_
    refine v_iload C 4 dX1_goOn_69 rfl ?_
    refine s_ald (k := 2) C hL (by decide) (tb_pr hb (r := 0) (by decide)) dX1_goOn_71 hf (fun a14 hf => ?_)
    refine v_iload_n C 1 dX1_goOn_72 rfl rfl ?_
    refine v_icmp_eq (tgt := 91) C dX1_goOn_73 (by decide) hf (fun hf => ?_) (fun hf => ?_)
    · exact tX1_goOn_91 C hb hL hQ hf
    · refine v_aload_n C 0 dX1_goOn_76 rfl rfl ?_
      refine v_ldc C wd_254 dX1_goOn_77 ?_
      refine v_aload_n C 0 dX1_goOn_79 rfl rfl ?_
      refine sh_getI (i := 5) C hb hL (by decide) rfl wd_42 dX1_goOn_80 ?_
      refine v_iconst (v := 1) C dX1_goOn_83 (by decide) ?_
      refine v_iadd C dX1_goOn_84 ?_
      refine w_mmin C wd_216 (by decide) (Nat.le_of_ble_eq_true rfl) dX1_goOn_85 ?_
      refine sh_putI (i := 5) C hb hL (by decide) rfl wd_42 rfl (by decide +kernel) dX1_goOn_88 hf (fun x15 hf => ?_)
      exact tX1_goOn_91 C hb hL hQ hf
def fX1_goOn (x : St2) (v1 : Int32) : Option St2 := (rd (x 8) 8 v1).bind fun a1 => (rd (x 7) 8 v1).bind fun a2 => if a1 = 1 then ((fX1_strides x v1).bind fun y16 => fX1_goOn_36 x v1 a1 y16 a2) else ((fX1_strides x v1).bind fun y3 => fX1_goOn_36 x v1 a1 (-y3) a2)
set_option maxHeartbeats 4000000 in
set_option maxRecDepth 100000 in
theorem tX1_goOn {E : EE} {B : BB} {l : Launch} {L : St2 → St2} {b : Nat} {x : St2} {v1 : Int32} {res : St2} (C : Cx E B l cX1_goOn RX1 none 5 2 44) (hb : Sb b) (hL : Ln b 13 L) (hQ : Fin9 E B none (L res)) (hf : fX1_goOn x v1 = some res) : V E B (L x) 0 [(0, .ref (ad B b)), (1, .int v1)] [] := by
  unfold fX1_goOn at hf
  refine v_aload_n C 0 dX1_goOn_0 rfl rfl ?_
  refine sh_getR (i := 1) (j := b + 5) C hb (by decide) rfl wd_31 dX1_goOn_1 ?_
  refine v_iconst (v := 2) C dX1_goOn_4 (by decide) ?_
  refine sh_trS C 2 hb rfl (by decide) dX1_goOn_5 ?_
  refine v_iload_n C 1 dX1_goOn_6 rfl rfl ?_
  refine s_ald (k := 8) C hL (by decide) (tb_tr hb (r := 2) (by decide)) dX1_goOn_7 hf (fun a1 hf => ?_)
  refine v_istore_n (lv' := [(0, .ref (ad B b)), (1, .int v1), (2, .int a1)]) C [1, 2, 0] dX1_goOn_8 rfl (by decide) rfl ?_
  refine v_aload_n C 0 dX1_goOn_9 rfl rfl ?_
  refine sh_getR (i := 1) (j := b + 5) C hb (by decide) rfl wd_31 dX1_goOn_10 ?_
  refine v_iconst (v := 1) C dX1_goOn_13 (by decide) ?_
  refine sh_trS C 1 hb rfl (by decide) dX1_goOn_14 ?_
  refine v_iload_n C 1 dX1_goOn_15 rfl rfl ?_
  refine s_ald (k := 7) C hL (by decide) (tb_tr hb (r := 1) (by decide)) dX1_goOn_16 hf (fun a2 hf => ?_)
  refine v_iload_n C 2 dX1_goOn_17 rfl rfl ?_
  refine v_iconst (v := 1) C dX1_goOn_18 (by decide) ?_
  refine v_icmp_ne (tgt := 30) C dX1_goOn_19 (by decide) hf (fun hf => ?_) (fun hf => ?_)
  · refine v_aload_n C 0 dX1_goOn_30 rfl rfl ?_
    refine v_iload_n C 1 dX1_goOn_31 rfl rfl ?_
    obtain ⟨y3, hy3, hf⟩ := bnd hf
    refine v_callV (r := some (.int y3)) (As := [.int v1]) (rest := [.int a2]) (K := b) C (mX1_strides hb hL hy3) cw_X1_strides wd_253 (by have := Sb.le hb; omega) (tb_o hb) rfl ⟨Nat.le_of_ble_eq_true rfl, Nat.le_of_ble_eq_true rfl⟩ rfl rfl (Nat.le_of_ble_eq_true rfl) dX1_goOn_32 ?_
    refine v_ineg C dX1_goOn_35 ?_
    exact tX1_goOn_36 C hb hL hQ hf
  · refine v_aload_n C 0 dX1_goOn_22 rfl rfl ?_
    refine v_iload_n C 1 dX1_goOn_23 rfl rfl ?_
    obtain ⟨y16, hy16, hf⟩ := bnd hf
    refine v_callV (r := some (.int y16)) (As := [.int v1]) (rest := [.int a2]) (K := b) C (mX1_strides hb hL hy16) cw_X1_strides wd_253 (by have := Sb.le hb; omega) (tb_o hb) rfl ⟨Nat.le_of_ble_eq_true rfl, Nat.le_of_ble_eq_true rfl⟩ rfl rfl (Nat.le_of_ble_eq_true rfl) dX1_goOn_24 ?_
    refine v_goto (tgt := 36) C dX1_goOn_27 (by decide) ?_
    exact tX1_goOn_36 C hb hL hQ hf
theorem mX1_goOn {B : BB} {l : Launch} {L : St2 → St2} {b : Nat} {x : St2} {v1 : Int32} {res : St2} (hb : Sb b) (hL : Ln b 13 L) (hf : fX1_goOn x v1 = some res) : Ret l B yX1_goOn cX1_goOn 5 none 2 44 [.ref (ad B b), .int v1] (L x) none (L res) := ret_of (own := RX1) (by decide) rfl (Nat.le_of_ble_eq_true rfl) (fun E C hQ => tX1_goOn C hb hL hQ hf)
theorem nX1_goOn {B : BB} {l : Launch} {L : St2 → St2} {b : Nat} {κ : St2} {v1 : Int32} {res : St2} (hL : LnC L) (hb : Sb b) (hf : fX1_goOn (vw κ b) v1 = some res) : Ret l B yX1_goOn cX1_goOn 5 none 2 44 [.ref (ad B b), .int v1] (L κ) none (L (putS κ b res)) := by
  have h : Ret l B yX1_goOn cX1_goOn 5 none 2 44 [.ref (ad B b), .int v1] (L (putS κ b (vw κ b))) none (L (putS κ b res)) := mX1_goOn (L := fun z => L (putS κ b z)) (x := vw κ b) hb (lnS_of hL hb κ) hf
  rw [putS_vw] at h
  exact h
def fX1_comeTide_66 (N : Nat) (k4 : St2 → Int32 → Int32 → Option (Int32 × St2)) (x : St2) (v1 : Int32) (v2 : Int32) : Option (Int32 × St2) := k4 x v1 (v2 + 1)
set_option maxHeartbeats 4000000 in
set_option maxRecDepth 100000 in
theorem tX1_comeTide_66 {E : EE} {B : BB} {l : Launch} {L : St2 → St2} {b : Nat} {N : Nat} {k4 : St2 → Int32 → Int32 → Option (Int32 × St2)} {x : St2} {v1 : Int32} {v2 : Int32} {res : (Int32 × St2)} (C : Cx E B l cX1_comeTide RX1 (some .int) 3 2 45) (hb : Sb b) (hL : Ln b 13 L) (hQ : Fin9 E B (some (.int res.1)) (L res.2)) (hk4 : ∀ (x : St2) (v1 : Int32) (v2 : Int32), k4 x v1 v2 = some res → V E B (L x) 4 [(0, .ref (ad B b)), (1, .int v1), (2, .int v2)] []) (hf : fX1_comeTide_66 N k4 x v1 v2 = some res) : V E B (L x) 66 [(0, .ref (ad B b)), (1, .int v1), (2, .int v2)] [] := by
  unfold fX1_comeTide_66 at hf
  refine v_iinc (q := 2) (v := v2 + 1) (lv' := [(0, .ref (ad B b)), (1, .int v1), (2, .int (v2 + 1))]) C [1, 2, 0] dX1_comeTide_66 rfl rfl (by decide) rfl ?_
  refine v_goto (tgt := 4) C dX1_comeTide_69 (by decide) ?_
  exact hk4 x v1 (v2 + 1) hf
def fX1_comeTide_4 (N : Nat) : Nat → St2 → Int32 → Int32 → Option (Int32 × St2)
  | 0, _, _, _ => none
  | n + 1, x, v1, v2 => if (x 0 4) ≤ v2 then (some (v1, x)) else (if 24 ≤ v2 then (some (v1, x)) else ((rd (x 3) 24 v2).bind fun a1 => if a1 < 8 then ((rd (x 2) 24 v2).bind fun a2 => if a2 = (-1) then (fX1_comeTide_66 N (fX1_comeTide_4 N n) x v1 v2) else ((fX1_clear x v2).bind fun y4 => fX1_comeTide_66 N (fX1_comeTide_4 N n) y4 (v1 + 1) v2)) else ((rd (x 3) 24 v2).bind fun a6 => (wr x 3 24 v2 (a6 - 1)).bind fun x7 => fX1_comeTide_66 N (fX1_comeTide_4 N n) x7 v1 v2)))
set_option maxHeartbeats 4000000 in
set_option maxRecDepth 100000 in
theorem tX1_comeTide_4 {E : EE} {B : BB} {l : Launch} {L : St2 → St2} {b : Nat} {N : Nat} {res : (Int32 × St2)} (C : Cx E B l cX1_comeTide RX1 (some .int) 3 2 45) (hb : Sb b) (hL : Ln b 13 L) (hQ : Fin9 E B (some (.int res.1)) (L res.2)) : ∀ (n : Nat) (x : St2) (v1 : Int32) (v2 : Int32), fX1_comeTide_4 N n x v1 v2 = some res → V E B (L x) 4 [(0, .ref (ad B b)), (1, .int v1), (2, .int v2)] [] := by
  intro n
  induction n with
  | zero =>
    intro x v1 v2 hf
    cases hf
  | succ n ih =>
    intro x v1 v2 hf
    rw [fX1_comeTide_4] at hf
    refine v_iload_n C 2 dX1_comeTide_4 rfl rfl ?_
    refine v_aload_n C 0 dX1_comeTide_5 rfl rfl ?_
    refine sh_getI (i := 4) C hb hL (by decide) rfl wd_39 dX1_comeTide_6 ?_
    refine v_icmp_ge (tgt := 72) C dX1_comeTide_9 (by decide) hf (fun hf => ?_) (fun hf => ?_)
    · refine v_iload_n C 1 dX1_comeTide_72 rfl rfl ?_
      exact v_iret C dX1_comeTide_73 (fin_im hf hQ)
    · refine v_iload_n C 2 dX1_comeTide_12 rfl rfl ?_
      refine v_bipush (v := 24) C dX1_comeTide_13 (by decide) ?_
      refine v_icmp_ge (tgt := 72) C dX1_comeTide_15 (by decide) hf (fun hf => ?_) (fun hf => ?_)
      · refine v_iload_n C 1 dX1_comeTide_72 rfl rfl ?_
        exact v_iret C dX1_comeTide_73 (fin_im hf hQ)
      · refine v_aload_n C 0 dX1_comeTide_18 rfl rfl ?_
        refine sh_getR (i := 0) (j := b + 1) C hb (by decide) rfl wd_29 dX1_comeTide_19 ?_
        refine v_iconst (v := 1) C dX1_comeTide_22 (by decide) ?_
        refine sh_prS C 1 hb rfl (by decide) dX1_comeTide_23 ?_
        refine v_iload_n C 2 dX1_comeTide_24 rfl rfl ?_
        refine s_ald (k := 3) C hL (by decide) (tb_pr hb (r := 1) (by decide)) dX1_comeTide_25 hf (fun a1 hf => ?_)
        refine v_bipush (v := 8) C dX1_comeTide_26 (by decide) ?_
        refine v_icmp_lt (tgt := 46) C dX1_comeTide_28 (by decide) hf (fun hf => ?_) (fun hf => ?_)
        · refine v_aload_n C 0 dX1_comeTide_46 rfl rfl ?_
          refine sh_getR (i := 0) (j := b + 1) C hb (by decide) rfl wd_29 dX1_comeTide_47 ?_
          refine v_iconst (v := 0) C dX1_comeTide_50 (by decide) ?_
          refine sh_prS C 0 hb rfl (by decide) dX1_comeTide_51 ?_
          refine v_iload_n C 2 dX1_comeTide_52 rfl rfl ?_
          refine s_ald (k := 2) C hL (by decide) (tb_pr hb (r := 0) (by decide)) dX1_comeTide_53 hf (fun a2 hf => ?_)
          refine v_iconst (v := (-1)) C dX1_comeTide_54 (by decide) ?_
          refine v_icmp_eq (tgt := 66) C dX1_comeTide_55 (by decide) hf (fun hf => ?_) (fun hf => ?_)
          · exact tX1_comeTide_66 C hb hL hQ ih hf
          · refine v_aload_n C 0 dX1_comeTide_58 rfl rfl ?_
            refine v_iload_n C 2 dX1_comeTide_59 rfl rfl ?_
            obtain ⟨y4, hy4, hf⟩ := bnd hf
            refine v_callV (r := none) (As := [.int v2]) (rest := []) (K := b) C (mX1_clear hb hL hy4) cw_X1_clear wd_183 (by have := Sb.le hb; omega) (tb_o hb) rfl ⟨Nat.le_of_ble_eq_true rfl, Nat.le_of_ble_eq_true rfl⟩ rfl rfl (Nat.le_of_ble_eq_true rfl) dX1_comeTide_60 ?_
            refine v_iinc (q := 1) (v := v1 + 1) (lv' := [(0, .ref (ad B b)), (1, .int (v1 + 1)), (2, .int v2)]) C [1, 0, 2] dX1_comeTide_63 rfl rfl (by decide) rfl ?_
            exact tX1_comeTide_66 C hb hL hQ ih hf
        · refine v_aload_n C 0 dX1_comeTide_31 rfl rfl ?_
          refine sh_getR (i := 0) (j := b + 1) C hb (by decide) rfl wd_29 dX1_comeTide_32 ?_
          refine v_iconst (v := 1) C dX1_comeTide_35 (by decide) ?_
          refine sh_prS C 1 hb rfl (by decide) dX1_comeTide_36 ?_
          refine v_iload_n C 2 dX1_comeTide_37 rfl rfl ?_
          refine v_dup2 C dX1_comeTide_38 rfl rfl ?_
          refine s_ald (k := 3) C hL (by decide) (tb_pr hb (r := 1) (by decide)) dX1_comeTide_39 hf (fun a6 hf => ?_)
          refine v_iconst (v := 1) C dX1_comeTide_40 (by decide) ?_
          refine v_isub C dX1_comeTide_41 ?_
          refine s_ast (k := 3) C hL (by decide) (tb_pr hb (r := 1) (by decide)) dX1_comeTide_42 hf (fun x7 hf => ?_)
          refine v_goto (tgt := 66) C dX1_comeTide_43 (by decide) ?_
          exact tX1_comeTide_66 C hb hL hQ ih hf
def fX1_comeTide (N : Nat) (x : St2) : Option (Int32 × St2) := fX1_comeTide_4 N N x 0 0
set_option maxHeartbeats 4000000 in
set_option maxRecDepth 100000 in
theorem tX1_comeTide {E : EE} {B : BB} {l : Launch} {L : St2 → St2} {b : Nat} {N : Nat} {x : St2} {res : (Int32 × St2)} (C : Cx E B l cX1_comeTide RX1 (some .int) 3 2 45) (hb : Sb b) (hL : Ln b 13 L) (hQ : Fin9 E B (some (.int res.1)) (L res.2)) (hf : fX1_comeTide N x = some res) : V E B (L x) 0 [(0, .ref (ad B b))] [] := by
  unfold fX1_comeTide at hf
  refine v_iconst (v := 0) C dX1_comeTide_0 (by decide) ?_
  refine v_istore_n (lv' := [(0, .ref (ad B b)), (1, .int 0)]) C [1, 0] dX1_comeTide_1 rfl (by decide) rfl ?_
  refine v_iconst (v := 0) C dX1_comeTide_2 (by decide) ?_
  refine v_istore_n (lv' := [(0, .ref (ad B b)), (1, .int 0), (2, .int 0)]) C [1, 2, 0] dX1_comeTide_3 rfl (by decide) rfl ?_
  exact tX1_comeTide_4 C hb hL hQ N x 0 0 hf
theorem mX1_comeTide {B : BB} {l : Launch} {L : St2 → St2} {b : Nat} {N : Nat} {x : St2} {res : (Int32 × St2)} (hb : Sb b) (hL : Ln b 13 L) (hf : fX1_comeTide N x = some res) : Ret l B yX1_comeTide cX1_comeTide 3 (some .int) 2 45 [.ref (ad B b)] (L x) (some (.int res.1)) (L res.2) := ret_of (own := RX1) (by decide) rfl (Nat.le_of_ble_eq_true rfl) (fun E C hQ => tX1_comeTide C hb hL hQ hf)
theorem nX1_comeTide {B : BB} {l : Launch} {L : St2 → St2} {b : Nat} {N : Nat} {κ : St2} {res : (Int32 × St2)} (hL : LnC L) (hb : Sb b) (hf : fX1_comeTide N (vw κ b) = some res) : Ret l B yX1_comeTide cX1_comeTide 3 (some .int) 2 45 [.ref (ad B b)] (L κ) (some (.int res.1)) (L (putS κ b res.2)) := by
  have h : Ret l B yX1_comeTide cX1_comeTide 3 (some .int) 2 45 [.ref (ad B b)] (L (putS κ b (vw κ b))) (some (.int res.1)) (L (putS κ b res.2)) := mX1_comeTide (L := fun z => L (putS κ b z)) (x := vw κ b) hb (lnS_of hL hb κ) hf
  rw [putS_vw] at h
  exact h
def fX1_passHour_23 (N : Nat) (k2 : St2 → Int32 → Option St2) (x : St2) (v1 : Int32) (v2 : Int32) : Option St2 := k2 x (v2 + 1)
set_option maxHeartbeats 4000000 in
set_option maxRecDepth 100000 in
theorem tX1_passHour_23 {E : EE} {B : BB} {l : Launch} {L : St2 → St2} {b : Nat} {N : Nat} {k2 : St2 → Int32 → Option St2} {x : St2} {v1 : Int32} {v2 : Int32} {res : St2} (C : Cx E B l cX1_passHour RX1 none 3 3 68) (hb : Sb b) (hL : Ln b 13 L) (hQ : Fin9 E B none (L res)) (hk2 : ∀ (x : St2) (v2 : Int32), k2 x v2 = some res → V E B (L x) 2 [(0, .ref (ad B b)), (1, .int v1), (2, .int v2)] []) (hf : fX1_passHour_23 N k2 x v1 v2 = some res) : V E B (L x) 23 [(0, .ref (ad B b)), (1, .int v1), (2, .int v2)] [] := by
  unfold fX1_passHour_23 at hf
  refine v_iinc (q := 2) (v := v2 + 1) (lv' := [(0, .ref (ad B b)), (1, .int v1), (2, .int (v2 + 1))]) C [1, 2, 0] dX1_passHour_23 rfl rfl (by decide) rfl ?_
  refine v_goto (tgt := 2) C dX1_passHour_26 (by decide) ?_
  exact hk2 x (v2 + 1) hf
def fX1_passHour_2 (N : Nat) (v1 : Int32) : Nat → St2 → Int32 → Option St2
  | 0, _, _ => none
  | n + 1, x, v2 => if (x 0 3) ≤ v2 then ((pf x 0 6 (imin 99999 ((x 0 6) + 1))).bind fun x1 => if ((x1 0 6) - (x1 0 6) / 6 * 6) = 0 then ((fX1_comeTide N x1).bind fun y2 => some y2.2) else (some x1)) else (if ((v1 >>> (v2 &&& 31)) &&& 1) = 0 then ((fX1_goOn x v2).bind fun y4 => fX1_passHour_23 N (fX1_passHour_2 N v1 n) y4 v1 v2) else (fX1_passHour_23 N (fX1_passHour_2 N v1 n) x v1 v2))
set_option maxHeartbeats 4000000 in
set_option maxRecDepth 100000 in
theorem tX1_passHour_2 {E : EE} {B : BB} {l : Launch} {L : St2 → St2} {b : Nat} {N : Nat} {v1 : Int32} {res : St2} (C : Cx E B l cX1_passHour RX1 none 3 3 68) (hb : Sb b) (hL : Ln b 13 L) (hQ : Fin9 E B none (L res)) : ∀ (n : Nat) (x : St2) (v2 : Int32), fX1_passHour_2 N v1 n x v2 = some res → V E B (L x) 2 [(0, .ref (ad B b)), (1, .int v1), (2, .int v2)] [] := by
  intro n
  induction n with
  | zero =>
    intro x v2 hf
    cases hf
  | succ n ih =>
    intro x v2 hf
    rw [fX1_passHour_2] at hf
    refine v_iload_n C 2 dX1_passHour_2 rfl rfl ?_
    refine v_aload_n C 0 dX1_passHour_3 rfl rfl ?_
    refine sh_getI (i := 3) C hb hL (by decide) rfl wd_36 dX1_passHour_4 ?_
    refine v_icmp_ge (tgt := 29) C dX1_passHour_7 (by decide) hf (fun hf => ?_) (fun hf => ?_)
    · refine v_aload_n C 0 dX1_passHour_29 rfl rfl ?_
      refine v_ldc C wd_254 dX1_passHour_30 ?_
      refine v_aload_n C 0 dX1_passHour_32 rfl rfl ?_
      refine sh_getI (i := 6) C hb hL (by decide) rfl wd_44 dX1_passHour_33 ?_
      refine v_iconst (v := 1) C dX1_passHour_36 (by decide) ?_
      refine v_iadd C dX1_passHour_37 ?_
      refine w_mmin C wd_216 (by decide) (Nat.le_of_ble_eq_true rfl) dX1_passHour_38 ?_
      refine sh_putI (i := 6) C hb hL (by decide) rfl wd_44 rfl (by decide +kernel) dX1_passHour_41 hf (fun x1 hf => ?_)
      refine v_aload_n C 0 dX1_passHour_44 rfl rfl ?_
      refine sh_getI (i := 6) C hb hL (by decide) rfl wd_44 dX1_passHour_45 ?_
      refine v_bipush (v := 6) C dX1_passHour_48 (by decide) ?_
      refine v_irem C dX1_passHour_50 (by decide) ?_
      refine v_if_ne (tgt := 59) C dX1_passHour_51 (by decide) hf (fun hf => ?_) (fun hf => ?_)
      · exact v_vret C dX1_passHour_59 (fin_v hf hQ)
      · refine v_aload_n C 0 dX1_passHour_54 rfl rfl ?_
        obtain ⟨y2, hy2, hf⟩ := bnd hf
        refine v_callV (r := some (.int y2.1)) (As := []) (rest := []) (K := b) C (mX1_comeTide hb hL hy2) cw_X1_comeTide wd_257 (by have := Sb.le hb; omega) (tb_o hb) rfl ⟨Nat.le_of_ble_eq_true rfl, Nat.le_of_ble_eq_true rfl⟩ rfl rfl (Nat.le_of_ble_eq_true rfl) dX1_passHour_55 ?_
        refine v_pop C dX1_passHour_58 rfl ?_
        exact v_vret C dX1_passHour_59 (fin_v hf hQ)
    · refine v_iload_n C 1 dX1_passHour_10 rfl rfl ?_
      refine v_iload_n C 2 dX1_passHour_11 rfl rfl ?_
      refine v_ishr C dX1_passHour_12 ?_
      refine v_iconst (v := 1) C dX1_passHour_13 (by decide) ?_
      refine v_iand C dX1_passHour_14 ?_
      refine v_if_ne (tgt := 23) C dX1_passHour_15 (by decide) hf (fun hf => ?_) (fun hf => ?_)
      · exact tX1_passHour_23 C hb hL hQ ih hf
      · refine v_aload_n C 0 dX1_passHour_18 rfl rfl ?_
        refine v_iload_n C 2 dX1_passHour_19 rfl rfl ?_
        obtain ⟨y4, hy4, hf⟩ := bnd hf
        refine v_callV (r := none) (As := [.int v2]) (rest := []) (K := b) C (mX1_goOn hb hL hy4) cw_X1_goOn wd_249 (by have := Sb.le hb; omega) (tb_o hb) rfl ⟨Nat.le_of_ble_eq_true rfl, Nat.le_of_ble_eq_true rfl⟩ rfl rfl (Nat.le_of_ble_eq_true rfl) dX1_passHour_20 ?_
        exact tX1_passHour_23 C hb hL hQ ih hf
def fX1_passHour (N : Nat) (x : St2) (v1 : Int32) : Option St2 := fX1_passHour_2 N v1 N x 0
set_option maxHeartbeats 4000000 in
set_option maxRecDepth 100000 in
theorem tX1_passHour {E : EE} {B : BB} {l : Launch} {L : St2 → St2} {b : Nat} {N : Nat} {x : St2} {v1 : Int32} {res : St2} (C : Cx E B l cX1_passHour RX1 none 3 3 68) (hb : Sb b) (hL : Ln b 13 L) (hQ : Fin9 E B none (L res)) (hf : fX1_passHour N x v1 = some res) : V E B (L x) 0 [(0, .ref (ad B b)), (1, .int v1)] [] := by
  unfold fX1_passHour at hf
  refine v_iconst (v := 0) C dX1_passHour_0 (by decide) ?_
  refine v_istore_n (lv' := [(0, .ref (ad B b)), (1, .int v1), (2, .int 0)]) C [1, 2, 0] dX1_passHour_1 rfl (by decide) rfl ?_
  exact tX1_passHour_2 C hb hL hQ N x 0 hf
theorem mX1_passHour {B : BB} {l : Launch} {L : St2 → St2} {b : Nat} {N : Nat} {x : St2} {v1 : Int32} {res : St2} (hb : Sb b) (hL : Ln b 13 L) (hf : fX1_passHour N x v1 = some res) : Ret l B yX1_passHour cX1_passHour 3 none 3 68 [.ref (ad B b), .int v1] (L x) none (L res) := ret_of (own := RX1) (by decide) rfl (Nat.le_of_ble_eq_true rfl) (fun E C hQ => tX1_passHour C hb hL hQ hf)
theorem nX1_passHour {B : BB} {l : Launch} {L : St2 → St2} {b : Nat} {N : Nat} {κ : St2} {v1 : Int32} {res : St2} (hL : LnC L) (hb : Sb b) (hf : fX1_passHour N (vw κ b) v1 = some res) : Ret l B yX1_passHour cX1_passHour 3 none 3 68 [.ref (ad B b), .int v1] (L κ) none (L (putS κ b res)) := by
  have h : Ret l B yX1_passHour cX1_passHour 3 none 3 68 [.ref (ad B b), .int v1] (L (putS κ b (vw κ b))) none (L (putS κ b res)) := mX1_passHour (L := fun z => L (putS κ b z)) (x := vw κ b) hb (lnS_of hL hb κ) hf
  rw [putS_vw] at h
  exact h
def fX1_passHours_2 (N : Nat) (v1 : Int32) (v2 : Int32) : Nat → St2 → Int32 → Option St2
  | 0, _, _ => none
  | n + 1, x, v3 => if v1 ≤ v3 then (some x) else ((fX1_passHour N x v2).bind fun y1 => (fX1_passHours_2 N v1 v2 n) y1 (v3 + 1))
set_option maxHeartbeats 4000000 in
set_option maxRecDepth 100000 in
theorem tX1_passHours_2 {E : EE} {B : BB} {l : Launch} {L : St2 → St2} {b : Nat} {N : Nat} {v1 : Int32} {v2 : Int32} {res : St2} (C : Cx E B l cX1_passHours RX1 none 4 4 90) (hb : Sb b) (hL : Ln b 13 L) (hQ : Fin9 E B none (L res)) : ∀ (n : Nat) (x : St2) (v3 : Int32), fX1_passHours_2 N v1 v2 n x v3 = some res → V E B (L x) 2 [(0, .ref (ad B b)), (1, .int v1), (2, .int v2), (3, .int v3)] [] := by
  intro n
  induction n with
  | zero =>
    intro x v3 hf
    cases hf
  | succ n ih =>
    intro x v3 hf
    rw [fX1_passHours_2] at hf
    refine v_iload_n C 3 dX1_passHours_2 rfl rfl ?_
    refine v_iload_n C 1 dX1_passHours_3 rfl rfl ?_
    refine v_icmp_ge (tgt := 18) C dX1_passHours_4 (by decide) hf (fun hf => ?_) (fun hf => ?_)
    · exact v_vret C dX1_passHours_18 (fin_v hf hQ)
    · refine v_aload_n C 0 dX1_passHours_7 rfl rfl ?_
      refine v_iload_n C 2 dX1_passHours_8 rfl rfl ?_
      obtain ⟨y1, hy1, hf⟩ := bnd hf
      refine v_callV (r := none) (As := [.int v2]) (rest := []) (K := b) C (mX1_passHour hb hL hy1) cw_X1_passHour wd_245 (by have := Sb.le hb; omega) (tb_o hb) rfl ⟨Nat.le_of_ble_eq_true rfl, Nat.le_of_ble_eq_true rfl⟩ rfl rfl (Nat.le_of_ble_eq_true rfl) dX1_passHours_9 ?_
      refine v_iinc (q := 3) (v := v3 + 1) (lv' := [(0, .ref (ad B b)), (1, .int v1), (2, .int v2), (3, .int (v3 + 1))]) C [1, 2, 3, 0] dX1_passHours_12 rfl rfl (by decide) rfl ?_
      refine v_goto (tgt := 2) C dX1_passHours_15 (by decide) ?_
      exact ih y1 (v3 + 1) hf
def fX1_passHours (N : Nat) (x : St2) (v1 : Int32) (v2 : Int32) : Option St2 := fX1_passHours_2 N v1 v2 N x 0
set_option maxHeartbeats 4000000 in
set_option maxRecDepth 100000 in
theorem tX1_passHours {E : EE} {B : BB} {l : Launch} {L : St2 → St2} {b : Nat} {N : Nat} {x : St2} {v1 : Int32} {v2 : Int32} {res : St2} (C : Cx E B l cX1_passHours RX1 none 4 4 90) (hb : Sb b) (hL : Ln b 13 L) (hQ : Fin9 E B none (L res)) (hf : fX1_passHours N x v1 v2 = some res) : V E B (L x) 0 [(0, .ref (ad B b)), (1, .int v1), (2, .int v2)] [] := by
  unfold fX1_passHours at hf
  refine v_iconst (v := 0) C dX1_passHours_0 (by decide) ?_
  refine v_istore_n (lv' := [(0, .ref (ad B b)), (1, .int v1), (2, .int v2), (3, .int 0)]) C [1, 2, 3, 0] dX1_passHours_1 rfl (by decide) rfl ?_
  exact tX1_passHours_2 C hb hL hQ N x 0 hf
theorem mX1_passHours {B : BB} {l : Launch} {L : St2 → St2} {b : Nat} {N : Nat} {x : St2} {v1 : Int32} {v2 : Int32} {res : St2} (hb : Sb b) (hL : Ln b 13 L) (hf : fX1_passHours N x v1 v2 = some res) : Ret l B yX1_passHours cX1_passHours 4 none 4 90 [.ref (ad B b), .int v1, .int v2] (L x) none (L res) := ret_of (own := RX1) (by decide) rfl (Nat.le_of_ble_eq_true rfl) (fun E C hQ => tX1_passHours C hb hL hQ hf)
theorem nX1_passHours {B : BB} {l : Launch} {L : St2 → St2} {b : Nat} {N : Nat} {κ : St2} {v1 : Int32} {v2 : Int32} {res : St2} (hL : LnC L) (hb : Sb b) (hf : fX1_passHours N (vw κ b) v1 v2 = some res) : Ret l B yX1_passHours cX1_passHours 4 none 4 90 [.ref (ad B b), .int v1, .int v2] (L κ) none (L (putS κ b res)) := by
  have h : Ret l B yX1_passHours cX1_passHours 4 none 4 90 [.ref (ad B b), .int v1, .int v2] (L (putS κ b (vw κ b))) none (L (putS κ b res)) := mX1_passHours (L := fun z => L (putS κ b z)) (x := vw κ b) hb (lnS_of hL hb κ) hf
  rw [putS_vw] at h
  exact h
def fX1_draw (x : St2) : Option (Int32 × St2) := (pf x 0 7 (((x 0 7) * 1103515245) + 12345)).bind fun x1 => some ((((x1 0 7).toUInt32 >>> ((8 : Int32).toUInt32 &&& Int32.toUInt32 31)).toInt32), x1)
set_option maxHeartbeats 4000000 in
set_option maxRecDepth 100000 in
theorem tX1_draw {E : EE} {B : BB} {l : Launch} {L : St2 → St2} {b : Nat} {x : St2} {res : (Int32 × St2)} (C : Cx E B l cX1_draw RX1 (some .int) 1 0 0) (hb : Sb b) (hL : Ln b 13 L) (hQ : Fin9 E B (some (.int res.1)) (L res.2)) (hf : fX1_draw x = some res) : V E B (L x) 0 [(0, .ref (ad B b))] [] := by
  unfold fX1_draw at hf
  refine v_aload_n C 0 dX1_draw_0 rfl rfl ?_
  refine v_aload_n C 0 dX1_draw_1 rfl rfl ?_
  refine sh_getI (i := 7) C hb hL (by decide) rfl wd_46 dX1_draw_2 ?_
  refine v_ldc C wd_434 dX1_draw_5 ?_
  refine v_imul C dX1_draw_7 ?_
  refine v_sipush (v := 12345) C dX1_draw_8 (by decide) ?_
  refine v_iadd C dX1_draw_11 ?_
  refine sh_putI (i := 7) C hb hL (by decide) rfl wd_46 rfl (by decide +kernel) dX1_draw_12 hf (fun x1 hf => ?_)
  refine v_aload_n C 0 dX1_draw_15 rfl rfl ?_
  refine sh_getI (i := 7) C hb hL (by decide) rfl wd_46 dX1_draw_16 ?_
  refine v_bipush (v := 8) C dX1_draw_19 (by decide) ?_
  refine v_iushr C dX1_draw_21 ?_
  exact v_iret C dX1_draw_22 (fin_im hf hQ)
theorem mX1_draw {B : BB} {l : Launch} {L : St2 → St2} {b : Nat} {x : St2} {res : (Int32 × St2)} (hb : Sb b) (hL : Ln b 13 L) (hf : fX1_draw x = some res) : Ret l B yX1_draw cX1_draw 1 (some .int) 0 0 [.ref (ad B b)] (L x) (some (.int res.1)) (L res.2) := ret_of (own := RX1) (by decide) rfl (Nat.le_of_ble_eq_true rfl) (fun E C hQ => tX1_draw C hb hL hQ hf)
theorem nX1_draw {B : BB} {l : Launch} {L : St2 → St2} {b : Nat} {κ : St2} {res : (Int32 × St2)} (hL : LnC L) (hb : Sb b) (hf : fX1_draw (vw κ b) = some res) : Ret l B yX1_draw cX1_draw 1 (some .int) 0 0 [.ref (ad B b)] (L κ) (some (.int res.1)) (L (putS κ b res.2)) := by
  have h : Ret l B yX1_draw cX1_draw 1 (some .int) 0 0 [.ref (ad B b)] (L (putS κ b (vw κ b))) (some (.int res.1)) (L (putS κ b res.2)) := mX1_draw (L := fun z => L (putS κ b z)) (x := vw κ b) hb (lnS_of hL hb κ) hf
  rw [putS_vw] at h
  exact h
def fX1_passDrawnHour (N : Nat) (x : St2) : Option St2 := (fX1_draw x).bind fun y1 => (pf y1.2 0 4 (y1.1 - y1.1 / 25 * 25)).bind fun x2 => (fX1_draw x2).bind fun y3 => (some (y3.1 - y3.1 / 8 * 8)).bind fun w4 => (fX1_isWalker y3.2 w4).bind fun y5 => if y5 = 0 then ((fX1_passHour N y3.2 0).bind fun y6 => some y6) else ((rd (tv 2) 6 3).bind fun a7 => (rd (y3.2 9) 8 w4).bind fun a8 => (wr y3.2 9 8 w4 (imin a7 (a8 + 1))).bind fun x9 => (fX1_passHour N x9 0).bind fun y10 => some y10)
set_option maxHeartbeats 4000000 in
set_option maxRecDepth 100000 in
theorem tX1_passDrawnHour {E : EE} {B : BB} {l : Launch} {L : St2 → St2} {b : Nat} {N : Nat} {x : St2} {res : St2} (C : Cx E B l cX1_passDrawnHour RX1 none 2 4 90) (hb : Sb b) (hL : Ln b 13 L) (hQ : Fin9 E B none (L res)) (hf : fX1_passDrawnHour N x = some res) : V E B (L x) 0 [(0, .ref (ad B b))] [] := by
  unfold fX1_passDrawnHour at hf
  refine v_aload_n C 0 dX1_passDrawnHour_0 rfl rfl ?_
  refine v_aload_n C 0 dX1_passDrawnHour_1 rfl rfl ?_
  obtain ⟨y1, hy1, hf⟩ := bnd hf
  refine v_callV (r := some (.int y1.1)) (As := []) (rest := [.ref (ad B b)]) (K := b) C (mX1_draw hb hL hy1) cw_X1_draw wd_430 (by have := Sb.le hb; omega) (tb_o hb) rfl ⟨Nat.le_of_ble_eq_true rfl, Nat.le_of_ble_eq_true rfl⟩ rfl rfl (Nat.le_of_ble_eq_true rfl) dX1_passDrawnHour_2 ?_
  refine v_bipush (v := 25) C dX1_passDrawnHour_5 (by decide) ?_
  refine v_irem C dX1_passDrawnHour_7 (by decide) ?_
  refine sh_putI (i := 4) C hb hL (by decide) rfl wd_39 rfl (by decide +kernel) dX1_passDrawnHour_8 hf (fun x2 hf => ?_)
  refine v_aload_n C 0 dX1_passDrawnHour_11 rfl rfl ?_
  obtain ⟨y3, hy3, hf⟩ := bnd hf
  refine v_callV (r := some (.int y3.1)) (As := []) (rest := []) (K := b) C (mX1_draw hb hL hy3) cw_X1_draw wd_430 (by have := Sb.le hb; omega) (tb_o hb) rfl ⟨Nat.le_of_ble_eq_true rfl, Nat.le_of_ble_eq_true rfl⟩ rfl rfl (Nat.le_of_ble_eq_true rfl) dX1_passDrawnHour_12 ?_
  refine v_bipush (v := 8) C dX1_passDrawnHour_15 (by decide) ?_
  refine v_irem C dX1_passDrawnHour_17 (by decide) ?_
  refine v_top hf (fun w4 hf => ?_)
  refine v_istore_n (lv' := [(0, .ref (ad B b)), (1, .int w4)]) C [1, 0] dX1_passDrawnHour_18 rfl (by decide) rfl ?_
  refine v_aload_n C 0 dX1_passDrawnHour_19 rfl rfl ?_
  refine v_iload_n C 1 dX1_passDrawnHour_20 rfl rfl ?_
  obtain ⟨y5, hy5, hf⟩ := bnd hf
  refine v_callV (r := some (.int y5)) (As := [.int w4]) (rest := []) (K := b) C (mX1_isWalker hb hL hy5) cw_X1_isWalker wd_435 (by have := Sb.le hb; omega) (tb_o hb) rfl ⟨Nat.le_of_ble_eq_true rfl, Nat.le_of_ble_eq_true rfl⟩ rfl rfl (Nat.le_of_ble_eq_true rfl) dX1_passDrawnHour_21 ?_
  refine v_if_eq (tgt := 53) C dX1_passDrawnHour_24 (by decide) hf (fun hf => ?_) (fun hf => ?_)
  · refine v_aload_n C 0 dX1_passDrawnHour_53 rfl rfl ?_
    refine v_iconst (v := 0) C dX1_passDrawnHour_54 (by decide) ?_
    obtain ⟨y6, hy6, hf⟩ := bnd hf
    refine v_callV (r := none) (As := [.int 0]) (rest := []) (K := b) C (mX1_passHour hb hL hy6) cw_X1_passHour wd_245 (by have := Sb.le hb; omega) (tb_o hb) rfl ⟨Nat.le_of_ble_eq_true rfl, Nat.le_of_ble_eq_true rfl⟩ rfl rfl (Nat.le_of_ble_eq_true rfl) dX1_passDrawnHour_55 ?_
    exact v_vret C dX1_passDrawnHour_58 (fin_v hf hQ)
  · refine v_aload_n C 0 dX1_passDrawnHour_27 rfl rfl ?_
    refine sh_getR (i := 1) (j := b + 5) C hb (by decide) rfl wd_31 dX1_passDrawnHour_28 ?_
    refine v_iconst (v := 3) C dX1_passDrawnHour_31 (by decide) ?_
    refine sh_trS C 3 hb rfl (by decide) dX1_passDrawnHour_32 ?_
    refine v_iload_n C 1 dX1_passDrawnHour_33 rfl rfl ?_
    refine g_getsN C (sz2 B) nf0 dX1_passDrawnHour_34 ?_
    refine v_iconst (v := 3) C dX1_passDrawnHour_37 (by decide) ?_
    refine t_ld2 C dX1_passDrawnHour_38 hf (fun a7 hf => ?_)
    refine v_aload_n C 0 dX1_passDrawnHour_39 rfl rfl ?_
    refine sh_getR (i := 1) (j := b + 5) C hb (by decide) rfl wd_31 dX1_passDrawnHour_40 ?_
    refine v_iconst (v := 3) C dX1_passDrawnHour_43 (by decide) ?_
    refine sh_trS C 3 hb rfl (by decide) dX1_passDrawnHour_44 ?_
    refine v_iload_n C 1 dX1_passDrawnHour_45 rfl rfl ?_
    refine s_ald (k := 9) C hL (by decide) (tb_tr hb (r := 3) (by decide)) dX1_passDrawnHour_46 hf (fun a8 hf => ?_)
    refine v_iconst (v := 1) C dX1_passDrawnHour_47 (by decide) ?_
    refine v_iadd C dX1_passDrawnHour_48 ?_
    refine w_mmin C wd_216 (by decide) (Nat.le_of_ble_eq_true rfl) dX1_passDrawnHour_49 ?_
    refine s_ast (k := 9) C hL (by decide) (tb_tr hb (r := 3) (by decide)) dX1_passDrawnHour_52 hf (fun x9 hf => ?_)
    refine v_aload_n C 0 dX1_passDrawnHour_53 rfl rfl ?_
    refine v_iconst (v := 0) C dX1_passDrawnHour_54 (by decide) ?_
    obtain ⟨y10, hy10, hf⟩ := bnd hf
    refine v_callV (r := none) (As := [.int 0]) (rest := []) (K := b) C (mX1_passHour hb hL hy10) cw_X1_passHour wd_245 (by have := Sb.le hb; omega) (tb_o hb) rfl ⟨Nat.le_of_ble_eq_true rfl, Nat.le_of_ble_eq_true rfl⟩ rfl rfl (Nat.le_of_ble_eq_true rfl) dX1_passDrawnHour_55 ?_
    exact v_vret C dX1_passDrawnHour_58 (fin_v hf hQ)
theorem mX1_passDrawnHour {B : BB} {l : Launch} {L : St2 → St2} {b : Nat} {N : Nat} {x : St2} {res : St2} (hb : Sb b) (hL : Ln b 13 L) (hf : fX1_passDrawnHour N x = some res) : Ret l B yX1_passDrawnHour cX1_passDrawnHour 2 none 4 90 [.ref (ad B b)] (L x) none (L res) := ret_of (own := RX1) (by decide) rfl (Nat.le_of_ble_eq_true rfl) (fun E C hQ => tX1_passDrawnHour C hb hL hQ hf)
theorem nX1_passDrawnHour {B : BB} {l : Launch} {L : St2 → St2} {b : Nat} {N : Nat} {κ : St2} {res : St2} (hL : LnC L) (hb : Sb b) (hf : fX1_passDrawnHour N (vw κ b) = some res) : Ret l B yX1_passDrawnHour cX1_passDrawnHour 2 none 4 90 [.ref (ad B b)] (L κ) none (L (putS κ b res)) := by
  have h : Ret l B yX1_passDrawnHour cX1_passDrawnHour 2 none 4 90 [.ref (ad B b)] (L (putS κ b (vw κ b))) none (L (putS κ b res)) := mX1_passDrawnHour (L := fun z => L (putS κ b z)) (x := vw κ b) hb (lnS_of hL hb κ) hf
  rw [putS_vw] at h
  exact h
def fX1_walkersAt_30 (N : Nat) (k4 : Int32 → Int32 → Option Int32) (x : St2) (v1 : Int32) (v2 : Int32) (v3 : Int32) : Option Int32 := k4 v2 (v3 + 1)
set_option maxHeartbeats 4000000 in
set_option maxRecDepth 100000 in
theorem tX1_walkersAt_30 {E : EE} {B : BB} {l : Launch} {L : St2 → St2} {b : Nat} {N : Nat} {k4 : Int32 → Int32 → Option Int32} {x : St2} {v1 : Int32} {v2 : Int32} {v3 : Int32} {res : Int32} (C : Cx E B l cX1_walkersAt RX1 (some .int) 4 0 0) (hb : Sb b) (hL : Ln b 13 L) (hQ : Fin9 E B (some (.int res)) (L x)) (hk4 : ∀ (v2 : Int32) (v3 : Int32), k4 v2 v3 = some res → V E B (L x) 4 [(0, .ref (ad B b)), (1, .int v1), (2, .int v2), (3, .int v3)] []) (hf : fX1_walkersAt_30 N k4 x v1 v2 v3 = some res) : V E B (L x) 30 [(0, .ref (ad B b)), (1, .int v1), (2, .int v2), (3, .int v3)] [] := by
  unfold fX1_walkersAt_30 at hf
  refine v_iinc (q := 3) (v := v3 + 1) (lv' := [(0, .ref (ad B b)), (1, .int v1), (2, .int v2), (3, .int (v3 + 1))]) C [1, 2, 3, 0] dX1_walkersAt_30 rfl rfl (by decide) rfl ?_
  refine v_goto (tgt := 4) C dX1_walkersAt_33 (by decide) ?_
  exact hk4 v2 (v3 + 1) hf
def fX1_walkersAt_4 (N : Nat) (x : St2) (v1 : Int32) : Nat → Int32 → Int32 → Option Int32
  | 0, _, _ => none
  | n + 1, v2, v3 => if (x 0 3) ≤ v3 then (some v2) else ((rd (x 7) 8 v3).bind fun a1 => if a1 = v1 then ((some (v2 ||| (1 <<< (v3 &&& 31)))).bind fun w3 => fX1_walkersAt_30 N (fX1_walkersAt_4 N x v1 n) x v1 w3 v3) else (fX1_walkersAt_30 N (fX1_walkersAt_4 N x v1 n) x v1 v2 v3))
set_option maxHeartbeats 4000000 in
set_option maxRecDepth 100000 in
theorem tX1_walkersAt_4 {E : EE} {B : BB} {l : Launch} {L : St2 → St2} {b : Nat} {N : Nat} {x : St2} {v1 : Int32} {res : Int32} (C : Cx E B l cX1_walkersAt RX1 (some .int) 4 0 0) (hb : Sb b) (hL : Ln b 13 L) (hQ : Fin9 E B (some (.int res)) (L x)) : ∀ (n : Nat) (v2 : Int32) (v3 : Int32), fX1_walkersAt_4 N x v1 n v2 v3 = some res → V E B (L x) 4 [(0, .ref (ad B b)), (1, .int v1), (2, .int v2), (3, .int v3)] [] := by
  intro n
  induction n with
  | zero =>
    intro v2 v3 hf
    cases hf
  | succ n ih =>
    intro v2 v3 hf
    rw [fX1_walkersAt_4] at hf
    refine v_iload_n C 3 dX1_walkersAt_4 rfl rfl ?_
    refine v_aload_n C 0 dX1_walkersAt_5 rfl rfl ?_
    refine sh_getI (i := 3) C hb hL (by decide) rfl wd_36 dX1_walkersAt_6 ?_
    refine v_icmp_ge (tgt := 36) C dX1_walkersAt_9 (by decide) hf (fun hf => ?_) (fun hf => ?_)
    · refine v_iload_n C 2 dX1_walkersAt_36 rfl rfl ?_
      exact v_iret C dX1_walkersAt_37 (fin_i hf hQ)
    · refine v_aload_n C 0 dX1_walkersAt_12 rfl rfl ?_
      refine sh_getR (i := 1) (j := b + 5) C hb (by decide) rfl wd_31 dX1_walkersAt_13 ?_
      refine v_iconst (v := 1) C dX1_walkersAt_16 (by decide) ?_
      refine sh_trS C 1 hb rfl (by decide) dX1_walkersAt_17 ?_
      refine v_iload_n C 3 dX1_walkersAt_18 rfl rfl ?_
      refine s_ald (k := 7) C hL (by decide) (tb_tr hb (r := 1) (by decide)) dX1_walkersAt_19 hf (fun a1 hf => ?_)
      refine v_iload_n C 1 dX1_walkersAt_20 rfl rfl ?_
      refine v_icmp_ne (tgt := 30) C dX1_walkersAt_21 (by decide) hf (fun hf => ?_) (fun hf => ?_)
      · exact tX1_walkersAt_30 C hb hL hQ ih hf
      · refine v_iload_n C 2 dX1_walkersAt_24 rfl rfl ?_
        refine v_iconst (v := 1) C dX1_walkersAt_25 (by decide) ?_
        refine v_iload_n C 3 dX1_walkersAt_26 rfl rfl ?_
        refine v_ishl C dX1_walkersAt_27 ?_
        refine v_ior C dX1_walkersAt_28 ?_
        refine v_top hf (fun w3 hf => ?_)
        refine v_istore_n (lv' := [(0, .ref (ad B b)), (1, .int v1), (2, .int w3), (3, .int v3)]) C [1, 2, 0, 3] dX1_walkersAt_29 rfl (by decide) rfl ?_
        exact tX1_walkersAt_30 C hb hL hQ ih hf
def fX1_walkersAt (N : Nat) (x : St2) (v1 : Int32) : Option Int32 := fX1_walkersAt_4 N x v1 N 0 0
set_option maxHeartbeats 4000000 in
set_option maxRecDepth 100000 in
theorem tX1_walkersAt {E : EE} {B : BB} {l : Launch} {L : St2 → St2} {b : Nat} {N : Nat} {x : St2} {v1 : Int32} {res : Int32} (C : Cx E B l cX1_walkersAt RX1 (some .int) 4 0 0) (hb : Sb b) (hL : Ln b 13 L) (hQ : Fin9 E B (some (.int res)) (L x)) (hf : fX1_walkersAt N x v1 = some res) : V E B (L x) 0 [(0, .ref (ad B b)), (1, .int v1)] [] := by
  unfold fX1_walkersAt at hf
  refine v_iconst (v := 0) C dX1_walkersAt_0 (by decide) ?_
  refine v_istore_n (lv' := [(0, .ref (ad B b)), (1, .int v1), (2, .int 0)]) C [1, 2, 0] dX1_walkersAt_1 rfl (by decide) rfl ?_
  refine v_iconst (v := 0) C dX1_walkersAt_2 (by decide) ?_
  refine v_istore_n (lv' := [(0, .ref (ad B b)), (1, .int v1), (2, .int 0), (3, .int 0)]) C [1, 2, 3, 0] dX1_walkersAt_3 rfl (by decide) rfl ?_
  exact tX1_walkersAt_4 C hb hL hQ N 0 0 hf
theorem mX1_walkersAt {B : BB} {l : Launch} {L : St2 → St2} {b : Nat} {N : Nat} {x : St2} {v1 : Int32} {res : Int32} (hb : Sb b) (hL : Ln b 13 L) (hf : fX1_walkersAt N x v1 = some res) : Ret l B yX1_walkersAt cX1_walkersAt 4 (some .int) 0 0 [.ref (ad B b), .int v1] (L x) (some (.int res)) (L x) := ret_of (own := RX1) (by decide) rfl (Nat.le_of_ble_eq_true rfl) (fun E C hQ => tX1_walkersAt C hb hL hQ hf)
theorem nX1_walkersAt {B : BB} {l : Launch} {L : St2 → St2} {b : Nat} {N : Nat} {κ : St2} {v1 : Int32} {res : Int32} (hL : LnC L) (hb : Sb b) (hf : fX1_walkersAt N (vw κ b) v1 = some res) : Ret l B yX1_walkersAt cX1_walkersAt 4 (some .int) 0 0 [.ref (ad B b), .int v1] (L κ) (some (.int res)) (L (κ)) := by
  have h : Ret l B yX1_walkersAt cX1_walkersAt 4 (some .int) 0 0 [.ref (ad B b), .int v1] (L (putS κ b (vw κ b))) (some (.int res)) (L (putS κ b (vw κ b))) := mX1_walkersAt (L := fun z => L (putS κ b z)) (x := vw κ b) hb (lnS_of hL hb κ) hf
  rw [putS_vw] at h
  exact h
def fX1_workSet_28 (N : Nat) (k4 : Int32 → Int32 → Option Int32) (x : St2) (v1 : Int32) (v2 : Int32) (v3 : Int32) : Option Int32 := k4 v2 (v3 + 1)
set_option maxHeartbeats 4000000 in
set_option maxRecDepth 100000 in
theorem tX1_workSet_28 {E : EE} {B : BB} {l : Launch} {L : St2 → St2} {b : Nat} {N : Nat} {k4 : Int32 → Int32 → Option Int32} {x : St2} {v1 : Int32} {v2 : Int32} {v3 : Int32} {res : Int32} (C : Cx E B l cX1_workSet RX1 (some .int) 4 0 0) (hb : Sb b) (hL : Ln b 13 L) (hQ : Fin9 E B (some (.int res)) (L x)) (hk4 : ∀ (v2 : Int32) (v3 : Int32), k4 v2 v3 = some res → V E B (L x) 4 [(0, .ref (ad B b)), (1, .int v1), (2, .int v2), (3, .int v3)] []) (hf : fX1_workSet_28 N k4 x v1 v2 v3 = some res) : V E B (L x) 28 [(0, .ref (ad B b)), (1, .int v1), (2, .int v2), (3, .int v3)] [] := by
  unfold fX1_workSet_28 at hf
  refine v_iinc (q := 3) (v := v3 + 1) (lv' := [(0, .ref (ad B b)), (1, .int v1), (2, .int v2), (3, .int (v3 + 1))]) C [1, 2, 3, 0] dX1_workSet_28 rfl rfl (by decide) rfl ?_
  refine v_goto (tgt := 4) C dX1_workSet_31 (by decide) ?_
  exact hk4 v2 (v3 + 1) hf
def fX1_workSet_4 (N : Nat) (x : St2) (v1 : Int32) : Nat → Int32 → Int32 → Option Int32
  | 0, _, _ => none
  | n + 1, v2, v3 => if 24 ≤ v3 then (some v2) else ((rd (x 2) 24 v3).bind fun a1 => if a1 = v1 then ((some (v2 ||| (1 <<< (v3 &&& 31)))).bind fun w3 => fX1_workSet_28 N (fX1_workSet_4 N x v1 n) x v1 w3 v3) else (fX1_workSet_28 N (fX1_workSet_4 N x v1 n) x v1 v2 v3))
set_option maxHeartbeats 4000000 in
set_option maxRecDepth 100000 in
theorem tX1_workSet_4 {E : EE} {B : BB} {l : Launch} {L : St2 → St2} {b : Nat} {N : Nat} {x : St2} {v1 : Int32} {res : Int32} (C : Cx E B l cX1_workSet RX1 (some .int) 4 0 0) (hb : Sb b) (hL : Ln b 13 L) (hQ : Fin9 E B (some (.int res)) (L x)) : ∀ (n : Nat) (v2 : Int32) (v3 : Int32), fX1_workSet_4 N x v1 n v2 v3 = some res → V E B (L x) 4 [(0, .ref (ad B b)), (1, .int v1), (2, .int v2), (3, .int v3)] [] := by
  intro n
  induction n with
  | zero =>
    intro v2 v3 hf
    cases hf
  | succ n ih =>
    intro v2 v3 hf
    rw [fX1_workSet_4] at hf
    refine v_iload_n C 3 dX1_workSet_4 rfl rfl ?_
    refine v_bipush (v := 24) C dX1_workSet_5 (by decide) ?_
    refine v_icmp_ge (tgt := 34) C dX1_workSet_7 (by decide) hf (fun hf => ?_) (fun hf => ?_)
    · refine v_iload_n C 2 dX1_workSet_34 rfl rfl ?_
      exact v_iret C dX1_workSet_35 (fin_i hf hQ)
    · refine v_aload_n C 0 dX1_workSet_10 rfl rfl ?_
      refine sh_getR (i := 0) (j := b + 1) C hb (by decide) rfl wd_29 dX1_workSet_11 ?_
      refine v_iconst (v := 0) C dX1_workSet_14 (by decide) ?_
      refine sh_prS C 0 hb rfl (by decide) dX1_workSet_15 ?_
      refine v_iload_n C 3 dX1_workSet_16 rfl rfl ?_
      refine s_ald (k := 2) C hL (by decide) (tb_pr hb (r := 0) (by decide)) dX1_workSet_17 hf (fun a1 hf => ?_)
      refine v_iload_n C 1 dX1_workSet_18 rfl rfl ?_
      refine v_icmp_ne (tgt := 28) C dX1_workSet_19 (by decide) hf (fun hf => ?_) (fun hf => ?_)
      · exact tX1_workSet_28 C hb hL hQ ih hf
      · refine v_iload_n C 2 dX1_workSet_22 rfl rfl ?_
        refine v_iconst (v := 1) C dX1_workSet_23 (by decide) ?_
        refine v_iload_n C 3 dX1_workSet_24 rfl rfl ?_
        refine v_ishl C dX1_workSet_25 ?_
        refine v_ior C dX1_workSet_26 ?_
        refine v_top hf (fun w3 hf => ?_)
        refine v_istore_n (lv' := [(0, .ref (ad B b)), (1, .int v1), (2, .int w3), (3, .int v3)]) C [1, 2, 0, 3] dX1_workSet_27 rfl (by decide) rfl ?_
        exact tX1_workSet_28 C hb hL hQ ih hf
def fX1_workSet (N : Nat) (x : St2) (v1 : Int32) : Option Int32 := fX1_workSet_4 N x v1 N 0 0
set_option maxHeartbeats 4000000 in
set_option maxRecDepth 100000 in
theorem tX1_workSet {E : EE} {B : BB} {l : Launch} {L : St2 → St2} {b : Nat} {N : Nat} {x : St2} {v1 : Int32} {res : Int32} (C : Cx E B l cX1_workSet RX1 (some .int) 4 0 0) (hb : Sb b) (hL : Ln b 13 L) (hQ : Fin9 E B (some (.int res)) (L x)) (hf : fX1_workSet N x v1 = some res) : V E B (L x) 0 [(0, .ref (ad B b)), (1, .int v1)] [] := by
  unfold fX1_workSet at hf
  refine v_iconst (v := 0) C dX1_workSet_0 (by decide) ?_
  refine v_istore_n (lv' := [(0, .ref (ad B b)), (1, .int v1), (2, .int 0)]) C [1, 2, 0] dX1_workSet_1 rfl (by decide) rfl ?_
  refine v_iconst (v := 0) C dX1_workSet_2 (by decide) ?_
  refine v_istore_n (lv' := [(0, .ref (ad B b)), (1, .int v1), (2, .int 0), (3, .int 0)]) C [1, 2, 3, 0] dX1_workSet_3 rfl (by decide) rfl ?_
  exact tX1_workSet_4 C hb hL hQ N 0 0 hf
theorem mX1_workSet {B : BB} {l : Launch} {L : St2 → St2} {b : Nat} {N : Nat} {x : St2} {v1 : Int32} {res : Int32} (hb : Sb b) (hL : Ln b 13 L) (hf : fX1_workSet N x v1 = some res) : Ret l B yX1_workSet cX1_workSet 4 (some .int) 0 0 [.ref (ad B b), .int v1] (L x) (some (.int res)) (L x) := ret_of (own := RX1) (by decide) rfl (Nat.le_of_ble_eq_true rfl) (fun E C hQ => tX1_workSet C hb hL hQ hf)
theorem nX1_workSet {B : BB} {l : Launch} {L : St2 → St2} {b : Nat} {N : Nat} {κ : St2} {v1 : Int32} {res : Int32} (hL : LnC L) (hb : Sb b) (hf : fX1_workSet N (vw κ b) v1 = some res) : Ret l B yX1_workSet cX1_workSet 4 (some .int) 0 0 [.ref (ad B b), .int v1] (L κ) (some (.int res)) (L (κ)) := by
  have h : Ret l B yX1_workSet cX1_workSet 4 (some .int) 0 0 [.ref (ad B b), .int v1] (L (putS κ b (vw κ b))) (some (.int res)) (L (putS κ b (vw κ b))) := mX1_workSet (L := fun z => L (putS κ b z)) (x := vw κ b) hb (lnS_of hL hb κ) hf
  rw [putS_vw] at h
  exact h
def fX1_workSize (N : Nat) (x : St2) (v1 : Int32) : Option Int32 := (fX1_workSet N x v1).bind fun y1 => (fJ6_bitCount_0f7a4 y1).bind fun y2 => some y2
set_option maxHeartbeats 4000000 in
set_option maxRecDepth 100000 in
theorem tX1_workSize {E : EE} {B : BB} {l : Launch} {L : St2 → St2} {b : Nat} {N : Nat} {x : St2} {v1 : Int32} {res : Int32} (C : Cx E B l cX1_workSize RX1 (some .int) 2 1 23) (hb : Sb b) (hL : Ln b 13 L) (hQ : Fin9 E B (some (.int res)) (L x)) (hf : fX1_workSize N x v1 = some res) : V E B (L x) 0 [(0, .ref (ad B b)), (1, .int v1)] [] := by
  unfold fX1_workSize at hf
  refine v_aload_n C 0 dX1_workSize_0 rfl rfl ?_
  refine v_iload_n C 1 dX1_workSize_1 rfl rfl ?_
  obtain ⟨y1, hy1, hf⟩ := bnd hf
  refine v_callV (r := some (.int y1)) (As := [.int v1]) (rest := []) (K := b) C (mX1_workSet hb hL hy1) cw_X1_workSet wd_266 (by have := Sb.le hb; omega) (tb_o hb) rfl ⟨Nat.le_of_ble_eq_true rfl, Nat.le_of_ble_eq_true rfl⟩ rfl rfl (Nat.le_of_ble_eq_true rfl) dX1_workSize_2 ?_
  obtain ⟨y2, hy2, hf⟩ := bnd hf
  refine v_callS (r := some (.int y2)) (As := [.int y1]) (rest := []) C (mJ6_bitCount_0f7a4  hy2) cw_J6_bitCount_0f7a4 wd_268 ⟨Nat.le_of_ble_eq_true rfl, Nat.le_of_ble_eq_true rfl⟩ rfl rfl (Nat.le_of_ble_eq_true rfl) dX1_workSize_5 ?_
  exact v_iret C dX1_workSize_8 (fin_i hf hQ)
theorem mX1_workSize {B : BB} {l : Launch} {L : St2 → St2} {b : Nat} {N : Nat} {x : St2} {v1 : Int32} {res : Int32} (hb : Sb b) (hL : Ln b 13 L) (hf : fX1_workSize N x v1 = some res) : Ret l B yX1_workSize cX1_workSize 2 (some .int) 1 23 [.ref (ad B b), .int v1] (L x) (some (.int res)) (L x) := ret_of (own := RX1) (by decide) rfl (Nat.le_of_ble_eq_true rfl) (fun E C hQ => tX1_workSize C hb hL hQ hf)
theorem nX1_workSize {B : BB} {l : Launch} {L : St2 → St2} {b : Nat} {N : Nat} {κ : St2} {v1 : Int32} {res : Int32} (hL : LnC L) (hb : Sb b) (hf : fX1_workSize N (vw κ b) v1 = some res) : Ret l B yX1_workSize cX1_workSize 2 (some .int) 1 23 [.ref (ad B b), .int v1] (L κ) (some (.int res)) (L (κ)) := by
  have h : Ret l B yX1_workSize cX1_workSize 2 (some .int) 1 23 [.ref (ad B b), .int v1] (L (putS κ b (vw κ b))) (some (.int res)) (L (putS κ b (vw κ b))) := mX1_workSize (L := fun z => L (putS κ b z)) (x := vw κ b) hb (lnS_of hL hb κ) hf
  rw [putS_vw] at h
  exact h
def fX1_longestLine_34 (N : Nat) (k7 : Int32 → Int32 → Int32 → Option Int32) (x : St2) (v1 : Int32) (v2 : Int32) (v4 : Int32) (s0 : Int32) : Option Int32 := (some (imax v2 s0)).bind fun w2 => k7 w2 s0 (v4 + 1)
set_option maxHeartbeats 4000000 in
set_option maxRecDepth 100000 in
theorem tX1_longestLine_34 {E : EE} {B : BB} {l : Launch} {L : St2 → St2} {b : Nat} {N : Nat} {k7 : Int32 → Int32 → Int32 → Option Int32} {x : St2} {v1 : Int32} {v2 : Int32} {v4 : Int32} {s0 : Int32} {res : Int32} (C : Cx E B l cX1_longestLine RX1 (some .int) 5 1 21) (hb : Sb b) (hL : Ln b 13 L) (hQ : Fin9 E B (some (.int res)) (L x)) (hk7 : ∀ (v2 : Int32) (v3 : Int32) (v4 : Int32), k7 v2 v3 v4 = some res → V E B (L x) 7 [(0, .ref (ad B b)), (1, .int v1), (2, .int v2), (3, .int v3), (4, .int v4)] []) (hf : fX1_longestLine_34 N k7 x v1 v2 v4 s0 = some res) : V E B (L x) 34 [(0, .ref (ad B b)), (1, .int v1), (2, .int v2), (4, .int v4)] [.int s0] := by
  unfold fX1_longestLine_34 at hf
  refine v_istore_n (lv' := [(0, .ref (ad B b)), (1, .int v1), (2, .int v2), (3, .int s0), (4, .int v4)]) C [1, 2, 3, 0, 4] dX1_longestLine_34 rfl (by decide) rfl ?_
  refine v_iload_n C 2 dX1_longestLine_35 rfl rfl ?_
  refine v_iload_n C 3 dX1_longestLine_36 rfl rfl ?_
  refine w_mmax C wd_213 (by decide) (Nat.le_of_ble_eq_true rfl) dX1_longestLine_37 ?_
  refine v_top hf (fun w2 hf => ?_)
  refine v_istore_n (lv' := [(0, .ref (ad B b)), (1, .int v1), (2, .int w2), (3, .int s0), (4, .int v4)]) C [1, 2, 0, 3, 4] dX1_longestLine_40 rfl (by decide) rfl ?_
  refine v_iinc (q := 4) (v := v4 + 1) (lv' := [(0, .ref (ad B b)), (1, .int v1), (2, .int w2), (3, .int s0), (4, .int (v4 + 1))]) C [1, 2, 3, 4, 0] dX1_longestLine_41 rfl rfl (by decide) rfl ?_
  refine v_goto (tgt := 7) C dX1_longestLine_44 (by decide) ?_
  exact hk7 w2 s0 (v4 + 1) hf
def fX1_longestLine_7 (N : Nat) (x : St2) (v1 : Int32) : Nat → Int32 → Int32 → Int32 → Option Int32
  | 0, _, _, _ => none
  | n + 1, v2, v3, v4 => if 24 ≤ v4 then (some v2) else ((rd (x 2) 24 v4).bind fun a1 => if a1 = v1 then (fX1_longestLine_34 N (fX1_longestLine_7 N x v1 n) x v1 v2 v4 (v3 + 1)) else (fX1_longestLine_34 N (fX1_longestLine_7 N x v1 n) x v1 v2 v4 0))
set_option maxHeartbeats 4000000 in
set_option maxRecDepth 100000 in
theorem tX1_longestLine_7 {E : EE} {B : BB} {l : Launch} {L : St2 → St2} {b : Nat} {N : Nat} {x : St2} {v1 : Int32} {res : Int32} (C : Cx E B l cX1_longestLine RX1 (some .int) 5 1 21) (hb : Sb b) (hL : Ln b 13 L) (hQ : Fin9 E B (some (.int res)) (L x)) : ∀ (n : Nat) (v2 : Int32) (v3 : Int32) (v4 : Int32), fX1_longestLine_7 N x v1 n v2 v3 v4 = some res → V E B (L x) 7 [(0, .ref (ad B b)), (1, .int v1), (2, .int v2), (3, .int v3), (4, .int v4)] [] := by
  intro n
  induction n with
  | zero =>
    intro v2 v3 v4 hf
    cases hf
  | succ n ih =>
    intro v2 v3 v4 hf
    rw [fX1_longestLine_7] at hf
    refine v_iload C 4 dX1_longestLine_7 rfl ?_
    refine v_bipush (v := 24) C dX1_longestLine_9 (by decide) ?_
    refine v_icmp_ge (tgt := 47) C dX1_longestLine_11 (by decide) hf (fun hf => ?_) (fun hf => ?_)
    · refine v_iload_n C 2 dX1_longestLine_47 rfl rfl ?_
      exact v_iret C dX1_longestLine_48 (fin_i hf hQ)
    · refine v_aload_n C 0 dX1_longestLine_14 rfl rfl ?_
      refine sh_getR (i := 0) (j := b + 1) C hb (by decide) rfl wd_29 dX1_longestLine_15 ?_
      refine v_iconst (v := 0) C dX1_longestLine_18 (by decide) ?_
      refine sh_prS C 0 hb rfl (by decide) dX1_longestLine_19 ?_
      refine v_iload C 4 dX1_longestLine_20 rfl ?_
      refine s_ald (k := 2) C hL (by decide) (tb_pr hb (r := 0) (by decide)) dX1_longestLine_22 hf (fun a1 hf => ?_)
      refine v_iload_n C 1 dX1_longestLine_23 rfl rfl ?_
      refine v_icmp_ne (tgt := 33) C dX1_longestLine_24 (by decide) hf (fun hf => ?_) (fun hf => ?_)
      · refine v_iconst (v := 0) C dX1_longestLine_33 (by decide) ?_
        refine v_sub [0, 1, 2, 4] rfl ?_
        exact tX1_longestLine_34 C hb hL hQ ih hf
      · refine v_iload_n C 3 dX1_longestLine_27 rfl rfl ?_
        refine v_iconst (v := 1) C dX1_longestLine_28 (by decide) ?_
        refine v_iadd C dX1_longestLine_29 ?_
        refine v_goto (tgt := 34) C dX1_longestLine_30 (by decide) ?_
        refine v_sub [0, 1, 2, 4] rfl ?_
        exact tX1_longestLine_34 C hb hL hQ ih hf
def fX1_longestLine (N : Nat) (x : St2) (v1 : Int32) : Option Int32 := fX1_longestLine_7 N x v1 N 0 0 0
set_option maxHeartbeats 4000000 in
set_option maxRecDepth 100000 in
theorem tX1_longestLine {E : EE} {B : BB} {l : Launch} {L : St2 → St2} {b : Nat} {N : Nat} {x : St2} {v1 : Int32} {res : Int32} (C : Cx E B l cX1_longestLine RX1 (some .int) 5 1 21) (hb : Sb b) (hL : Ln b 13 L) (hQ : Fin9 E B (some (.int res)) (L x)) (hf : fX1_longestLine N x v1 = some res) : V E B (L x) 0 [(0, .ref (ad B b)), (1, .int v1)] [] := by
  unfold fX1_longestLine at hf
  refine v_iconst (v := 0) C dX1_longestLine_0 (by decide) ?_
  refine v_istore_n (lv' := [(0, .ref (ad B b)), (1, .int v1), (2, .int 0)]) C [1, 2, 0] dX1_longestLine_1 rfl (by decide) rfl ?_
  refine v_iconst (v := 0) C dX1_longestLine_2 (by decide) ?_
  refine v_istore_n (lv' := [(0, .ref (ad B b)), (1, .int v1), (2, .int 0), (3, .int 0)]) C [1, 2, 3, 0] dX1_longestLine_3 rfl (by decide) rfl ?_
  refine v_iconst (v := 0) C dX1_longestLine_4 (by decide) ?_
  refine v_istore (lv' := [(0, .ref (ad B b)), (1, .int v1), (2, .int 0), (3, .int 0), (4, .int 0)]) C [1, 2, 3, 4, 0] dX1_longestLine_5 (by decide) rfl ?_
  exact tX1_longestLine_7 C hb hL hQ N 0 0 0 hf
theorem mX1_longestLine {B : BB} {l : Launch} {L : St2 → St2} {b : Nat} {N : Nat} {x : St2} {v1 : Int32} {res : Int32} (hb : Sb b) (hL : Ln b 13 L) (hf : fX1_longestLine N x v1 = some res) : Ret l B yX1_longestLine cX1_longestLine 5 (some .int) 1 21 [.ref (ad B b), .int v1] (L x) (some (.int res)) (L x) := ret_of (own := RX1) (by decide) rfl (Nat.le_of_ble_eq_true rfl) (fun E C hQ => tX1_longestLine C hb hL hQ hf)
theorem nX1_longestLine {B : BB} {l : Launch} {L : St2 → St2} {b : Nat} {N : Nat} {κ : St2} {v1 : Int32} {res : Int32} (hL : LnC L) (hb : Sb b) (hf : fX1_longestLine N (vw κ b) v1 = some res) : Ret l B yX1_longestLine cX1_longestLine 5 (some .int) 1 21 [.ref (ad B b), .int v1] (L κ) (some (.int res)) (L (κ)) := by
  have h : Ret l B yX1_longestLine cX1_longestLine 5 (some .int) 1 21 [.ref (ad B b), .int v1] (L (putS κ b (vw κ b))) (some (.int res)) (L (putS κ b (vw κ b))) := mX1_longestLine (L := fun z => L (putS κ b z)) (x := vw κ b) hb (lnS_of hL hb κ) hf
  rw [putS_vw] at h
  exact h
def fX1_printSet (N : Nat) (x : St2) : Option Int32 := (fX1_workSet N x (-1)).bind fun y1 => some ((y1 ^^^ (-1)) &&& 16777215)
set_option maxHeartbeats 4000000 in
set_option maxRecDepth 100000 in
theorem tX1_printSet {E : EE} {B : BB} {l : Launch} {L : St2 → St2} {b : Nat} {N : Nat} {x : St2} {res : Int32} (C : Cx E B l cX1_printSet RX1 (some .int) 1 1 23) (hb : Sb b) (hL : Ln b 13 L) (hQ : Fin9 E B (some (.int res)) (L x)) (hf : fX1_printSet N x = some res) : V E B (L x) 0 [(0, .ref (ad B b))] [] := by
  unfold fX1_printSet at hf
  refine v_aload_n C 0 dX1_printSet_0 rfl rfl ?_
  refine v_iconst (v := (-1)) C dX1_printSet_1 (by decide) ?_
  obtain ⟨y1, hy1, hf⟩ := bnd hf
  refine v_callV (r := some (.int y1)) (As := [.int (-1)]) (rest := []) (K := b) C (mX1_workSet hb hL hy1) cw_X1_workSet wd_266 (by have := Sb.le hb; omega) (tb_o hb) rfl ⟨Nat.le_of_ble_eq_true rfl, Nat.le_of_ble_eq_true rfl⟩ rfl rfl (Nat.le_of_ble_eq_true rfl) dX1_printSet_2 ?_
  refine v_iconst (v := (-1)) C dX1_printSet_5 (by decide) ?_
  refine v_ixor C dX1_printSet_6 ?_
  refine v_ldc C wd_267 dX1_printSet_7 ?_
  refine v_iand C dX1_printSet_9 ?_
  exact v_iret C dX1_printSet_10 (fin_i hf hQ)
theorem mX1_printSet {B : BB} {l : Launch} {L : St2 → St2} {b : Nat} {N : Nat} {x : St2} {res : Int32} (hb : Sb b) (hL : Ln b 13 L) (hf : fX1_printSet N x = some res) : Ret l B yX1_printSet cX1_printSet 1 (some .int) 1 23 [.ref (ad B b)] (L x) (some (.int res)) (L x) := ret_of (own := RX1) (by decide) rfl (Nat.le_of_ble_eq_true rfl) (fun E C hQ => tX1_printSet C hb hL hQ hf)
theorem nX1_printSet {B : BB} {l : Launch} {L : St2 → St2} {b : Nat} {N : Nat} {κ : St2} {res : Int32} (hL : LnC L) (hb : Sb b) (hf : fX1_printSet N (vw κ b) = some res) : Ret l B yX1_printSet cX1_printSet 1 (some .int) 1 23 [.ref (ad B b)] (L κ) (some (.int res)) (L (κ)) := by
  have h : Ret l B yX1_printSet cX1_printSet 1 (some .int) 1 23 [.ref (ad B b)] (L (putS κ b (vw κ b))) (some (.int res)) (L (putS κ b (vw κ b))) := mX1_printSet (L := fun z => L (putS κ b z)) (x := vw κ b) hb (lnS_of hL hb κ) hf
  rw [putS_vw] at h
  exact h
def fX1_printCount (N : Nat) (x : St2) : Option Int32 := (fX1_printSet N x).bind fun y1 => (fJ6_bitCount_0f7a4 y1).bind fun y2 => some y2
set_option maxHeartbeats 4000000 in
set_option maxRecDepth 100000 in
theorem tX1_printCount {E : EE} {B : BB} {l : Launch} {L : St2 → St2} {b : Nat} {N : Nat} {x : St2} {res : Int32} (C : Cx E B l cX1_printCount RX1 (some .int) 1 2 43) (hb : Sb b) (hL : Ln b 13 L) (hQ : Fin9 E B (some (.int res)) (L x)) (hf : fX1_printCount N x = some res) : V E B (L x) 0 [(0, .ref (ad B b))] [] := by
  unfold fX1_printCount at hf
  refine v_aload_n C 0 dX1_printCount_0 rfl rfl ?_
  obtain ⟨y1, hy1, hf⟩ := bnd hf
  refine v_callV (r := some (.int y1)) (As := []) (rest := []) (K := b) C (mX1_printSet hb hL hy1) cw_X1_printSet wd_262 (by have := Sb.le hb; omega) (tb_o hb) rfl ⟨Nat.le_of_ble_eq_true rfl, Nat.le_of_ble_eq_true rfl⟩ rfl rfl (Nat.le_of_ble_eq_true rfl) dX1_printCount_1 ?_
  obtain ⟨y2, hy2, hf⟩ := bnd hf
  refine v_callS (r := some (.int y2)) (As := [.int y1]) (rest := []) C (mJ6_bitCount_0f7a4  hy2) cw_J6_bitCount_0f7a4 wd_268 ⟨Nat.le_of_ble_eq_true rfl, Nat.le_of_ble_eq_true rfl⟩ rfl rfl (Nat.le_of_ble_eq_true rfl) dX1_printCount_4 ?_
  exact v_iret C dX1_printCount_7 (fin_i hf hQ)
theorem mX1_printCount {B : BB} {l : Launch} {L : St2 → St2} {b : Nat} {N : Nat} {x : St2} {res : Int32} (hb : Sb b) (hL : Ln b 13 L) (hf : fX1_printCount N x = some res) : Ret l B yX1_printCount cX1_printCount 1 (some .int) 2 43 [.ref (ad B b)] (L x) (some (.int res)) (L x) := ret_of (own := RX1) (by decide) rfl (Nat.le_of_ble_eq_true rfl) (fun E C hQ => tX1_printCount C hb hL hQ hf)
theorem nX1_printCount {B : BB} {l : Launch} {L : St2 → St2} {b : Nat} {N : Nat} {κ : St2} {res : Int32} (hL : LnC L) (hb : Sb b) (hf : fX1_printCount N (vw κ b) = some res) : Ret l B yX1_printCount cX1_printCount 1 (some .int) 2 43 [.ref (ad B b)] (L κ) (some (.int res)) (L (κ)) := by
  have h : Ret l B yX1_printCount cX1_printCount 1 (some .int) 2 43 [.ref (ad B b)] (L (putS κ b (vw κ b))) (some (.int res)) (L (putS κ b (vw κ b))) := mX1_printCount (L := fun z => L (putS κ b z)) (x := vw κ b) hb (lnS_of hL hb κ) hf
  rw [putS_vw] at h
  exact h
def fX1_depthSum_4 (N : Nat) (x : St2) : Nat → Int32 → Int32 → Option Int32
  | 0, _, _ => none
  | n + 1, v1, v2 => if 24 ≤ v2 then (some v1) else ((rd (x 3) 24 v2).bind fun a1 => (some (v1 + a1)).bind fun w2 => (fX1_depthSum_4 N x n) w2 (v2 + 1))
set_option maxHeartbeats 4000000 in
set_option maxRecDepth 100000 in
theorem tX1_depthSum_4 {E : EE} {B : BB} {l : Launch} {L : St2 → St2} {b : Nat} {N : Nat} {x : St2} {res : Int32} (C : Cx E B l cX1_depthSum RX1 (some .int) 3 0 0) (hb : Sb b) (hL : Ln b 13 L) (hQ : Fin9 E B (some (.int res)) (L x)) : ∀ (n : Nat) (v1 : Int32) (v2 : Int32), fX1_depthSum_4 N x n v1 v2 = some res → V E B (L x) 4 [(0, .ref (ad B b)), (1, .int v1), (2, .int v2)] [] := by
  intro n
  induction n with
  | zero =>
    intro v1 v2 hf
    cases hf
  | succ n ih =>
    intro v1 v2 hf
    rw [fX1_depthSum_4] at hf
    refine v_iload_n C 2 dX1_depthSum_4 rfl rfl ?_
    refine v_bipush (v := 24) C dX1_depthSum_5 (by decide) ?_
    refine v_icmp_ge (tgt := 27) C dX1_depthSum_7 (by decide) hf (fun hf => ?_) (fun hf => ?_)
    · refine v_iload_n C 1 dX1_depthSum_27 rfl rfl ?_
      exact v_iret C dX1_depthSum_28 (fin_i hf hQ)
    · refine v_iload_n C 1 dX1_depthSum_10 rfl rfl ?_
      refine v_aload_n C 0 dX1_depthSum_11 rfl rfl ?_
      refine sh_getR (i := 0) (j := b + 1) C hb (by decide) rfl wd_29 dX1_depthSum_12 ?_
      refine v_iconst (v := 1) C dX1_depthSum_15 (by decide) ?_
      refine sh_prS C 1 hb rfl (by decide) dX1_depthSum_16 ?_
      refine v_iload_n C 2 dX1_depthSum_17 rfl rfl ?_
      refine s_ald (k := 3) C hL (by decide) (tb_pr hb (r := 1) (by decide)) dX1_depthSum_18 hf (fun a1 hf => ?_)
      refine v_iadd C dX1_depthSum_19 ?_
      refine v_top hf (fun w2 hf => ?_)
      refine v_istore_n (lv' := [(0, .ref (ad B b)), (1, .int w2), (2, .int v2)]) C [1, 0, 2] dX1_depthSum_20 rfl (by decide) rfl ?_
      refine v_iinc (q := 2) (v := v2 + 1) (lv' := [(0, .ref (ad B b)), (1, .int w2), (2, .int (v2 + 1))]) C [1, 2, 0] dX1_depthSum_21 rfl rfl (by decide) rfl ?_
      refine v_goto (tgt := 4) C dX1_depthSum_24 (by decide) ?_
      exact ih w2 (v2 + 1) hf
def fX1_depthSum (N : Nat) (x : St2) : Option Int32 := fX1_depthSum_4 N x N 0 0
set_option maxHeartbeats 4000000 in
set_option maxRecDepth 100000 in
theorem tX1_depthSum {E : EE} {B : BB} {l : Launch} {L : St2 → St2} {b : Nat} {N : Nat} {x : St2} {res : Int32} (C : Cx E B l cX1_depthSum RX1 (some .int) 3 0 0) (hb : Sb b) (hL : Ln b 13 L) (hQ : Fin9 E B (some (.int res)) (L x)) (hf : fX1_depthSum N x = some res) : V E B (L x) 0 [(0, .ref (ad B b))] [] := by
  unfold fX1_depthSum at hf
  refine v_iconst (v := 0) C dX1_depthSum_0 (by decide) ?_
  refine v_istore_n (lv' := [(0, .ref (ad B b)), (1, .int 0)]) C [1, 0] dX1_depthSum_1 rfl (by decide) rfl ?_
  refine v_iconst (v := 0) C dX1_depthSum_2 (by decide) ?_
  refine v_istore_n (lv' := [(0, .ref (ad B b)), (1, .int 0), (2, .int 0)]) C [1, 2, 0] dX1_depthSum_3 rfl (by decide) rfl ?_
  exact tX1_depthSum_4 C hb hL hQ N 0 0 hf
theorem mX1_depthSum {B : BB} {l : Launch} {L : St2 → St2} {b : Nat} {N : Nat} {x : St2} {res : Int32} (hb : Sb b) (hL : Ln b 13 L) (hf : fX1_depthSum N x = some res) : Ret l B yX1_depthSum cX1_depthSum 3 (some .int) 0 0 [.ref (ad B b)] (L x) (some (.int res)) (L x) := ret_of (own := RX1) (by decide) rfl (Nat.le_of_ble_eq_true rfl) (fun E C hQ => tX1_depthSum C hb hL hQ hf)
theorem nX1_depthSum {B : BB} {l : Launch} {L : St2 → St2} {b : Nat} {N : Nat} {κ : St2} {res : Int32} (hL : LnC L) (hb : Sb b) (hf : fX1_depthSum N (vw κ b) = some res) : Ret l B yX1_depthSum cX1_depthSum 3 (some .int) 0 0 [.ref (ad B b)] (L κ) (some (.int res)) (L (κ)) := by
  have h : Ret l B yX1_depthSum cX1_depthSum 3 (some .int) 0 0 [.ref (ad B b)] (L (putS κ b (vw κ b))) (some (.int res)) (L (putS κ b (vw κ b))) := mX1_depthSum (L := fun z => L (putS κ b z)) (x := vw κ b) hb (lnS_of hL hb κ) hf
  rw [putS_vw] at h
  exact h
def fX1_greatestAuthor_32 (N : Nat) (k6 : Int32 → Int32 → Int32 → Option Int32) (x : St2) (v1 : Int32) (v2 : Int32) (v3 : Int32) : Option Int32 := k6 v1 v2 (v3 + 1)
set_option maxHeartbeats 4000000 in
set_option maxRecDepth 100000 in
theorem tX1_greatestAuthor_32 {E : EE} {B : BB} {l : Launch} {L : St2 → St2} {b : Nat} {N : Nat} {k6 : Int32 → Int32 → Int32 → Option Int32} {x : St2} {v1 : Int32} {v2 : Int32} {v3 : Int32} {res : Int32} (C : Cx E B l cX1_greatestAuthor RX1 (some .int) 5 2 44) (hb : Sb b) (hL : Ln b 13 L) (hQ : Fin9 E B (some (.int res)) (L x)) (hk6 : ∀ (v1 : Int32) (v2 : Int32) (v3 : Int32), k6 v1 v2 v3 = some res → V E B (L x) 6 [(0, .ref (ad B b)), (1, .int v1), (2, .int v2), (3, .int v3)] []) (hf : fX1_greatestAuthor_32 N k6 x v1 v2 v3 = some res) : V E B (L x) 32 [(0, .ref (ad B b)), (1, .int v1), (2, .int v2), (3, .int v3)] [] := by
  unfold fX1_greatestAuthor_32 at hf
  refine v_iinc (q := 3) (v := v3 + 1) (lv' := [(0, .ref (ad B b)), (1, .int v1), (2, .int v2), (3, .int (v3 + 1))]) C [1, 2, 3, 0] dX1_greatestAuthor_32 rfl rfl (by decide) rfl ?_
  refine v_goto (tgt := 6) C dX1_greatestAuthor_35 (by decide) ?_
  exact hk6 v1 v2 (v3 + 1) hf
def fX1_greatestAuthor_6 (N : Nat) (x : St2) : Nat → Int32 → Int32 → Int32 → Option Int32
  | 0, _, _, _ => none
  | n + 1, v1, v2, v3 => if (x 0 3) ≤ v3 then (some v1) else ((fX1_workSize N x v3).bind fun y1 => if y1 ≤ v2 then (fX1_greatestAuthor_32 N (fX1_greatestAuthor_6 N x n) x v1 v2 v3) else (fX1_greatestAuthor_32 N (fX1_greatestAuthor_6 N x n) x v3 y1 v3))
set_option maxHeartbeats 4000000 in
set_option maxRecDepth 100000 in
theorem tX1_greatestAuthor_6 {E : EE} {B : BB} {l : Launch} {L : St2 → St2} {b : Nat} {N : Nat} {x : St2} {res : Int32} (C : Cx E B l cX1_greatestAuthor RX1 (some .int) 5 2 44) (hb : Sb b) (hL : Ln b 13 L) (hQ : Fin9 E B (some (.int res)) (L x)) : ∀ (n : Nat) (v1 : Int32) (v2 : Int32) (v3 : Int32), fX1_greatestAuthor_6 N x n v1 v2 v3 = some res → V E B (L x) 6 [(0, .ref (ad B b)), (1, .int v1), (2, .int v2), (3, .int v3)] [] := by
  intro n
  induction n with
  | zero =>
    intro v1 v2 v3 hf
    cases hf
  | succ n ih =>
    intro v1 v2 v3 hf
    rw [fX1_greatestAuthor_6] at hf
    refine v_iload_n C 3 dX1_greatestAuthor_6 rfl rfl ?_
    refine v_aload_n C 0 dX1_greatestAuthor_7 rfl rfl ?_
    refine sh_getI (i := 3) C hb hL (by decide) rfl wd_36 dX1_greatestAuthor_8 ?_
    refine v_icmp_ge (tgt := 38) C dX1_greatestAuthor_11 (by decide) hf (fun hf => ?_) (fun hf => ?_)
    · refine v_iload_n C 1 dX1_greatestAuthor_38 rfl rfl ?_
      exact v_iret C dX1_greatestAuthor_39 (fin_i hf hQ)
    · refine v_aload_n C 0 dX1_greatestAuthor_14 rfl rfl ?_
      refine v_iload_n C 3 dX1_greatestAuthor_15 rfl rfl ?_
      obtain ⟨y1, hy1, hf⟩ := bnd hf
      refine v_callV (r := some (.int y1)) (As := [.int v3]) (rest := []) (K := b) C (mX1_workSize hb hL hy1) cw_X1_workSize wd_287 (by have := Sb.le hb; omega) (tb_o hb) rfl ⟨Nat.le_of_ble_eq_true rfl, Nat.le_of_ble_eq_true rfl⟩ rfl rfl (Nat.le_of_ble_eq_true rfl) dX1_greatestAuthor_16 ?_
      refine v_istore (lv' := [(0, .ref (ad B b)), (1, .int v1), (2, .int v2), (3, .int v3), (4, .int y1)]) C [1, 2, 3, 4, 0] dX1_greatestAuthor_19 (by decide) rfl ?_
      refine v_iload C 4 dX1_greatestAuthor_21 rfl ?_
      refine v_iload_n C 2 dX1_greatestAuthor_23 rfl rfl ?_
      refine v_icmp_le (tgt := 32) C dX1_greatestAuthor_24 (by decide) hf (fun hf => ?_) (fun hf => ?_)
      · refine v_sub [0, 1, 2, 3] rfl ?_
        exact tX1_greatestAuthor_32 C hb hL hQ ih hf
      · refine v_iload C 4 dX1_greatestAuthor_27 rfl ?_
        refine v_istore_n (lv' := [(0, .ref (ad B b)), (1, .int v1), (2, .int y1), (3, .int v3), (4, .int y1)]) C [1, 2, 0, 3, 4] dX1_greatestAuthor_29 rfl (by decide) rfl ?_
        refine v_iload_n C 3 dX1_greatestAuthor_30 rfl rfl ?_
        refine v_istore_n (lv' := [(0, .ref (ad B b)), (1, .int v3), (2, .int y1), (3, .int v3), (4, .int y1)]) C [1, 0, 2, 3, 4] dX1_greatestAuthor_31 rfl (by decide) rfl ?_
        refine v_sub [0, 1, 2, 3] rfl ?_
        exact tX1_greatestAuthor_32 C hb hL hQ ih hf
def fX1_greatestAuthor (N : Nat) (x : St2) : Option Int32 := fX1_greatestAuthor_6 N x N (-1) (-1) 0
set_option maxHeartbeats 4000000 in
set_option maxRecDepth 100000 in
theorem tX1_greatestAuthor {E : EE} {B : BB} {l : Launch} {L : St2 → St2} {b : Nat} {N : Nat} {x : St2} {res : Int32} (C : Cx E B l cX1_greatestAuthor RX1 (some .int) 5 2 44) (hb : Sb b) (hL : Ln b 13 L) (hQ : Fin9 E B (some (.int res)) (L x)) (hf : fX1_greatestAuthor N x = some res) : V E B (L x) 0 [(0, .ref (ad B b))] [] := by
  unfold fX1_greatestAuthor at hf
  refine v_iconst (v := (-1)) C dX1_greatestAuthor_0 (by decide) ?_
  refine v_istore_n (lv' := [(0, .ref (ad B b)), (1, .int (-1))]) C [1, 0] dX1_greatestAuthor_1 rfl (by decide) rfl ?_
  refine v_iconst (v := (-1)) C dX1_greatestAuthor_2 (by decide) ?_
  refine v_istore_n (lv' := [(0, .ref (ad B b)), (1, .int (-1)), (2, .int (-1))]) C [1, 2, 0] dX1_greatestAuthor_3 rfl (by decide) rfl ?_
  refine v_iconst (v := 0) C dX1_greatestAuthor_4 (by decide) ?_
  refine v_istore_n (lv' := [(0, .ref (ad B b)), (1, .int (-1)), (2, .int (-1)), (3, .int 0)]) C [1, 2, 3, 0] dX1_greatestAuthor_5 rfl (by decide) rfl ?_
  exact tX1_greatestAuthor_6 C hb hL hQ N (-1) (-1) 0 hf
theorem mX1_greatestAuthor {B : BB} {l : Launch} {L : St2 → St2} {b : Nat} {N : Nat} {x : St2} {res : Int32} (hb : Sb b) (hL : Ln b 13 L) (hf : fX1_greatestAuthor N x = some res) : Ret l B yX1_greatestAuthor cX1_greatestAuthor 5 (some .int) 2 44 [.ref (ad B b)] (L x) (some (.int res)) (L x) := ret_of (own := RX1) (by decide) rfl (Nat.le_of_ble_eq_true rfl) (fun E C hQ => tX1_greatestAuthor C hb hL hQ hf)
theorem nX1_greatestAuthor {B : BB} {l : Launch} {L : St2 → St2} {b : Nat} {N : Nat} {κ : St2} {res : Int32} (hL : LnC L) (hb : Sb b) (hf : fX1_greatestAuthor N (vw κ b) = some res) : Ret l B yX1_greatestAuthor cX1_greatestAuthor 5 (some .int) 2 44 [.ref (ad B b)] (L κ) (some (.int res)) (L (κ)) := by
  have h : Ret l B yX1_greatestAuthor cX1_greatestAuthor 5 (some .int) 2 44 [.ref (ad B b)] (L (putS κ b (vw κ b))) (some (.int res)) (L (putS κ b (vw κ b))) := mX1_greatestAuthor (L := fun z => L (putS κ b z)) (x := vw κ b) hb (lnS_of hL hb κ) hf
  rw [putS_vw] at h
  exact h
def fX1_stepSum_4 (N : Nat) (x : St2) : Nat → Int32 → Int32 → Option Int32
  | 0, _, _ => none
  | n + 1, v1, v2 => if (x 0 3) ≤ v2 then (some v1) else ((rd (x 11) 8 v2).bind fun a1 => (some (v1 + a1)).bind fun w2 => (fX1_stepSum_4 N x n) w2 (v2 + 1))
set_option maxHeartbeats 4000000 in
set_option maxRecDepth 100000 in
theorem tX1_stepSum_4 {E : EE} {B : BB} {l : Launch} {L : St2 → St2} {b : Nat} {N : Nat} {x : St2} {res : Int32} (C : Cx E B l cX1_stepSum RX1 (some .int) 3 0 0) (hb : Sb b) (hL : Ln b 13 L) (hQ : Fin9 E B (some (.int res)) (L x)) : ∀ (n : Nat) (v1 : Int32) (v2 : Int32), fX1_stepSum_4 N x n v1 v2 = some res → V E B (L x) 4 [(0, .ref (ad B b)), (1, .int v1), (2, .int v2)] [] := by
  intro n
  induction n with
  | zero =>
    intro v1 v2 hf
    cases hf
  | succ n ih =>
    intro v1 v2 hf
    rw [fX1_stepSum_4] at hf
    refine v_iload_n C 2 dX1_stepSum_4 rfl rfl ?_
    refine v_aload_n C 0 dX1_stepSum_5 rfl rfl ?_
    refine sh_getI (i := 3) C hb hL (by decide) rfl wd_36 dX1_stepSum_6 ?_
    refine v_icmp_ge (tgt := 29) C dX1_stepSum_9 (by decide) hf (fun hf => ?_) (fun hf => ?_)
    · refine v_iload_n C 1 dX1_stepSum_29 rfl rfl ?_
      exact v_iret C dX1_stepSum_30 (fin_i hf hQ)
    · refine v_iload_n C 1 dX1_stepSum_12 rfl rfl ?_
      refine v_aload_n C 0 dX1_stepSum_13 rfl rfl ?_
      refine sh_getR (i := 1) (j := b + 5) C hb (by decide) rfl wd_31 dX1_stepSum_14 ?_
      refine v_iconst (v := 5) C dX1_stepSum_17 (by decide) ?_
      refine sh_trS C 5 hb rfl (by decide) dX1_stepSum_18 ?_
      refine v_iload_n C 2 dX1_stepSum_19 rfl rfl ?_
      refine s_ald (k := 11) C hL (by decide) (tb_tr hb (r := 5) (by decide)) dX1_stepSum_20 hf (fun a1 hf => ?_)
      refine v_iadd C dX1_stepSum_21 ?_
      refine v_top hf (fun w2 hf => ?_)
      refine v_istore_n (lv' := [(0, .ref (ad B b)), (1, .int w2), (2, .int v2)]) C [1, 0, 2] dX1_stepSum_22 rfl (by decide) rfl ?_
      refine v_iinc (q := 2) (v := v2 + 1) (lv' := [(0, .ref (ad B b)), (1, .int w2), (2, .int (v2 + 1))]) C [1, 2, 0] dX1_stepSum_23 rfl rfl (by decide) rfl ?_
      refine v_goto (tgt := 4) C dX1_stepSum_26 (by decide) ?_
      exact ih w2 (v2 + 1) hf
def fX1_stepSum (N : Nat) (x : St2) : Option Int32 := fX1_stepSum_4 N x N 0 0
set_option maxHeartbeats 4000000 in
set_option maxRecDepth 100000 in
theorem tX1_stepSum {E : EE} {B : BB} {l : Launch} {L : St2 → St2} {b : Nat} {N : Nat} {x : St2} {res : Int32} (C : Cx E B l cX1_stepSum RX1 (some .int) 3 0 0) (hb : Sb b) (hL : Ln b 13 L) (hQ : Fin9 E B (some (.int res)) (L x)) (hf : fX1_stepSum N x = some res) : V E B (L x) 0 [(0, .ref (ad B b))] [] := by
  unfold fX1_stepSum at hf
  refine v_iconst (v := 0) C dX1_stepSum_0 (by decide) ?_
  refine v_istore_n (lv' := [(0, .ref (ad B b)), (1, .int 0)]) C [1, 0] dX1_stepSum_1 rfl (by decide) rfl ?_
  refine v_iconst (v := 0) C dX1_stepSum_2 (by decide) ?_
  refine v_istore_n (lv' := [(0, .ref (ad B b)), (1, .int 0), (2, .int 0)]) C [1, 2, 0] dX1_stepSum_3 rfl (by decide) rfl ?_
  exact tX1_stepSum_4 C hb hL hQ N 0 0 hf
theorem mX1_stepSum {B : BB} {l : Launch} {L : St2 → St2} {b : Nat} {N : Nat} {x : St2} {res : Int32} (hb : Sb b) (hL : Ln b 13 L) (hf : fX1_stepSum N x = some res) : Ret l B yX1_stepSum cX1_stepSum 3 (some .int) 0 0 [.ref (ad B b)] (L x) (some (.int res)) (L x) := ret_of (own := RX1) (by decide) rfl (Nat.le_of_ble_eq_true rfl) (fun E C hQ => tX1_stepSum C hb hL hQ hf)
theorem nX1_stepSum {B : BB} {l : Launch} {L : St2 → St2} {b : Nat} {N : Nat} {κ : St2} {res : Int32} (hL : LnC L) (hb : Sb b) (hf : fX1_stepSum N (vw κ b) = some res) : Ret l B yX1_stepSum cX1_stepSum 3 (some .int) 0 0 [.ref (ad B b)] (L κ) (some (.int res)) (L (κ)) := by
  have h : Ret l B yX1_stepSum cX1_stepSum 3 (some .int) 0 0 [.ref (ad B b)] (L (putS κ b (vw κ b))) (some (.int res)) (L (putS κ b (vw κ b))) := mX1_stepSum (L := fun z => L (putS κ b z)) (x := vw κ b) hb (lnS_of hL hb κ) hf
  rw [putS_vw] at h
  exact h
def fX1_heldCount_23 (N : Nat) (k4 : Int32 → Int32 → Option Int32) (x : St2) (v1 : Int32) (v2 : Int32) : Option Int32 := k4 v1 (v2 + 1)
set_option maxHeartbeats 4000000 in
set_option maxRecDepth 100000 in
theorem tX1_heldCount_23 {E : EE} {B : BB} {l : Launch} {L : St2 → St2} {b : Nat} {N : Nat} {k4 : Int32 → Int32 → Option Int32} {x : St2} {v1 : Int32} {v2 : Int32} {res : Int32} (C : Cx E B l cX1_heldCount RX1 (some .int) 3 0 0) (hb : Sb b) (hL : Ln b 13 L) (hQ : Fin9 E B (some (.int res)) (L x)) (hk4 : ∀ (v1 : Int32) (v2 : Int32), k4 v1 v2 = some res → V E B (L x) 4 [(0, .ref (ad B b)), (1, .int v1), (2, .int v2)] []) (hf : fX1_heldCount_23 N k4 x v1 v2 = some res) : V E B (L x) 23 [(0, .ref (ad B b)), (1, .int v1), (2, .int v2)] [] := by
  unfold fX1_heldCount_23 at hf
  refine v_iinc (q := 2) (v := v2 + 1) (lv' := [(0, .ref (ad B b)), (1, .int v1), (2, .int (v2 + 1))]) C [1, 2, 0] dX1_heldCount_23 rfl rfl (by decide) rfl ?_
  refine v_goto (tgt := 4) C dX1_heldCount_26 (by decide) ?_
  exact hk4 v1 (v2 + 1) hf
def fX1_heldCount_4 (N : Nat) (x : St2) : Nat → Int32 → Int32 → Option Int32
  | 0, _, _ => none
  | n + 1, v1, v2 => if 10 ≤ v2 then (some v1) else ((rd (x 12) 10 v2).bind fun a1 => if a1 = (-1) then (fX1_heldCount_23 N (fX1_heldCount_4 N x n) x v1 v2) else (fX1_heldCount_23 N (fX1_heldCount_4 N x n) x (v1 + 1) v2))
set_option maxHeartbeats 4000000 in
set_option maxRecDepth 100000 in
theorem tX1_heldCount_4 {E : EE} {B : BB} {l : Launch} {L : St2 → St2} {b : Nat} {N : Nat} {x : St2} {res : Int32} (C : Cx E B l cX1_heldCount RX1 (some .int) 3 0 0) (hb : Sb b) (hL : Ln b 13 L) (hQ : Fin9 E B (some (.int res)) (L x)) : ∀ (n : Nat) (v1 : Int32) (v2 : Int32), fX1_heldCount_4 N x n v1 v2 = some res → V E B (L x) 4 [(0, .ref (ad B b)), (1, .int v1), (2, .int v2)] [] := by
  intro n
  induction n with
  | zero =>
    intro v1 v2 hf
    cases hf
  | succ n ih =>
    intro v1 v2 hf
    rw [fX1_heldCount_4] at hf
    refine v_iload_n C 2 dX1_heldCount_4 rfl rfl ?_
    refine v_bipush (v := 10) C dX1_heldCount_5 (by decide) ?_
    refine v_icmp_ge (tgt := 29) C dX1_heldCount_7 (by decide) hf (fun hf => ?_) (fun hf => ?_)
    · refine v_iload_n C 1 dX1_heldCount_29 rfl rfl ?_
      exact v_iret C dX1_heldCount_30 (fin_i hf hQ)
    · refine v_aload_n C 0 dX1_heldCount_10 rfl rfl ?_
      refine sh_getR (i := 2) (j := b + 12) C hb (by decide) rfl wd_34 dX1_heldCount_11 ?_
      refine v_iload_n C 2 dX1_heldCount_14 rfl rfl ?_
      refine s_ald (k := 12) C hL (by decide) (tb_sp hb) dX1_heldCount_15 hf (fun a1 hf => ?_)
      refine v_iconst (v := (-1)) C dX1_heldCount_16 (by decide) ?_
      refine v_icmp_eq (tgt := 23) C dX1_heldCount_17 (by decide) hf (fun hf => ?_) (fun hf => ?_)
      · exact tX1_heldCount_23 C hb hL hQ ih hf
      · refine v_iinc (q := 1) (v := v1 + 1) (lv' := [(0, .ref (ad B b)), (1, .int (v1 + 1)), (2, .int v2)]) C [1, 0, 2] dX1_heldCount_20 rfl rfl (by decide) rfl ?_
        exact tX1_heldCount_23 C hb hL hQ ih hf
def fX1_heldCount (N : Nat) (x : St2) : Option Int32 := fX1_heldCount_4 N x N 0 0
set_option maxHeartbeats 4000000 in
set_option maxRecDepth 100000 in
theorem tX1_heldCount {E : EE} {B : BB} {l : Launch} {L : St2 → St2} {b : Nat} {N : Nat} {x : St2} {res : Int32} (C : Cx E B l cX1_heldCount RX1 (some .int) 3 0 0) (hb : Sb b) (hL : Ln b 13 L) (hQ : Fin9 E B (some (.int res)) (L x)) (hf : fX1_heldCount N x = some res) : V E B (L x) 0 [(0, .ref (ad B b))] [] := by
  unfold fX1_heldCount at hf
  refine v_iconst (v := 0) C dX1_heldCount_0 (by decide) ?_
  refine v_istore_n (lv' := [(0, .ref (ad B b)), (1, .int 0)]) C [1, 0] dX1_heldCount_1 rfl (by decide) rfl ?_
  refine v_iconst (v := 0) C dX1_heldCount_2 (by decide) ?_
  refine v_istore_n (lv' := [(0, .ref (ad B b)), (1, .int 0), (2, .int 0)]) C [1, 2, 0] dX1_heldCount_3 rfl (by decide) rfl ?_
  exact tX1_heldCount_4 C hb hL hQ N 0 0 hf
theorem mX1_heldCount {B : BB} {l : Launch} {L : St2 → St2} {b : Nat} {N : Nat} {x : St2} {res : Int32} (hb : Sb b) (hL : Ln b 13 L) (hf : fX1_heldCount N x = some res) : Ret l B yX1_heldCount cX1_heldCount 3 (some .int) 0 0 [.ref (ad B b)] (L x) (some (.int res)) (L x) := ret_of (own := RX1) (by decide) rfl (Nat.le_of_ble_eq_true rfl) (fun E C hQ => tX1_heldCount C hb hL hQ hf)
theorem nX1_heldCount {B : BB} {l : Launch} {L : St2 → St2} {b : Nat} {N : Nat} {κ : St2} {res : Int32} (hL : LnC L) (hb : Sb b) (hf : fX1_heldCount N (vw κ b) = some res) : Ret l B yX1_heldCount cX1_heldCount 3 (some .int) 0 0 [.ref (ad B b)] (L κ) (some (.int res)) (L (κ)) := by
  have h : Ret l B yX1_heldCount cX1_heldCount 3 (some .int) 0 0 [.ref (ad B b)] (L (putS κ b (vw κ b))) (some (.int res)) (L (putS κ b (vw κ b))) := mX1_heldCount (L := fun z => L (putS κ b z)) (x := vw κ b) hb (lnS_of hL hb κ) hf
  rw [putS_vw] at h
  exact h
