def fX2_tokenOfByte_28 (v0 : Int32) : Option Int32 := if v0 = 59 then (some 3) else (some 4)
set_option maxHeartbeats 4000000 in
set_option maxRecDepth 100000 in
theorem tX2_tokenOfByte_28 {E : EE} {B : BB} {l : Launch} {σ : St2} {v0 : Int32} {res : Int32} (C : Cx E B l cX2_tokenOfByte RX2 (some .int) 1 0 0) (hQ : Fin9 E B (some (.int res)) σ) (hf : fX2_tokenOfByte_28 v0 = some res) : V E B σ 28 [(0, .int v0)] [] := by
  unfold fX2_tokenOfByte_28 at hf
  refine v_iload_n C 0 dX2_tokenOfByte_28 rfl rfl ?_
  refine v_bipush (v := 59) C dX2_tokenOfByte_29 (by decide) ?_
  refine v_icmp_ne (tgt := 38) C dX2_tokenOfByte_31 (by decide) hf (fun hf => ?_) (fun hf => ?_)
  · refine v_iconst (v := 4) C dX2_tokenOfByte_38 (by decide) ?_
    exact v_iret C dX2_tokenOfByte_39 (fin_i hf hQ)
  · refine v_iconst (v := 3) C dX2_tokenOfByte_34 (by decide) ?_
    refine v_goto (tgt := 39) C dX2_tokenOfByte_35 (by decide) ?_
    exact v_iret C dX2_tokenOfByte_39 (fin_i hf hQ)
def fX2_tokenOfByte_14 (v0 : Int32) : Option Int32 := if v0 < 48 then (fX2_tokenOfByte_28 v0) else (if 57 < v0 then (fX2_tokenOfByte_28 v0) else (some 2))
set_option maxHeartbeats 4000000 in
set_option maxRecDepth 100000 in
theorem tX2_tokenOfByte_14 {E : EE} {B : BB} {l : Launch} {σ : St2} {v0 : Int32} {res : Int32} (C : Cx E B l cX2_tokenOfByte RX2 (some .int) 1 0 0) (hQ : Fin9 E B (some (.int res)) σ) (hf : fX2_tokenOfByte_14 v0 = some res) : V E B σ 14 [(0, .int v0)] [] := by
  unfold fX2_tokenOfByte_14 at hf
  refine v_iload_n C 0 dX2_tokenOfByte_14 rfl rfl ?_
  refine v_bipush (v := 48) C dX2_tokenOfByte_15 (by decide) ?_
  refine v_icmp_lt (tgt := 28) C dX2_tokenOfByte_17 (by decide) hf (fun hf => ?_) (fun hf => ?_)
  · exact tX2_tokenOfByte_28 C hQ hf
  · refine v_iload_n C 0 dX2_tokenOfByte_20 rfl rfl ?_
    refine v_bipush (v := 57) C dX2_tokenOfByte_21 (by decide) ?_
    refine v_icmp_gt (tgt := 28) C dX2_tokenOfByte_23 (by decide) hf (fun hf => ?_) (fun hf => ?_)
    · exact tX2_tokenOfByte_28 C hQ hf
    · refine v_iconst (v := 2) C dX2_tokenOfByte_26 (by decide) ?_
      exact v_iret C dX2_tokenOfByte_27 (fin_i hf hQ)
def fX2_tokenOfByte (v0 : Int32) : Option Int32 := if v0 < 97 then (fX2_tokenOfByte_14 v0) else (if 122 < v0 then (fX2_tokenOfByte_14 v0) else (some 1))
set_option maxHeartbeats 4000000 in
set_option maxRecDepth 100000 in
theorem tX2_tokenOfByte {E : EE} {B : BB} {l : Launch} {σ : St2} {v0 : Int32} {res : Int32} (C : Cx E B l cX2_tokenOfByte RX2 (some .int) 1 0 0) (hQ : Fin9 E B (some (.int res)) σ) (hf : fX2_tokenOfByte v0 = some res) : V E B σ 0 [(0, .int v0)] [] := by
  unfold fX2_tokenOfByte at hf
  refine v_iload_n C 0 dX2_tokenOfByte_0 rfl rfl ?_
  refine v_bipush (v := 97) C dX2_tokenOfByte_1 (by decide) ?_
  refine v_icmp_lt (tgt := 14) C dX2_tokenOfByte_3 (by decide) hf (fun hf => ?_) (fun hf => ?_)
  · exact tX2_tokenOfByte_14 C hQ hf
  · refine v_iload_n C 0 dX2_tokenOfByte_6 rfl rfl ?_
    refine v_bipush (v := 122) C dX2_tokenOfByte_7 (by decide) ?_
    refine v_icmp_gt (tgt := 14) C dX2_tokenOfByte_9 (by decide) hf (fun hf => ?_) (fun hf => ?_)
    · exact tX2_tokenOfByte_14 C hQ hf
    · refine v_iconst (v := 1) C dX2_tokenOfByte_12 (by decide) ?_
      exact v_iret C dX2_tokenOfByte_13 (fin_i hf hQ)
theorem mX2_tokenOfByte {B : BB} {l : Launch} {σ : St2} {v0 : Int32} {res : Int32} (hf : fX2_tokenOfByte v0 = some res) : Ret l B yX2_tokenOfByte cX2_tokenOfByte 1 (some .int) 0 0 [.int v0] σ (some (.int res)) σ := ret_of (own := RX2) (by decide) rfl (Nat.le_of_ble_eq_true rfl) (fun E C hQ => tX2_tokenOfByte C hQ hf)
def fX2_wordOfKind (v0 : Int32) : Option Nat := if v0 = 1 then (some 1) else (if v0 = 2 then (some 2) else (if v0 = 3 then (some 3) else (if v0 = 4 then (some 4) else (if v0 = 5 then (some 5) else (if v0 = 6 then (some 6) else (some 0))))))
set_option maxHeartbeats 4000000 in
set_option maxRecDepth 100000 in
theorem tX2_wordOfKind {E : EE} {B : BB} {l : Launch} {σ : St2} {v0 : Int32} {res : Nat} (C : Cx E B l cX2_wordOfKind RX2 (some (.object "java/lang/String")) 1 0 0) (hQ : Fin9 E B (some (.ref (sk B res))) σ) (hf : fX2_wordOfKind v0 = some res) : V E B σ 0 [(0, .int v0)] [] := by
  unfold fX2_wordOfKind at hf
  refine v_iload_n C 0 dX2_wordOfKind_0 rfl rfl ?_
  by_cases hc1_1 : v0 = 1
  · rw [if_pos hc1_1] at hf
    refine v_tabIn (tgt := 40) C dX2_wordOfKind_1 hc1_1 (by decide) (by decide) rfl (by decide) ?_
    refine v_ldcS C sr_491 dX2_wordOfKind_40 ?_
    exact v_aret C dX2_wordOfKind_42 (fin_r hf hQ)
  · rw [if_neg hc1_1] at hf
    by_cases hc1_2 : v0 = 2
    · rw [if_pos hc1_2] at hf
      refine v_tabIn (tgt := 43) C dX2_wordOfKind_1 hc1_2 (by decide) (by decide) rfl (by decide) ?_
      refine v_ldcS C sr_492 dX2_wordOfKind_43 ?_
      exact v_aret C dX2_wordOfKind_45 (fin_r hf hQ)
    · rw [if_neg hc1_2] at hf
      by_cases hc1_3 : v0 = 3
      · rw [if_pos hc1_3] at hf
        refine v_tabIn (tgt := 46) C dX2_wordOfKind_1 hc1_3 (by decide) (by decide) rfl (by decide) ?_
        refine v_ldcS C sr_493 dX2_wordOfKind_46 ?_
        exact v_aret C dX2_wordOfKind_48 (fin_r hf hQ)
      · rw [if_neg hc1_3] at hf
        by_cases hc1_4 : v0 = 4
        · rw [if_pos hc1_4] at hf
          refine v_tabIn (tgt := 49) C dX2_wordOfKind_1 hc1_4 (by decide) (by decide) rfl (by decide) ?_
          refine v_ldcS C sr_494 dX2_wordOfKind_49 ?_
          exact v_aret C dX2_wordOfKind_51 (fin_r hf hQ)
        · rw [if_neg hc1_4] at hf
          by_cases hc1_5 : v0 = 5
          · rw [if_pos hc1_5] at hf
            refine v_tabIn (tgt := 52) C dX2_wordOfKind_1 hc1_5 (by decide) (by decide) rfl (by decide) ?_
            refine v_ldcS C sr_495 dX2_wordOfKind_52 ?_
            exact v_aret C dX2_wordOfKind_54 (fin_r hf hQ)
          · rw [if_neg hc1_5] at hf
            by_cases hc1_6 : v0 = 6
            · rw [if_pos hc1_6] at hf
              refine v_tabIn (tgt := 55) C dX2_wordOfKind_1 hc1_6 (by decide) (by decide) rfl (by decide) ?_
              refine v_ldcS C sr_496 dX2_wordOfKind_55 ?_
              exact v_aret C dX2_wordOfKind_57 (fin_r hf hQ)
            · rw [if_neg hc1_6] at hf
              have e1_1 : v0.toInt ≠ 1 := ne_ti (y := 1) hc1_1
              have e1_2 : v0.toInt ≠ 2 := ne_ti (y := 2) hc1_2
              have e1_3 : v0.toInt ≠ 3 := ne_ti (y := 3) hc1_3
              have e1_4 : v0.toInt ≠ 4 := ne_ti (y := 4) hc1_4
              have e1_5 : v0.toInt ≠ 5 := ne_ti (y := 5) hc1_5
              have e1_6 : v0.toInt ≠ 6 := ne_ti (y := 6) hc1_6
              refine v_tabOut (tgt := 58) C dX2_wordOfKind_1 (by omega) (by decide) ?_
              refine v_ldcS C sr_497 dX2_wordOfKind_58 ?_
              exact v_aret C dX2_wordOfKind_60 (fin_r hf hQ)
theorem mX2_wordOfKind {B : BB} {l : Launch} {σ : St2} {v0 : Int32} {res : Nat} (hf : fX2_wordOfKind v0 = some res) : Ret l B yX2_wordOfKind cX2_wordOfKind 1 (some (.object "java/lang/String")) 0 0 [.int v0] σ (some (.ref (sk B res))) σ := ret_of (own := RX2) (by decide) rfl (Nat.le_of_ble_eq_true rfl) (fun E C hQ => tX2_wordOfKind C hQ hf)
theorem X2_wordOfKind_lt {v : Int32} {y : Nat} (h : fX2_wordOfKind v = some y) : y < 14 := by
  unfold fX2_wordOfKind at h
  repeat' split at h
  all_goals (cases h; decide)
def fX2_hasRoom (κ : St2) (v1 : Int32) : Option Int32 := if (120 - (κ 2 1)) < v1 then (some 0) else (some 1)
set_option maxHeartbeats 4000000 in
set_option maxRecDepth 100000 in
theorem tX2_hasRoom {E : EE} {B : BB} {l : Launch} {L : St2 → St2} {κ : St2} {v1 : Int32} {res : Int32} (C : Cx E B l cX2_hasRoom RX2 (some .boolean) 2 0 0) (hL : LnC L) (hQ : Fin9 E B (some (.int res)) (L κ)) (hf : fX2_hasRoom κ v1 = some res) : V E B (L κ) 0 [(0, .ref (ad B 2)), (1, .int v1)] [] := by
  unfold fX2_hasRoom at hf
  refine v_iload_n C 1 dX2_hasRoom_0 rfl rfl ?_
  refine v_bipush (v := 120) C dX2_hasRoom_1 (by decide) ?_
  refine v_aload_n C 0 dX2_hasRoom_3 rfl rfl ?_
  refine c_getI (k := 2) (i := 1) C hL (by decide) rfl rfl inX2 (by decide) rfl wd_73 dX2_hasRoom_4 ?_
  refine v_isub C dX2_hasRoom_7 ?_
  refine v_icmp_gt (tgt := 15) C dX2_hasRoom_8 (by decide) hf (fun hf => ?_) (fun hf => ?_)
  · refine v_iconst (v := 0) C dX2_hasRoom_15 (by decide) ?_
    exact v_zret C (Or.inl rfl) dX2_hasRoom_16 (fin_i hf hQ)
  · refine v_iconst (v := 1) C dX2_hasRoom_11 (by decide) ?_
    refine v_goto (tgt := 16) C dX2_hasRoom_12 (by decide) ?_
    exact v_zret C (Or.inr rfl) dX2_hasRoom_16 (fin_i hf hQ)
theorem mX2_hasRoom {B : BB} {l : Launch} {L : St2 → St2} {κ : St2} {v1 : Int32} {res : Int32} (hL : LnC L) (hf : fX2_hasRoom κ v1 = some res) : Ret l B yX2_hasRoom cX2_hasRoom 2 (some .boolean) 0 0 [.ref (ad B 2), .int v1] (L κ) (some (.int res)) (L κ) := ret_of (own := RX2) (by decide) rfl (Nat.le_of_ble_eq_true rfl) (fun E C hQ => tX2_hasRoom C hL hQ hf)
def fX2_append (κ : St2) (v1 : Int32) : Option St2 := (wr κ 3 120 (κ 2 1) (v1 &&& 255)).bind fun κ1 => (pf κ1 2 1 ((κ1 2 1) + 1)).bind fun κ2 => some κ2
set_option maxHeartbeats 4000000 in
set_option maxRecDepth 100000 in
theorem tX2_append {E : EE} {B : BB} {l : Launch} {L : St2 → St2} {κ : St2} {v1 : Int32} {res : St2} (C : Cx E B l cX2_append RX2 none 2 0 0) (hL : LnC L) (hQ : Fin9 E B none (L res)) (hf : fX2_append κ v1 = some res) : V E B (L κ) 0 [(0, .ref (ad B 2)), (1, .int v1)] [] := by
  unfold fX2_append at hf
  refine v_aload_n C 0 dX2_append_0 rfl rfl ?_
  refine g_getR (K := 2) (i := 0) (j := 3) C (by decide) rfl rfl inX2 (by decide) rfl wd_72 dX2_append_1 ?_
  refine v_aload_n C 0 dX2_append_4 rfl rfl ?_
  refine c_getI (k := 2) (i := 1) C hL (by decide) rfl rfl inX2 (by decide) rfl wd_73 dX2_append_5 ?_
  refine v_iload_n C 1 dX2_append_8 rfl rfl ?_
  refine v_sipush (v := 255) C dX2_append_9 (by decide) ?_
  refine v_iand C dX2_append_12 ?_
  refine c_ast (k := 3) C hL (by decide) rfl dX2_append_13 hf (fun κ1 hf => ?_)
  refine v_aload_n C 0 dX2_append_14 rfl rfl ?_
  refine v_dup C dX2_append_15 rfl ?_
  refine c_getI (k := 2) (i := 1) C hL (by decide) rfl rfl inX2 (by decide) rfl wd_73 dX2_append_16 ?_
  refine v_iconst (v := 1) C dX2_append_19 (by decide) ?_
  refine v_iadd C dX2_append_20 ?_
  refine c_putI (k := 2) (i := 1) C hL (by decide) rfl rfl inX2 tyX2 tyX2_ok nmX2 (by decide) rfl wd_73 rfl (by decide +kernel) dX2_append_21 hf (fun κ2 hf => ?_)
  exact v_vret C dX2_append_24 (fin_v hf hQ)
theorem mX2_append {B : BB} {l : Launch} {L : St2 → St2} {κ : St2} {v1 : Int32} {res : St2} (hL : LnC L) (hf : fX2_append κ v1 = some res) : Ret l B yX2_append cX2_append 2 none 0 0 [.ref (ad B 2), .int v1] (L κ) none (L res) := ret_of (own := RX2) (by decide) rfl (Nat.le_of_ble_eq_true rfl) (fun E C hQ => tX2_append C hL hQ hf)
def fX2_step_227 (N : Nat) (k103 : St2 → Int32 → Option St2) (κ : St2) (s0 : Int32) : Option St2 := k103 κ s0
set_option maxHeartbeats 4000000 in
set_option maxRecDepth 100000 in
theorem tX2_step_227 {E : EE} {B : BB} {l : Launch} {L : St2 → St2} {N : Nat} {k103 : St2 → Int32 → Option St2} {κ : St2} {s0 : Int32} {res : St2} (C : Cx E B l cX2_step RX2 none 3 1 21) (hL : LnC L) (hQ : Fin9 E B none (L res)) (hk103 : ∀ (κ : St2) (v1 : Int32), k103 κ v1 = some res → V E B (L κ) 103 [(0, .ref (ad B 2)), (1, .int v1)] []) (hf : fX2_step_227 N k103 κ s0 = some res) : V E B (L κ) 227 [(0, .ref (ad B 2))] [.int s0] := by
  unfold fX2_step_227 at hf
  refine v_istore_n (lv' := [(0, .ref (ad B 2)), (1, .int s0)]) C [1, 0] dX2_step_227 rfl (by decide) rfl ?_
  refine v_goto (tgt := 103) C dX2_step_228 (by decide) ?_
  exact hk103 κ s0 hf
def fX2_step_226 (N : Nat) (k103 : St2 → Int32 → Option St2) (κ : St2) : Option St2 := fX2_step_227 N k103 κ 0
set_option maxHeartbeats 4000000 in
set_option maxRecDepth 100000 in
theorem tX2_step_226 {E : EE} {B : BB} {l : Launch} {L : St2 → St2} {N : Nat} {k103 : St2 → Int32 → Option St2} {κ : St2} {res : St2} (C : Cx E B l cX2_step RX2 none 3 1 21) (hL : LnC L) (hQ : Fin9 E B none (L res)) (hk103 : ∀ (κ : St2) (v1 : Int32), k103 κ v1 = some res → V E B (L κ) 103 [(0, .ref (ad B 2)), (1, .int v1)] []) (hf : fX2_step_226 N k103 κ = some res) : V E B (L κ) 226 [(0, .ref (ad B 2))] [] := by
  unfold fX2_step_226 at hf
  refine v_iconst (v := 0) C dX2_step_226 (by decide) ?_
  exact tX2_step_227 C hL hQ hk103 hf
def fX2_step_187 (N : Nat) (k103 : St2 → Int32 → Option St2) (κ : St2) (s0 : Int32) : Option St2 := if s0 = 0 then (fX2_step_226 N k103 κ) else (if (κ 2 1) ≤ (κ 2 4) then (fX2_step_226 N k103 κ) else ((rd (κ 3) 120 (κ 2 4)).bind fun a6 => (fX2_tokenOfByte a6).bind fun y7 => if y7 = (κ 2 2) then (fX2_step_227 N k103 κ 1) else (fX2_step_226 N k103 κ)))
set_option maxHeartbeats 4000000 in
set_option maxRecDepth 100000 in
theorem tX2_step_187 {E : EE} {B : BB} {l : Launch} {L : St2 → St2} {N : Nat} {k103 : St2 → Int32 → Option St2} {κ : St2} {s0 : Int32} {res : St2} (C : Cx E B l cX2_step RX2 none 3 1 21) (hL : LnC L) (hQ : Fin9 E B none (L res)) (hk103 : ∀ (κ : St2) (v1 : Int32), k103 κ v1 = some res → V E B (L κ) 103 [(0, .ref (ad B 2)), (1, .int v1)] []) (hf : fX2_step_187 N k103 κ s0 = some res) : V E B (L κ) 187 [(0, .ref (ad B 2))] [.int s0] := by
  unfold fX2_step_187 at hf
  refine v_istore_n (lv' := [(0, .ref (ad B 2)), (2, .int s0)]) C [1, 0] dX2_step_187 rfl (by decide) rfl ?_
  refine v_iload_n C 1 dX2_step_188 rfl rfl ?_
  refine v_if_eq (tgt := 226) C dX2_step_189 (by decide) hf (fun hf => ?_) (fun hf => ?_)
  · refine v_sub [0] rfl ?_
    exact tX2_step_226 C hL hQ hk103 hf
  · refine v_aload_n C 0 dX2_step_192 rfl rfl ?_
    refine c_getI (k := 2) (i := 4) C hL (by decide) rfl rfl inX2 (by decide) rfl wd_77 dX2_step_193 ?_
    refine v_aload_n C 0 dX2_step_196 rfl rfl ?_
    refine c_getI (k := 2) (i := 1) C hL (by decide) rfl rfl inX2 (by decide) rfl wd_73 dX2_step_197 ?_
    refine v_icmp_ge (tgt := 226) C dX2_step_200 (by decide) hf (fun hf => ?_) (fun hf => ?_)
    · refine v_sub [0] rfl ?_
      exact tX2_step_226 C hL hQ hk103 hf
    · refine v_aload_n C 0 dX2_step_203 rfl rfl ?_
      refine g_getR (K := 2) (i := 0) (j := 3) C (by decide) rfl rfl inX2 (by decide) rfl wd_72 dX2_step_204 ?_
      refine v_aload_n C 0 dX2_step_207 rfl rfl ?_
      refine c_getI (k := 2) (i := 4) C hL (by decide) rfl rfl inX2 (by decide) rfl wd_77 dX2_step_208 ?_
      refine c_ald (k := 3) C hL (by decide) rfl dX2_step_211 hf (fun a6 hf => ?_)
      obtain ⟨y7, hy7, hf⟩ := bnd hf
      refine v_callS (r := some (.int y7)) (As := [.int a6]) (rest := []) C (mX2_tokenOfByte  hy7) cw_X2_tokenOfByte wd_476 ⟨Nat.le_of_ble_eq_true rfl, Nat.le_of_ble_eq_true rfl⟩ rfl rfl (Nat.le_of_ble_eq_true rfl) dX2_step_212 ?_
      refine v_aload_n C 0 dX2_step_215 rfl rfl ?_
      refine c_getI (k := 2) (i := 2) C hL (by decide) rfl rfl inX2 (by decide) rfl wd_75 dX2_step_216 ?_
      refine v_icmp_ne (tgt := 226) C dX2_step_219 (by decide) hf (fun hf => ?_) (fun hf => ?_)
      · refine v_sub [0] rfl ?_
        exact tX2_step_226 C hL hQ hk103 hf
      · refine v_iconst (v := 1) C dX2_step_222 (by decide) ?_
        refine v_goto (tgt := 227) C dX2_step_223 (by decide) ?_
        refine v_sub [0] rfl ?_
        exact tX2_step_227 C hL hQ hk103 hf
def fX2_step_182 (N : Nat) (k103 : St2 → Int32 → Option St2) (κ : St2) : Option St2 := fX2_step_187 N k103 κ 1
set_option maxHeartbeats 4000000 in
set_option maxRecDepth 100000 in
theorem tX2_step_182 {E : EE} {B : BB} {l : Launch} {L : St2 → St2} {N : Nat} {k103 : St2 → Int32 → Option St2} {κ : St2} {res : St2} (C : Cx E B l cX2_step RX2 none 3 1 21) (hL : LnC L) (hQ : Fin9 E B none (L res)) (hk103 : ∀ (κ : St2) (v1 : Int32), k103 κ v1 = some res → V E B (L κ) 103 [(0, .ref (ad B 2)), (1, .int v1)] []) (hf : fX2_step_182 N k103 κ = some res) : V E B (L κ) 182 [(0, .ref (ad B 2))] [] := by
  unfold fX2_step_182 at hf
  refine v_iconst (v := 1) C dX2_step_182 (by decide) ?_
  refine v_goto (tgt := 187) C dX2_step_183 (by decide) ?_
  exact tX2_step_187 C hL hQ hk103 hf
def fX2_step_156 (N : Nat) (k103 : St2 → Int32 → Option St2) (κ : St2) : Option St2 := (pf κ 2 4 ((κ 2 4) + 1)).bind fun κ5 => if (κ5 2 2) = 1 then (fX2_step_182 N k103 κ5) else (if (κ5 2 2) = 2 then (fX2_step_182 N k103 κ5) else (fX2_step_187 N k103 κ5 0))
set_option maxHeartbeats 4000000 in
set_option maxRecDepth 100000 in
theorem tX2_step_156 {E : EE} {B : BB} {l : Launch} {L : St2 → St2} {N : Nat} {k103 : St2 → Int32 → Option St2} {κ : St2} {res : St2} (C : Cx E B l cX2_step RX2 none 3 1 21) (hL : LnC L) (hQ : Fin9 E B none (L res)) (hk103 : ∀ (κ : St2) (v1 : Int32), k103 κ v1 = some res → V E B (L κ) 103 [(0, .ref (ad B 2)), (1, .int v1)] []) (hf : fX2_step_156 N k103 κ = some res) : V E B (L κ) 156 [(0, .ref (ad B 2))] [] := by
  unfold fX2_step_156 at hf
  refine v_aload_n C 0 dX2_step_156 rfl rfl ?_
  refine v_dup C dX2_step_157 rfl ?_
  refine c_getI (k := 2) (i := 4) C hL (by decide) rfl rfl inX2 (by decide) rfl wd_77 dX2_step_158 ?_
  refine v_iconst (v := 1) C dX2_step_161 (by decide) ?_
  refine v_iadd C dX2_step_162 ?_
  refine c_putI (k := 2) (i := 4) C hL (by decide) rfl rfl inX2 tyX2 tyX2_ok nmX2 (by decide) rfl wd_77 rfl (by decide +kernel) dX2_step_163 hf (fun κ5 hf => ?_)
  refine v_aload_n C 0 dX2_step_166 rfl rfl ?_
  refine c_getI (k := 2) (i := 2) C hL (by decide) rfl rfl inX2 (by decide) rfl wd_75 dX2_step_167 ?_
  refine v_iconst (v := 1) C dX2_step_170 (by decide) ?_
  refine v_icmp_eq (tgt := 182) C dX2_step_171 (by decide) hf (fun hf => ?_) (fun hf => ?_)
  · exact tX2_step_182 C hL hQ hk103 hf
  · refine v_aload_n C 0 dX2_step_174 rfl rfl ?_
    refine c_getI (k := 2) (i := 2) C hL (by decide) rfl rfl inX2 (by decide) rfl wd_75 dX2_step_175 ?_
    refine v_iconst (v := 2) C dX2_step_178 (by decide) ?_
    refine v_icmp_ne (tgt := 186) C dX2_step_179 (by decide) hf (fun hf => ?_) (fun hf => ?_)
    · refine v_iconst (v := 0) C dX2_step_186 (by decide) ?_
      exact tX2_step_187 C hL hQ hk103 hf
    · exact tX2_step_182 C hL hQ hk103 hf
def fX2_step_103 (N : Nat) : Nat → St2 → Int32 → Option St2
  | 0, _, _ => none
  | n + 1, κ, v1 => if v1 = 0 then (some κ) else (if (κ 2 1) ≤ (κ 2 4) then (some κ) else (if (κ 2 2) = 2 then ((rd (κ 3) 120 (κ 2 4)).bind fun a8 => (pf κ 2 5 (imin 1000 ((((κ 2 5) * 10) + a8) - 48))).bind fun κ9 => fX2_step_156 N (fX2_step_103 N n) κ9) else (fX2_step_156 N (fX2_step_103 N n) κ)))
set_option maxHeartbeats 4000000 in
set_option maxRecDepth 100000 in
theorem tX2_step_103 {E : EE} {B : BB} {l : Launch} {L : St2 → St2} {N : Nat} {res : St2} (C : Cx E B l cX2_step RX2 none 3 1 21) (hL : LnC L) (hQ : Fin9 E B none (L res)) : ∀ (n : Nat) (κ : St2) (v1 : Int32), fX2_step_103 N n κ v1 = some res → V E B (L κ) 103 [(0, .ref (ad B 2)), (1, .int v1)] [] := by
  intro n
  induction n with
  | zero =>
    intro κ v1 hf
    cases hf
  | succ n ih =>
    intro κ v1 hf
    rw [fX2_step_103] at hf
    refine v_iload_n C 1 dX2_step_103 rfl rfl ?_
    refine v_if_eq (tgt := 231) C dX2_step_104 (by decide) hf (fun hf => ?_) (fun hf => ?_)
    · exact v_vret C dX2_step_231 (fin_v hf hQ)
    · refine v_aload_n C 0 dX2_step_107 rfl rfl ?_
      refine c_getI (k := 2) (i := 4) C hL (by decide) rfl rfl inX2 (by decide) rfl wd_77 dX2_step_108 ?_
      refine v_aload_n C 0 dX2_step_111 rfl rfl ?_
      refine c_getI (k := 2) (i := 1) C hL (by decide) rfl rfl inX2 (by decide) rfl wd_73 dX2_step_112 ?_
      refine v_icmp_ge (tgt := 231) C dX2_step_115 (by decide) hf (fun hf => ?_) (fun hf => ?_)
      · exact v_vret C dX2_step_231 (fin_v hf hQ)
      · refine v_aload_n C 0 dX2_step_118 rfl rfl ?_
        refine c_getI (k := 2) (i := 2) C hL (by decide) rfl rfl inX2 (by decide) rfl wd_75 dX2_step_119 ?_
        refine v_iconst (v := 2) C dX2_step_122 (by decide) ?_
        refine v_icmp_ne (tgt := 156) C dX2_step_123 (by decide) hf (fun hf => ?_) (fun hf => ?_)
        · refine v_sub [0] rfl ?_
          exact tX2_step_156 C hL hQ ih hf
        · refine v_aload_n C 0 dX2_step_126 rfl rfl ?_
          refine v_sipush (v := 1000) C dX2_step_127 (by decide) ?_
          refine v_aload_n C 0 dX2_step_130 rfl rfl ?_
          refine c_getI (k := 2) (i := 5) C hL (by decide) rfl rfl inX2 (by decide) rfl wd_78 dX2_step_131 ?_
          refine v_bipush (v := 10) C dX2_step_134 (by decide) ?_
          refine v_imul C dX2_step_136 ?_
          refine v_aload_n C 0 dX2_step_137 rfl rfl ?_
          refine g_getR (K := 2) (i := 0) (j := 3) C (by decide) rfl rfl inX2 (by decide) rfl wd_72 dX2_step_138 ?_
          refine v_aload_n C 0 dX2_step_141 rfl rfl ?_
          refine c_getI (k := 2) (i := 4) C hL (by decide) rfl rfl inX2 (by decide) rfl wd_77 dX2_step_142 ?_
          refine c_ald (k := 3) C hL (by decide) rfl dX2_step_145 hf (fun a8 hf => ?_)
          refine v_iadd C dX2_step_146 ?_
          refine v_bipush (v := 48) C dX2_step_147 (by decide) ?_
          refine v_isub C dX2_step_149 ?_
          refine w_mmin C wd_479 (by decide) (Nat.le_of_ble_eq_true rfl) dX2_step_150 ?_
          refine c_putI (k := 2) (i := 5) C hL (by decide) rfl rfl inX2 tyX2 tyX2_ok nmX2 (by decide) rfl wd_78 rfl (by decide +kernel) dX2_step_153 hf (fun κ9 hf => ?_)
          refine v_sub [0] rfl ?_
          exact tX2_step_156 C hL hQ ih hf
def fX2_step_102 (N : Nat) (κ : St2) (s0 : Int32) : Option St2 := fX2_step_103 N N κ s0
set_option maxHeartbeats 4000000 in
set_option maxRecDepth 100000 in
theorem tX2_step_102 {E : EE} {B : BB} {l : Launch} {L : St2 → St2} {N : Nat} {κ : St2} {s0 : Int32} {res : St2} (C : Cx E B l cX2_step RX2 none 3 1 21) (hL : LnC L) (hQ : Fin9 E B none (L res)) (hf : fX2_step_102 N κ s0 = some res) : V E B (L κ) 102 [(0, .ref (ad B 2))] [.int s0] := by
  unfold fX2_step_102 at hf
  refine v_istore_n (lv' := [(0, .ref (ad B 2)), (1, .int s0)]) C [1, 0] dX2_step_102 rfl (by decide) rfl ?_
  exact tX2_step_103 C hL hQ N κ s0 hf
def fX2_step_87 (N : Nat) (κ : St2) (s0 : Int32) : Option St2 := (pf κ 2 2 s0).bind fun κ4 => if (κ4 2 2) = 0 then (fX2_step_102 N κ4 0) else (fX2_step_102 N κ4 1)
set_option maxHeartbeats 4000000 in
set_option maxRecDepth 100000 in
theorem tX2_step_87 {E : EE} {B : BB} {l : Launch} {L : St2 → St2} {N : Nat} {κ : St2} {s0 : Int32} {res : St2} (C : Cx E B l cX2_step RX2 none 3 1 21) (hL : LnC L) (hQ : Fin9 E B none (L res)) (hf : fX2_step_87 N κ s0 = some res) : V E B (L κ) 87 [(0, .ref (ad B 2))] [.int s0, .ref (ad B 2)] := by
  unfold fX2_step_87 at hf
  refine c_putI (k := 2) (i := 2) C hL (by decide) rfl rfl inX2 tyX2 tyX2_ok nmX2 (by decide) rfl wd_75 rfl (by decide +kernel) dX2_step_87 hf (fun κ4 hf => ?_)
  refine v_aload_n C 0 dX2_step_90 rfl rfl ?_
  refine c_getI (k := 2) (i := 2) C hL (by decide) rfl rfl inX2 (by decide) rfl wd_75 dX2_step_91 ?_
  refine v_if_eq (tgt := 101) C dX2_step_94 (by decide) hf (fun hf => ?_) (fun hf => ?_)
  · refine v_iconst (v := 0) C dX2_step_101 (by decide) ?_
    exact tX2_step_102 C hL hQ hf
  · refine v_iconst (v := 1) C dX2_step_97 (by decide) ?_
    refine v_goto (tgt := 102) C dX2_step_98 (by decide) ?_
    exact tX2_step_102 C hL hQ hf
def fX2_step_46 (N : Nat) (κ : St2) : Option St2 := (pf κ 2 4 (κ 2 3)).bind fun κ2 => (pf κ2 2 5 0).bind fun κ3 => if (κ3 2 1) ≤ (κ3 2 3) then (fX2_step_87 N κ3 0) else ((rd (κ3 3) 120 (κ3 2 3)).bind fun a10 => (fX2_tokenOfByte a10).bind fun y11 => fX2_step_87 N κ3 y11)
set_option maxHeartbeats 4000000 in
set_option maxRecDepth 100000 in
theorem tX2_step_46 {E : EE} {B : BB} {l : Launch} {L : St2 → St2} {N : Nat} {κ : St2} {res : St2} (C : Cx E B l cX2_step RX2 none 3 1 21) (hL : LnC L) (hQ : Fin9 E B none (L res)) (hf : fX2_step_46 N κ = some res) : V E B (L κ) 46 [(0, .ref (ad B 2))] [] := by
  unfold fX2_step_46 at hf
  refine v_aload_n C 0 dX2_step_46 rfl rfl ?_
  refine v_aload_n C 0 dX2_step_47 rfl rfl ?_
  refine c_getI (k := 2) (i := 3) C hL (by decide) rfl rfl inX2 (by decide) rfl wd_76 dX2_step_48 ?_
  refine c_putI (k := 2) (i := 4) C hL (by decide) rfl rfl inX2 tyX2 tyX2_ok nmX2 (by decide) rfl wd_77 rfl (by decide +kernel) dX2_step_51 hf (fun κ2 hf => ?_)
  refine v_aload_n C 0 dX2_step_54 rfl rfl ?_
  refine v_iconst (v := 0) C dX2_step_55 (by decide) ?_
  refine c_putI (k := 2) (i := 5) C hL (by decide) rfl rfl inX2 tyX2 tyX2_ok nmX2 (by decide) rfl wd_78 rfl (by decide +kernel) dX2_step_56 hf (fun κ3 hf => ?_)
  refine v_aload_n C 0 dX2_step_59 rfl rfl ?_
  refine v_aload_n C 0 dX2_step_60 rfl rfl ?_
  refine c_getI (k := 2) (i := 3) C hL (by decide) rfl rfl inX2 (by decide) rfl wd_76 dX2_step_61 ?_
  refine v_aload_n C 0 dX2_step_64 rfl rfl ?_
  refine c_getI (k := 2) (i := 1) C hL (by decide) rfl rfl inX2 (by decide) rfl wd_73 dX2_step_65 ?_
  refine v_icmp_ge (tgt := 86) C dX2_step_68 (by decide) hf (fun hf => ?_) (fun hf => ?_)
  · refine v_iconst (v := 0) C dX2_step_86 (by decide) ?_
    exact tX2_step_87 C hL hQ hf
  · refine v_aload_n C 0 dX2_step_71 rfl rfl ?_
    refine g_getR (K := 2) (i := 0) (j := 3) C (by decide) rfl rfl inX2 (by decide) rfl wd_72 dX2_step_72 ?_
    refine v_aload_n C 0 dX2_step_75 rfl rfl ?_
    refine c_getI (k := 2) (i := 3) C hL (by decide) rfl rfl inX2 (by decide) rfl wd_76 dX2_step_76 ?_
    refine c_ald (k := 3) C hL (by decide) rfl dX2_step_79 hf (fun a10 hf => ?_)
    obtain ⟨y11, hy11, hf⟩ := bnd hf
    refine v_callS (r := some (.int y11)) (As := [.int a10]) (rest := [.ref (ad B 2)]) C (mX2_tokenOfByte  hy11) cw_X2_tokenOfByte wd_476 ⟨Nat.le_of_ble_eq_true rfl, Nat.le_of_ble_eq_true rfl⟩ rfl rfl (Nat.le_of_ble_eq_true rfl) dX2_step_80 ?_
    refine v_goto (tgt := 87) C dX2_step_83 (by decide) ?_
    exact tX2_step_87 C hL hQ hf
def fX2_step_8 (N : Nat) : Nat → St2 → Option St2
  | 0, _ => none
  | n + 1, κ => if (κ 2 1) ≤ (κ 2 3) then (fX2_step_46 N κ) else ((rd (κ 3) 120 (κ 2 3)).bind fun a12 => if a12 = 32 then ((pf κ 2 3 ((κ 2 3) + 1)).bind fun κ13 => (fX2_step_8 N n) κ13) else (fX2_step_46 N κ))
set_option maxHeartbeats 4000000 in
set_option maxRecDepth 100000 in
theorem tX2_step_8 {E : EE} {B : BB} {l : Launch} {L : St2 → St2} {N : Nat} {res : St2} (C : Cx E B l cX2_step RX2 none 3 1 21) (hL : LnC L) (hQ : Fin9 E B none (L res)) : ∀ (n : Nat) (κ : St2), fX2_step_8 N n κ = some res → V E B (L κ) 8 [(0, .ref (ad B 2))] [] := by
  intro n
  induction n with
  | zero =>
    intro κ hf
    cases hf
  | succ n ih =>
    intro κ hf
    rw [fX2_step_8] at hf
    refine v_aload_n C 0 dX2_step_8 rfl rfl ?_
    refine c_getI (k := 2) (i := 3) C hL (by decide) rfl rfl inX2 (by decide) rfl wd_76 dX2_step_9 ?_
    refine v_aload_n C 0 dX2_step_12 rfl rfl ?_
    refine c_getI (k := 2) (i := 1) C hL (by decide) rfl rfl inX2 (by decide) rfl wd_73 dX2_step_13 ?_
    refine v_icmp_ge (tgt := 46) C dX2_step_16 (by decide) hf (fun hf => ?_) (fun hf => ?_)
    · exact tX2_step_46 C hL hQ hf
    · refine v_aload_n C 0 dX2_step_19 rfl rfl ?_
      refine g_getR (K := 2) (i := 0) (j := 3) C (by decide) rfl rfl inX2 (by decide) rfl wd_72 dX2_step_20 ?_
      refine v_aload_n C 0 dX2_step_23 rfl rfl ?_
      refine c_getI (k := 2) (i := 3) C hL (by decide) rfl rfl inX2 (by decide) rfl wd_76 dX2_step_24 ?_
      refine c_ald (k := 3) C hL (by decide) rfl dX2_step_27 hf (fun a12 hf => ?_)
      refine v_bipush (v := 32) C dX2_step_28 (by decide) ?_
      refine v_icmp_ne (tgt := 46) C dX2_step_30 (by decide) hf (fun hf => ?_) (fun hf => ?_)
      · exact tX2_step_46 C hL hQ hf
      · refine v_aload_n C 0 dX2_step_33 rfl rfl ?_
        refine v_dup C dX2_step_34 rfl ?_
        refine c_getI (k := 2) (i := 3) C hL (by decide) rfl rfl inX2 (by decide) rfl wd_76 dX2_step_35 ?_
        refine v_iconst (v := 1) C dX2_step_38 (by decide) ?_
        refine v_iadd C dX2_step_39 ?_
        refine c_putI (k := 2) (i := 3) C hL (by decide) rfl rfl inX2 tyX2 tyX2_ok nmX2 (by decide) rfl wd_76 rfl (by decide +kernel) dX2_step_40 hf (fun κ13 hf => ?_)
        refine v_goto (tgt := 8) C dX2_step_43 (by decide) ?_
        exact ih κ13 hf
def fX2_step (N : Nat) (κ : St2) : Option St2 := (pf κ 2 3 (κ 2 4)).bind fun κ1 => fX2_step_8 N N κ1
set_option maxHeartbeats 4000000 in
set_option maxRecDepth 100000 in
theorem tX2_step {E : EE} {B : BB} {l : Launch} {L : St2 → St2} {N : Nat} {κ : St2} {res : St2} (C : Cx E B l cX2_step RX2 none 3 1 21) (hL : LnC L) (hQ : Fin9 E B none (L res)) (hf : fX2_step N κ = some res) : V E B (L κ) 0 [(0, .ref (ad B 2))] [] := by
  unfold fX2_step at hf
  refine v_aload_n C 0 dX2_step_0 rfl rfl ?_
  refine v_aload_n C 0 dX2_step_1 rfl rfl ?_
  refine c_getI (k := 2) (i := 4) C hL (by decide) rfl rfl inX2 (by decide) rfl wd_77 dX2_step_2 ?_
  refine c_putI (k := 2) (i := 3) C hL (by decide) rfl rfl inX2 tyX2 tyX2_ok nmX2 (by decide) rfl wd_76 rfl (by decide +kernel) dX2_step_5 hf (fun κ1 hf => ?_)
  exact tX2_step_8 C hL hQ N κ1 hf
theorem mX2_step {B : BB} {l : Launch} {L : St2 → St2} {N : Nat} {κ : St2} {res : St2} (hL : LnC L) (hf : fX2_step N κ = some res) : Ret l B yX2_step cX2_step 3 none 1 21 [.ref (ad B 2)] (L κ) none (L res) := ret_of (own := RX2) (by decide) rfl (Nat.le_of_ble_eq_true rfl) (fun E C hQ => tX2_step C hL hQ hf)
def fX2_isNumber (κ : St2) (v1 : Int32) (v2 : Int32) : Option Int32 := if (κ 2 2) = 2 then ((fX3_within (κ 2 5) v1 v2).bind fun y1 => if y1 = 0 then (some 0) else (some 1)) else (some 0)
set_option maxHeartbeats 4000000 in
set_option maxRecDepth 100000 in
theorem tX2_isNumber {E : EE} {B : BB} {l : Launch} {L : St2 → St2} {κ : St2} {v1 : Int32} {v2 : Int32} {res : Int32} (C : Cx E B l cX2_isNumber RX2 (some .boolean) 3 1 22) (hL : LnC L) (hQ : Fin9 E B (some (.int res)) (L κ)) (hf : fX2_isNumber κ v1 v2 = some res) : V E B (L κ) 0 [(0, .ref (ad B 2)), (1, .int v1), (2, .int v2)] [] := by
  unfold fX2_isNumber at hf
  refine v_aload_n C 0 dX2_isNumber_0 rfl rfl ?_
  refine c_getI (k := 2) (i := 2) C hL (by decide) rfl rfl inX2 (by decide) rfl wd_75 dX2_isNumber_1 ?_
  refine v_iconst (v := 2) C dX2_isNumber_4 (by decide) ?_
  refine v_icmp_ne (tgt := 24) C dX2_isNumber_5 (by decide) hf (fun hf => ?_) (fun hf => ?_)
  · refine v_iconst (v := 0) C dX2_isNumber_24 (by decide) ?_
    exact v_zret C (Or.inl rfl) dX2_isNumber_25 (fin_i hf hQ)
  · refine v_aload_n C 0 dX2_isNumber_8 rfl rfl ?_
    refine c_getI (k := 2) (i := 5) C hL (by decide) rfl rfl inX2 (by decide) rfl wd_78 dX2_isNumber_9 ?_
    refine v_iload_n C 1 dX2_isNumber_12 rfl rfl ?_
    refine v_iload_n C 2 dX2_isNumber_13 rfl rfl ?_
    obtain ⟨y1, hy1, hf⟩ := bnd hf
    refine v_callSN (r := some (.int y1)) (As := [.int (κ 2 5), .int v1, .int v2]) (rest := []) C (mX3_within  hy1) cw_X3_within nw2 ⟨Nat.le_of_ble_eq_true rfl, Nat.le_of_ble_eq_true rfl⟩ rfl rfl (Nat.le_of_ble_eq_true rfl) dX2_isNumber_14 ?_
    refine v_if_eq (tgt := 24) C dX2_isNumber_17 (by decide) hf (fun hf => ?_) (fun hf => ?_)
    · refine v_iconst (v := 0) C dX2_isNumber_24 (by decide) ?_
      exact v_zret C (Or.inl rfl) dX2_isNumber_25 (fin_i hf hQ)
    · refine v_iconst (v := 1) C dX2_isNumber_20 (by decide) ?_
      refine v_goto (tgt := 25) C dX2_isNumber_21 (by decide) ?_
      exact v_zret C (Or.inr rfl) dX2_isNumber_25 (fin_i hf hQ)
theorem mX2_isNumber {B : BB} {l : Launch} {L : St2 → St2} {κ : St2} {v1 : Int32} {v2 : Int32} {res : Int32} (hL : LnC L) (hf : fX2_isNumber κ v1 v2 = some res) : Ret l B yX2_isNumber cX2_isNumber 3 (some .boolean) 1 22 [.ref (ad B 2), .int v1, .int v2] (L κ) (some (.int res)) (L κ) := ret_of (own := RX2) (by decide) rfl (Nat.le_of_ble_eq_true rfl) (fun E C hQ => tX2_isNumber C hL hQ hf)
def fX2_isWord_28 (N : Nat) (i : Nat) (κ : St2) : Nat → Int32 → Option Int32
  | 0, _ => none
  | n + 1, v2 => (fJ0_length_8abf5 i).bind fun y2 => if y2 ≤ v2 then (some 1) else ((rd (κ 3) 120 ((κ 2 3) + v2)).bind fun a3 => (fJ0_charAt_5068e i v2).bind fun y4 => if a3 = y4 then ((fX2_isWord_28 N i κ n) (v2 + 1)) else (some 0))
set_option maxHeartbeats 4000000 in
set_option maxRecDepth 100000 in
theorem tX2_isWord_28 {E : EE} {B : BB} {l : Launch} {L : St2 → St2} {N : Nat} {i : Nat} {κ : St2} {res : Int32} (C : Cx E B l cX2_isWord RX2 (some .boolean) 3 4 85) (hL : LnC L) (hi : i < 14) (hQ : Fin9 E B (some (.int res)) (L κ)) : ∀ (n : Nat) (v2 : Int32), fX2_isWord_28 N i κ n v2 = some res → V E B (L κ) 28 [(0, .ref (ad B 2)), (1, .ref (sk B i)), (2, .int v2)] [] := by
  intro n
  induction n with
  | zero =>
    intro v2 hf
    cases hf
  | succ n ih =>
    intro v2 hf
    rw [fX2_isWord_28] at hf
    refine v_iload_n C 2 dX2_isWord_28 rfl rfl ?_
    refine v_aload_n C 1 dX2_isWord_29 rfl rfl ?_
    obtain ⟨y2, hy2, hf⟩ := bnd hf
    refine v_callT (r := some (.int y2)) (As := []) (rest := [.int v2]) C hi (mJ0_length_8abf5 hi hy2) cw_J0_length_8abf5 wd_502 ⟨Nat.le_of_ble_eq_true rfl, Nat.le_of_ble_eq_true rfl⟩ rfl rfl (Nat.le_of_ble_eq_true rfl) dX2_isWord_30 ?_
    refine v_icmp_ge (tgt := 63) C dX2_isWord_33 (by decide) hf (fun hf => ?_) (fun hf => ?_)
    · refine v_iconst (v := 1) C dX2_isWord_63 (by decide) ?_
      exact v_zret C (Or.inr rfl) dX2_isWord_64 (fin_i hf hQ)
    · refine v_aload_n C 0 dX2_isWord_36 rfl rfl ?_
      refine g_getR (K := 2) (i := 0) (j := 3) C (by decide) rfl rfl inX2 (by decide) rfl wd_72 dX2_isWord_37 ?_
      refine v_aload_n C 0 dX2_isWord_40 rfl rfl ?_
      refine c_getI (k := 2) (i := 3) C hL (by decide) rfl rfl inX2 (by decide) rfl wd_76 dX2_isWord_41 ?_
      refine v_iload_n C 2 dX2_isWord_44 rfl rfl ?_
      refine v_iadd C dX2_isWord_45 ?_
      refine c_ald (k := 3) C hL (by decide) rfl dX2_isWord_46 hf (fun a3 hf => ?_)
      refine v_aload_n C 1 dX2_isWord_47 rfl rfl ?_
      refine v_iload_n C 2 dX2_isWord_48 rfl rfl ?_
      obtain ⟨y4, hy4, hf⟩ := bnd hf
      refine v_callT (r := some (.int y4)) (As := [.int v2]) (rest := [.int a3]) C hi (mJ0_charAt_5068e hi hy4) cw_J0_charAt_5068e wd_512 ⟨Nat.le_of_ble_eq_true rfl, Nat.le_of_ble_eq_true rfl⟩ rfl rfl (Nat.le_of_ble_eq_true rfl) dX2_isWord_49 ?_
      refine v_icmp_eq (tgt := 57) C dX2_isWord_52 (by decide) hf (fun hf => ?_) (fun hf => ?_)
      · refine v_iinc (q := 2) (v := v2 + 1) (lv' := [(0, .ref (ad B 2)), (1, .ref (sk B i)), (2, .int (v2 + 1))]) C [1, 2, 0] dX2_isWord_57 rfl rfl (by decide) rfl ?_
        refine v_goto (tgt := 28) C dX2_isWord_60 (by decide) ?_
        exact ih (v2 + 1) hf
      · refine v_iconst (v := 0) C dX2_isWord_55 (by decide) ?_
        exact v_zret C (Or.inl rfl) dX2_isWord_56 (fin_i hf hQ)
def fX2_isWord (N : Nat) (i : Nat) (κ : St2) : Option Int32 := if (κ 2 2) = 1 then ((fJ0_length_8abf5 i).bind fun y1 => if ((κ 2 4) - (κ 2 3)) = y1 then (fX2_isWord_28 N i κ N 0) else (some 0)) else (some 0)
set_option maxHeartbeats 4000000 in
set_option maxRecDepth 100000 in
theorem tX2_isWord {E : EE} {B : BB} {l : Launch} {L : St2 → St2} {N : Nat} {i : Nat} {κ : St2} {res : Int32} (C : Cx E B l cX2_isWord RX2 (some .boolean) 3 4 85) (hL : LnC L) (hi : i < 14) (hQ : Fin9 E B (some (.int res)) (L κ)) (hf : fX2_isWord N i κ = some res) : V E B (L κ) 0 [(0, .ref (ad B 2)), (1, .ref (sk B i))] [] := by
  unfold fX2_isWord at hf
  refine v_aload_n C 0 dX2_isWord_0 rfl rfl ?_
  refine c_getI (k := 2) (i := 2) C hL (by decide) rfl rfl inX2 (by decide) rfl wd_75 dX2_isWord_1 ?_
  refine v_iconst (v := 1) C dX2_isWord_4 (by decide) ?_
  refine v_icmp_ne (tgt := 24) C dX2_isWord_5 (by decide) hf (fun hf => ?_) (fun hf => ?_)
  · refine v_iconst (v := 0) C dX2_isWord_24 (by decide) ?_
    exact v_zret C (Or.inl rfl) dX2_isWord_25 (fin_i hf hQ)
  · refine v_aload_n C 0 dX2_isWord_8 rfl rfl ?_
    refine c_getI (k := 2) (i := 4) C hL (by decide) rfl rfl inX2 (by decide) rfl wd_77 dX2_isWord_9 ?_
    refine v_aload_n C 0 dX2_isWord_12 rfl rfl ?_
    refine c_getI (k := 2) (i := 3) C hL (by decide) rfl rfl inX2 (by decide) rfl wd_76 dX2_isWord_13 ?_
    refine v_isub C dX2_isWord_16 ?_
    refine v_aload_n C 1 dX2_isWord_17 rfl rfl ?_
    obtain ⟨y1, hy1, hf⟩ := bnd hf
    refine v_callT (r := some (.int y1)) (As := []) (rest := [.int ((κ 2 4) - (κ 2 3))]) C hi (mJ0_length_8abf5 hi hy1) cw_J0_length_8abf5 wd_502 ⟨Nat.le_of_ble_eq_true rfl, Nat.le_of_ble_eq_true rfl⟩ rfl rfl (Nat.le_of_ble_eq_true rfl) dX2_isWord_18 ?_
    refine v_icmp_eq (tgt := 26) C dX2_isWord_21 (by decide) hf (fun hf => ?_) (fun hf => ?_)
    · refine v_iconst (v := 0) C dX2_isWord_26 (by decide) ?_
      refine v_istore_n (lv' := [(0, .ref (ad B 2)), (1, .ref (sk B i)), (2, .int 0)]) C [1, 2, 0] dX2_isWord_27 rfl (by decide) rfl ?_
      exact tX2_isWord_28 C hL hi hQ N 0 hf
    · refine v_iconst (v := 0) C dX2_isWord_24 (by decide) ?_
      exact v_zret C (Or.inl rfl) dX2_isWord_25 (fin_i hf hQ)
theorem mX2_isWord {B : BB} {l : Launch} {L : St2 → St2} {N : Nat} {i : Nat} {κ : St2} {res : Int32} (hL : LnC L) (hi : i < 14) (hf : fX2_isWord N i κ = some res) : Ret l B yX2_isWord cX2_isWord 3 (some .boolean) 4 85 [.ref (ad B 2), .ref (sk B i)] (L κ) (some (.int res)) (L κ) := ret_of (own := RX2) (by decide) rfl (Nat.le_of_ble_eq_true rfl) (fun E C hQ => tX2_isWord C hL hi hQ hf)
def fX2_kindOfWord_2 (N : Nat) (κ : St2) : Nat → Int32 → Option Int32
  | 0, _ => none
  | n + 1, v1 => if 7 ≤ v1 then (some (-1)) else ((fX2_wordOfKind v1).bind fun y1 => (fX2_isWord N y1 κ).bind fun y2 => if y2 = 0 then ((fX2_kindOfWord_2 N κ n) (v1 + 1)) else (some v1))
set_option maxHeartbeats 4000000 in
set_option maxRecDepth 100000 in
theorem tX2_kindOfWord_2 {E : EE} {B : BB} {l : Launch} {L : St2 → St2} {N : Nat} {κ : St2} {res : Int32} (C : Cx E B l cX2_kindOfWord RX2 (some .int) 2 5 107) (hL : LnC L) (hQ : Fin9 E B (some (.int res)) (L κ)) : ∀ (n : Nat) (v1 : Int32), fX2_kindOfWord_2 N κ n v1 = some res → V E B (L κ) 2 [(0, .ref (ad B 2)), (1, .int v1)] [] := by
  intro n
  induction n with
  | zero =>
    intro v1 hf
    cases hf
  | succ n ih =>
    intro v1 hf
    rw [fX2_kindOfWord_2] at hf
    refine v_iload_n C 1 dX2_kindOfWord_2 rfl rfl ?_
    refine v_bipush (v := 7) C dX2_kindOfWord_3 (by decide) ?_
    refine v_icmp_ge (tgt := 27) C dX2_kindOfWord_5 (by decide) hf (fun hf => ?_) (fun hf => ?_)
    · refine v_iconst (v := (-1)) C dX2_kindOfWord_27 (by decide) ?_
      exact v_iret C dX2_kindOfWord_28 (fin_i hf hQ)
    · refine v_aload_n C 0 dX2_kindOfWord_8 rfl rfl ?_
      refine v_iload_n C 1 dX2_kindOfWord_9 rfl rfl ?_
      obtain ⟨y1, hy1, hf⟩ := bnd hf
      refine v_callS (r := some (.ref (sk B y1))) (As := [.int v1]) (rest := [.ref (ad B 2)]) C (mX2_wordOfKind  hy1) cw_X2_wordOfKind wd_488 ⟨Nat.le_of_ble_eq_true rfl, Nat.le_of_ble_eq_true rfl⟩ rfl rfl (Nat.le_of_ble_eq_true rfl) dX2_kindOfWord_10 ?_
      obtain ⟨y2, hy2, hf⟩ := bnd hf
      refine v_callV (r := some (.int y2)) (As := [.ref (sk B y1)]) (rest := []) (K := 2) C (mX2_isWord hL (X2_wordOfKind_lt hy1) hy2) cw_X2_isWord wd_498 (by decide) rfl rfl ⟨Nat.le_of_ble_eq_true rfl, Nat.le_of_ble_eq_true rfl⟩ rfl rfl (Nat.le_of_ble_eq_true rfl) dX2_kindOfWord_13 ?_
      refine v_if_eq (tgt := 21) C dX2_kindOfWord_16 (by decide) hf (fun hf => ?_) (fun hf => ?_)
      · refine v_iinc (q := 1) (v := v1 + 1) (lv' := [(0, .ref (ad B 2)), (1, .int (v1 + 1))]) C [1, 0] dX2_kindOfWord_21 rfl rfl (by decide) rfl ?_
        refine v_goto (tgt := 2) C dX2_kindOfWord_24 (by decide) ?_
        exact ih (v1 + 1) hf
      · refine v_iload_n C 1 dX2_kindOfWord_19 rfl rfl ?_
        exact v_iret C dX2_kindOfWord_20 (fin_i hf hQ)
def fX2_kindOfWord (N : Nat) (κ : St2) : Option Int32 := fX2_kindOfWord_2 N κ N 0
set_option maxHeartbeats 4000000 in
set_option maxRecDepth 100000 in
theorem tX2_kindOfWord {E : EE} {B : BB} {l : Launch} {L : St2 → St2} {N : Nat} {κ : St2} {res : Int32} (C : Cx E B l cX2_kindOfWord RX2 (some .int) 2 5 107) (hL : LnC L) (hQ : Fin9 E B (some (.int res)) (L κ)) (hf : fX2_kindOfWord N κ = some res) : V E B (L κ) 0 [(0, .ref (ad B 2))] [] := by
  unfold fX2_kindOfWord at hf
  refine v_iconst (v := 0) C dX2_kindOfWord_0 (by decide) ?_
  refine v_istore_n (lv' := [(0, .ref (ad B 2)), (1, .int 0)]) C [1, 0] dX2_kindOfWord_1 rfl (by decide) rfl ?_
  exact tX2_kindOfWord_2 C hL hQ N 0 hf
theorem mX2_kindOfWord {B : BB} {l : Launch} {L : St2 → St2} {N : Nat} {κ : St2} {res : Int32} (hL : LnC L) (hf : fX2_kindOfWord N κ = some res) : Ret l B yX2_kindOfWord cX2_kindOfWord 2 (some .int) 5 107 [.ref (ad B 2)] (L κ) (some (.int res)) (L κ) := ret_of (own := RX2) (by decide) rfl (Nat.le_of_ble_eq_true rfl) (fun E C hQ => tX2_kindOfWord C hL hQ hf)
def fX2_readTrait (N : Nat) (i : Nat) (κ : St2) (v2 : Int32) (v4 : Int32) : Option (Int32 × St2) := (fX2_isWord N i κ).bind fun y1 => if y1 = 0 then (some (1, κ)) else ((fX2_step N κ).bind fun y2 => (rd (tv 1) 6 v4).bind fun a3 => (rd (tv 2) 6 v4).bind fun a4 => (fX2_isNumber y2 a3 a4).bind fun y5 => if y5 = 0 then (some (0, y2)) else ((ck v4 6).bind fun r6 => (wr y2 (25 + (6 + r6)) 8 v2 (y2 2 5)).bind fun κ7 => (fX2_step N κ7).bind fun y8 => some (1, y8)))
set_option maxHeartbeats 4000000 in
set_option maxRecDepth 100000 in
theorem tX2_readTrait {E : EE} {B : BB} {l : Launch} {L : St2 → St2} {N : Nat} {i : Nat} {κ : St2} {v2 : Int32} {v4 : Int32} {res : (Int32 × St2)} (C : Cx E B l cX2_readTrait RX2 (some .boolean) 5 5 107) (hL : LnC L) (hi : i < 14) (hQ : Fin9 E B (some (.int res.1)) (L res.2)) (hf : fX2_readTrait N i κ v2 v4 = some res) : V E B (L κ) 0 [(0, .ref (ad B 2)), (1, .ref (ad B 25)), (2, .int v2), (3, .ref (sk B i)), (4, .int v4)] [] := by
  unfold fX2_readTrait at hf
  refine v_aload_n C 0 dX2_readTrait_0 rfl rfl ?_
  refine v_aload_n C 3 dX2_readTrait_1 rfl rfl ?_
  obtain ⟨y1, hy1, hf⟩ := bnd hf
  refine v_callV (r := some (.int y1)) (As := [.ref (sk B i)]) (rest := []) (K := 2) C (mX2_isWord hL hi hy1) cw_X2_isWord wd_498 (by decide) rfl rfl ⟨Nat.le_of_ble_eq_true rfl, Nat.le_of_ble_eq_true rfl⟩ rfl rfl (Nat.le_of_ble_eq_true rfl) dX2_readTrait_2 ?_
  refine v_if_ne (tgt := 10) C dX2_readTrait_5 (by decide) hf (fun hf => ?_) (fun hf => ?_)
  · refine v_aload_n C 0 dX2_readTrait_10 rfl rfl ?_
    obtain ⟨y2, hy2, hf⟩ := bnd hf
    refine v_callV (r := none) (As := []) (rest := []) (K := 2) C (mX2_step hL hy2) cw_X2_step wd_472 (by decide) rfl rfl ⟨Nat.le_of_ble_eq_true rfl, Nat.le_of_ble_eq_true rfl⟩ rfl rfl (Nat.le_of_ble_eq_true rfl) dX2_readTrait_11 ?_
    refine v_aload_n C 0 dX2_readTrait_14 rfl rfl ?_
    refine g_getsN C (sz1 B) nf1 dX2_readTrait_15 ?_
    refine v_iload C 4 dX2_readTrait_18 rfl ?_
    refine t_ld1 C dX2_readTrait_20 hf (fun a3 hf => ?_)
    refine g_getsN C (sz2 B) nf2 dX2_readTrait_21 ?_
    refine v_iload C 4 dX2_readTrait_24 rfl ?_
    refine t_ld2 C dX2_readTrait_26 hf (fun a4 hf => ?_)
    obtain ⟨y5, hy5, hf⟩ := bnd hf
    refine v_callV (r := some (.int y5)) (As := [.int a3, .int a4]) (rest := []) (K := 2) C (mX2_isNumber hL hy5) cw_X2_isNumber wd_563 (by decide) rfl rfl ⟨Nat.le_of_ble_eq_true rfl, Nat.le_of_ble_eq_true rfl⟩ rfl rfl (Nat.le_of_ble_eq_true rfl) dX2_readTrait_27 ?_
    refine v_if_ne (tgt := 35) C dX2_readTrait_30 (by decide) hf (fun hf => ?_) (fun hf => ?_)
    · refine v_aload_n C 1 dX2_readTrait_35 rfl rfl ?_
      refine sh_getR (i := 1) (j := 25 + 5) C sb25 (by decide) rfl wd_33 dX2_readTrait_36 ?_
      refine v_iload C 4 dX2_readTrait_39 rfl ?_
      refine sh_trD C sb25 dX2_readTrait_41 hf (fun r6 hr6 hf => ?_)
      refine v_iload_n C 2 dX2_readTrait_42 rfl rfl ?_
      refine v_aload_n C 0 dX2_readTrait_43 rfl rfl ?_
      refine c_getI (k := 2) (i := 5) C hL (by decide) rfl rfl inX2 (by decide) rfl wd_78 dX2_readTrait_44 ?_
      refine c_ast (k := 25 + (6 + r6)) C hL (by omega) (tb_tr sb25 hr6) dX2_readTrait_47 hf (fun κ7 hf => ?_)
      refine v_aload_n C 0 dX2_readTrait_48 rfl rfl ?_
      obtain ⟨y8, hy8, hf⟩ := bnd hf
      refine v_callV (r := none) (As := []) (rest := []) (K := 2) C (mX2_step hL hy8) cw_X2_step wd_472 (by decide) rfl rfl ⟨Nat.le_of_ble_eq_true rfl, Nat.le_of_ble_eq_true rfl⟩ rfl rfl (Nat.le_of_ble_eq_true rfl) dX2_readTrait_49 ?_
      refine v_iconst (v := 1) C dX2_readTrait_52 (by decide) ?_
      exact v_zret C (Or.inr rfl) dX2_readTrait_53 (fin_im hf hQ)
    · refine v_iconst (v := 0) C dX2_readTrait_33 (by decide) ?_
      exact v_zret C (Or.inl rfl) dX2_readTrait_34 (fin_im hf hQ)
  · refine v_iconst (v := 1) C dX2_readTrait_8 (by decide) ?_
    exact v_zret C (Or.inr rfl) dX2_readTrait_9 (fin_im hf hQ)
theorem mX2_readTrait {B : BB} {l : Launch} {L : St2 → St2} {N : Nat} {i : Nat} {κ : St2} {v2 : Int32} {v4 : Int32} {res : (Int32 × St2)} (hL : LnC L) (hi : i < 14) (hf : fX2_readTrait N i κ v2 v4 = some res) : Ret l B yX2_readTrait cX2_readTrait 5 (some .boolean) 5 107 [.ref (ad B 2), .ref (ad B 25), .int v2, .ref (sk B i), .int v4] (L κ) (some (.int res.1)) (L res.2) := ret_of (own := RX2) (by decide) rfl (Nat.le_of_ble_eq_true rfl) (fun E C hQ => tX2_readTrait C hL hi hQ hf)
def fX2_readWalker_56 (N : Nat) (κ : St2) (v3 : Int32) : Option (Int32 × St2) := (fX2_readTrait N 9 κ v3 3).bind fun y7 => if y7.1 = 0 then (some (0, y7.2)) else ((fX2_readTrait N 10 y7.2 v3 4).bind fun y8 => if y8.1 = 0 then (some (0, y8.2)) else (some (1, y8.2)))
set_option maxHeartbeats 4000000 in
set_option maxRecDepth 100000 in
theorem tX2_readWalker_56 {E : EE} {B : BB} {l : Launch} {L : St2 → St2} {N : Nat} {κ : St2} {v3 : Int32} {res : (Int32 × St2)} (C : Cx E B l cX2_readWalker RX2 (some .boolean) 4 6 131) (hL : LnC L) (hQ : Fin9 E B (some (.int res.1)) (L res.2)) (hf : fX2_readWalker_56 N κ v3 = some res) : V E B (L κ) 56 [(0, .ref (ad B 2)), (1, .ref (ad B 25)), (3, .int v3)] [] := by
  unfold fX2_readWalker_56 at hf
  refine v_aload_n C 0 dX2_readWalker_56 rfl rfl ?_
  refine v_aload_n C 1 dX2_readWalker_57 rfl rfl ?_
  refine v_iload_n C 2 dX2_readWalker_58 rfl rfl ?_
  refine v_ldcS C sr_569 dX2_readWalker_59 ?_
  refine v_iconst (v := 3) C dX2_readWalker_61 (by decide) ?_
  obtain ⟨y7, hy7, hf⟩ := bnd hf
  refine v_callV (r := some (.int y7.1)) (As := [.ref (ad B 25), .int v3, .ref (sk B 9), .int 3]) (rest := []) (K := 2) C (mX2_readTrait hL (by decide) hy7) cw_X2_readTrait wd_557 (by decide) rfl rfl ⟨Nat.le_of_ble_eq_true rfl, Nat.le_of_ble_eq_true rfl⟩ rfl rfl (Nat.le_of_ble_eq_true rfl) dX2_readWalker_62 ?_
  refine v_if_eq (tgt := 84) C dX2_readWalker_65 (by decide) hf (fun hf => ?_) (fun hf => ?_)
  · refine v_iconst (v := 0) C dX2_readWalker_84 (by decide) ?_
    exact v_zret C (Or.inl rfl) dX2_readWalker_85 (fin_im hf hQ)
  · refine v_aload_n C 0 dX2_readWalker_68 rfl rfl ?_
    refine v_aload_n C 1 dX2_readWalker_69 rfl rfl ?_
    refine v_iload_n C 2 dX2_readWalker_70 rfl rfl ?_
    refine v_ldcS C sr_570 dX2_readWalker_71 ?_
    refine v_iconst (v := 4) C dX2_readWalker_73 (by decide) ?_
    obtain ⟨y8, hy8, hf⟩ := bnd hf
    refine v_callV (r := some (.int y8.1)) (As := [.ref (ad B 25), .int v3, .ref (sk B 10), .int 4]) (rest := []) (K := 2) C (mX2_readTrait hL (by decide) hy8) cw_X2_readTrait wd_557 (by decide) rfl rfl ⟨Nat.le_of_ble_eq_true rfl, Nat.le_of_ble_eq_true rfl⟩ rfl rfl (Nat.le_of_ble_eq_true rfl) dX2_readWalker_74 ?_
    refine v_if_eq (tgt := 84) C dX2_readWalker_77 (by decide) hf (fun hf => ?_) (fun hf => ?_)
    · refine v_iconst (v := 0) C dX2_readWalker_84 (by decide) ?_
      exact v_zret C (Or.inl rfl) dX2_readWalker_85 (fin_im hf hQ)
    · refine v_iconst (v := 1) C dX2_readWalker_80 (by decide) ?_
      refine v_goto (tgt := 85) C dX2_readWalker_81 (by decide) ?_
      exact v_zret C (Or.inr rfl) dX2_readWalker_85 (fin_im hf hQ)
def fX2_readWalker (N : Nat) (κ : St2) (v2 : Int32) : Option (Int32 × St2) := (fX1_hasRoom (vw κ 25)).bind fun y1 => if y1 = 0 then (some (0, κ)) else ((fX1_add (vw κ 25) v2 0).bind fun y2 => (some (putS κ 25 y2.2)).bind fun κ3 => (fX2_step N κ3).bind fun y4 => (fX2_readTrait N 7 y4 y2.1 1).bind fun y5 => if y5.1 = 0 then (some (0, y5.2)) else ((fX2_isWord N 8 y5.2).bind fun y6 => if y6 = 0 then (fX2_readWalker_56 N y5.2 y2.1) else ((wr y5.2 (25 + (6 + 2)) 8 y2.1 0).bind fun κ9 => (fX2_step N κ9).bind fun y10 => fX2_readWalker_56 N y10 y2.1)))
set_option maxHeartbeats 4000000 in
set_option maxRecDepth 100000 in
theorem tX2_readWalker {E : EE} {B : BB} {l : Launch} {L : St2 → St2} {N : Nat} {κ : St2} {v2 : Int32} {res : (Int32 × St2)} (C : Cx E B l cX2_readWalker RX2 (some .boolean) 4 6 131) (hL : LnC L) (hQ : Fin9 E B (some (.int res.1)) (L res.2)) (hf : fX2_readWalker N κ v2 = some res) : V E B (L κ) 0 [(0, .ref (ad B 2)), (1, .ref (ad B 25)), (2, .int v2)] [] := by
  unfold fX2_readWalker at hf
  refine v_aload_n C 1 dX2_readWalker_0 rfl rfl ?_
  obtain ⟨y1, hy1, hf⟩ := bnd hf
  refine v_callV (r := some (.int y1)) (As := []) (rest := []) (K := 25) C (nX1_hasRoom hL sb25 hy1) cw_X1_hasRoom wd_554 (by decide) (tb_o sb25) rfl ⟨Nat.le_of_ble_eq_true rfl, Nat.le_of_ble_eq_true rfl⟩ rfl rfl (Nat.le_of_ble_eq_true rfl) dX2_readWalker_1 ?_
  refine v_if_ne (tgt := 9) C dX2_readWalker_4 (by decide) hf (fun hf => ?_) (fun hf => ?_)
  · refine v_aload_n C 1 dX2_readWalker_9 rfl rfl ?_
    refine v_iload_n C 2 dX2_readWalker_10 rfl rfl ?_
    refine v_iconst (v := 0) C dX2_readWalker_11 (by decide) ?_
    obtain ⟨y2, hy2, hf⟩ := bnd hf
    refine v_callV (r := some (.int y2.1)) (As := [.int v2, .int 0]) (rest := []) (K := 25) C (nX1_add hL sb25 hy2) cw_X1_add wd_555 (by decide) (tb_o sb25) rfl ⟨Nat.le_of_ble_eq_true rfl, Nat.le_of_ble_eq_true rfl⟩ rfl rfl (Nat.le_of_ble_eq_true rfl) dX2_readWalker_12 ?_
    obtain ⟨κ3, he, hf⟩ := bnd hf
    rw [Option.some.inj he]
    refine v_istore_n (lv' := [(0, .ref (ad B 2)), (1, .ref (ad B 25)), (2, .int v2), (3, .int y2.1)]) C [1, 2, 3, 0] dX2_readWalker_15 rfl (by decide) rfl ?_
    refine v_aload_n C 0 dX2_readWalker_16 rfl rfl ?_
    obtain ⟨y4, hy4, hf⟩ := bnd hf
    refine v_callV (r := none) (As := []) (rest := []) (K := 2) C (mX2_step hL hy4) cw_X2_step wd_472 (by decide) rfl rfl ⟨Nat.le_of_ble_eq_true rfl, Nat.le_of_ble_eq_true rfl⟩ rfl rfl (Nat.le_of_ble_eq_true rfl) dX2_readWalker_17 ?_
    refine v_aload_n C 0 dX2_readWalker_20 rfl rfl ?_
    refine v_aload_n C 1 dX2_readWalker_21 rfl rfl ?_
    refine v_iload_n C 3 dX2_readWalker_22 rfl rfl ?_
    refine v_ldcS C sr_556 dX2_readWalker_23 ?_
    refine v_iconst (v := 1) C dX2_readWalker_25 (by decide) ?_
    obtain ⟨y5, hy5, hf⟩ := bnd hf
    refine v_callV (r := some (.int y5.1)) (As := [.ref (ad B 25), .int y2.1, .ref (sk B 7), .int 1]) (rest := []) (K := 2) C (mX2_readTrait hL (by decide) hy5) cw_X2_readTrait wd_557 (by decide) rfl rfl ⟨Nat.le_of_ble_eq_true rfl, Nat.le_of_ble_eq_true rfl⟩ rfl rfl (Nat.le_of_ble_eq_true rfl) dX2_readWalker_26 ?_
    refine v_if_ne (tgt := 34) C dX2_readWalker_29 (by decide) hf (fun hf => ?_) (fun hf => ?_)
    · refine v_aload_n C 0 dX2_readWalker_34 rfl rfl ?_
      refine v_ldcS C sr_568 dX2_readWalker_35 ?_
      obtain ⟨y6, hy6, hf⟩ := bnd hf
      refine v_callV (r := some (.int y6)) (As := [.ref (sk B 8)]) (rest := []) (K := 2) C (mX2_isWord hL (by decide) hy6) cw_X2_isWord wd_498 (by decide) rfl rfl ⟨Nat.le_of_ble_eq_true rfl, Nat.le_of_ble_eq_true rfl⟩ rfl rfl (Nat.le_of_ble_eq_true rfl) dX2_readWalker_37 ?_
      refine v_if_eq (tgt := 56) C dX2_readWalker_40 (by decide) hf (fun hf => ?_) (fun hf => ?_)
      · refine v_sub [0, 1, 3] rfl ?_
        exact tX2_readWalker_56 C hL hQ hf
      · refine v_aload_n C 1 dX2_readWalker_43 rfl rfl ?_
        refine sh_getR (i := 1) (j := 25 + 5) C sb25 (by decide) rfl wd_33 dX2_readWalker_44 ?_
        refine v_iconst (v := 2) C dX2_readWalker_47 (by decide) ?_
        refine sh_trS C 2 sb25 rfl (by decide) dX2_readWalker_48 ?_
        refine v_iload_n C 3 dX2_readWalker_49 rfl rfl ?_
        refine v_iconst (v := 0) C dX2_readWalker_50 (by decide) ?_
        refine c_ast (k := 25 + (6 + 2)) C hL (by decide) (tb_tr sb25 (r := 2) (by decide)) dX2_readWalker_51 hf (fun κ9 hf => ?_)
        refine v_aload_n C 0 dX2_readWalker_52 rfl rfl ?_
        obtain ⟨y10, hy10, hf⟩ := bnd hf
        refine v_callV (r := none) (As := []) (rest := []) (K := 2) C (mX2_step hL hy10) cw_X2_step wd_472 (by decide) rfl rfl ⟨Nat.le_of_ble_eq_true rfl, Nat.le_of_ble_eq_true rfl⟩ rfl rfl (Nat.le_of_ble_eq_true rfl) dX2_readWalker_53 ?_
        refine v_sub [0, 1, 3] rfl ?_
        exact tX2_readWalker_56 C hL hQ hf
    · refine v_iconst (v := 0) C dX2_readWalker_32 (by decide) ?_
      exact v_zret C (Or.inl rfl) dX2_readWalker_33 (fin_im hf hQ)
  · refine v_iconst (v := 0) C dX2_readWalker_7 (by decide) ?_
    exact v_zret C (Or.inl rfl) dX2_readWalker_8 (fin_im hf hQ)
theorem mX2_readWalker {B : BB} {l : Launch} {L : St2 → St2} {N : Nat} {κ : St2} {v2 : Int32} {res : (Int32 × St2)} (hL : LnC L) (hf : fX2_readWalker N κ v2 = some res) : Ret l B yX2_readWalker cX2_readWalker 4 (some .boolean) 6 131 [.ref (ad B 2), .ref (ad B 25), .int v2] (L κ) (some (.int res.1)) (L res.2) := ret_of (own := RX2) (by decide) rfl (Nat.le_of_ble_eq_true rfl) (fun E C hQ => tX2_readWalker C hL hQ hf)
def fX2_readReach (N : Nat) (κ : St2) : Option (Int32 × St2) := (fX2_step N κ).bind fun y1 => (fX2_isNumber y1 0 24).bind fun y2 => if y2 = 0 then (some (0, y1)) else ((pf y1 25 4 (y1 2 5)).bind fun κ3 => (fX2_step N κ3).bind fun y4 => some (1, y4))
set_option maxHeartbeats 4000000 in
set_option maxRecDepth 100000 in
theorem tX2_readReach {E : EE} {B : BB} {l : Launch} {L : St2 → St2} {N : Nat} {κ : St2} {res : (Int32 × St2)} (C : Cx E B l cX2_readReach RX2 (some .boolean) 2 2 44) (hL : LnC L) (hQ : Fin9 E B (some (.int res.1)) (L res.2)) (hf : fX2_readReach N κ = some res) : V E B (L κ) 0 [(0, .ref (ad B 2)), (1, .ref (ad B 25))] [] := by
  unfold fX2_readReach at hf
  refine v_aload_n C 0 dX2_readReach_0 rfl rfl ?_
  obtain ⟨y1, hy1, hf⟩ := bnd hf
  refine v_callV (r := none) (As := []) (rest := []) (K := 2) C (mX2_step hL hy1) cw_X2_step wd_472 (by decide) rfl rfl ⟨Nat.le_of_ble_eq_true rfl, Nat.le_of_ble_eq_true rfl⟩ rfl rfl (Nat.le_of_ble_eq_true rfl) dX2_readReach_1 ?_
  refine v_aload_n C 0 dX2_readReach_4 rfl rfl ?_
  refine v_iconst (v := 0) C dX2_readReach_5 (by decide) ?_
  refine v_bipush (v := 24) C dX2_readReach_6 (by decide) ?_
  obtain ⟨y2, hy2, hf⟩ := bnd hf
  refine v_callV (r := some (.int y2)) (As := [.int 0, .int 24]) (rest := []) (K := 2) C (mX2_isNumber hL hy2) cw_X2_isNumber wd_563 (by decide) rfl rfl ⟨Nat.le_of_ble_eq_true rfl, Nat.le_of_ble_eq_true rfl⟩ rfl rfl (Nat.le_of_ble_eq_true rfl) dX2_readReach_8 ?_
  refine v_if_ne (tgt := 16) C dX2_readReach_11 (by decide) hf (fun hf => ?_) (fun hf => ?_)
  · refine v_aload_n C 1 dX2_readReach_16 rfl rfl ?_
    refine v_aload_n C 0 dX2_readReach_17 rfl rfl ?_
    refine c_getI (k := 2) (i := 5) C hL (by decide) rfl rfl inX2 (by decide) rfl wd_78 dX2_readReach_18 ?_
    refine shC_putI (i := 4) C sb25 hL (by decide) rfl wd_41 rfl (by decide +kernel) dX2_readReach_21 hf (fun κ3 hf => ?_)
    refine v_aload_n C 0 dX2_readReach_24 rfl rfl ?_
    obtain ⟨y4, hy4, hf⟩ := bnd hf
    refine v_callV (r := none) (As := []) (rest := []) (K := 2) C (mX2_step hL hy4) cw_X2_step wd_472 (by decide) rfl rfl ⟨Nat.le_of_ble_eq_true rfl, Nat.le_of_ble_eq_true rfl⟩ rfl rfl (Nat.le_of_ble_eq_true rfl) dX2_readReach_25 ?_
    refine v_iconst (v := 1) C dX2_readReach_28 (by decide) ?_
    exact v_zret C (Or.inr rfl) dX2_readReach_29 (fin_im hf hQ)
  · refine v_iconst (v := 0) C dX2_readReach_14 (by decide) ?_
    exact v_zret C (Or.inl rfl) dX2_readReach_15 (fin_im hf hQ)
theorem mX2_readReach {B : BB} {l : Launch} {L : St2 → St2} {N : Nat} {κ : St2} {res : (Int32 × St2)} (hL : LnC L) (hf : fX2_readReach N κ = some res) : Ret l B yX2_readReach cX2_readReach 2 (some .boolean) 2 44 [.ref (ad B 2), .ref (ad B 25)] (L κ) (some (.int res.1)) (L res.2) := ret_of (own := RX2) (by decide) rfl (Nat.le_of_ble_eq_true rfl) (fun E C hQ => tX2_readReach C hL hQ hf)
def fX2_readPrint_89 (N : Nat) (κ : St2) (v2 : Int32) (v3 : Int32) (v4 : Int32) (v5 : Int32) : Option (Int32 × St2) := if v5 = 0 then ((fX1_put (vw κ 25) v2 v3 v4 1).bind fun y12 => (some (putS κ 25 y12)).bind fun κ13 => some (1, κ13)) else ((fX1_put (vw κ 25) v2 v3 v4 0).bind fun y14 => (some (putS κ 25 y14)).bind fun κ15 => some (1, κ15))
set_option maxHeartbeats 4000000 in
set_option maxRecDepth 100000 in
theorem tX2_readPrint_89 {E : EE} {B : BB} {l : Launch} {L : St2 → St2} {N : Nat} {κ : St2} {v2 : Int32} {v3 : Int32} {v4 : Int32} {v5 : Int32} {res : (Int32 × St2)} (C : Cx E B l cX2_readPrint RX2 (some .boolean) 6 5 107) (hL : LnC L) (hQ : Fin9 E B (some (.int res.1)) (L res.2)) (hf : fX2_readPrint_89 N κ v2 v3 v4 v5 = some res) : V E B (L κ) 89 [(1, .ref (ad B 25)), (2, .int v2), (3, .int v3), (4, .int v4), (5, .int v5)] [] := by
  unfold fX2_readPrint_89 at hf
  refine v_aload_n C 0 dX2_readPrint_89 rfl rfl ?_
  refine v_iload_n C 1 dX2_readPrint_90 rfl rfl ?_
  refine v_iload_n C 2 dX2_readPrint_91 rfl rfl ?_
  refine v_iload C 3 dX2_readPrint_92 rfl ?_
  refine v_iload C 4 dX2_readPrint_94 rfl ?_
  refine v_if_eq (tgt := 103) C dX2_readPrint_96 (by decide) hf (fun hf => ?_) (fun hf => ?_)
  · refine v_iconst (v := 1) C dX2_readPrint_103 (by decide) ?_
    obtain ⟨y12, hy12, hf⟩ := bnd hf
    refine v_callV (r := none) (As := [.int v2, .int v3, .int v4, .int 1]) (rest := []) (K := 25) C (nX1_put hL sb25 hy12) cw_X1_put wd_581 (by decide) (tb_o sb25) rfl ⟨Nat.le_of_ble_eq_true rfl, Nat.le_of_ble_eq_true rfl⟩ rfl rfl (Nat.le_of_ble_eq_true rfl) dX2_readPrint_104 ?_
    obtain ⟨κ13, he, hf⟩ := bnd hf
    rw [Option.some.inj he]
    refine v_iconst (v := 1) C dX2_readPrint_107 (by decide) ?_
    exact v_zret C (Or.inr rfl) dX2_readPrint_108 (fin_im hf hQ)
  · refine v_iconst (v := 0) C dX2_readPrint_99 (by decide) ?_
    refine v_goto (tgt := 104) C dX2_readPrint_100 (by decide) ?_
    obtain ⟨y14, hy14, hf⟩ := bnd hf
    refine v_callV (r := none) (As := [.int v2, .int v3, .int v4, .int 0]) (rest := []) (K := 25) C (nX1_put hL sb25 hy14) cw_X1_put wd_581 (by decide) (tb_o sb25) rfl ⟨Nat.le_of_ble_eq_true rfl, Nat.le_of_ble_eq_true rfl⟩ rfl rfl (Nat.le_of_ble_eq_true rfl) dX2_readPrint_104 ?_
    obtain ⟨κ15, he, hf⟩ := bnd hf
    rw [Option.some.inj he]
    refine v_iconst (v := 1) C dX2_readPrint_107 (by decide) ?_
    exact v_zret C (Or.inr rfl) dX2_readPrint_108 (fin_im hf hQ)
def fX2_readPrint (N : Nat) (κ : St2) : Option (Int32 × St2) := (fX2_step N κ).bind fun y1 => (fX2_isNumber y1 0 23).bind fun y2 => if y2 = 0 then (some (0, y1)) else ((some (y1 2 5)).bind fun w3 => (fX2_step N y1).bind fun y4 => (fX2_isNumber y4 0 ((y4 25 3) - 1)).bind fun y5 => if y5 = 0 then (some (0, y4)) else ((some (y4 2 5)).bind fun w6 => (fX2_step N y4).bind fun y7 => (fX2_isNumber y7 0 9).bind fun y8 => if y8 = 0 then (some (0, y7)) else ((some (y7 2 5)).bind fun w9 => (fX2_step N y7).bind fun y10 => (fX2_isWord N 8 y10).bind fun y11 => if y11 = 0 then (fX2_readPrint_89 N y10 w3 w6 w9 y11) else ((fX2_step N y10).bind fun y16 => fX2_readPrint_89 N y16 w3 w6 w9 y11))))
set_option maxHeartbeats 4000000 in
set_option maxRecDepth 100000 in
theorem tX2_readPrint {E : EE} {B : BB} {l : Launch} {L : St2 → St2} {N : Nat} {κ : St2} {res : (Int32 × St2)} (C : Cx E B l cX2_readPrint RX2 (some .boolean) 6 5 107) (hL : LnC L) (hQ : Fin9 E B (some (.int res.1)) (L res.2)) (hf : fX2_readPrint N κ = some res) : V E B (L κ) 0 [(0, .ref (ad B 2)), (1, .ref (ad B 25))] [] := by
  unfold fX2_readPrint at hf
  refine v_aload_n C 0 dX2_readPrint_0 rfl rfl ?_
  obtain ⟨y1, hy1, hf⟩ := bnd hf
  refine v_callV (r := none) (As := []) (rest := []) (K := 2) C (mX2_step hL hy1) cw_X2_step wd_472 (by decide) rfl rfl ⟨Nat.le_of_ble_eq_true rfl, Nat.le_of_ble_eq_true rfl⟩ rfl rfl (Nat.le_of_ble_eq_true rfl) dX2_readPrint_1 ?_
  refine v_aload_n C 0 dX2_readPrint_4 rfl rfl ?_
  refine v_iconst (v := 0) C dX2_readPrint_5 (by decide) ?_
  refine v_bipush (v := 23) C dX2_readPrint_6 (by decide) ?_
  obtain ⟨y2, hy2, hf⟩ := bnd hf
  refine v_callV (r := some (.int y2)) (As := [.int 0, .int 23]) (rest := []) (K := 2) C (mX2_isNumber hL hy2) cw_X2_isNumber wd_563 (by decide) rfl rfl ⟨Nat.le_of_ble_eq_true rfl, Nat.le_of_ble_eq_true rfl⟩ rfl rfl (Nat.le_of_ble_eq_true rfl) dX2_readPrint_8 ?_
  refine v_if_ne (tgt := 16) C dX2_readPrint_11 (by decide) hf (fun hf => ?_) (fun hf => ?_)
  · refine v_aload_n C 0 dX2_readPrint_16 rfl rfl ?_
    refine c_getI (k := 2) (i := 5) C hL (by decide) rfl rfl inX2 (by decide) rfl wd_78 dX2_readPrint_17 ?_
    refine v_top hf (fun w3 hf => ?_)
    refine v_istore_n (lv' := [(0, .ref (ad B 2)), (1, .ref (ad B 25)), (2, .int w3)]) C [1, 2, 0] dX2_readPrint_20 rfl (by decide) rfl ?_
    refine v_aload_n C 0 dX2_readPrint_21 rfl rfl ?_
    obtain ⟨y4, hy4, hf⟩ := bnd hf
    refine v_callV (r := none) (As := []) (rest := []) (K := 2) C (mX2_step hL hy4) cw_X2_step wd_472 (by decide) rfl rfl ⟨Nat.le_of_ble_eq_true rfl, Nat.le_of_ble_eq_true rfl⟩ rfl rfl (Nat.le_of_ble_eq_true rfl) dX2_readPrint_22 ?_
    refine v_aload_n C 0 dX2_readPrint_25 rfl rfl ?_
    refine v_iconst (v := 0) C dX2_readPrint_26 (by decide) ?_
    refine v_aload_n C 1 dX2_readPrint_27 rfl rfl ?_
    refine shC_getI (i := 3) C sb25 hL (by decide) rfl wd_37 dX2_readPrint_28 ?_
    refine v_iconst (v := 1) C dX2_readPrint_31 (by decide) ?_
    refine v_isub C dX2_readPrint_32 ?_
    obtain ⟨y5, hy5, hf⟩ := bnd hf
    refine v_callV (r := some (.int y5)) (As := [.int 0, .int ((y4 25 3) - 1)]) (rest := []) (K := 2) C (mX2_isNumber hL hy5) cw_X2_isNumber wd_563 (by decide) rfl rfl ⟨Nat.le_of_ble_eq_true rfl, Nat.le_of_ble_eq_true rfl⟩ rfl rfl (Nat.le_of_ble_eq_true rfl) dX2_readPrint_33 ?_
    refine v_if_ne (tgt := 41) C dX2_readPrint_36 (by decide) hf (fun hf => ?_) (fun hf => ?_)
    · refine v_aload_n C 0 dX2_readPrint_41 rfl rfl ?_
      refine c_getI (k := 2) (i := 5) C hL (by decide) rfl rfl inX2 (by decide) rfl wd_78 dX2_readPrint_42 ?_
      refine v_top hf (fun w6 hf => ?_)
      refine v_istore_n (lv' := [(0, .ref (ad B 2)), (1, .ref (ad B 25)), (2, .int w3), (3, .int w6)]) C [1, 2, 3, 0] dX2_readPrint_45 rfl (by decide) rfl ?_
      refine v_aload_n C 0 dX2_readPrint_46 rfl rfl ?_
      obtain ⟨y7, hy7, hf⟩ := bnd hf
      refine v_callV (r := none) (As := []) (rest := []) (K := 2) C (mX2_step hL hy7) cw_X2_step wd_472 (by decide) rfl rfl ⟨Nat.le_of_ble_eq_true rfl, Nat.le_of_ble_eq_true rfl⟩ rfl rfl (Nat.le_of_ble_eq_true rfl) dX2_readPrint_47 ?_
      refine v_aload_n C 0 dX2_readPrint_50 rfl rfl ?_
      refine v_iconst (v := 0) C dX2_readPrint_51 (by decide) ?_
      refine v_bipush (v := 9) C dX2_readPrint_52 (by decide) ?_
      obtain ⟨y8, hy8, hf⟩ := bnd hf
      refine v_callV (r := some (.int y8)) (As := [.int 0, .int 9]) (rest := []) (K := 2) C (mX2_isNumber hL hy8) cw_X2_isNumber wd_563 (by decide) rfl rfl ⟨Nat.le_of_ble_eq_true rfl, Nat.le_of_ble_eq_true rfl⟩ rfl rfl (Nat.le_of_ble_eq_true rfl) dX2_readPrint_54 ?_
      refine v_if_ne (tgt := 62) C dX2_readPrint_57 (by decide) hf (fun hf => ?_) (fun hf => ?_)
      · refine v_aload_n C 0 dX2_readPrint_62 rfl rfl ?_
        refine c_getI (k := 2) (i := 5) C hL (by decide) rfl rfl inX2 (by decide) rfl wd_78 dX2_readPrint_63 ?_
        refine v_top hf (fun w9 hf => ?_)
        refine v_istore (lv' := [(0, .ref (ad B 2)), (1, .ref (ad B 25)), (2, .int w3), (3, .int w6), (4, .int w9)]) C [1, 2, 3, 4, 0] dX2_readPrint_66 (by decide) rfl ?_
        refine v_aload_n C 0 dX2_readPrint_68 rfl rfl ?_
        obtain ⟨y10, hy10, hf⟩ := bnd hf
        refine v_callV (r := none) (As := []) (rest := []) (K := 2) C (mX2_step hL hy10) cw_X2_step wd_472 (by decide) rfl rfl ⟨Nat.le_of_ble_eq_true rfl, Nat.le_of_ble_eq_true rfl⟩ rfl rfl (Nat.le_of_ble_eq_true rfl) dX2_readPrint_69 ?_
        refine v_aload_n C 0 dX2_readPrint_72 rfl rfl ?_
        refine v_ldcS C sr_568 dX2_readPrint_73 ?_
        obtain ⟨y11, hy11, hf⟩ := bnd hf
        refine v_callV (r := some (.int y11)) (As := [.ref (sk B 8)]) (rest := []) (K := 2) C (mX2_isWord hL (by decide) hy11) cw_X2_isWord wd_498 (by decide) rfl rfl ⟨Nat.le_of_ble_eq_true rfl, Nat.le_of_ble_eq_true rfl⟩ rfl rfl (Nat.le_of_ble_eq_true rfl) dX2_readPrint_75 ?_
        refine v_istore (lv' := [(0, .ref (ad B 2)), (1, .ref (ad B 25)), (2, .int w3), (3, .int w6), (4, .int w9), (5, .int y11)]) C [1, 2, 3, 4, 5, 0] dX2_readPrint_78 (by decide) rfl ?_
        refine v_iload C 5 dX2_readPrint_80 rfl ?_
        refine v_if_eq (tgt := 89) C dX2_readPrint_82 (by decide) hf (fun hf => ?_) (fun hf => ?_)
        · refine v_sub [1, 2, 3, 4, 5] rfl ?_
          exact tX2_readPrint_89 C hL hQ hf
        · refine v_aload_n C 0 dX2_readPrint_85 rfl rfl ?_
          obtain ⟨y16, hy16, hf⟩ := bnd hf
          refine v_callV (r := none) (As := []) (rest := []) (K := 2) C (mX2_step hL hy16) cw_X2_step wd_472 (by decide) rfl rfl ⟨Nat.le_of_ble_eq_true rfl, Nat.le_of_ble_eq_true rfl⟩ rfl rfl (Nat.le_of_ble_eq_true rfl) dX2_readPrint_86 ?_
          refine v_sub [1, 2, 3, 4, 5] rfl ?_
          exact tX2_readPrint_89 C hL hQ hf
      · refine v_iconst (v := 0) C dX2_readPrint_60 (by decide) ?_
        exact v_zret C (Or.inl rfl) dX2_readPrint_61 (fin_im hf hQ)
    · refine v_iconst (v := 0) C dX2_readPrint_39 (by decide) ?_
      exact v_zret C (Or.inl rfl) dX2_readPrint_40 (fin_im hf hQ)
  · refine v_iconst (v := 0) C dX2_readPrint_14 (by decide) ?_
    exact v_zret C (Or.inl rfl) dX2_readPrint_15 (fin_im hf hQ)
theorem mX2_readPrint {B : BB} {l : Launch} {L : St2 → St2} {N : Nat} {κ : St2} {res : (Int32 × St2)} (hL : LnC L) (hf : fX2_readPrint N κ = some res) : Ret l B yX2_readPrint cX2_readPrint 6 (some .boolean) 5 107 [.ref (ad B 2), .ref (ad B 25)] (L κ) (some (.int res.1)) (L res.2) := ret_of (own := RX2) (by decide) rfl (Nat.le_of_ble_eq_true rfl) (fun E C hQ => tX2_readPrint C hL hQ hf)
def fX2_readItem (N : Nat) (κ : St2) : Option (Int32 × St2) := (fX2_kindOfWord N κ).bind fun y1 => if y1 < 0 then ((fX2_isWord N 11 κ).bind fun y2 => if y2 = 0 then ((fX2_isWord N 12 κ).bind fun y3 => if y3 = 0 then (some (0, κ)) else ((fX2_readPrint N κ).bind fun y4 => if y4.1 = 0 then (some (0, y4.2)) else (some (1, y4.2)))) else ((fX2_readReach N κ).bind fun y5 => (bz y5.1).bind fun w6 => some (w6, y5.2))) else ((fX2_readWalker N κ y1).bind fun y7 => (bz y7.1).bind fun w8 => some (w8, y7.2))
set_option maxHeartbeats 4000000 in
set_option maxRecDepth 100000 in
theorem tX2_readItem {E : EE} {B : BB} {l : Launch} {L : St2 → St2} {N : Nat} {κ : St2} {res : (Int32 × St2)} (C : Cx E B l cX2_readItem RX2 (some .boolean) 3 7 154) (hL : LnC L) (hQ : Fin9 E B (some (.int res.1)) (L res.2)) (hf : fX2_readItem N κ = some res) : V E B (L κ) 0 [(0, .ref (ad B 2)), (1, .ref (ad B 25))] [] := by
  unfold fX2_readItem at hf
  refine v_aload_n C 0 dX2_readItem_0 rfl rfl ?_
  obtain ⟨y1, hy1, hf⟩ := bnd hf
  refine v_callV (r := some (.int y1)) (As := []) (rest := []) (K := 2) C (mX2_kindOfWord hL hy1) cw_X2_kindOfWord wd_484 (by decide) rfl rfl ⟨Nat.le_of_ble_eq_true rfl, Nat.le_of_ble_eq_true rfl⟩ rfl rfl (Nat.le_of_ble_eq_true rfl) dX2_readItem_1 ?_
  refine v_istore_n (lv' := [(0, .ref (ad B 2)), (1, .ref (ad B 25)), (2, .int y1)]) C [1, 2, 0] dX2_readItem_4 rfl (by decide) rfl ?_
  refine v_iload_n C 2 dX2_readItem_5 rfl rfl ?_
  refine v_if_lt (tgt := 16) C dX2_readItem_6 (by decide) hf (fun hf => ?_) (fun hf => ?_)
  · refine v_aload_n C 0 dX2_readItem_16 rfl rfl ?_
    refine v_ldcS C sr_571 dX2_readItem_17 ?_
    obtain ⟨y2, hy2, hf⟩ := bnd hf
    refine v_callV (r := some (.int y2)) (As := [.ref (sk B 11)]) (rest := []) (K := 2) C (mX2_isWord hL (by decide) hy2) cw_X2_isWord wd_498 (by decide) rfl rfl ⟨Nat.le_of_ble_eq_true rfl, Nat.le_of_ble_eq_true rfl⟩ rfl rfl (Nat.le_of_ble_eq_true rfl) dX2_readItem_19 ?_
    refine v_if_eq (tgt := 31) C dX2_readItem_22 (by decide) hf (fun hf => ?_) (fun hf => ?_)
    · refine v_aload_n C 0 dX2_readItem_31 rfl rfl ?_
      refine v_ldcS C sr_576 dX2_readItem_32 ?_
      obtain ⟨y3, hy3, hf⟩ := bnd hf
      refine v_callV (r := some (.int y3)) (As := [.ref (sk B 12)]) (rest := []) (K := 2) C (mX2_isWord hL (by decide) hy3) cw_X2_isWord wd_498 (by decide) rfl rfl ⟨Nat.le_of_ble_eq_true rfl, Nat.le_of_ble_eq_true rfl⟩ rfl rfl (Nat.le_of_ble_eq_true rfl) dX2_readItem_34 ?_
      refine v_if_eq (tgt := 52) C dX2_readItem_37 (by decide) hf (fun hf => ?_) (fun hf => ?_)
      · refine v_iconst (v := 0) C dX2_readItem_52 (by decide) ?_
        exact v_zret C (Or.inl rfl) dX2_readItem_53 (fin_im hf hQ)
      · refine v_aload_n C 0 dX2_readItem_40 rfl rfl ?_
        refine v_aload_n C 1 dX2_readItem_41 rfl rfl ?_
        obtain ⟨y4, hy4, hf⟩ := bnd hf
        refine v_callV (r := some (.int y4.1)) (As := [.ref (ad B 25)]) (rest := []) (K := 2) C (mX2_readPrint hL hy4) cw_X2_readPrint wd_577 (by decide) rfl rfl ⟨Nat.le_of_ble_eq_true rfl, Nat.le_of_ble_eq_true rfl⟩ rfl rfl (Nat.le_of_ble_eq_true rfl) dX2_readItem_42 ?_
        refine v_if_eq (tgt := 52) C dX2_readItem_45 (by decide) hf (fun hf => ?_) (fun hf => ?_)
        · refine v_iconst (v := 0) C dX2_readItem_52 (by decide) ?_
          exact v_zret C (Or.inl rfl) dX2_readItem_53 (fin_im hf hQ)
        · refine v_iconst (v := 1) C dX2_readItem_48 (by decide) ?_
          refine v_goto (tgt := 53) C dX2_readItem_49 (by decide) ?_
          exact v_zret C (Or.inr rfl) dX2_readItem_53 (fin_im hf hQ)
    · refine v_aload_n C 0 dX2_readItem_25 rfl rfl ?_
      refine v_aload_n C 1 dX2_readItem_26 rfl rfl ?_
      obtain ⟨y5, hy5, hf⟩ := bnd hf
      refine v_callV (r := some (.int y5.1)) (As := [.ref (ad B 25)]) (rest := []) (K := 2) C (mX2_readReach hL hy5) cw_X2_readReach wd_572 (by decide) rfl rfl ⟨Nat.le_of_ble_eq_true rfl, Nat.le_of_ble_eq_true rfl⟩ rfl rfl (Nat.le_of_ble_eq_true rfl) dX2_readItem_27 ?_
      obtain ⟨hz, hf⟩ := bz_b hf
      exact v_zret C hz dX2_readItem_30 (fin_im hf hQ)
  · refine v_aload_n C 0 dX2_readItem_9 rfl rfl ?_
    refine v_aload_n C 1 dX2_readItem_10 rfl rfl ?_
    refine v_iload_n C 2 dX2_readItem_11 rfl rfl ?_
    obtain ⟨y7, hy7, hf⟩ := bnd hf
    refine v_callV (r := some (.int y7.1)) (As := [.ref (ad B 25), .int y1]) (rest := []) (K := 2) C (mX2_readWalker hL hy7) cw_X2_readWalker wd_550 (by decide) rfl rfl ⟨Nat.le_of_ble_eq_true rfl, Nat.le_of_ble_eq_true rfl⟩ rfl rfl (Nat.le_of_ble_eq_true rfl) dX2_readItem_12 ?_
    obtain ⟨hz, hf⟩ := bz_b hf
    exact v_zret C hz dX2_readItem_15 (fin_im hf hQ)
theorem mX2_readItem {B : BB} {l : Launch} {L : St2 → St2} {N : Nat} {κ : St2} {res : (Int32 × St2)} (hL : LnC L) (hf : fX2_readItem N κ = some res) : Ret l B yX2_readItem cX2_readItem 3 (some .boolean) 7 154 [.ref (ad B 2), .ref (ad B 25)] (L κ) (some (.int res.1)) (L res.2) := ret_of (own := RX2) (by decide) rfl (Nat.le_of_ble_eq_true rfl) (fun E C hQ => tX2_readItem C hL hQ hf)
def fX2_readText_11 (N : Nat) : Nat → St2 → Int32 → Option (Int32 × St2)
  | 0, _, _ => none
  | n + 1, κ, v2 => if 120 < v2 then (some (((-1) - (κ 2 3)), κ)) else ((fX2_readItem N κ).bind fun y3 => if y3.1 = 0 then (some (((-1) - (y3.2 2 3)), y3.2)) else (if (y3.2 2 2) = 0 then (some (v2, y3.2)) else (if (y3.2 2 2) = 3 then ((fX2_step N y3.2).bind fun y4 => (fX2_readText_11 N n) y4 (v2 + 1)) else (some (((-1) - (y3.2 2 3)), y3.2)))))
set_option maxHeartbeats 4000000 in
set_option maxRecDepth 100000 in
theorem tX2_readText_11 {E : EE} {B : BB} {l : Launch} {L : St2 → St2} {N : Nat} {res : (Int32 × St2)} (C : Cx E B l cX2_readText RX2 (some .int) 3 8 176) (hL : LnC L) (hQ : Fin9 E B (some (.int res.1)) (L res.2)) : ∀ (n : Nat) (κ : St2) (v2 : Int32), fX2_readText_11 N n κ v2 = some res → V E B (L κ) 11 [(0, .ref (ad B 2)), (1, .ref (ad B 25)), (2, .int v2)] [] := by
  intro n
  induction n with
  | zero =>
    intro κ v2 hf
    cases hf
  | succ n ih =>
    intro κ v2 hf
    rw [fX2_readText_11] at hf
    refine v_iload_n C 2 dX2_readText_11 rfl rfl ?_
    refine v_bipush (v := 120) C dX2_readText_12 (by decide) ?_
    refine v_icmp_gt (tgt := 66) C dX2_readText_14 (by decide) hf (fun hf => ?_) (fun hf => ?_)
    · refine v_iconst (v := (-1)) C dX2_readText_66 (by decide) ?_
      refine v_aload_n C 0 dX2_readText_67 rfl rfl ?_
      refine c_getI (k := 2) (i := 3) C hL (by decide) rfl rfl inX2 (by decide) rfl wd_76 dX2_readText_68 ?_
      refine v_isub C dX2_readText_71 ?_
      exact v_iret C dX2_readText_72 (fin_im hf hQ)
    · refine v_aload_n C 0 dX2_readText_17 rfl rfl ?_
      refine v_aload_n C 1 dX2_readText_18 rfl rfl ?_
      obtain ⟨y3, hy3, hf⟩ := bnd hf
      refine v_callV (r := some (.int y3.1)) (As := [.ref (ad B 25)]) (rest := []) (K := 2) C (mX2_readItem hL hy3) cw_X2_readItem wd_480 (by decide) rfl rfl ⟨Nat.le_of_ble_eq_true rfl, Nat.le_of_ble_eq_true rfl⟩ rfl rfl (Nat.le_of_ble_eq_true rfl) dX2_readText_19 ?_
      refine v_if_ne (tgt := 32) C dX2_readText_22 (by decide) hf (fun hf => ?_) (fun hf => ?_)
      · refine v_aload_n C 0 dX2_readText_32 rfl rfl ?_
        refine c_getI (k := 2) (i := 2) C hL (by decide) rfl rfl inX2 (by decide) rfl wd_75 dX2_readText_33 ?_
        refine v_if_ne (tgt := 41) C dX2_readText_36 (by decide) hf (fun hf => ?_) (fun hf => ?_)
        · refine v_aload_n C 0 dX2_readText_41 rfl rfl ?_
          refine c_getI (k := 2) (i := 2) C hL (by decide) rfl rfl inX2 (by decide) rfl wd_75 dX2_readText_42 ?_
          refine v_iconst (v := 3) C dX2_readText_45 (by decide) ?_
          refine v_icmp_eq (tgt := 56) C dX2_readText_46 (by decide) hf (fun hf => ?_) (fun hf => ?_)
          · refine v_aload_n C 0 dX2_readText_56 rfl rfl ?_
            obtain ⟨y4, hy4, hf⟩ := bnd hf
            refine v_callV (r := none) (As := []) (rest := []) (K := 2) C (mX2_step hL hy4) cw_X2_step wd_472 (by decide) rfl rfl ⟨Nat.le_of_ble_eq_true rfl, Nat.le_of_ble_eq_true rfl⟩ rfl rfl (Nat.le_of_ble_eq_true rfl) dX2_readText_57 ?_
            refine v_iinc (q := 2) (v := v2 + 1) (lv' := [(0, .ref (ad B 2)), (1, .ref (ad B 25)), (2, .int (v2 + 1))]) C [1, 2, 0] dX2_readText_60 rfl rfl (by decide) rfl ?_
            refine v_goto (tgt := 11) C dX2_readText_63 (by decide) ?_
            exact ih y4 (v2 + 1) hf
          · refine v_iconst (v := (-1)) C dX2_readText_49 (by decide) ?_
            refine v_aload_n C 0 dX2_readText_50 rfl rfl ?_
            refine c_getI (k := 2) (i := 3) C hL (by decide) rfl rfl inX2 (by decide) rfl wd_76 dX2_readText_51 ?_
            refine v_isub C dX2_readText_54 ?_
            exact v_iret C dX2_readText_55 (fin_im hf hQ)
        · refine v_iload_n C 2 dX2_readText_39 rfl rfl ?_
          exact v_iret C dX2_readText_40 (fin_im hf hQ)
      · refine v_iconst (v := (-1)) C dX2_readText_25 (by decide) ?_
        refine v_aload_n C 0 dX2_readText_26 rfl rfl ?_
        refine c_getI (k := 2) (i := 3) C hL (by decide) rfl rfl inX2 (by decide) rfl wd_76 dX2_readText_27 ?_
        refine v_isub C dX2_readText_30 ?_
        exact v_iret C dX2_readText_31 (fin_im hf hQ)
def fX2_readText (N : Nat) (κ : St2) : Option (Int32 × St2) := (pf κ 2 4 0).bind fun κ1 => (fX2_step N κ1).bind fun y2 => fX2_readText_11 N N y2 1
set_option maxHeartbeats 4000000 in
set_option maxRecDepth 100000 in
theorem tX2_readText {E : EE} {B : BB} {l : Launch} {L : St2 → St2} {N : Nat} {κ : St2} {res : (Int32 × St2)} (C : Cx E B l cX2_readText RX2 (some .int) 3 8 176) (hL : LnC L) (hQ : Fin9 E B (some (.int res.1)) (L res.2)) (hf : fX2_readText N κ = some res) : V E B (L κ) 0 [(0, .ref (ad B 2)), (1, .ref (ad B 25))] [] := by
  unfold fX2_readText at hf
  refine v_aload_n C 0 dX2_readText_0 rfl rfl ?_
  refine v_iconst (v := 0) C dX2_readText_1 (by decide) ?_
  refine c_putI (k := 2) (i := 4) C hL (by decide) rfl rfl inX2 tyX2 tyX2_ok nmX2 (by decide) rfl wd_77 rfl (by decide +kernel) dX2_readText_2 hf (fun κ1 hf => ?_)
  refine v_aload_n C 0 dX2_readText_5 rfl rfl ?_
  obtain ⟨y2, hy2, hf⟩ := bnd hf
  refine v_callV (r := none) (As := []) (rest := []) (K := 2) C (mX2_step hL hy2) cw_X2_step wd_472 (by decide) rfl rfl ⟨Nat.le_of_ble_eq_true rfl, Nat.le_of_ble_eq_true rfl⟩ rfl rfl (Nat.le_of_ble_eq_true rfl) dX2_readText_6 ?_
  refine v_iconst (v := 1) C dX2_readText_9 (by decide) ?_
  refine v_istore_n (lv' := [(0, .ref (ad B 2)), (1, .ref (ad B 25)), (2, .int 1)]) C [1, 2, 0] dX2_readText_10 rfl (by decide) rfl ?_
  exact tX2_readText_11 C hL hQ N y2 1 hf
theorem mX2_readText {B : BB} {l : Launch} {L : St2 → St2} {N : Nat} {κ : St2} {res : (Int32 × St2)} (hL : LnC L) (hf : fX2_readText N κ = some res) : Ret l B yX2_readText cX2_readText 3 (some .int) 8 176 [.ref (ad B 2), .ref (ad B 25)] (L κ) (some (.int res.1)) (L res.2) := ret_of (own := RX2) (by decide) rfl (Nat.le_of_ble_eq_true rfl) (fun E C hQ => tX2_readText C hL hQ hf)
