def fX3_guessFinding (κ : St2) (v1 : Int32) (v2 : Int32) (v3 : Int32) : Option Int32 := (fX0_findingOf κ v1).bind fun y1 => if y1 = 0 then ((fX1_isWalker (vw κ 12) v2).bind fun y2 => if y2 = 0 then (some (-1000001)) else ((fX3_within v3 0 20).bind fun y3 => if y3 = 0 then (some (-1000001)) else (some 0))) else (some y1)
set_option maxHeartbeats 4000000 in
set_option maxRecDepth 100000 in
theorem tX3_guessFinding {E : EE} {B : BB} {l : Launch} {L : St2 → St2} {κ : St2} {v1 : Int32} {v2 : Int32} {v3 : Int32} {res : Int32} (C : Cx E B l cX3_guessFinding RX3 (some .int) 5 3 63) (hL : LnC L) (hQ : Fin9 E B (some (.int res)) (L κ)) (hf : fX3_guessFinding κ v1 v2 v3 = some res) : V E B (L κ) 0 [(0, .ref (ad B 0)), (1, .int v1), (2, .int v2), (3, .int v3)] [] := by
  unfold fX3_guessFinding at hf
  refine v_aload_n C 0 dX3_guessFinding_0 rfl rfl ?_
  refine g_getR (K := 0) (i := 5) (j := 4) C (by decide) rfl rfl inX3 (by decide) rfl wd_117 dX3_guessFinding_1 ?_
  refine v_iload_n C 1 dX3_guessFinding_4 rfl rfl ?_
  obtain ⟨y1, hy1, hf⟩ := bnd hf
  refine v_callV (r := some (.int y1)) (As := [.int v1]) (rest := []) (K := 4) C (mX0_findingOf hL hy1) cw_X0_findingOf wd_387 (by decide) rfl rfl ⟨Nat.le_of_ble_eq_true rfl, Nat.le_of_ble_eq_true rfl⟩ rfl rfl (Nat.le_of_ble_eq_true rfl) dX3_guessFinding_5 ?_
  refine v_istore (lv' := [(0, .ref (ad B 0)), (1, .int v1), (2, .int v2), (3, .int v3), (4, .int y1)]) C [1, 2, 3, 4, 0] dX3_guessFinding_8 (by decide) rfl ?_
  refine v_iload C 4 dX3_guessFinding_10 rfl ?_
  refine v_if_eq (tgt := 18) C dX3_guessFinding_12 (by decide) hf (fun hf => ?_) (fun hf => ?_)
  · refine v_aload_n C 0 dX3_guessFinding_18 rfl rfl ?_
    refine g_getR (K := 0) (i := 0) (j := 12) C (by decide) rfl rfl inX3 (by decide) rfl wd_112 dX3_guessFinding_19 ?_
    refine v_iload_n C 2 dX3_guessFinding_22 rfl rfl ?_
    obtain ⟨y2, hy2, hf⟩ := bnd hf
    refine v_callV (r := some (.int y2)) (As := [.int v2]) (rest := []) (K := 12) C (nX1_isWalker hL sb12 hy2) cw_X1_isWalker wd_201 (by decide) (tb_o sb12) rfl ⟨Nat.le_of_ble_eq_true rfl, Nat.le_of_ble_eq_true rfl⟩ rfl rfl (Nat.le_of_ble_eq_true rfl) dX3_guessFinding_23 ?_
    refine v_if_eq (tgt := 43) C dX3_guessFinding_26 (by decide) hf (fun hf => ?_) (fun hf => ?_)
    · refine v_ldc C wd_144 dX3_guessFinding_43 ?_
      exact v_iret C dX3_guessFinding_45 (fin_i hf hQ)
    · refine v_iload_n C 3 dX3_guessFinding_29 rfl rfl ?_
      refine v_iconst (v := 0) C dX3_guessFinding_30 (by decide) ?_
      refine v_bipush (v := 20) C dX3_guessFinding_31 (by decide) ?_
      obtain ⟨y3, hy3, hf⟩ := bnd hf
      refine v_callS (r := some (.int y3)) (As := [.int v3, .int 0, .int 20]) (rest := []) C (mX3_within  hy3) cw_X3_within wd_141 ⟨Nat.le_of_ble_eq_true rfl, Nat.le_of_ble_eq_true rfl⟩ rfl rfl (Nat.le_of_ble_eq_true rfl) dX3_guessFinding_33 ?_
      refine v_if_eq (tgt := 43) C dX3_guessFinding_36 (by decide) hf (fun hf => ?_) (fun hf => ?_)
      · refine v_ldc C wd_144 dX3_guessFinding_43 ?_
        exact v_iret C dX3_guessFinding_45 (fin_i hf hQ)
      · refine v_iconst (v := 0) C dX3_guessFinding_39 (by decide) ?_
        refine v_goto (tgt := 45) C dX3_guessFinding_40 (by decide) ?_
        exact v_iret C dX3_guessFinding_45 (fin_i hf hQ)
  · refine v_iload C 4 dX3_guessFinding_15 rfl ?_
    exact v_iret C dX3_guessFinding_17 (fin_i hf hQ)
theorem mX3_guessFinding {B : BB} {l : Launch} {L : St2 → St2} {κ : St2} {v1 : Int32} {v2 : Int32} {v3 : Int32} {res : Int32} (hL : LnC L) (hf : fX3_guessFinding κ v1 v2 v3 = some res) : Ret l B yX3_guessFinding cX3_guessFinding 5 (some .int) 3 63 [.ref (ad B 0), .int v1, .int v2, .int v3] (L κ) (some (.int res)) (L κ) := ret_of (own := RX3) (by decide) rfl (Nat.le_of_ble_eq_true rfl) (fun E C hQ => tX3_guessFinding C hL hQ hf)
def fX3_trialIsAsTold_76 (N : Nat) (k18 : Int32 → Option Int32) (κ : St2) (v1 : Int32) (v2 : Int32) (v3 : Int32) (v4 : Int32) : Option Int32 := k18 (v4 + 1)
set_option maxHeartbeats 4000000 in
set_option maxRecDepth 100000 in
theorem tX3_trialIsAsTold_76 {E : EE} {B : BB} {l : Launch} {L : St2 → St2} {N : Nat} {k18 : Int32 → Option Int32} {κ : St2} {v1 : Int32} {v2 : Int32} {v3 : Int32} {v4 : Int32} {res : Int32} (C : Cx E B l cX3_trialIsAsTold RX3 (some .boolean) 7 1 21) (hL : LnC L) (hQ : Fin9 E B (some (.int res)) (L κ)) (hk18 : ∀ (v4 : Int32), k18 v4 = some res → V E B (L κ) 18 [(0, .ref (ad B 0)), (1, .int v1), (2, .int v2), (3, .int v3), (4, .int v4)] []) (hf : fX3_trialIsAsTold_76 N k18 κ v1 v2 v3 v4 = some res) : V E B (L κ) 76 [(0, .ref (ad B 0)), (1, .int v1), (2, .int v2), (3, .int v3), (4, .int v4)] [] := by
  unfold fX3_trialIsAsTold_76 at hf
  refine v_iinc (q := 4) (v := v4 + 1) (lv' := [(0, .ref (ad B 0)), (1, .int v1), (2, .int v2), (3, .int v3), (4, .int (v4 + 1))]) C [1, 2, 3, 4, 0] dX3_trialIsAsTold_76 rfl rfl (by decide) rfl ?_
  refine v_goto (tgt := 18) C dX3_trialIsAsTold_79 (by decide) ?_
  exact hk18 (v4 + 1) hf
def fX3_trialIsAsTold_59 (N : Nat) (k18 : Int32 → Option Int32) (κ : St2) (v1 : Int32) (v2 : Int32) (v3 : Int32) (v4 : Int32) (v5 : Int32) (s0 : Int32) : Option Int32 := if v5 = (-1) then (fX3_trialIsAsTold_76 N k18 κ v1 v2 v3 v4) else (if v5 = s0 then (fX3_trialIsAsTold_76 N k18 κ v1 v2 v3 v4) else (some 0))
set_option maxHeartbeats 4000000 in
set_option maxRecDepth 100000 in
theorem tX3_trialIsAsTold_59 {E : EE} {B : BB} {l : Launch} {L : St2 → St2} {N : Nat} {k18 : Int32 → Option Int32} {κ : St2} {v1 : Int32} {v2 : Int32} {v3 : Int32} {v4 : Int32} {v5 : Int32} {s0 : Int32} {res : Int32} (C : Cx E B l cX3_trialIsAsTold RX3 (some .boolean) 7 1 21) (hL : LnC L) (hQ : Fin9 E B (some (.int res)) (L κ)) (hk18 : ∀ (v4 : Int32), k18 v4 = some res → V E B (L κ) 18 [(0, .ref (ad B 0)), (1, .int v1), (2, .int v2), (3, .int v3), (4, .int v4)] []) (hf : fX3_trialIsAsTold_59 N k18 κ v1 v2 v3 v4 v5 s0 = some res) : V E B (L κ) 59 [(0, .ref (ad B 0)), (1, .int v1), (2, .int v2), (3, .int v3), (4, .int v4), (5, .int v5)] [.int s0] := by
  unfold fX3_trialIsAsTold_59 at hf
  refine v_istore (lv' := [(0, .ref (ad B 0)), (1, .int v1), (2, .int v2), (3, .int v3), (4, .int v4), (5, .int v5), (6, .int s0)]) C [1, 2, 3, 4, 5, 6, 0] dX3_trialIsAsTold_59 (by decide) rfl ?_
  refine v_iload C 5 dX3_trialIsAsTold_61 rfl ?_
  refine v_iconst (v := (-1)) C dX3_trialIsAsTold_63 (by decide) ?_
  refine v_icmp_eq (tgt := 76) C dX3_trialIsAsTold_64 (by decide) hf (fun hf => ?_) (fun hf => ?_)
  · refine v_sub [0, 1, 2, 3, 4] rfl ?_
    exact tX3_trialIsAsTold_76 C hL hQ hk18 hf
  · refine v_iload C 5 dX3_trialIsAsTold_67 rfl ?_
    refine v_iload C 6 dX3_trialIsAsTold_69 rfl ?_
    refine v_icmp_eq (tgt := 76) C dX3_trialIsAsTold_71 (by decide) hf (fun hf => ?_) (fun hf => ?_)
    · refine v_sub [0, 1, 2, 3, 4] rfl ?_
      exact tX3_trialIsAsTold_76 C hL hQ hk18 hf
    · refine v_iconst (v := 0) C dX3_trialIsAsTold_74 (by decide) ?_
      exact v_zret C (Or.inl rfl) dX3_trialIsAsTold_75 (fin_i hf hQ)
def fX3_trialIsAsTold_18 (N : Nat) (κ : St2) (v1 : Int32) (v2 : Int32) (v3 : Int32) : Nat → Int32 → Option Int32
  | 0, _ => none
  | n + 1, v4 => if v3 ≤ v4 then (some 1) else ((ck v1 4).bind fun r3 => (rd (κ (6 + r3)) 40 v4).bind fun a4 => (rd (κ (25 + (2 + 0))) 24 v4).bind fun a5 => if a5 = v2 then (fX3_trialIsAsTold_59 N (fX3_trialIsAsTold_18 N κ v1 v2 v3 n) κ v1 v2 v3 v4 a4 1) else (fX3_trialIsAsTold_59 N (fX3_trialIsAsTold_18 N κ v1 v2 v3 n) κ v1 v2 v3 v4 a4 0))
set_option maxHeartbeats 4000000 in
set_option maxRecDepth 100000 in
theorem tX3_trialIsAsTold_18 {E : EE} {B : BB} {l : Launch} {L : St2 → St2} {N : Nat} {κ : St2} {v1 : Int32} {v2 : Int32} {v3 : Int32} {res : Int32} (C : Cx E B l cX3_trialIsAsTold RX3 (some .boolean) 7 1 21) (hL : LnC L) (hQ : Fin9 E B (some (.int res)) (L κ)) : ∀ (n : Nat) (v4 : Int32), fX3_trialIsAsTold_18 N κ v1 v2 v3 n v4 = some res → V E B (L κ) 18 [(0, .ref (ad B 0)), (1, .int v1), (2, .int v2), (3, .int v3), (4, .int v4)] [] := by
  intro n
  induction n with
  | zero =>
    intro v4 hf
    cases hf
  | succ n ih =>
    intro v4 hf
    rw [fX3_trialIsAsTold_18] at hf
    refine v_iload C 4 dX3_trialIsAsTold_18 rfl ?_
    refine v_iload_n C 3 dX3_trialIsAsTold_20 rfl rfl ?_
    refine v_icmp_ge (tgt := 82) C dX3_trialIsAsTold_21 (by decide) hf (fun hf => ?_) (fun hf => ?_)
    · refine v_iconst (v := 1) C dX3_trialIsAsTold_82 (by decide) ?_
      exact v_zret C (Or.inr rfl) dX3_trialIsAsTold_83 (fin_i hf hQ)
    · refine v_aload_n C 0 dX3_trialIsAsTold_24 rfl rfl ?_
      refine g_getR (K := 0) (i := 5) (j := 4) C (by decide) rfl rfl inX3 (by decide) rfl wd_117 dX3_trialIsAsTold_25 ?_
      refine g_getR (K := 4) (i := 0) (j := 5) C (by decide) rfl rfl inX0 (by decide) rfl wd_100 dX3_trialIsAsTold_28 ?_
      refine v_iload_n C 1 dX3_trialIsAsTold_31 rfl rfl ?_
      refine g_rowD (K := 5) (j := 6) C (by decide) rfl dX3_trialIsAsTold_32 hf (fun r3 hr3 hf => ?_)
      refine v_iload C 4 dX3_trialIsAsTold_33 rfl ?_
      refine c_ald (k := 6 + r3) C hL (by omega) (tb_nr hr3) dX3_trialIsAsTold_35 hf (fun a4 hf => ?_)
      refine v_istore (lv' := [(0, .ref (ad B 0)), (1, .int v1), (2, .int v2), (3, .int v3), (4, .int v4), (5, .int a4)]) C [1, 2, 3, 4, 5, 0] dX3_trialIsAsTold_36 (by decide) rfl ?_
      refine v_aload_n C 0 dX3_trialIsAsTold_38 rfl rfl ?_
      refine g_getR (K := 0) (i := 1) (j := 25) C (by decide) rfl rfl inX3 (by decide) rfl wd_113 dX3_trialIsAsTold_39 ?_
      refine sh_getR (i := 0) (j := 25 + 1) C sb25 (by decide) rfl wd_30 dX3_trialIsAsTold_42 ?_
      refine v_iconst (v := 0) C dX3_trialIsAsTold_45 (by decide) ?_
      refine sh_prS C 0 sb25 rfl (by decide) dX3_trialIsAsTold_46 ?_
      refine v_iload C 4 dX3_trialIsAsTold_47 rfl ?_
      refine c_ald (k := 25 + (2 + 0)) C hL (by decide) (tb_pr sb25 (r := 0) (by decide)) dX3_trialIsAsTold_49 hf (fun a5 hf => ?_)
      refine v_iload_n C 2 dX3_trialIsAsTold_50 rfl rfl ?_
      refine v_icmp_ne (tgt := 58) C dX3_trialIsAsTold_51 (by decide) hf (fun hf => ?_) (fun hf => ?_)
      · refine v_iconst (v := 0) C dX3_trialIsAsTold_58 (by decide) ?_
        exact tX3_trialIsAsTold_59 C hL hQ ih hf
      · refine v_iconst (v := 1) C dX3_trialIsAsTold_54 (by decide) ?_
        refine v_goto (tgt := 59) C dX3_trialIsAsTold_55 (by decide) ?_
        exact tX3_trialIsAsTold_59 C hL hQ ih hf
def fX3_trialIsAsTold (N : Nat) (κ : St2) (v1 : Int32) (v2 : Int32) : Option Int32 := (rd (κ 11) 4 v1).bind fun a1 => (some (imin a1 24)).bind fun w2 => fX3_trialIsAsTold_18 N κ v1 v2 w2 N 0
set_option maxHeartbeats 4000000 in
set_option maxRecDepth 100000 in
theorem tX3_trialIsAsTold {E : EE} {B : BB} {l : Launch} {L : St2 → St2} {N : Nat} {κ : St2} {v1 : Int32} {v2 : Int32} {res : Int32} (C : Cx E B l cX3_trialIsAsTold RX3 (some .boolean) 7 1 21) (hL : LnC L) (hQ : Fin9 E B (some (.int res)) (L κ)) (hf : fX3_trialIsAsTold N κ v1 v2 = some res) : V E B (L κ) 0 [(0, .ref (ad B 0)), (1, .int v1), (2, .int v2)] [] := by
  unfold fX3_trialIsAsTold at hf
  refine v_aload_n C 0 dX3_trialIsAsTold_0 rfl rfl ?_
  refine g_getR (K := 0) (i := 5) (j := 4) C (by decide) rfl rfl inX3 (by decide) rfl wd_117 dX3_trialIsAsTold_1 ?_
  refine g_getR (K := 4) (i := 2) (j := 11) C (by decide) rfl rfl inX0 (by decide) rfl wd_104 dX3_trialIsAsTold_4 ?_
  refine v_iload_n C 1 dX3_trialIsAsTold_7 rfl rfl ?_
  refine c_ald (k := 11) C hL (by decide) rfl dX3_trialIsAsTold_8 hf (fun a1 hf => ?_)
  refine v_bipush (v := 24) C dX3_trialIsAsTold_9 (by decide) ?_
  refine w_mmin C wd_409 (by decide) (Nat.le_of_ble_eq_true rfl) dX3_trialIsAsTold_11 ?_
  refine v_top hf (fun w2 hf => ?_)
  refine v_istore_n (lv' := [(0, .ref (ad B 0)), (1, .int v1), (2, .int v2), (3, .int w2)]) C [1, 2, 3, 0] dX3_trialIsAsTold_14 rfl (by decide) rfl ?_
  refine v_iconst (v := 0) C dX3_trialIsAsTold_15 (by decide) ?_
  refine v_istore (lv' := [(0, .ref (ad B 0)), (1, .int v1), (2, .int v2), (3, .int w2), (4, .int 0)]) C [1, 2, 3, 4, 0] dX3_trialIsAsTold_16 (by decide) rfl ?_
  exact tX3_trialIsAsTold_18 C hL hQ N 0 hf
theorem mX3_trialIsAsTold {B : BB} {l : Launch} {L : St2 → St2} {N : Nat} {κ : St2} {v1 : Int32} {v2 : Int32} {res : Int32} (hL : LnC L) (hf : fX3_trialIsAsTold N κ v1 v2 = some res) : Ret l B yX3_trialIsAsTold cX3_trialIsAsTold 7 (some .boolean) 1 21 [.ref (ad B 0), .int v1, .int v2] (L κ) (some (.int res)) (L κ) := ret_of (own := RX3) (by decide) rfl (Nat.le_of_ble_eq_true rfl) (fun E C hQ => tX3_trialIsAsTold C hL hQ hf)
def fX3_fittingSet_48 (N : Nat) (k10 : St2 → Int32 → Int32 → Option (Int32 × St2)) (κ : St2) (v1 : Int32) (v2 : Int32) (v3 : Int32) (v4 : Int32) (v5 : Int32) (v6 : Int32) : Option (Int32 × St2) := k10 κ v5 (v6 + 1)
set_option maxHeartbeats 4000000 in
set_option maxRecDepth 100000 in
theorem tX3_fittingSet_48 {E : EE} {B : BB} {l : Launch} {L : St2 → St2} {N : Nat} {k10 : St2 → Int32 → Int32 → Option (Int32 × St2)} {κ : St2} {v1 : Int32} {v2 : Int32} {v3 : Int32} {v4 : Int32} {v5 : Int32} {v6 : Int32} {res : (Int32 × St2)} (C : Cx E B l cX3_fittingSet RX3 (some .int) 7 6 137) (hL : LnC L) (hQ : Fin9 E B (some (.int res.1)) (L res.2)) (hk10 : ∀ (κ : St2) (v5 : Int32) (v6 : Int32), k10 κ v5 v6 = some res → V E B (L κ) 10 [(0, .ref (ad B 0)), (1, .int v1), (2, .int v2), (3, .int v3), (4, .int v4), (5, .int v5), (6, .int v6)] []) (hf : fX3_fittingSet_48 N k10 κ v1 v2 v3 v4 v5 v6 = some res) : V E B (L κ) 48 [(0, .ref (ad B 0)), (1, .int v1), (2, .int v2), (3, .int v3), (4, .int v4), (5, .int v5), (6, .int v6)] [] := by
  unfold fX3_fittingSet_48 at hf
  refine v_iinc (q := 6) (v := v6 + 1) (lv' := [(0, .ref (ad B 0)), (1, .int v1), (2, .int v2), (3, .int v3), (4, .int v4), (5, .int v5), (6, .int (v6 + 1))]) C [1, 2, 3, 4, 5, 6, 0] dX3_fittingSet_48 rfl rfl (by decide) rfl ?_
  refine v_goto (tgt := 10) C dX3_fittingSet_51 (by decide) ?_
  exact hk10 κ v5 (v6 + 1) hf
def fX3_fittingSet_10 (N : Nat) (v1 : Int32) (v2 : Int32) (v3 : Int32) (v4 : Int32) : Nat → St2 → Int32 → Int32 → Option (Int32 × St2)
  | 0, _, _, _ => none
  | n + 1, κ, v5, v6 => (rd (tv 2) 6 v3).bind fun a2 => if a2 < v6 then (some (v5, κ)) else ((fX3_tryTrait N κ v2 v3 v6 v4).bind fun y3 => (fX3_trialIsAsTold N y3 v1 v2).bind fun y4 => if y4 = 0 then (fX3_fittingSet_48 N (fX3_fittingSet_10 N v1 v2 v3 v4 n) y3 v1 v2 v3 v4 v5 v6) else ((some (v5 ||| (1 <<< (v6 &&& 31)))).bind fun w6 => fX3_fittingSet_48 N (fX3_fittingSet_10 N v1 v2 v3 v4 n) y3 v1 v2 v3 v4 w6 v6))
set_option maxHeartbeats 4000000 in
set_option maxRecDepth 100000 in
theorem tX3_fittingSet_10 {E : EE} {B : BB} {l : Launch} {L : St2 → St2} {N : Nat} {v1 : Int32} {v2 : Int32} {v3 : Int32} {v4 : Int32} {res : (Int32 × St2)} (C : Cx E B l cX3_fittingSet RX3 (some .int) 7 6 137) (hL : LnC L) (hQ : Fin9 E B (some (.int res.1)) (L res.2)) : ∀ (n : Nat) (κ : St2) (v5 : Int32) (v6 : Int32), fX3_fittingSet_10 N v1 v2 v3 v4 n κ v5 v6 = some res → V E B (L κ) 10 [(0, .ref (ad B 0)), (1, .int v1), (2, .int v2), (3, .int v3), (4, .int v4), (5, .int v5), (6, .int v6)] [] := by
  intro n
  induction n with
  | zero =>
    intro κ v5 v6 hf
    cases hf
  | succ n ih =>
    intro κ v5 v6 hf
    rw [fX3_fittingSet_10] at hf
    refine v_iload C 6 dX3_fittingSet_10 rfl ?_
    refine g_gets C (sz2 B) wd_233 dX3_fittingSet_12 ?_
    refine v_iload_n C 3 dX3_fittingSet_15 rfl rfl ?_
    refine t_ld2 C dX3_fittingSet_16 hf (fun a2 hf => ?_)
    refine v_icmp_gt (tgt := 54) C dX3_fittingSet_17 (by decide) hf (fun hf => ?_) (fun hf => ?_)
    · refine v_iload C 5 dX3_fittingSet_54 rfl ?_
      exact v_iret C dX3_fittingSet_56 (fin_im hf hQ)
    · refine v_aload_n C 0 dX3_fittingSet_20 rfl rfl ?_
      refine v_iload_n C 2 dX3_fittingSet_21 rfl rfl ?_
      refine v_iload_n C 3 dX3_fittingSet_22 rfl rfl ?_
      refine v_iload C 6 dX3_fittingSet_23 rfl ?_
      refine v_iload C 4 dX3_fittingSet_25 rfl ?_
      obtain ⟨y3, hy3, hf⟩ := bnd hf
      refine v_callV (r := none) (As := [.int v2, .int v3, .int v6, .int v4]) (rest := []) (K := 0) C (mX3_tryTrait hL hy3) cw_X3_tryTrait wd_345 (by decide) rfl rfl ⟨Nat.le_of_ble_eq_true rfl, Nat.le_of_ble_eq_true rfl⟩ rfl rfl (Nat.le_of_ble_eq_true rfl) dX3_fittingSet_27 ?_
      refine v_aload_n C 0 dX3_fittingSet_30 rfl rfl ?_
      refine v_iload_n C 1 dX3_fittingSet_31 rfl rfl ?_
      refine v_iload_n C 2 dX3_fittingSet_32 rfl rfl ?_
      obtain ⟨y4, hy4, hf⟩ := bnd hf
      refine v_callV (r := some (.int y4)) (As := [.int v1, .int v2]) (rest := []) (K := 0) C (mX3_trialIsAsTold hL hy4) cw_X3_trialIsAsTold wd_405 (by decide) rfl rfl ⟨Nat.le_of_ble_eq_true rfl, Nat.le_of_ble_eq_true rfl⟩ rfl rfl (Nat.le_of_ble_eq_true rfl) dX3_fittingSet_33 ?_
      refine v_if_eq (tgt := 48) C dX3_fittingSet_36 (by decide) hf (fun hf => ?_) (fun hf => ?_)
      · exact tX3_fittingSet_48 C hL hQ ih hf
      · refine v_iload C 5 dX3_fittingSet_39 rfl ?_
        refine v_iconst (v := 1) C dX3_fittingSet_41 (by decide) ?_
        refine v_iload C 6 dX3_fittingSet_42 rfl ?_
        refine v_ishl C dX3_fittingSet_44 ?_
        refine v_ior C dX3_fittingSet_45 ?_
        refine v_top hf (fun w6 hf => ?_)
        refine v_istore (lv' := [(0, .ref (ad B 0)), (1, .int v1), (2, .int v2), (3, .int v3), (4, .int v4), (5, .int w6), (6, .int v6)]) C [1, 2, 3, 4, 5, 0, 6] dX3_fittingSet_46 (by decide) rfl ?_
        exact tX3_fittingSet_48 C hL hQ ih hf
def fX3_fittingSet (N : Nat) (κ : St2) (v1 : Int32) (v2 : Int32) (v3 : Int32) (v4 : Int32) : Option (Int32 × St2) := (rd (tv 1) 6 v3).bind fun a1 => fX3_fittingSet_10 N v1 v2 v3 v4 N κ 0 a1
set_option maxHeartbeats 4000000 in
set_option maxRecDepth 100000 in
theorem tX3_fittingSet {E : EE} {B : BB} {l : Launch} {L : St2 → St2} {N : Nat} {κ : St2} {v1 : Int32} {v2 : Int32} {v3 : Int32} {v4 : Int32} {res : (Int32 × St2)} (C : Cx E B l cX3_fittingSet RX3 (some .int) 7 6 137) (hL : LnC L) (hQ : Fin9 E B (some (.int res.1)) (L res.2)) (hf : fX3_fittingSet N κ v1 v2 v3 v4 = some res) : V E B (L κ) 0 [(0, .ref (ad B 0)), (1, .int v1), (2, .int v2), (3, .int v3), (4, .int v4)] [] := by
  unfold fX3_fittingSet at hf
  refine v_iconst (v := 0) C dX3_fittingSet_0 (by decide) ?_
  refine v_istore (lv' := [(0, .ref (ad B 0)), (1, .int v1), (2, .int v2), (3, .int v3), (4, .int v4), (5, .int 0)]) C [1, 2, 3, 4, 5, 0] dX3_fittingSet_1 (by decide) rfl ?_
  refine g_gets C (sz1 B) wd_231 dX3_fittingSet_3 ?_
  refine v_iload_n C 3 dX3_fittingSet_6 rfl rfl ?_
  refine t_ld1 C dX3_fittingSet_7 hf (fun a1 hf => ?_)
  refine v_istore (lv' := [(0, .ref (ad B 0)), (1, .int v1), (2, .int v2), (3, .int v3), (4, .int v4), (5, .int 0), (6, .int a1)]) C [1, 2, 3, 4, 5, 6, 0] dX3_fittingSet_8 (by decide) rfl ?_
  exact tX3_fittingSet_10 C hL hQ N κ 0 a1 hf
theorem mX3_fittingSet {B : BB} {l : Launch} {L : St2 → St2} {N : Nat} {κ : St2} {v1 : Int32} {v2 : Int32} {v3 : Int32} {v4 : Int32} {res : (Int32 × St2)} (hL : LnC L) (hf : fX3_fittingSet N κ v1 v2 v3 v4 = some res) : Ret l B yX3_fittingSet cX3_fittingSet 7 (some .int) 6 137 [.ref (ad B 0), .int v1, .int v2, .int v3, .int v4] (L κ) (some (.int res.1)) (L res.2) := ret_of (own := RX3) (by decide) rfl (Nat.le_of_ble_eq_true rfl) (fun E C hQ => tX3_fittingSet C hL hQ hf)
def fX3_fits (N : Nat) (κ : St2) (v1 : Int32) (v2 : Int32) (v3 : Int32) : Option (Int32 × St2) := (fX3_guessFinding κ v1 v2 v3).bind fun y1 => if y1 = 0 then ((fX3_fittingSet N κ v1 v2 3 v3).bind fun y2 => (fJ6_bitCount_0f7a4 y2.1).bind fun y3 => some (y3, y2.2)) else ((fX3_tell κ y1).bind fun y4 => some (y4.1, y4.2))
set_option maxHeartbeats 4000000 in
set_option maxRecDepth 100000 in
theorem tX3_fits {E : EE} {B : BB} {l : Launch} {L : St2 → St2} {N : Nat} {κ : St2} {v1 : Int32} {v2 : Int32} {v3 : Int32} {res : (Int32 × St2)} (C : Cx E B l cX3_fits RX3 (some .int) 5 7 163) (hL : LnC L) (hQ : Fin9 E B (some (.int res.1)) (L res.2)) (hf : fX3_fits N κ v1 v2 v3 = some res) : V E B (L κ) 0 [(0, .ref (ad B 0)), (1, .int v1), (2, .int v2), (3, .int v3)] [] := by
  unfold fX3_fits at hf
  refine v_aload_n C 0 dX3_fits_0 rfl rfl ?_
  refine v_iload_n C 1 dX3_fits_1 rfl rfl ?_
  refine v_iload_n C 2 dX3_fits_2 rfl rfl ?_
  refine v_iload_n C 3 dX3_fits_3 rfl rfl ?_
  obtain ⟨y1, hy1, hf⟩ := bnd hf
  refine v_callV (r := some (.int y1)) (As := [.int v1, .int v2, .int v3]) (rest := []) (K := 0) C (mX3_guessFinding hL hy1) cw_X3_guessFinding wd_383 (by decide) rfl rfl ⟨Nat.le_of_ble_eq_true rfl, Nat.le_of_ble_eq_true rfl⟩ rfl rfl (Nat.le_of_ble_eq_true rfl) dX3_fits_4 ?_
  refine v_istore (lv' := [(0, .ref (ad B 0)), (1, .int v1), (2, .int v2), (3, .int v3), (4, .int y1)]) C [1, 2, 3, 4, 0] dX3_fits_7 (by decide) rfl ?_
  refine v_iload C 4 dX3_fits_9 rfl ?_
  refine v_if_eq (tgt := 21) C dX3_fits_11 (by decide) hf (fun hf => ?_) (fun hf => ?_)
  · refine v_aload_n C 0 dX3_fits_21 rfl rfl ?_
    refine v_iload_n C 1 dX3_fits_22 rfl rfl ?_
    refine v_iload_n C 2 dX3_fits_23 rfl rfl ?_
    refine v_iconst (v := 3) C dX3_fits_24 (by decide) ?_
    refine v_iload_n C 3 dX3_fits_25 rfl rfl ?_
    obtain ⟨y2, hy2, hf⟩ := bnd hf
    refine v_callV (r := some (.int y2.1)) (As := [.int v1, .int v2, .int 3, .int v3]) (rest := []) (K := 0) C (mX3_fittingSet hL hy2) cw_X3_fittingSet wd_401 (by decide) rfl rfl ⟨Nat.le_of_ble_eq_true rfl, Nat.le_of_ble_eq_true rfl⟩ rfl rfl (Nat.le_of_ble_eq_true rfl) dX3_fits_26 ?_
    obtain ⟨y3, hy3, hf⟩ := bnd hf
    refine v_callS (r := some (.int y3)) (As := [.int y2.1]) (rest := []) C (mJ6_bitCount_0f7a4  hy3) cw_J6_bitCount_0f7a4 wd_369 ⟨Nat.le_of_ble_eq_true rfl, Nat.le_of_ble_eq_true rfl⟩ rfl rfl (Nat.le_of_ble_eq_true rfl) dX3_fits_29 ?_
    exact v_iret C dX3_fits_32 (fin_im hf hQ)
  · refine v_aload_n C 0 dX3_fits_14 rfl rfl ?_
    refine v_iload C 4 dX3_fits_15 rfl ?_
    obtain ⟨y4, hy4, hf⟩ := bnd hf
    refine v_callV (r := some (.int y4.1)) (As := [.int y1]) (rest := []) (K := 0) C (mX3_tell hL hy4) cw_X3_tell wd_145 (by decide) rfl rfl ⟨Nat.le_of_ble_eq_true rfl, Nat.le_of_ble_eq_true rfl⟩ rfl rfl (Nat.le_of_ble_eq_true rfl) dX3_fits_17 ?_
    exact v_iret C dX3_fits_20 (fin_im hf hQ)
theorem mX3_fits {B : BB} {l : Launch} {L : St2 → St2} {N : Nat} {κ : St2} {v1 : Int32} {v2 : Int32} {v3 : Int32} {res : (Int32 × St2)} (hL : LnC L) (hf : fX3_fits N κ v1 v2 v3 = some res) : Ret l B yX3_fits cX3_fits 5 (some .int) 7 163 [.ref (ad B 0), .int v1, .int v2, .int v3] (L κ) (some (.int res.1)) (L res.2) := ret_of (own := RX3) (by decide) rfl (Nat.le_of_ble_eq_true rfl) (fun E C hQ => tX3_fits C hL hQ hf)
def fX3_strode (N : Nat) (κ : St2) (v1 : Int32) (v2 : Int32) (v3 : Int32) : Option (Int32 × St2) := (fX3_guessFinding κ v1 v2 v3).bind fun y1 => if y1 = 0 then ((fX3_fittingSet N κ v1 v2 3 v3).bind fun y2 => if y2.1 = 0 then ((fX3_tell y2.2 (-1000004)).bind fun y4 => some (y4.1, y4.2)) else ((fJ6_numberOfTrailingZeros_0f7a4 y2.1).bind fun y3 => some (y3, y2.2))) else ((fX3_tell κ y1).bind fun y5 => some (y5.1, y5.2))
set_option maxHeartbeats 4000000 in
set_option maxRecDepth 100000 in
theorem tX3_strode {E : EE} {B : BB} {l : Launch} {L : St2 → St2} {N : Nat} {κ : St2} {v1 : Int32} {v2 : Int32} {v3 : Int32} {res : (Int32 × St2)} (C : Cx E B l cX3_strode RX3 (some .int) 6 7 163) (hL : LnC L) (hQ : Fin9 E B (some (.int res.1)) (L res.2)) (hf : fX3_strode N κ v1 v2 v3 = some res) : V E B (L κ) 0 [(0, .ref (ad B 0)), (1, .int v1), (2, .int v2), (3, .int v3)] [] := by
  unfold fX3_strode at hf
  refine v_aload_n C 0 dX3_strode_0 rfl rfl ?_
  refine v_iload_n C 1 dX3_strode_1 rfl rfl ?_
  refine v_iload_n C 2 dX3_strode_2 rfl rfl ?_
  refine v_iload_n C 3 dX3_strode_3 rfl rfl ?_
  obtain ⟨y1, hy1, hf⟩ := bnd hf
  refine v_callV (r := some (.int y1)) (As := [.int v1, .int v2, .int v3]) (rest := []) (K := 0) C (mX3_guessFinding hL hy1) cw_X3_guessFinding wd_383 (by decide) rfl rfl ⟨Nat.le_of_ble_eq_true rfl, Nat.le_of_ble_eq_true rfl⟩ rfl rfl (Nat.le_of_ble_eq_true rfl) dX3_strode_4 ?_
  refine v_istore (lv' := [(0, .ref (ad B 0)), (1, .int v1), (2, .int v2), (3, .int v3), (4, .int y1)]) C [1, 2, 3, 4, 0] dX3_strode_7 (by decide) rfl ?_
  refine v_iload C 4 dX3_strode_9 rfl ?_
  refine v_if_eq (tgt := 21) C dX3_strode_11 (by decide) hf (fun hf => ?_) (fun hf => ?_)
  · refine v_aload_n C 0 dX3_strode_21 rfl rfl ?_
    refine v_iload_n C 1 dX3_strode_22 rfl rfl ?_
    refine v_iload_n C 2 dX3_strode_23 rfl rfl ?_
    refine v_iconst (v := 3) C dX3_strode_24 (by decide) ?_
    refine v_iload_n C 3 dX3_strode_25 rfl rfl ?_
    obtain ⟨y2, hy2, hf⟩ := bnd hf
    refine v_callV (r := some (.int y2.1)) (As := [.int v1, .int v2, .int 3, .int v3]) (rest := []) (K := 0) C (mX3_fittingSet hL hy2) cw_X3_fittingSet wd_401 (by decide) rfl rfl ⟨Nat.le_of_ble_eq_true rfl, Nat.le_of_ble_eq_true rfl⟩ rfl rfl (Nat.le_of_ble_eq_true rfl) dX3_strode_26 ?_
    refine v_istore (lv' := [(0, .ref (ad B 0)), (1, .int v1), (2, .int v2), (3, .int v3), (4, .int y1), (5, .int y2.1)]) C [1, 2, 3, 4, 5, 0] dX3_strode_29 (by decide) rfl ?_
    refine v_iload C 5 dX3_strode_31 rfl ?_
    refine v_if_ne (tgt := 45) C dX3_strode_33 (by decide) hf (fun hf => ?_) (fun hf => ?_)
    · refine v_iload C 5 dX3_strode_45 rfl ?_
      obtain ⟨y3, hy3, hf⟩ := bnd hf
      refine v_callS (r := some (.int y3)) (As := [.int y2.1]) (rest := []) C (mJ6_numberOfTrailingZeros_0f7a4  hy3) cw_J6_numberOfTrailingZeros_0f7a4 wd_414 ⟨Nat.le_of_ble_eq_true rfl, Nat.le_of_ble_eq_true rfl⟩ rfl rfl (Nat.le_of_ble_eq_true rfl) dX3_strode_47 ?_
      exact v_iret C dX3_strode_50 (fin_im hf hQ)
    · refine v_aload_n C 0 dX3_strode_36 rfl rfl ?_
      refine v_ldc C wd_328 dX3_strode_37 ?_
      obtain ⟨y4, hy4, hf⟩ := bnd hf
      refine v_callV (r := some (.int y4.1)) (As := [.int (-1000004)]) (rest := []) (K := 0) C (mX3_tell hL hy4) cw_X3_tell wd_145 (by decide) rfl rfl ⟨Nat.le_of_ble_eq_true rfl, Nat.le_of_ble_eq_true rfl⟩ rfl rfl (Nat.le_of_ble_eq_true rfl) dX3_strode_39 ?_
      refine v_goto (tgt := 50) C dX3_strode_42 (by decide) ?_
      exact v_iret C dX3_strode_50 (fin_im hf hQ)
  · refine v_aload_n C 0 dX3_strode_14 rfl rfl ?_
    refine v_iload C 4 dX3_strode_15 rfl ?_
    obtain ⟨y5, hy5, hf⟩ := bnd hf
    refine v_callV (r := some (.int y5.1)) (As := [.int y1]) (rest := []) (K := 0) C (mX3_tell hL hy5) cw_X3_tell wd_145 (by decide) rfl rfl ⟨Nat.le_of_ble_eq_true rfl, Nat.le_of_ble_eq_true rfl⟩ rfl rfl (Nat.le_of_ble_eq_true rfl) dX3_strode_17 ?_
    exact v_iret C dX3_strode_20 (fin_im hf hQ)
theorem mX3_strode {B : BB} {l : Launch} {L : St2 → St2} {N : Nat} {κ : St2} {v1 : Int32} {v2 : Int32} {v3 : Int32} {res : (Int32 × St2)} (hL : LnC L) (hf : fX3_strode N κ v1 v2 v3 = some res) : Ret l B yX3_strode cX3_strode 6 (some .int) 7 163 [.ref (ad B 0), .int v1, .int v2, .int v3] (L κ) (some (.int res.1)) (L res.2) := ret_of (own := RX3) (by decide) rfl (Nat.le_of_ble_eq_true rfl) (fun E C hQ => tX3_strode C hL hQ hf)
def fX3_kinds (N : Nat) (κ : St2) (v1 : Int32) (v2 : Int32) (v3 : Int32) : Option (Int32 × St2) := (fX3_guessFinding κ v1 v2 v3).bind fun y1 => if y1 = 0 then ((fX3_fittingSet N κ v1 v2 0 v3).bind fun y2 => some (y2.1, y2.2)) else ((fX3_tell κ y1).bind fun y3 => some (y3.1, y3.2))
set_option maxHeartbeats 4000000 in
set_option maxRecDepth 100000 in
theorem tX3_kinds {E : EE} {B : BB} {l : Launch} {L : St2 → St2} {N : Nat} {κ : St2} {v1 : Int32} {v2 : Int32} {v3 : Int32} {res : (Int32 × St2)} (C : Cx E B l cX3_kinds RX3 (some .int) 5 7 163) (hL : LnC L) (hQ : Fin9 E B (some (.int res.1)) (L res.2)) (hf : fX3_kinds N κ v1 v2 v3 = some res) : V E B (L κ) 0 [(0, .ref (ad B 0)), (1, .int v1), (2, .int v2), (3, .int v3)] [] := by
  unfold fX3_kinds at hf
  refine v_aload_n C 0 dX3_kinds_0 rfl rfl ?_
  refine v_iload_n C 1 dX3_kinds_1 rfl rfl ?_
  refine v_iload_n C 2 dX3_kinds_2 rfl rfl ?_
  refine v_iload_n C 3 dX3_kinds_3 rfl rfl ?_
  obtain ⟨y1, hy1, hf⟩ := bnd hf
  refine v_callV (r := some (.int y1)) (As := [.int v1, .int v2, .int v3]) (rest := []) (K := 0) C (mX3_guessFinding hL hy1) cw_X3_guessFinding wd_383 (by decide) rfl rfl ⟨Nat.le_of_ble_eq_true rfl, Nat.le_of_ble_eq_true rfl⟩ rfl rfl (Nat.le_of_ble_eq_true rfl) dX3_kinds_4 ?_
  refine v_istore (lv' := [(0, .ref (ad B 0)), (1, .int v1), (2, .int v2), (3, .int v3), (4, .int y1)]) C [1, 2, 3, 4, 0] dX3_kinds_7 (by decide) rfl ?_
  refine v_iload C 4 dX3_kinds_9 rfl ?_
  refine v_if_eq (tgt := 21) C dX3_kinds_11 (by decide) hf (fun hf => ?_) (fun hf => ?_)
  · refine v_aload_n C 0 dX3_kinds_21 rfl rfl ?_
    refine v_iload_n C 1 dX3_kinds_22 rfl rfl ?_
    refine v_iload_n C 2 dX3_kinds_23 rfl rfl ?_
    refine v_iconst (v := 0) C dX3_kinds_24 (by decide) ?_
    refine v_iload_n C 3 dX3_kinds_25 rfl rfl ?_
    obtain ⟨y2, hy2, hf⟩ := bnd hf
    refine v_callV (r := some (.int y2.1)) (As := [.int v1, .int v2, .int 0, .int v3]) (rest := []) (K := 0) C (mX3_fittingSet hL hy2) cw_X3_fittingSet wd_401 (by decide) rfl rfl ⟨Nat.le_of_ble_eq_true rfl, Nat.le_of_ble_eq_true rfl⟩ rfl rfl (Nat.le_of_ble_eq_true rfl) dX3_kinds_26 ?_
    exact v_iret C dX3_kinds_29 (fin_im hf hQ)
  · refine v_aload_n C 0 dX3_kinds_14 rfl rfl ?_
    refine v_iload C 4 dX3_kinds_15 rfl ?_
    obtain ⟨y3, hy3, hf⟩ := bnd hf
    refine v_callV (r := some (.int y3.1)) (As := [.int y1]) (rest := []) (K := 0) C (mX3_tell hL hy3) cw_X3_tell wd_145 (by decide) rfl rfl ⟨Nat.le_of_ble_eq_true rfl, Nat.le_of_ble_eq_true rfl⟩ rfl rfl (Nat.le_of_ble_eq_true rfl) dX3_kinds_17 ?_
    exact v_iret C dX3_kinds_20 (fin_im hf hQ)
theorem mX3_kinds {B : BB} {l : Launch} {L : St2 → St2} {N : Nat} {κ : St2} {v1 : Int32} {v2 : Int32} {v3 : Int32} {res : (Int32 × St2)} (hL : LnC L) (hf : fX3_kinds N κ v1 v2 v3 = some res) : Ret l B yX3_kinds cX3_kinds 5 (some .int) 7 163 [.ref (ad B 0), .int v1, .int v2, .int v3] (L κ) (some (.int res.1)) (L res.2) := ret_of (own := RX3) (by decide) rfl (Nat.le_of_ble_eq_true rfl) (fun E C hQ => tX3_kinds C hL hQ hf)
def fX3_tides_40 (N : Nat) (v1 : Int32) : Nat → St2 → Int32 → Option (Int32 × St2)
  | 0, _, _ => none
  | n + 1, κ, v2 => if v1 ≤ v2 then ((fX1_printCount N (vw κ 12)).bind fun y2 => some (y2, κ)) else ((fX1_passDrawnHour N (vw κ 12)).bind fun y3 => (some (putS κ 12 y3)).bind fun κ4 => (fX3_tides_40 N v1 n) κ4 (v2 + 1))
set_option maxHeartbeats 4000000 in
set_option maxRecDepth 100000 in
theorem tX3_tides_40 {E : EE} {B : BB} {l : Launch} {L : St2 → St2} {N : Nat} {v1 : Int32} {res : (Int32 × St2)} (C : Cx E B l cX3_tides RX3 (some .int) 3 5 111) (hL : LnC L) (hQ : Fin9 E B (some (.int res.1)) (L res.2)) : ∀ (n : Nat) (κ : St2) (v2 : Int32), fX3_tides_40 N v1 n κ v2 = some res → V E B (L κ) 40 [(0, .ref (ad B 0)), (1, .int v1), (2, .int v2)] [] := by
  intro n
  induction n with
  | zero =>
    intro κ v2 hf
    cases hf
  | succ n ih =>
    intro κ v2 hf
    rw [fX3_tides_40] at hf
    refine v_iload_n C 2 dX3_tides_40 rfl rfl ?_
    refine v_iload_n C 1 dX3_tides_41 rfl rfl ?_
    refine v_icmp_ge (tgt := 58) C dX3_tides_42 (by decide) hf (fun hf => ?_) (fun hf => ?_)
    · refine v_aload_n C 0 dX3_tides_58 rfl rfl ?_
      refine g_getR (K := 0) (i := 0) (j := 12) C (by decide) rfl rfl inX3 (by decide) rfl wd_112 dX3_tides_59 ?_
      obtain ⟨y2, hy2, hf⟩ := bnd hf
      refine v_callV (r := some (.int y2)) (As := []) (rest := []) (K := 12) C (nX1_printCount hL sb12 hy2) cw_X1_printCount wd_258 (by decide) (tb_o sb12) rfl ⟨Nat.le_of_ble_eq_true rfl, Nat.le_of_ble_eq_true rfl⟩ rfl rfl (Nat.le_of_ble_eq_true rfl) dX3_tides_62 ?_
      exact v_iret C dX3_tides_65 (fin_im hf hQ)
    · refine v_aload_n C 0 dX3_tides_45 rfl rfl ?_
      refine g_getR (K := 0) (i := 0) (j := 12) C (by decide) rfl rfl inX3 (by decide) rfl wd_112 dX3_tides_46 ?_
      obtain ⟨y3, hy3, hf⟩ := bnd hf
      refine v_callV (r := none) (As := []) (rest := []) (K := 12) C (nX1_passDrawnHour hL sb12 hy3) cw_X1_passDrawnHour wd_426 (by decide) (tb_o sb12) rfl ⟨Nat.le_of_ble_eq_true rfl, Nat.le_of_ble_eq_true rfl⟩ rfl rfl (Nat.le_of_ble_eq_true rfl) dX3_tides_49 ?_
      obtain ⟨κ4, he, hf⟩ := bnd hf
      rw [Option.some.inj he]
      refine v_iinc (q := 2) (v := v2 + 1) (lv' := [(0, .ref (ad B 0)), (1, .int v1), (2, .int (v2 + 1))]) C [1, 2, 0] dX3_tides_52 rfl rfl (by decide) rfl ?_
      refine v_goto (tgt := 40) C dX3_tides_55 (by decide) ?_
      exact ih κ4 (v2 + 1) hf
def fX3_tides (N : Nat) (κ : St2) (v1 : Int32) : Option (Int32 × St2) := (fX3_within v1 1 20).bind fun y1 => if y1 = 0 then ((fX3_tell κ (-1000001)).bind fun y7 => some (y7.1, y7.2)) else (if ((κ 12 6) + v1) ≤ 99999 then (fX3_tides_40 N v1 N κ 0) else ((fX3_tell κ (-1000005)).bind fun y6 => some (y6.1, y6.2)))
set_option maxHeartbeats 4000000 in
set_option maxRecDepth 100000 in
theorem tX3_tides {E : EE} {B : BB} {l : Launch} {L : St2 → St2} {N : Nat} {κ : St2} {v1 : Int32} {res : (Int32 × St2)} (C : Cx E B l cX3_tides RX3 (some .int) 3 5 111) (hL : LnC L) (hQ : Fin9 E B (some (.int res.1)) (L res.2)) (hf : fX3_tides N κ v1 = some res) : V E B (L κ) 0 [(0, .ref (ad B 0)), (1, .int v1)] [] := by
  unfold fX3_tides at hf
  refine v_iload_n C 1 dX3_tides_0 rfl rfl ?_
  refine v_iconst (v := 1) C dX3_tides_1 (by decide) ?_
  refine v_bipush (v := 20) C dX3_tides_2 (by decide) ?_
  obtain ⟨y1, hy1, hf⟩ := bnd hf
  refine v_callS (r := some (.int y1)) (As := [.int v1, .int 1, .int 20]) (rest := []) C (mX3_within  hy1) cw_X3_within wd_141 ⟨Nat.le_of_ble_eq_true rfl, Nat.le_of_ble_eq_true rfl⟩ rfl rfl (Nat.le_of_ble_eq_true rfl) dX3_tides_4 ?_
  refine v_if_ne (tgt := 17) C dX3_tides_7 (by decide) hf (fun hf => ?_) (fun hf => ?_)
  · refine v_aload_n C 0 dX3_tides_17 rfl rfl ?_
    refine g_getR (K := 0) (i := 0) (j := 12) C (by decide) rfl rfl inX3 (by decide) rfl wd_112 dX3_tides_18 ?_
    refine shC_getI (i := 6) C sb12 hL (by decide) rfl wd_45 dX3_tides_21 ?_
    refine v_iload_n C 1 dX3_tides_24 rfl rfl ?_
    refine v_iadd C dX3_tides_25 ?_
    refine v_ldc C wd_239 dX3_tides_26 ?_
    refine v_icmp_le (tgt := 38) C dX3_tides_28 (by decide) hf (fun hf => ?_) (fun hf => ?_)
    · refine v_iconst (v := 0) C dX3_tides_38 (by decide) ?_
      refine v_istore_n (lv' := [(0, .ref (ad B 0)), (1, .int v1), (2, .int 0)]) C [1, 2, 0] dX3_tides_39 rfl (by decide) rfl ?_
      exact tX3_tides_40 C hL hQ N κ 0 hf
    · refine v_aload_n C 0 dX3_tides_31 rfl rfl ?_
      refine v_ldc C wd_240 dX3_tides_32 ?_
      obtain ⟨y6, hy6, hf⟩ := bnd hf
      refine v_callV (r := some (.int y6.1)) (As := [.int (-1000005)]) (rest := []) (K := 0) C (mX3_tell hL hy6) cw_X3_tell wd_145 (by decide) rfl rfl ⟨Nat.le_of_ble_eq_true rfl, Nat.le_of_ble_eq_true rfl⟩ rfl rfl (Nat.le_of_ble_eq_true rfl) dX3_tides_34 ?_
      exact v_iret C dX3_tides_37 (fin_im hf hQ)
  · refine v_aload_n C 0 dX3_tides_10 rfl rfl ?_
    refine v_ldc C wd_144 dX3_tides_11 ?_
    obtain ⟨y7, hy7, hf⟩ := bnd hf
    refine v_callV (r := some (.int y7.1)) (As := [.int (-1000001)]) (rest := []) (K := 0) C (mX3_tell hL hy7) cw_X3_tell wd_145 (by decide) rfl rfl ⟨Nat.le_of_ble_eq_true rfl, Nat.le_of_ble_eq_true rfl⟩ rfl rfl (Nat.le_of_ble_eq_true rfl) dX3_tides_13 ?_
    exact v_iret C dX3_tides_16 (fin_im hf hQ)
theorem mX3_tides {B : BB} {l : Launch} {L : St2 → St2} {N : Nat} {κ : St2} {v1 : Int32} {res : (Int32 × St2)} (hL : LnC L) (hf : fX3_tides N κ v1 = some res) : Ret l B yX3_tides cX3_tides 3 (some .int) 5 111 [.ref (ad B 0), .int v1] (L κ) (some (.int res.1)) (L res.2) := ret_of (own := RX3) (by decide) rfl (Nat.le_of_ble_eq_true rfl) (fun E C hQ => tX3_tides C hL hQ hf)
def fX3_odds_51 (N : Nat) (κ : St2) (v2 : Int32) (v3 : Int32) (v4 : Int32) (s0 : Int32) : Option (Int64 × St2) := if v3 = 0 then ((dv v4 s0).bind fun w9 => (fX3_power N w9.toInt64 v2).bind fun y10 => some (y10, κ)) else ((dv 25 s0).bind fun w7 => (fX3_power N w7.toInt64 v2).bind fun y8 => some (y8, κ))
set_option maxHeartbeats 4000000 in
set_option maxRecDepth 100000 in
theorem tX3_odds_51 {E : EE} {B : BB} {l : Launch} {L : St2 → St2} {N : Nat} {κ : St2} {v2 : Int32} {v3 : Int32} {v4 : Int32} {s0 : Int32} {res : (Int64 × St2)} (C : Cx E B l cX3_odds RX3 (some .long) 6 2 44) (hL : LnC L) (hQ : Fin9 E B (some (.long res.1)) (L res.2)) (hf : fX3_odds_51 N κ v2 v3 v4 s0 = some res) : V E B (L κ) 51 [(2, .int v2), (3, .int v3), (4, .int v4)] [.int s0] := by
  unfold fX3_odds_51 at hf
  refine v_istore (lv' := [(2, .int v2), (3, .int v3), (4, .int v4), (5, .int s0)]) C [1, 2, 3, 0] dX3_odds_51 (by decide) rfl ?_
  refine v_iload_n C 1 dX3_odds_53 rfl rfl ?_
  refine v_if_ne (tgt := 62) C dX3_odds_54 (by decide) hf (fun hf => ?_) (fun hf => ?_)
  · refine v_bipush (v := 25) C dX3_odds_62 (by decide) ?_
    refine v_iload C 3 dX3_odds_64 rfl ?_
    refine v_divD C dX3_odds_66 hf (fun w7 hf => ?_)
    refine v_i2l C dX3_odds_67 ?_
    refine v_iload_n C 0 dX3_odds_68 rfl rfl ?_
    obtain ⟨y8, hy8, hf⟩ := bnd hf
    refine v_callS (r := some (.long y8)) (As := [.long w7.toInt64, .int v2]) (rest := []) C (mX3_power  hy8) cw_X3_power wd_441 ⟨Nat.le_of_ble_eq_true rfl, Nat.le_of_ble_eq_true rfl⟩ rfl rfl (Nat.le_of_ble_eq_true rfl) dX3_odds_69 ?_
    exact v_lret C dX3_odds_72 (fin_lm hf hQ)
  · refine v_iload C 2 dX3_odds_57 rfl ?_
    refine v_goto (tgt := 64) C dX3_odds_59 (by decide) ?_
    refine v_iload C 3 dX3_odds_64 rfl ?_
    refine v_divD C dX3_odds_66 hf (fun w9 hf => ?_)
    refine v_i2l C dX3_odds_67 ?_
    refine v_iload_n C 0 dX3_odds_68 rfl rfl ?_
    obtain ⟨y10, hy10, hf⟩ := bnd hf
    refine v_callS (r := some (.long y10)) (As := [.long w9.toInt64, .int v2]) (rest := []) C (mX3_power  hy10) cw_X3_power wd_441 ⟨Nat.le_of_ble_eq_true rfl, Nat.le_of_ble_eq_true rfl⟩ rfl rfl (Nat.le_of_ble_eq_true rfl) dX3_odds_69 ?_
    exact v_lret C dX3_odds_72 (fin_lm hf hQ)
def fX3_odds (N : Nat) (κ : St2) (v1 : Int32) (v2 : Int32) (v3 : Int32) : Option (Int64 × St2) := (fX3_isCell v1).bind fun y1 => if y1 = 0 then ((fX3_tell κ (-1000001)).bind fun y2 => some (y2.1.toInt64, y2.2)) else ((fX3_within v2 0 12).bind fun y3 => if y3 = 0 then ((fX3_tell κ (-1000001)).bind fun y4 => some (y4.1.toInt64, y4.2)) else ((fX3_within v3 0 1).bind fun y5 => if y5 = 0 then ((fX3_tell κ (-1000001)).bind fun y11 => some (y11.1.toInt64, y11.2)) else ((some (v1 + 1)).bind fun w6 => if (w6 - w6 / 5 * 5) = 0 then (fX3_odds_51 N κ v2 v3 w6 5) else (fX3_odds_51 N κ v2 v3 w6 1))))
set_option maxHeartbeats 4000000 in
set_option maxRecDepth 100000 in
theorem tX3_odds {E : EE} {B : BB} {l : Launch} {L : St2 → St2} {N : Nat} {κ : St2} {v1 : Int32} {v2 : Int32} {v3 : Int32} {res : (Int64 × St2)} (C : Cx E B l cX3_odds RX3 (some .long) 6 2 44) (hL : LnC L) (hQ : Fin9 E B (some (.long res.1)) (L res.2)) (hf : fX3_odds N κ v1 v2 v3 = some res) : V E B (L κ) 0 [(0, .ref (ad B 0)), (1, .int v1), (2, .int v2), (3, .int v3)] [] := by
  unfold fX3_odds at hf
  refine v_iload_n C 1 dX3_odds_0 rfl rfl ?_
  obtain ⟨y1, hy1, hf⟩ := bnd hf
  refine v_callS (r := some (.int y1)) (As := [.int v1]) (rest := []) C (mX3_isCell  hy1) cw_X3_isCell wd_138 ⟨Nat.le_of_ble_eq_true rfl, Nat.le_of_ble_eq_true rfl⟩ rfl rfl (Nat.le_of_ble_eq_true rfl) dX3_odds_1 ?_
  refine v_if_eq (tgt := 26) C dX3_odds_4 (by decide) hf (fun hf => ?_) (fun hf => ?_)
  · refine v_aload_n C 0 dX3_odds_26 rfl rfl ?_
    refine v_ldc C wd_144 dX3_odds_27 ?_
    obtain ⟨y2, hy2, hf⟩ := bnd hf
    refine v_callV (r := some (.int y2.1)) (As := [.int (-1000001)]) (rest := []) (K := 0) C (mX3_tell hL hy2) cw_X3_tell wd_145 (by decide) rfl rfl ⟨Nat.le_of_ble_eq_true rfl, Nat.le_of_ble_eq_true rfl⟩ rfl rfl (Nat.le_of_ble_eq_true rfl) dX3_odds_29 ?_
    refine v_i2l C dX3_odds_32 ?_
    exact v_lret C dX3_odds_33 (fin_lm hf hQ)
  · refine v_iload_n C 2 dX3_odds_7 rfl rfl ?_
    refine v_iconst (v := 0) C dX3_odds_8 (by decide) ?_
    refine v_bipush (v := 12) C dX3_odds_9 (by decide) ?_
    obtain ⟨y3, hy3, hf⟩ := bnd hf
    refine v_callS (r := some (.int y3)) (As := [.int v2, .int 0, .int 12]) (rest := []) C (mX3_within  hy3) cw_X3_within wd_141 ⟨Nat.le_of_ble_eq_true rfl, Nat.le_of_ble_eq_true rfl⟩ rfl rfl (Nat.le_of_ble_eq_true rfl) dX3_odds_11 ?_
    refine v_if_eq (tgt := 26) C dX3_odds_14 (by decide) hf (fun hf => ?_) (fun hf => ?_)
    · refine v_aload_n C 0 dX3_odds_26 rfl rfl ?_
      refine v_ldc C wd_144 dX3_odds_27 ?_
      obtain ⟨y4, hy4, hf⟩ := bnd hf
      refine v_callV (r := some (.int y4.1)) (As := [.int (-1000001)]) (rest := []) (K := 0) C (mX3_tell hL hy4) cw_X3_tell wd_145 (by decide) rfl rfl ⟨Nat.le_of_ble_eq_true rfl, Nat.le_of_ble_eq_true rfl⟩ rfl rfl (Nat.le_of_ble_eq_true rfl) dX3_odds_29 ?_
      refine v_i2l C dX3_odds_32 ?_
      exact v_lret C dX3_odds_33 (fin_lm hf hQ)
    · refine v_iload_n C 3 dX3_odds_17 rfl rfl ?_
      refine v_iconst (v := 0) C dX3_odds_18 (by decide) ?_
      refine v_iconst (v := 1) C dX3_odds_19 (by decide) ?_
      obtain ⟨y5, hy5, hf⟩ := bnd hf
      refine v_callS (r := some (.int y5)) (As := [.int v3, .int 0, .int 1]) (rest := []) C (mX3_within  hy5) cw_X3_within wd_141 ⟨Nat.le_of_ble_eq_true rfl, Nat.le_of_ble_eq_true rfl⟩ rfl rfl (Nat.le_of_ble_eq_true rfl) dX3_odds_20 ?_
      refine v_if_ne (tgt := 34) C dX3_odds_23 (by decide) hf (fun hf => ?_) (fun hf => ?_)
      · refine v_iload_n C 1 dX3_odds_34 rfl rfl ?_
        refine v_iconst (v := 1) C dX3_odds_35 (by decide) ?_
        refine v_iadd C dX3_odds_36 ?_
        refine v_top hf (fun w6 hf => ?_)
        refine v_istore (lv' := [(0, .ref (ad B 0)), (1, .int v1), (2, .int v2), (3, .int v3), (4, .int w6)]) C [1, 2, 3, 4, 0] dX3_odds_37 (by decide) rfl ?_
        refine v_iload C 4 dX3_odds_39 rfl ?_
        refine v_iconst (v := 5) C dX3_odds_41 (by decide) ?_
        refine v_irem C dX3_odds_42 (by decide) ?_
        refine v_if_ne (tgt := 50) C dX3_odds_43 (by decide) hf (fun hf => ?_) (fun hf => ?_)
        · refine v_iconst (v := 1) C dX3_odds_50 (by decide) ?_
          refine v_sub [2, 3, 4] rfl ?_
          exact tX3_odds_51 C hL hQ hf
        · refine v_iconst (v := 5) C dX3_odds_46 (by decide) ?_
          refine v_goto (tgt := 51) C dX3_odds_47 (by decide) ?_
          refine v_sub [2, 3, 4] rfl ?_
          exact tX3_odds_51 C hL hQ hf
      · refine v_aload_n C 0 dX3_odds_26 rfl rfl ?_
        refine v_ldc C wd_144 dX3_odds_27 ?_
        obtain ⟨y11, hy11, hf⟩ := bnd hf
        refine v_callV (r := some (.int y11.1)) (As := [.int (-1000001)]) (rest := []) (K := 0) C (mX3_tell hL hy11) cw_X3_tell wd_145 (by decide) rfl rfl ⟨Nat.le_of_ble_eq_true rfl, Nat.le_of_ble_eq_true rfl⟩ rfl rfl (Nat.le_of_ble_eq_true rfl) dX3_odds_29 ?_
        refine v_i2l C dX3_odds_32 ?_
        exact v_lret C dX3_odds_33 (fin_lm hf hQ)
theorem mX3_odds {B : BB} {l : Launch} {L : St2 → St2} {N : Nat} {κ : St2} {v1 : Int32} {v2 : Int32} {v3 : Int32} {res : (Int64 × St2)} (hL : LnC L) (hf : fX3_odds N κ v1 v2 v3 = some res) : Ret l B yX3_odds cX3_odds 6 (some .long) 2 44 [.ref (ad B 0), .int v1, .int v2, .int v3] (L κ) (some (.long res.1)) (L res.2) := ret_of (own := RX3) (by decide) rfl (Nat.le_of_ble_eq_true rfl) (fun E C hQ => tX3_odds C hL hQ hf)
def fX3_seed (κ : St2) (v1 : Int32) : Option (Int32 × St2) := (some (κ 12 7)).bind fun w1 => (pf κ 12 7 v1).bind fun κ2 => some (w1, κ2)
set_option maxHeartbeats 4000000 in
set_option maxRecDepth 100000 in
theorem tX3_seed {E : EE} {B : BB} {l : Launch} {L : St2 → St2} {κ : St2} {v1 : Int32} {res : (Int32 × St2)} (C : Cx E B l cX3_seed RX3 (some .int) 3 0 0) (hL : LnC L) (hQ : Fin9 E B (some (.int res.1)) (L res.2)) (hf : fX3_seed κ v1 = some res) : V E B (L κ) 0 [(0, .ref (ad B 0)), (1, .int v1)] [] := by
  unfold fX3_seed at hf
  refine v_aload_n C 0 dX3_seed_0 rfl rfl ?_
  refine g_getR (K := 0) (i := 0) (j := 12) C (by decide) rfl rfl inX3 (by decide) rfl wd_112 dX3_seed_1 ?_
  refine shC_getI (i := 7) C sb12 hL (by decide) rfl wd_47 dX3_seed_4 ?_
  refine v_top hf (fun w1 hf => ?_)
  refine v_istore_n (lv' := [(0, .ref (ad B 0)), (1, .int v1), (2, .int w1)]) C [1, 2, 0] dX3_seed_7 rfl (by decide) rfl ?_
  refine v_aload_n C 0 dX3_seed_8 rfl rfl ?_
  refine g_getR (K := 0) (i := 0) (j := 12) C (by decide) rfl rfl inX3 (by decide) rfl wd_112 dX3_seed_9 ?_
  refine v_iload_n C 1 dX3_seed_12 rfl rfl ?_
  refine shC_putI (i := 7) C sb12 hL (by decide) rfl wd_47 rfl (by decide +kernel) dX3_seed_13 hf (fun κ2 hf => ?_)
  refine v_iload_n C 2 dX3_seed_16 rfl rfl ?_
  exact v_iret C dX3_seed_17 (fin_im hf hQ)
theorem mX3_seed {B : BB} {l : Launch} {L : St2 → St2} {κ : St2} {v1 : Int32} {res : (Int32 × St2)} (hL : LnC L) (hf : fX3_seed κ v1 = some res) : Ret l B yX3_seed cX3_seed 3 (some .int) 0 0 [.ref (ad B 0), .int v1] (L κ) (some (.int res.1)) (L res.2) := ret_of (own := RX3) (by decide) rfl (Nat.le_of_ble_eq_true rfl) (fun E C hQ => tX3_seed C hL hQ hf)
def fX3_feed_38 (N : Nat) (v1 : Int32) : Nat → St2 → Int32 → Option (Int32 × St2)
  | 0, _, _ => none
  | n + 1, κ, v3 => if v3 < 0 then (some ((κ 2 1), κ)) else ((fX2_append κ ((v1.toUInt32 >>> ((8 * v3).toUInt32 &&& Int32.toUInt32 31)).toInt32)).bind fun y4 => (fX3_feed_38 N v1 n) y4 (v3 + (-1)))
set_option maxHeartbeats 4000000 in
set_option maxRecDepth 100000 in
theorem tX3_feed_38 {E : EE} {B : BB} {l : Launch} {L : St2 → St2} {N : Nat} {v1 : Int32} {res : (Int32 × St2)} (C : Cx E B l cX3_feed RX3 (some .int) 4 2 44) (hL : LnC L) (hQ : Fin9 E B (some (.int res.1)) (L res.2)) : ∀ (n : Nat) (κ : St2) (v3 : Int32), fX3_feed_38 N v1 n κ v3 = some res → V E B (L κ) 38 [(0, .ref (ad B 0)), (1, .int v1), (3, .int v3)] [] := by
  intro n
  induction n with
  | zero =>
    intro κ v3 hf
    cases hf
  | succ n ih =>
    intro κ v3 hf
    rw [fX3_feed_38] at hf
    refine v_iload_n C 2 dX3_feed_38 rfl rfl ?_
    refine v_if_lt (tgt := 61) C dX3_feed_39 (by decide) hf (fun hf => ?_) (fun hf => ?_)
    · refine v_aload_n C 0 dX3_feed_61 rfl rfl ?_
      refine g_getR (K := 0) (i := 4) (j := 2) C (by decide) rfl rfl inX3 (by decide) rfl wd_116 dX3_feed_62 ?_
      refine c_getI (k := 2) (i := 1) C hL (by decide) rfl rfl inX2 (by decide) rfl wd_74 dX3_feed_65 ?_
      exact v_iret C dX3_feed_68 (fin_im hf hQ)
    · refine v_aload_n C 0 dX3_feed_42 rfl rfl ?_
      refine g_getR (K := 0) (i := 4) (j := 2) C (by decide) rfl rfl inX3 (by decide) rfl wd_116 dX3_feed_43 ?_
      refine v_iload_n C 1 dX3_feed_46 rfl rfl ?_
      refine v_bipush (v := 8) C dX3_feed_47 (by decide) ?_
      refine v_iload_n C 2 dX3_feed_49 rfl rfl ?_
      refine v_imul C dX3_feed_50 ?_
      refine v_iushr C dX3_feed_51 ?_
      obtain ⟨y4, hy4, hf⟩ := bnd hf
      refine v_callV (r := none) (As := [.int ((v1.toUInt32 >>> ((8 * v3).toUInt32 &&& Int32.toUInt32 31)).toInt32)]) (rest := []) (K := 2) C (mX2_append hL hy4) cw_X2_append wd_456 (by decide) rfl rfl ⟨Nat.le_of_ble_eq_true rfl, Nat.le_of_ble_eq_true rfl⟩ rfl rfl (Nat.le_of_ble_eq_true rfl) dX3_feed_52 ?_
      refine v_iinc (q := 2) (v := v3 + (-1)) (lv' := [(0, .ref (ad B 0)), (1, .int v1), (3, .int (v3 + (-1)))]) C [1, 2, 0] dX3_feed_55 rfl rfl (by decide) rfl ?_
      refine v_goto (tgt := 38) C dX3_feed_58 (by decide) ?_
      exact ih y4 (v3 + (-1)) hf
def fX3_feed (N : Nat) (κ : St2) (v1 : Int32) (v2 : Int32) : Option (Int32 × St2) := (fX3_within v2 1 4).bind fun y1 => if y1 = 0 then ((fX3_tell κ (-1000001)).bind fun y7 => some (y7.1, y7.2)) else ((fX2_hasRoom κ v2).bind fun y2 => if y2 = 0 then ((fX3_tell κ (-1000002)).bind fun y6 => some (y6.1, y6.2)) else ((some (v2 - 1)).bind fun w3 => fX3_feed_38 N v1 N κ w3))
set_option maxHeartbeats 4000000 in
set_option maxRecDepth 100000 in
theorem tX3_feed {E : EE} {B : BB} {l : Launch} {L : St2 → St2} {N : Nat} {κ : St2} {v1 : Int32} {v2 : Int32} {res : (Int32 × St2)} (C : Cx E B l cX3_feed RX3 (some .int) 4 2 44) (hL : LnC L) (hQ : Fin9 E B (some (.int res.1)) (L res.2)) (hf : fX3_feed N κ v1 v2 = some res) : V E B (L κ) 0 [(0, .ref (ad B 0)), (1, .int v1), (2, .int v2)] [] := by
  unfold fX3_feed at hf
  refine v_iload_n C 2 dX3_feed_0 rfl rfl ?_
  refine v_iconst (v := 1) C dX3_feed_1 (by decide) ?_
  refine v_iconst (v := 4) C dX3_feed_2 (by decide) ?_
  obtain ⟨y1, hy1, hf⟩ := bnd hf
  refine v_callS (r := some (.int y1)) (As := [.int v2, .int 1, .int 4]) (rest := []) C (mX3_within  hy1) cw_X3_within wd_141 ⟨Nat.le_of_ble_eq_true rfl, Nat.le_of_ble_eq_true rfl⟩ rfl rfl (Nat.le_of_ble_eq_true rfl) dX3_feed_3 ?_
  refine v_if_ne (tgt := 16) C dX3_feed_6 (by decide) hf (fun hf => ?_) (fun hf => ?_)
  · refine v_aload_n C 0 dX3_feed_16 rfl rfl ?_
    refine g_getR (K := 0) (i := 4) (j := 2) C (by decide) rfl rfl inX3 (by decide) rfl wd_116 dX3_feed_17 ?_
    refine v_iload_n C 2 dX3_feed_20 rfl rfl ?_
    obtain ⟨y2, hy2, hf⟩ := bnd hf
    refine v_callV (r := some (.int y2)) (As := [.int v2]) (rest := []) (K := 2) C (mX2_hasRoom hL hy2) cw_X2_hasRoom wd_452 (by decide) rfl rfl ⟨Nat.le_of_ble_eq_true rfl, Nat.le_of_ble_eq_true rfl⟩ rfl rfl (Nat.le_of_ble_eq_true rfl) dX3_feed_21 ?_
    refine v_if_ne (tgt := 34) C dX3_feed_24 (by decide) hf (fun hf => ?_) (fun hf => ?_)
    · refine v_iload_n C 2 dX3_feed_34 rfl rfl ?_
      refine v_iconst (v := 1) C dX3_feed_35 (by decide) ?_
      refine v_isub C dX3_feed_36 ?_
      refine v_top hf (fun w3 hf => ?_)
      refine v_istore_n (lv' := [(0, .ref (ad B 0)), (1, .int v1), (2, .int v2), (3, .int w3)]) C [1, 2, 3, 0] dX3_feed_37 rfl (by decide) rfl ?_
      refine v_sub [0, 1, 3] rfl ?_
      exact tX3_feed_38 C hL hQ N κ w3 hf
    · refine v_aload_n C 0 dX3_feed_27 rfl rfl ?_
      refine v_ldc C wd_192 dX3_feed_28 ?_
      obtain ⟨y6, hy6, hf⟩ := bnd hf
      refine v_callV (r := some (.int y6.1)) (As := [.int (-1000002)]) (rest := []) (K := 0) C (mX3_tell hL hy6) cw_X3_tell wd_145 (by decide) rfl rfl ⟨Nat.le_of_ble_eq_true rfl, Nat.le_of_ble_eq_true rfl⟩ rfl rfl (Nat.le_of_ble_eq_true rfl) dX3_feed_30 ?_
      exact v_iret C dX3_feed_33 (fin_im hf hQ)
  · refine v_aload_n C 0 dX3_feed_9 rfl rfl ?_
    refine v_ldc C wd_144 dX3_feed_10 ?_
    obtain ⟨y7, hy7, hf⟩ := bnd hf
    refine v_callV (r := some (.int y7.1)) (As := [.int (-1000001)]) (rest := []) (K := 0) C (mX3_tell hL hy7) cw_X3_tell wd_145 (by decide) rfl rfl ⟨Nat.le_of_ble_eq_true rfl, Nat.le_of_ble_eq_true rfl⟩ rfl rfl (Nat.le_of_ble_eq_true rfl) dX3_feed_12 ?_
    exact v_iret C dX3_feed_15 (fin_im hf hQ)
theorem mX3_feed {B : BB} {l : Launch} {L : St2 → St2} {N : Nat} {κ : St2} {v1 : Int32} {v2 : Int32} {res : (Int32 × St2)} (hL : LnC L) (hf : fX3_feed N κ v1 v2 = some res) : Ret l B yX3_feed cX3_feed 4 (some .int) 2 44 [.ref (ad B 0), .int v1, .int v2] (L κ) (some (.int res.1)) (L res.2) := ret_of (own := RX3) (by decide) rfl (Nat.le_of_ble_eq_true rfl) (fun E C hQ => tX3_feed C hL hQ hf)
def fX3_wipe (κ : St2) : Option (Int32 × St2) := (some (κ 2 1)).bind fun w1 => (pf κ 2 1 0).bind fun κ2 => some (w1, κ2)
set_option maxHeartbeats 4000000 in
set_option maxRecDepth 100000 in
theorem tX3_wipe {E : EE} {B : BB} {l : Launch} {L : St2 → St2} {κ : St2} {res : (Int32 × St2)} (C : Cx E B l cX3_wipe RX3 (some .int) 2 0 0) (hL : LnC L) (hQ : Fin9 E B (some (.int res.1)) (L res.2)) (hf : fX3_wipe κ = some res) : V E B (L κ) 0 [(0, .ref (ad B 0))] [] := by
  unfold fX3_wipe at hf
  refine v_aload_n C 0 dX3_wipe_0 rfl rfl ?_
  refine g_getR (K := 0) (i := 4) (j := 2) C (by decide) rfl rfl inX3 (by decide) rfl wd_116 dX3_wipe_1 ?_
  refine c_getI (k := 2) (i := 1) C hL (by decide) rfl rfl inX2 (by decide) rfl wd_74 dX3_wipe_4 ?_
  refine v_top hf (fun w1 hf => ?_)
  refine v_istore_n (lv' := [(0, .ref (ad B 0)), (1, .int w1)]) C [1, 0] dX3_wipe_7 rfl (by decide) rfl ?_
  refine v_aload_n C 0 dX3_wipe_8 rfl rfl ?_
  refine g_getR (K := 0) (i := 4) (j := 2) C (by decide) rfl rfl inX3 (by decide) rfl wd_116 dX3_wipe_9 ?_
  refine v_iconst (v := 0) C dX3_wipe_12 (by decide) ?_
  refine c_putI (k := 2) (i := 1) C hL (by decide) rfl rfl inX2 tyX2 tyX2_ok nmX2 (by decide) rfl wd_74 rfl (by decide +kernel) dX3_wipe_13 hf (fun κ2 hf => ?_)
  refine v_iload_n C 1 dX3_wipe_16 rfl rfl ?_
  exact v_iret C dX3_wipe_17 (fin_im hf hQ)
theorem mX3_wipe {B : BB} {l : Launch} {L : St2 → St2} {κ : St2} {res : (Int32 × St2)} (hL : LnC L) (hf : fX3_wipe κ = some res) : Ret l B yX3_wipe cX3_wipe 2 (some .int) 0 0 [.ref (ad B 0)] (L κ) (some (.int res.1)) (L res.2) := ret_of (own := RX3) (by decide) rfl (Nat.le_of_ble_eq_true rfl) (fun E C hQ => tX3_wipe C hL hQ hf)
def fX3_text (N : Nat) (κ : St2) : Option (Int32 × St2) := (fX1_become N 25 12 κ).bind fun y1 => (fX2_readText N y1).bind fun y2 => (pf y2.2 2 1 0).bind fun κ3 => if y2.1 < 0 then (some (y2.1, κ3)) else ((fX1_become N 12 25 κ3).bind fun y4 => some (y2.1, y4))
set_option maxHeartbeats 4000000 in
set_option maxRecDepth 100000 in
theorem tX3_text {E : EE} {B : BB} {l : Launch} {L : St2 → St2} {N : Nat} {κ : St2} {res : (Int32 × St2)} (C : Cx E B l cX3_text RX3 (some .int) 2 9 198) (hL : LnC L) (hQ : Fin9 E B (some (.int res.1)) (L res.2)) (hf : fX3_text N κ = some res) : V E B (L κ) 0 [(0, .ref (ad B 0))] [] := by
  unfold fX3_text at hf
  refine v_aload_n C 0 dX3_text_0 rfl rfl ?_
  refine g_getR (K := 0) (i := 1) (j := 25) C (by decide) rfl rfl inX3 (by decide) rfl wd_113 dX3_text_1 ?_
  refine v_aload_n C 0 dX3_text_4 rfl rfl ?_
  refine g_getR (K := 0) (i := 0) (j := 12) C (by decide) rfl rfl inX3 (by decide) rfl wd_112 dX3_text_5 ?_
  obtain ⟨y1, hy1, hf⟩ := bnd hf
  refine v_callV (r := none) (As := [.ref (ad B 12)]) (rest := []) (K := 25) C (mX1_become hL sb25 sb12 hy1) cw_X1_become wd_307 (by decide) (tb_o sb25) rfl ⟨Nat.le_of_ble_eq_true rfl, Nat.le_of_ble_eq_true rfl⟩ rfl rfl (Nat.le_of_ble_eq_true rfl) dX3_text_8 ?_
  refine v_aload_n C 0 dX3_text_11 rfl rfl ?_
  refine g_getR (K := 0) (i := 4) (j := 2) C (by decide) rfl rfl inX3 (by decide) rfl wd_116 dX3_text_12 ?_
  refine v_aload_n C 0 dX3_text_15 rfl rfl ?_
  refine g_getR (K := 0) (i := 1) (j := 25) C (by decide) rfl rfl inX3 (by decide) rfl wd_113 dX3_text_16 ?_
  obtain ⟨y2, hy2, hf⟩ := bnd hf
  refine v_callV (r := some (.int y2.1)) (As := [.ref (ad B 25)]) (rest := []) (K := 2) C (mX2_readText hL hy2) cw_X2_readText wd_468 (by decide) rfl rfl ⟨Nat.le_of_ble_eq_true rfl, Nat.le_of_ble_eq_true rfl⟩ rfl rfl (Nat.le_of_ble_eq_true rfl) dX3_text_19 ?_
  refine v_istore_n (lv' := [(0, .ref (ad B 0)), (1, .int y2.1)]) C [1, 0] dX3_text_22 rfl (by decide) rfl ?_
  refine v_aload_n C 0 dX3_text_23 rfl rfl ?_
  refine g_getR (K := 0) (i := 4) (j := 2) C (by decide) rfl rfl inX3 (by decide) rfl wd_116 dX3_text_24 ?_
  refine v_iconst (v := 0) C dX3_text_27 (by decide) ?_
  refine c_putI (k := 2) (i := 1) C hL (by decide) rfl rfl inX2 tyX2 tyX2_ok nmX2 (by decide) rfl wd_74 rfl (by decide +kernel) dX3_text_28 hf (fun κ3 hf => ?_)
  refine v_iload_n C 1 dX3_text_31 rfl rfl ?_
  refine v_if_lt (tgt := 46) C dX3_text_32 (by decide) hf (fun hf => ?_) (fun hf => ?_)
  · refine v_iload_n C 1 dX3_text_46 rfl rfl ?_
    exact v_iret C dX3_text_47 (fin_im hf hQ)
  · refine v_aload_n C 0 dX3_text_35 rfl rfl ?_
    refine g_getR (K := 0) (i := 0) (j := 12) C (by decide) rfl rfl inX3 (by decide) rfl wd_112 dX3_text_36 ?_
    refine v_aload_n C 0 dX3_text_39 rfl rfl ?_
    refine g_getR (K := 0) (i := 1) (j := 25) C (by decide) rfl rfl inX3 (by decide) rfl wd_113 dX3_text_40 ?_
    obtain ⟨y4, hy4, hf⟩ := bnd hf
    refine v_callV (r := none) (As := [.ref (ad B 25)]) (rest := []) (K := 12) C (mX1_become hL sb12 sb25 hy4) cw_X1_become wd_307 (by decide) (tb_o sb12) rfl ⟨Nat.le_of_ble_eq_true rfl, Nat.le_of_ble_eq_true rfl⟩ rfl rfl (Nat.le_of_ble_eq_true rfl) dX3_text_43 ?_
    refine v_iload_n C 1 dX3_text_46 rfl rfl ?_
    exact v_iret C dX3_text_47 (fin_im hf hQ)
theorem mX3_text {B : BB} {l : Launch} {L : St2 → St2} {N : Nat} {κ : St2} {res : (Int32 × St2)} (hL : LnC L) (hf : fX3_text N κ = some res) : Ret l B yX3_text cX3_text 2 (some .int) 9 198 [.ref (ad B 0)] (L κ) (some (.int res.1)) (L res.2) := ret_of (own := RX3) (by decide) rfl (Nat.le_of_ble_eq_true rfl) (fun E C hQ => tX3_text C hL hQ hf)
def fX3_hold (κ : St2) (v1 : Int32) (v2 : Int32) : Option (Int32 × St2) := (fX3_within v1 0 9).bind fun y1 => if y1 = 0 then ((fX3_tell κ (-1000001)).bind fun y2 => some (y2.1, y2.2)) else ((fX1_isWalkerOrNobody (vw κ 12) v2).bind fun y3 => if y3 = 0 then ((fX3_tell κ (-1000001)).bind fun y5 => some (y5.1, y5.2)) else ((wr κ (12 + 12) 10 v1 v2).bind fun κ4 => some (1, κ4)))
set_option maxHeartbeats 4000000 in
set_option maxRecDepth 100000 in
theorem tX3_hold {E : EE} {B : BB} {l : Launch} {L : St2 → St2} {κ : St2} {v1 : Int32} {v2 : Int32} {res : (Int32 × St2)} (C : Cx E B l cX3_hold RX3 (some .int) 3 2 44) (hL : LnC L) (hQ : Fin9 E B (some (.int res.1)) (L res.2)) (hf : fX3_hold κ v1 v2 = some res) : V E B (L κ) 0 [(0, .ref (ad B 0)), (1, .int v1), (2, .int v2)] [] := by
  unfold fX3_hold at hf
  refine v_iload_n C 1 dX3_hold_0 rfl rfl ?_
  refine v_iconst (v := 0) C dX3_hold_1 (by decide) ?_
  refine v_bipush (v := 9) C dX3_hold_2 (by decide) ?_
  obtain ⟨y1, hy1, hf⟩ := bnd hf
  refine v_callS (r := some (.int y1)) (As := [.int v1, .int 0, .int 9]) (rest := []) C (mX3_within  hy1) cw_X3_within wd_141 ⟨Nat.le_of_ble_eq_true rfl, Nat.le_of_ble_eq_true rfl⟩ rfl rfl (Nat.le_of_ble_eq_true rfl) dX3_hold_4 ?_
  refine v_if_eq (tgt := 21) C dX3_hold_7 (by decide) hf (fun hf => ?_) (fun hf => ?_)
  · refine v_aload_n C 0 dX3_hold_21 rfl rfl ?_
    refine v_ldc C wd_144 dX3_hold_22 ?_
    obtain ⟨y2, hy2, hf⟩ := bnd hf
    refine v_callV (r := some (.int y2.1)) (As := [.int (-1000001)]) (rest := []) (K := 0) C (mX3_tell hL hy2) cw_X3_tell wd_145 (by decide) rfl rfl ⟨Nat.le_of_ble_eq_true rfl, Nat.le_of_ble_eq_true rfl⟩ rfl rfl (Nat.le_of_ble_eq_true rfl) dX3_hold_24 ?_
    exact v_iret C dX3_hold_27 (fin_im hf hQ)
  · refine v_aload_n C 0 dX3_hold_10 rfl rfl ?_
    refine g_getR (K := 0) (i := 0) (j := 12) C (by decide) rfl rfl inX3 (by decide) rfl wd_112 dX3_hold_11 ?_
    refine v_iload_n C 2 dX3_hold_14 rfl rfl ?_
    obtain ⟨y3, hy3, hf⟩ := bnd hf
    refine v_callV (r := some (.int y3)) (As := [.int v2]) (rest := []) (K := 12) C (nX1_isWalkerOrNobody hL sb12 hy3) cw_X1_isWalkerOrNobody wd_157 (by decide) (tb_o sb12) rfl ⟨Nat.le_of_ble_eq_true rfl, Nat.le_of_ble_eq_true rfl⟩ rfl rfl (Nat.le_of_ble_eq_true rfl) dX3_hold_15 ?_
    refine v_if_ne (tgt := 28) C dX3_hold_18 (by decide) hf (fun hf => ?_) (fun hf => ?_)
    · refine v_aload_n C 0 dX3_hold_28 rfl rfl ?_
      refine g_getR (K := 0) (i := 0) (j := 12) C (by decide) rfl rfl inX3 (by decide) rfl wd_112 dX3_hold_29 ?_
      refine sh_getR (i := 2) (j := 12 + 12) C sb12 (by decide) rfl wd_35 dX3_hold_32 ?_
      refine v_iload_n C 1 dX3_hold_35 rfl rfl ?_
      refine v_iload_n C 2 dX3_hold_36 rfl rfl ?_
      refine c_ast (k := 12 + 12) C hL (by decide) (tb_sp sb12) dX3_hold_37 hf (fun κ4 hf => ?_)
      refine v_iconst (v := 1) C dX3_hold_38 (by decide) ?_
      exact v_iret C dX3_hold_39 (fin_im hf hQ)
    · refine v_aload_n C 0 dX3_hold_21 rfl rfl ?_
      refine v_ldc C wd_144 dX3_hold_22 ?_
      obtain ⟨y5, hy5, hf⟩ := bnd hf
      refine v_callV (r := some (.int y5.1)) (As := [.int (-1000001)]) (rest := []) (K := 0) C (mX3_tell hL hy5) cw_X3_tell wd_145 (by decide) rfl rfl ⟨Nat.le_of_ble_eq_true rfl, Nat.le_of_ble_eq_true rfl⟩ rfl rfl (Nat.le_of_ble_eq_true rfl) dX3_hold_24 ?_
      exact v_iret C dX3_hold_27 (fin_im hf hQ)
theorem mX3_hold {B : BB} {l : Launch} {L : St2 → St2} {κ : St2} {v1 : Int32} {v2 : Int32} {res : (Int32 × St2)} (hL : LnC L) (hf : fX3_hold κ v1 v2 = some res) : Ret l B yX3_hold cX3_hold 3 (some .int) 2 44 [.ref (ad B 0), .int v1, .int v2] (L κ) (some (.int res.1)) (L res.2) := ret_of (own := RX3) (by decide) rfl (Nat.le_of_ble_eq_true rfl) (fun E C hQ => tX3_hold C hL hQ hf)
def fX3_as (N : Nat) (κ : St2) (v1 : Int32) (v2 : Int32) : Option (Int32 × St2) := (fX3_within v1 0 9).bind fun y1 => if y1 = 0 then ((fX3_tell κ (-1000001)).bind fun y2 => some (y2.1, y2.2)) else ((fX3_within v2 0 6).bind fun y3 => if y3 = 0 then ((fX3_tell κ (-1000001)).bind fun y10 => some (y10.1, y10.2)) else ((rd (κ (12 + 12)) 10 v1).bind fun a4 => (fX1_isWalker (vw κ 12) a4).bind fun y5 => if y5 = 0 then ((fX3_tell κ (-1000006)).bind fun y9 => some (y9.1, y9.2)) else ((rd (κ (12 + (6 + 0))) 8 a4).bind fun a6 => (fX3_isUnder N a6 v2).bind fun y7 => if y7 = 0 then ((fX3_tell κ (-1000003)).bind fun y8 => some (y8.1, y8.2)) else (some (a4, κ)))))
set_option maxHeartbeats 4000000 in
set_option maxRecDepth 100000 in
theorem tX3_as {E : EE} {B : BB} {l : Launch} {L : St2 → St2} {N : Nat} {κ : St2} {v1 : Int32} {v2 : Int32} {res : (Int32 × St2)} (C : Cx E B l cX3_as RX3 (some .int) 4 2 45) (hL : LnC L) (hQ : Fin9 E B (some (.int res.1)) (L res.2)) (hf : fX3_as N κ v1 v2 = some res) : V E B (L κ) 0 [(0, .ref (ad B 0)), (1, .int v1), (2, .int v2)] [] := by
  unfold fX3_as at hf
  refine v_iload_n C 1 dX3_as_0 rfl rfl ?_
  refine v_iconst (v := 0) C dX3_as_1 (by decide) ?_
  refine v_bipush (v := 9) C dX3_as_2 (by decide) ?_
  obtain ⟨y1, hy1, hf⟩ := bnd hf
  refine v_callS (r := some (.int y1)) (As := [.int v1, .int 0, .int 9]) (rest := []) C (mX3_within  hy1) cw_X3_within wd_141 ⟨Nat.le_of_ble_eq_true rfl, Nat.le_of_ble_eq_true rfl⟩ rfl rfl (Nat.le_of_ble_eq_true rfl) dX3_as_4 ?_
  refine v_if_eq (tgt := 20) C dX3_as_7 (by decide) hf (fun hf => ?_) (fun hf => ?_)
  · refine v_aload_n C 0 dX3_as_20 rfl rfl ?_
    refine v_ldc C wd_144 dX3_as_21 ?_
    obtain ⟨y2, hy2, hf⟩ := bnd hf
    refine v_callV (r := some (.int y2.1)) (As := [.int (-1000001)]) (rest := []) (K := 0) C (mX3_tell hL hy2) cw_X3_tell wd_145 (by decide) rfl rfl ⟨Nat.le_of_ble_eq_true rfl, Nat.le_of_ble_eq_true rfl⟩ rfl rfl (Nat.le_of_ble_eq_true rfl) dX3_as_23 ?_
    exact v_iret C dX3_as_26 (fin_im hf hQ)
  · refine v_iload_n C 2 dX3_as_10 rfl rfl ?_
    refine v_iconst (v := 0) C dX3_as_11 (by decide) ?_
    refine v_bipush (v := 6) C dX3_as_12 (by decide) ?_
    obtain ⟨y3, hy3, hf⟩ := bnd hf
    refine v_callS (r := some (.int y3)) (As := [.int v2, .int 0, .int 6]) (rest := []) C (mX3_within  hy3) cw_X3_within wd_141 ⟨Nat.le_of_ble_eq_true rfl, Nat.le_of_ble_eq_true rfl⟩ rfl rfl (Nat.le_of_ble_eq_true rfl) dX3_as_14 ?_
    refine v_if_ne (tgt := 27) C dX3_as_17 (by decide) hf (fun hf => ?_) (fun hf => ?_)
    · refine v_aload_n C 0 dX3_as_27 rfl rfl ?_
      refine g_getR (K := 0) (i := 0) (j := 12) C (by decide) rfl rfl inX3 (by decide) rfl wd_112 dX3_as_28 ?_
      refine sh_getR (i := 2) (j := 12 + 12) C sb12 (by decide) rfl wd_35 dX3_as_31 ?_
      refine v_iload_n C 1 dX3_as_34 rfl rfl ?_
      refine c_ald (k := 12 + 12) C hL (by decide) (tb_sp sb12) dX3_as_35 hf (fun a4 hf => ?_)
      refine v_istore_n (lv' := [(0, .ref (ad B 0)), (1, .int v1), (2, .int v2), (3, .int a4)]) C [1, 2, 3, 0] dX3_as_36 rfl (by decide) rfl ?_
      refine v_aload_n C 0 dX3_as_37 rfl rfl ?_
      refine g_getR (K := 0) (i := 0) (j := 12) C (by decide) rfl rfl inX3 (by decide) rfl wd_112 dX3_as_38 ?_
      refine v_iload_n C 3 dX3_as_41 rfl rfl ?_
      obtain ⟨y5, hy5, hf⟩ := bnd hf
      refine v_callV (r := some (.int y5)) (As := [.int a4]) (rest := []) (K := 12) C (nX1_isWalker hL sb12 hy5) cw_X1_isWalker wd_201 (by decide) (tb_o sb12) rfl ⟨Nat.le_of_ble_eq_true rfl, Nat.le_of_ble_eq_true rfl⟩ rfl rfl (Nat.le_of_ble_eq_true rfl) dX3_as_42 ?_
      refine v_if_ne (tgt := 55) C dX3_as_45 (by decide) hf (fun hf => ?_) (fun hf => ?_)
      · refine v_aload_n C 0 dX3_as_55 rfl rfl ?_
        refine g_getR (K := 0) (i := 0) (j := 12) C (by decide) rfl rfl inX3 (by decide) rfl wd_112 dX3_as_56 ?_
        refine sh_getR (i := 1) (j := 12 + 5) C sb12 (by decide) rfl wd_32 dX3_as_59 ?_
        refine v_iconst (v := 0) C dX3_as_62 (by decide) ?_
        refine sh_trS C 0 sb12 rfl (by decide) dX3_as_63 ?_
        refine v_iload_n C 3 dX3_as_64 rfl rfl ?_
        refine c_ald (k := 12 + (6 + 0)) C hL (by decide) (tb_tr sb12 (r := 0) (by decide)) dX3_as_65 hf (fun a6 hf => ?_)
        refine v_iload_n C 2 dX3_as_66 rfl rfl ?_
        obtain ⟨y7, hy7, hf⟩ := bnd hf
        refine v_callS (r := some (.int y7)) (As := [.int a6, .int v2]) (rest := []) C (mX3_isUnder  hy7) cw_X3_isUnder wd_592 ⟨Nat.le_of_ble_eq_true rfl, Nat.le_of_ble_eq_true rfl⟩ rfl rfl (Nat.le_of_ble_eq_true rfl) dX3_as_67 ?_
        refine v_if_eq (tgt := 77) C dX3_as_70 (by decide) hf (fun hf => ?_) (fun hf => ?_)
        · refine v_aload_n C 0 dX3_as_77 rfl rfl ?_
          refine v_ldc C wd_597 dX3_as_78 ?_
          obtain ⟨y8, hy8, hf⟩ := bnd hf
          refine v_callV (r := some (.int y8.1)) (As := [.int (-1000003)]) (rest := []) (K := 0) C (mX3_tell hL hy8) cw_X3_tell wd_145 (by decide) rfl rfl ⟨Nat.le_of_ble_eq_true rfl, Nat.le_of_ble_eq_true rfl⟩ rfl rfl (Nat.le_of_ble_eq_true rfl) dX3_as_80 ?_
          exact v_iret C dX3_as_83 (fin_im hf hQ)
        · refine v_iload_n C 3 dX3_as_73 rfl rfl ?_
          refine v_goto (tgt := 83) C dX3_as_74 (by decide) ?_
          exact v_iret C dX3_as_83 (fin_im hf hQ)
      · refine v_aload_n C 0 dX3_as_48 rfl rfl ?_
        refine v_ldc C wd_591 dX3_as_49 ?_
        obtain ⟨y9, hy9, hf⟩ := bnd hf
        refine v_callV (r := some (.int y9.1)) (As := [.int (-1000006)]) (rest := []) (K := 0) C (mX3_tell hL hy9) cw_X3_tell wd_145 (by decide) rfl rfl ⟨Nat.le_of_ble_eq_true rfl, Nat.le_of_ble_eq_true rfl⟩ rfl rfl (Nat.le_of_ble_eq_true rfl) dX3_as_51 ?_
        exact v_iret C dX3_as_54 (fin_im hf hQ)
    · refine v_aload_n C 0 dX3_as_20 rfl rfl ?_
      refine v_ldc C wd_144 dX3_as_21 ?_
      obtain ⟨y10, hy10, hf⟩ := bnd hf
      refine v_callV (r := some (.int y10.1)) (As := [.int (-1000001)]) (rest := []) (K := 0) C (mX3_tell hL hy10) cw_X3_tell wd_145 (by decide) rfl rfl ⟨Nat.le_of_ble_eq_true rfl, Nat.le_of_ble_eq_true rfl⟩ rfl rfl (Nat.le_of_ble_eq_true rfl) dX3_as_23 ?_
      exact v_iret C dX3_as_26 (fin_im hf hQ)
theorem mX3_as {B : BB} {l : Launch} {L : St2 → St2} {N : Nat} {κ : St2} {v1 : Int32} {v2 : Int32} {res : (Int32 × St2)} (hL : LnC L) (hf : fX3_as N κ v1 v2 = some res) : Ret l B yX3_as cX3_as 4 (some .int) 2 45 [.ref (ad B 0), .int v1, .int v2] (L κ) (some (.int res.1)) (L res.2) := ret_of (own := RX3) (by decide) rfl (Nat.le_of_ble_eq_true rfl) (fun E C hQ => tX3_as C hL hQ hf)
def fX3_sheet (N : Nat) (κ : St2) (v1 : Int32) (v2 : Int32) (v3 : Int32) : Option (Int32 × St2) := (fX0_isSheet v1).bind fun y1 => if y1 = 0 then ((fX3_tell κ (-1000001)).bind fun y2 => some (y2.1, y2.2)) else ((fX0_isWidth v2).bind fun y3 => if y3 = 0 then ((fX3_tell κ (-1000001)).bind fun y7 => some (y7.1, y7.2)) else (if 0 ≤ v3 then (if v3 ≤ 40 then ((fX0_lay N κ v1 v2 v3).bind fun y4 => some (y4.1, y4.2)) else ((fX3_tell κ (-1000001)).bind fun y5 => some (y5.1, y5.2))) else ((fX3_tell κ (-1000007)).bind fun y6 => some (y6.1, y6.2))))
set_option maxHeartbeats 4000000 in
set_option maxRecDepth 100000 in
theorem tX3_sheet {E : EE} {B : BB} {l : Launch} {L : St2 → St2} {N : Nat} {κ : St2} {v1 : Int32} {v2 : Int32} {v3 : Int32} {res : (Int32 × St2)} (C : Cx E B l cX3_sheet RX3 (some .int) 4 2 44) (hL : LnC L) (hQ : Fin9 E B (some (.int res.1)) (L res.2)) (hf : fX3_sheet N κ v1 v2 v3 = some res) : V E B (L κ) 0 [(0, .ref (ad B 0)), (1, .int v1), (2, .int v2), (3, .int v3)] [] := by
  unfold fX3_sheet at hf
  refine v_iload_n C 1 dX3_sheet_0 rfl rfl ?_
  obtain ⟨y1, hy1, hf⟩ := bnd hf
  refine v_callS (r := some (.int y1)) (As := [.int v1]) (rest := []) C (mX0_isSheet  hy1) cw_X0_isSheet wd_602 ⟨Nat.le_of_ble_eq_true rfl, Nat.le_of_ble_eq_true rfl⟩ rfl rfl (Nat.le_of_ble_eq_true rfl) dX3_sheet_1 ?_
  refine v_if_eq (tgt := 14) C dX3_sheet_4 (by decide) hf (fun hf => ?_) (fun hf => ?_)
  · refine v_aload_n C 0 dX3_sheet_14 rfl rfl ?_
    refine v_ldc C wd_144 dX3_sheet_15 ?_
    obtain ⟨y2, hy2, hf⟩ := bnd hf
    refine v_callV (r := some (.int y2.1)) (As := [.int (-1000001)]) (rest := []) (K := 0) C (mX3_tell hL hy2) cw_X3_tell wd_145 (by decide) rfl rfl ⟨Nat.le_of_ble_eq_true rfl, Nat.le_of_ble_eq_true rfl⟩ rfl rfl (Nat.le_of_ble_eq_true rfl) dX3_sheet_17 ?_
    exact v_iret C dX3_sheet_20 (fin_im hf hQ)
  · refine v_iload_n C 2 dX3_sheet_7 rfl rfl ?_
    obtain ⟨y3, hy3, hf⟩ := bnd hf
    refine v_callS (r := some (.int y3)) (As := [.int v2]) (rest := []) C (mX0_isWidth  hy3) cw_X0_isWidth wd_603 ⟨Nat.le_of_ble_eq_true rfl, Nat.le_of_ble_eq_true rfl⟩ rfl rfl (Nat.le_of_ble_eq_true rfl) dX3_sheet_8 ?_
    refine v_if_ne (tgt := 21) C dX3_sheet_11 (by decide) hf (fun hf => ?_) (fun hf => ?_)
    · refine v_iload_n C 3 dX3_sheet_21 rfl rfl ?_
      refine v_if_ge (tgt := 32) C dX3_sheet_22 (by decide) hf (fun hf => ?_) (fun hf => ?_)
      · refine v_iload_n C 3 dX3_sheet_32 rfl rfl ?_
        refine v_bipush (v := 40) C dX3_sheet_33 (by decide) ?_
        refine v_icmp_le (tgt := 45) C dX3_sheet_35 (by decide) hf (fun hf => ?_) (fun hf => ?_)
        · refine v_aload_n C 0 dX3_sheet_45 rfl rfl ?_
          refine g_getR (K := 0) (i := 5) (j := 4) C (by decide) rfl rfl inX3 (by decide) rfl wd_117 dX3_sheet_46 ?_
          refine v_iload_n C 1 dX3_sheet_49 rfl rfl ?_
          refine v_iload_n C 2 dX3_sheet_50 rfl rfl ?_
          refine v_iload_n C 3 dX3_sheet_51 rfl rfl ?_
          obtain ⟨y4, hy4, hf⟩ := bnd hf
          refine v_callV (r := some (.int y4.1)) (As := [.int v1, .int v2, .int v3]) (rest := []) (K := 4) C (mX0_lay hL hy4) cw_X0_lay wd_607 (by decide) rfl rfl ⟨Nat.le_of_ble_eq_true rfl, Nat.le_of_ble_eq_true rfl⟩ rfl rfl (Nat.le_of_ble_eq_true rfl) dX3_sheet_52 ?_
          exact v_iret C dX3_sheet_55 (fin_im hf hQ)
        · refine v_aload_n C 0 dX3_sheet_38 rfl rfl ?_
          refine v_ldc C wd_144 dX3_sheet_39 ?_
          obtain ⟨y5, hy5, hf⟩ := bnd hf
          refine v_callV (r := some (.int y5.1)) (As := [.int (-1000001)]) (rest := []) (K := 0) C (mX3_tell hL hy5) cw_X3_tell wd_145 (by decide) rfl rfl ⟨Nat.le_of_ble_eq_true rfl, Nat.le_of_ble_eq_true rfl⟩ rfl rfl (Nat.le_of_ble_eq_true rfl) dX3_sheet_41 ?_
          exact v_iret C dX3_sheet_44 (fin_im hf hQ)
      · refine v_aload_n C 0 dX3_sheet_25 rfl rfl ?_
        refine v_ldc C wd_606 dX3_sheet_26 ?_
        obtain ⟨y6, hy6, hf⟩ := bnd hf
        refine v_callV (r := some (.int y6.1)) (As := [.int (-1000007)]) (rest := []) (K := 0) C (mX3_tell hL hy6) cw_X3_tell wd_145 (by decide) rfl rfl ⟨Nat.le_of_ble_eq_true rfl, Nat.le_of_ble_eq_true rfl⟩ rfl rfl (Nat.le_of_ble_eq_true rfl) dX3_sheet_28 ?_
        exact v_iret C dX3_sheet_31 (fin_im hf hQ)
    · refine v_aload_n C 0 dX3_sheet_14 rfl rfl ?_
      refine v_ldc C wd_144 dX3_sheet_15 ?_
      obtain ⟨y7, hy7, hf⟩ := bnd hf
      refine v_callV (r := some (.int y7.1)) (As := [.int (-1000001)]) (rest := []) (K := 0) C (mX3_tell hL hy7) cw_X3_tell wd_145 (by decide) rfl rfl ⟨Nat.le_of_ble_eq_true rfl, Nat.le_of_ble_eq_true rfl⟩ rfl rfl (Nat.le_of_ble_eq_true rfl) dX3_sheet_17 ?_
      exact v_iret C dX3_sheet_20 (fin_im hf hQ)
theorem mX3_sheet {B : BB} {l : Launch} {L : St2 → St2} {N : Nat} {κ : St2} {v1 : Int32} {v2 : Int32} {v3 : Int32} {res : (Int32 × St2)} (hL : LnC L) (hf : fX3_sheet N κ v1 v2 v3 = some res) : Ret l B yX3_sheet cX3_sheet 4 (some .int) 2 44 [.ref (ad B 0), .int v1, .int v2, .int v3] (L κ) (some (.int res.1)) (L res.2) := ret_of (own := RX3) (by decide) rfl (Nat.le_of_ble_eq_true rfl) (fun E C hQ => tX3_sheet C hL hQ hf)
def fX3_write (κ : St2) (v1 : Int32) (v2 : Int32) (v3 : Int32) : Option (Int32 × St2) := (fX0_findingOf κ v1).bind fun y1 => if y1 = 0 then ((rd (κ 11) 4 v1).bind fun a2 => (fX3_within v2 0 (a2 - 1)).bind fun y3 => if y3 = 0 then ((fX3_tell κ (-1000001)).bind fun y5 => some (y5.1, y5.2)) else ((fX0_put κ v1 v2 v3).bind fun y4 => some (1, y4))) else ((fX3_tell κ y1).bind fun y6 => some (y6.1, y6.2))
set_option maxHeartbeats 4000000 in
set_option maxRecDepth 100000 in
theorem tX3_write {E : EE} {B : BB} {l : Launch} {L : St2 → St2} {κ : St2} {v1 : Int32} {v2 : Int32} {v3 : Int32} {res : (Int32 × St2)} (C : Cx E B l cX3_write RX3 (some .int) 5 3 63) (hL : LnC L) (hQ : Fin9 E B (some (.int res.1)) (L res.2)) (hf : fX3_write κ v1 v2 v3 = some res) : V E B (L κ) 0 [(0, .ref (ad B 0)), (1, .int v1), (2, .int v2), (3, .int v3)] [] := by
  unfold fX3_write at hf
  refine v_aload_n C 0 dX3_write_0 rfl rfl ?_
  refine g_getR (K := 0) (i := 5) (j := 4) C (by decide) rfl rfl inX3 (by decide) rfl wd_117 dX3_write_1 ?_
  refine v_iload_n C 1 dX3_write_4 rfl rfl ?_
  obtain ⟨y1, hy1, hf⟩ := bnd hf
  refine v_callV (r := some (.int y1)) (As := [.int v1]) (rest := []) (K := 4) C (mX0_findingOf hL hy1) cw_X0_findingOf wd_387 (by decide) rfl rfl ⟨Nat.le_of_ble_eq_true rfl, Nat.le_of_ble_eq_true rfl⟩ rfl rfl (Nat.le_of_ble_eq_true rfl) dX3_write_5 ?_
  refine v_istore (lv' := [(0, .ref (ad B 0)), (1, .int v1), (2, .int v2), (3, .int v3), (4, .int y1)]) C [1, 2, 3, 4, 0] dX3_write_8 (by decide) rfl ?_
  refine v_iload C 4 dX3_write_10 rfl ?_
  refine v_if_eq (tgt := 22) C dX3_write_12 (by decide) hf (fun hf => ?_) (fun hf => ?_)
  · refine v_iload_n C 2 dX3_write_22 rfl rfl ?_
    refine v_iconst (v := 0) C dX3_write_23 (by decide) ?_
    refine v_aload_n C 0 dX3_write_24 rfl rfl ?_
    refine g_getR (K := 0) (i := 5) (j := 4) C (by decide) rfl rfl inX3 (by decide) rfl wd_117 dX3_write_25 ?_
    refine g_getR (K := 4) (i := 2) (j := 11) C (by decide) rfl rfl inX0 (by decide) rfl wd_104 dX3_write_28 ?_
    refine v_iload_n C 1 dX3_write_31 rfl rfl ?_
    refine c_ald (k := 11) C hL (by decide) rfl dX3_write_32 hf (fun a2 hf => ?_)
    refine v_iconst (v := 1) C dX3_write_33 (by decide) ?_
    refine v_isub C dX3_write_34 ?_
    obtain ⟨y3, hy3, hf⟩ := bnd hf
    refine v_callS (r := some (.int y3)) (As := [.int v2, .int 0, .int (a2 - 1)]) (rest := []) C (mX3_within  hy3) cw_X3_within wd_141 ⟨Nat.le_of_ble_eq_true rfl, Nat.le_of_ble_eq_true rfl⟩ rfl rfl (Nat.le_of_ble_eq_true rfl) dX3_write_35 ?_
    refine v_if_ne (tgt := 48) C dX3_write_38 (by decide) hf (fun hf => ?_) (fun hf => ?_)
    · refine v_aload_n C 0 dX3_write_48 rfl rfl ?_
      refine g_getR (K := 0) (i := 5) (j := 4) C (by decide) rfl rfl inX3 (by decide) rfl wd_117 dX3_write_49 ?_
      refine v_iload_n C 1 dX3_write_52 rfl rfl ?_
      refine v_iload_n C 2 dX3_write_53 rfl rfl ?_
      refine v_iload_n C 3 dX3_write_54 rfl rfl ?_
      obtain ⟨y4, hy4, hf⟩ := bnd hf
      refine v_callV (r := none) (As := [.int v1, .int v2, .int v3]) (rest := []) (K := 4) C (mX0_put hL hy4) cw_X0_put wd_615 (by decide) rfl rfl ⟨Nat.le_of_ble_eq_true rfl, Nat.le_of_ble_eq_true rfl⟩ rfl rfl (Nat.le_of_ble_eq_true rfl) dX3_write_55 ?_
      refine v_iconst (v := 1) C dX3_write_58 (by decide) ?_
      exact v_iret C dX3_write_59 (fin_im hf hQ)
    · refine v_aload_n C 0 dX3_write_41 rfl rfl ?_
      refine v_ldc C wd_144 dX3_write_42 ?_
      obtain ⟨y5, hy5, hf⟩ := bnd hf
      refine v_callV (r := some (.int y5.1)) (As := [.int (-1000001)]) (rest := []) (K := 0) C (mX3_tell hL hy5) cw_X3_tell wd_145 (by decide) rfl rfl ⟨Nat.le_of_ble_eq_true rfl, Nat.le_of_ble_eq_true rfl⟩ rfl rfl (Nat.le_of_ble_eq_true rfl) dX3_write_44 ?_
      exact v_iret C dX3_write_47 (fin_im hf hQ)
  · refine v_aload_n C 0 dX3_write_15 rfl rfl ?_
    refine v_iload C 4 dX3_write_16 rfl ?_
    obtain ⟨y6, hy6, hf⟩ := bnd hf
    refine v_callV (r := some (.int y6.1)) (As := [.int y1]) (rest := []) (K := 0) C (mX3_tell hL hy6) cw_X3_tell wd_145 (by decide) rfl rfl ⟨Nat.le_of_ble_eq_true rfl, Nat.le_of_ble_eq_true rfl⟩ rfl rfl (Nat.le_of_ble_eq_true rfl) dX3_write_18 ?_
    exact v_iret C dX3_write_21 (fin_im hf hQ)
theorem mX3_write {B : BB} {l : Launch} {L : St2 → St2} {κ : St2} {v1 : Int32} {v2 : Int32} {v3 : Int32} {res : (Int32 × St2)} (hL : LnC L) (hf : fX3_write κ v1 v2 v3 = some res) : Ret l B yX3_write cX3_write 5 (some .int) 3 63 [.ref (ad B 0), .int v1, .int v2, .int v3] (L κ) (some (.int res.1)) (L res.2) := ret_of (own := RX3) (by decide) rfl (Nat.le_of_ble_eq_true rfl) (fun E C hQ => tX3_write C hL hQ hf)
def fX3_copy (κ : St2) (v1 : Int32) (v2 : Int32) (v3 : Int32) (v4 : Int32) (v5 : Int32) : Option (Int32 × St2) := (fX0_isSheet v1).bind fun y1 => if y1 = 0 then ((fX3_tell κ (-1000001)).bind fun y2 => some (y2.1, y2.2)) else ((fX0_isSheet v3).bind fun y3 => if y3 = 0 then ((fX3_tell κ (-1000001)).bind fun y18 => some (y18.1, y18.2)) else ((fX0_isMissing κ v1).bind fun y4 => if y4 = 0 then ((fX0_isMissing κ v3).bind fun y6 => if y6 = 0 then ((rd (κ 10) 4 v1).bind fun a7 => (rd (κ 10) 4 v3).bind fun a8 => if a7 = a8 then ((fX0_hasPart κ v1 v2 v5).bind fun y9 => if y9 = 0 then ((fX3_tell κ (-1000001)).bind fun y10 => some (y10.1, y10.2)) else ((fX0_hasPart κ v3 v4 v5).bind fun y11 => if y11 = 0 then ((fX3_tell κ (-1000001)).bind fun y15 => some (y15.1, y15.2)) else ((ck v1 4).bind fun r12 => (ck v3 4).bind fun r13 => (cp κ (6 + r12) 40 (6 + r13) 40 v2 v4 v5).bind fun κ14 => some (v5, κ14)))) else ((fX3_tell κ (-1000003)).bind fun y16 => some (y16.1, y16.2))) else ((fX3_tell κ (-1000006)).bind fun y17 => some (y17.1, y17.2))) else ((fX3_tell κ (-1000006)).bind fun y5 => some (y5.1, y5.2))))
set_option maxHeartbeats 4000000 in
set_option maxRecDepth 100000 in
theorem tX3_copy {E : EE} {B : BB} {l : Launch} {L : St2 → St2} {κ : St2} {v1 : Int32} {v2 : Int32} {v3 : Int32} {v4 : Int32} {v5 : Int32} {res : (Int32 × St2)} (C : Cx E B l cX3_copy RX3 (some .int) 6 2 44) (hL : LnC L) (hQ : Fin9 E B (some (.int res.1)) (L res.2)) (hf : fX3_copy κ v1 v2 v3 v4 v5 = some res) : V E B (L κ) 0 [(0, .ref (ad B 0)), (1, .int v1), (2, .int v2), (3, .int v3), (4, .int v4), (5, .int v5)] [] := by
  unfold fX3_copy at hf
  refine v_iload_n C 1 dX3_copy_0 rfl rfl ?_
  obtain ⟨y1, hy1, hf⟩ := bnd hf
  refine v_callS (r := some (.int y1)) (As := [.int v1]) (rest := []) C (mX0_isSheet  hy1) cw_X0_isSheet wd_602 ⟨Nat.le_of_ble_eq_true rfl, Nat.le_of_ble_eq_true rfl⟩ rfl rfl (Nat.le_of_ble_eq_true rfl) dX3_copy_1 ?_
  refine v_if_eq (tgt := 14) C dX3_copy_4 (by decide) hf (fun hf => ?_) (fun hf => ?_)
  · refine v_aload_n C 0 dX3_copy_14 rfl rfl ?_
    refine v_ldc C wd_144 dX3_copy_15 ?_
    obtain ⟨y2, hy2, hf⟩ := bnd hf
    refine v_callV (r := some (.int y2.1)) (As := [.int (-1000001)]) (rest := []) (K := 0) C (mX3_tell hL hy2) cw_X3_tell wd_145 (by decide) rfl rfl ⟨Nat.le_of_ble_eq_true rfl, Nat.le_of_ble_eq_true rfl⟩ rfl rfl (Nat.le_of_ble_eq_true rfl) dX3_copy_17 ?_
    exact v_iret C dX3_copy_20 (fin_im hf hQ)
  · refine v_iload_n C 3 dX3_copy_7 rfl rfl ?_
    obtain ⟨y3, hy3, hf⟩ := bnd hf
    refine v_callS (r := some (.int y3)) (As := [.int v3]) (rest := []) C (mX0_isSheet  hy3) cw_X0_isSheet wd_602 ⟨Nat.le_of_ble_eq_true rfl, Nat.le_of_ble_eq_true rfl⟩ rfl rfl (Nat.le_of_ble_eq_true rfl) dX3_copy_8 ?_
    refine v_if_ne (tgt := 21) C dX3_copy_11 (by decide) hf (fun hf => ?_) (fun hf => ?_)
    · refine v_aload_n C 0 dX3_copy_21 rfl rfl ?_
      refine g_getR (K := 0) (i := 5) (j := 4) C (by decide) rfl rfl inX3 (by decide) rfl wd_117 dX3_copy_22 ?_
      refine v_iload_n C 1 dX3_copy_25 rfl rfl ?_
      obtain ⟨y4, hy4, hf⟩ := bnd hf
      refine v_callV (r := some (.int y4)) (As := [.int v1]) (rest := []) (K := 4) C (mX0_isMissing hL hy4) cw_X0_isMissing wd_623 (by decide) rfl rfl ⟨Nat.le_of_ble_eq_true rfl, Nat.le_of_ble_eq_true rfl⟩ rfl rfl (Nat.le_of_ble_eq_true rfl) dX3_copy_26 ?_
      refine v_if_ne (tgt := 43) C dX3_copy_29 (by decide) hf (fun hf => ?_) (fun hf => ?_)
      · refine v_aload_n C 0 dX3_copy_43 rfl rfl ?_
        refine v_ldc C wd_591 dX3_copy_44 ?_
        obtain ⟨y5, hy5, hf⟩ := bnd hf
        refine v_callV (r := some (.int y5.1)) (As := [.int (-1000006)]) (rest := []) (K := 0) C (mX3_tell hL hy5) cw_X3_tell wd_145 (by decide) rfl rfl ⟨Nat.le_of_ble_eq_true rfl, Nat.le_of_ble_eq_true rfl⟩ rfl rfl (Nat.le_of_ble_eq_true rfl) dX3_copy_46 ?_
        exact v_iret C dX3_copy_49 (fin_im hf hQ)
      · refine v_aload_n C 0 dX3_copy_32 rfl rfl ?_
        refine g_getR (K := 0) (i := 5) (j := 4) C (by decide) rfl rfl inX3 (by decide) rfl wd_117 dX3_copy_33 ?_
        refine v_iload_n C 3 dX3_copy_36 rfl rfl ?_
        obtain ⟨y6, hy6, hf⟩ := bnd hf
        refine v_callV (r := some (.int y6)) (As := [.int v3]) (rest := []) (K := 4) C (mX0_isMissing hL hy6) cw_X0_isMissing wd_623 (by decide) rfl rfl ⟨Nat.le_of_ble_eq_true rfl, Nat.le_of_ble_eq_true rfl⟩ rfl rfl (Nat.le_of_ble_eq_true rfl) dX3_copy_37 ?_
        refine v_if_eq (tgt := 50) C dX3_copy_40 (by decide) hf (fun hf => ?_) (fun hf => ?_)
        · refine v_aload_n C 0 dX3_copy_50 rfl rfl ?_
          refine g_getR (K := 0) (i := 5) (j := 4) C (by decide) rfl rfl inX3 (by decide) rfl wd_117 dX3_copy_51 ?_
          refine g_getR (K := 4) (i := 1) (j := 10) C (by decide) rfl rfl inX0 (by decide) rfl wd_102 dX3_copy_54 ?_
          refine v_iload_n C 1 dX3_copy_57 rfl rfl ?_
          refine c_ald (k := 10) C hL (by decide) rfl dX3_copy_58 hf (fun a7 hf => ?_)
          refine v_aload_n C 0 dX3_copy_59 rfl rfl ?_
          refine g_getR (K := 0) (i := 5) (j := 4) C (by decide) rfl rfl inX3 (by decide) rfl wd_117 dX3_copy_60 ?_
          refine g_getR (K := 4) (i := 1) (j := 10) C (by decide) rfl rfl inX0 (by decide) rfl wd_102 dX3_copy_63 ?_
          refine v_iload_n C 3 dX3_copy_66 rfl rfl ?_
          refine c_ald (k := 10) C hL (by decide) rfl dX3_copy_67 hf (fun a8 hf => ?_)
          refine v_icmp_eq (tgt := 78) C dX3_copy_68 (by decide) hf (fun hf => ?_) (fun hf => ?_)
          · refine v_aload_n C 0 dX3_copy_78 rfl rfl ?_
            refine g_getR (K := 0) (i := 5) (j := 4) C (by decide) rfl rfl inX3 (by decide) rfl wd_117 dX3_copy_79 ?_
            refine v_iload_n C 1 dX3_copy_82 rfl rfl ?_
            refine v_iload_n C 2 dX3_copy_83 rfl rfl ?_
            refine v_iload C 5 dX3_copy_84 rfl ?_
            obtain ⟨y9, hy9, hf⟩ := bnd hf
            refine v_callV (r := some (.int y9)) (As := [.int v1, .int v2, .int v5]) (rest := []) (K := 4) C (mX0_hasPart hL hy9) cw_X0_hasPart wd_624 (by decide) rfl rfl ⟨Nat.le_of_ble_eq_true rfl, Nat.le_of_ble_eq_true rfl⟩ rfl rfl (Nat.le_of_ble_eq_true rfl) dX3_copy_86 ?_
            refine v_if_eq (tgt := 107) C dX3_copy_89 (by decide) hf (fun hf => ?_) (fun hf => ?_)
            · refine v_aload_n C 0 dX3_copy_107 rfl rfl ?_
              refine v_ldc C wd_144 dX3_copy_108 ?_
              obtain ⟨y10, hy10, hf⟩ := bnd hf
              refine v_callV (r := some (.int y10.1)) (As := [.int (-1000001)]) (rest := []) (K := 0) C (mX3_tell hL hy10) cw_X3_tell wd_145 (by decide) rfl rfl ⟨Nat.le_of_ble_eq_true rfl, Nat.le_of_ble_eq_true rfl⟩ rfl rfl (Nat.le_of_ble_eq_true rfl) dX3_copy_110 ?_
              exact v_iret C dX3_copy_113 (fin_im hf hQ)
            · refine v_aload_n C 0 dX3_copy_92 rfl rfl ?_
              refine g_getR (K := 0) (i := 5) (j := 4) C (by decide) rfl rfl inX3 (by decide) rfl wd_117 dX3_copy_93 ?_
              refine v_iload_n C 3 dX3_copy_96 rfl rfl ?_
              refine v_iload C 4 dX3_copy_97 rfl ?_
              refine v_iload C 5 dX3_copy_99 rfl ?_
              obtain ⟨y11, hy11, hf⟩ := bnd hf
              refine v_callV (r := some (.int y11)) (As := [.int v3, .int v4, .int v5]) (rest := []) (K := 4) C (mX0_hasPart hL hy11) cw_X0_hasPart wd_624 (by decide) rfl rfl ⟨Nat.le_of_ble_eq_true rfl, Nat.le_of_ble_eq_true rfl⟩ rfl rfl (Nat.le_of_ble_eq_true rfl) dX3_copy_101 ?_
              refine v_if_ne (tgt := 114) C dX3_copy_104 (by decide) hf (fun hf => ?_) (fun hf => ?_)
              · refine v_aload_n C 0 dX3_copy_114 rfl rfl ?_
                refine g_getR (K := 0) (i := 5) (j := 4) C (by decide) rfl rfl inX3 (by decide) rfl wd_117 dX3_copy_115 ?_
                refine g_getR (K := 4) (i := 0) (j := 5) C (by decide) rfl rfl inX0 (by decide) rfl wd_100 dX3_copy_118 ?_
                refine v_iload_n C 1 dX3_copy_121 rfl rfl ?_
                refine g_rowD (K := 5) (j := 6) C (by decide) rfl dX3_copy_122 hf (fun r12 hr12 hf => ?_)
                refine v_iload_n C 2 dX3_copy_123 rfl rfl ?_
                refine v_aload_n C 0 dX3_copy_124 rfl rfl ?_
                refine g_getR (K := 0) (i := 5) (j := 4) C (by decide) rfl rfl inX3 (by decide) rfl wd_117 dX3_copy_125 ?_
                refine g_getR (K := 4) (i := 0) (j := 5) C (by decide) rfl rfl inX0 (by decide) rfl wd_100 dX3_copy_128 ?_
                refine v_iload_n C 3 dX3_copy_131 rfl rfl ?_
                refine g_rowD (K := 5) (j := 6) C (by decide) rfl dX3_copy_132 hf (fun r13 hr13 hf => ?_)
                refine v_iload C 4 dX3_copy_133 rfl ?_
                refine v_iload C 5 dX3_copy_135 rfl ?_
                refine c_copy (j := 6 + r12) (k := 6 + r13) C hL (by omega) (by omega) (tb_nr hr12) (tb_nr hr13) wd_628 wac_native wac_static wac_ini (by decide) (Nat.le_of_ble_eq_true rfl) dX3_copy_137 hf (fun κ14 hf => ?_)
                refine v_iload C 5 dX3_copy_140 rfl ?_
                exact v_iret C dX3_copy_142 (fin_im hf hQ)
              · refine v_aload_n C 0 dX3_copy_107 rfl rfl ?_
                refine v_ldc C wd_144 dX3_copy_108 ?_
                obtain ⟨y15, hy15, hf⟩ := bnd hf
                refine v_callV (r := some (.int y15.1)) (As := [.int (-1000001)]) (rest := []) (K := 0) C (mX3_tell hL hy15) cw_X3_tell wd_145 (by decide) rfl rfl ⟨Nat.le_of_ble_eq_true rfl, Nat.le_of_ble_eq_true rfl⟩ rfl rfl (Nat.le_of_ble_eq_true rfl) dX3_copy_110 ?_
                exact v_iret C dX3_copy_113 (fin_im hf hQ)
          · refine v_aload_n C 0 dX3_copy_71 rfl rfl ?_
            refine v_ldc C wd_597 dX3_copy_72 ?_
            obtain ⟨y16, hy16, hf⟩ := bnd hf
            refine v_callV (r := some (.int y16.1)) (As := [.int (-1000003)]) (rest := []) (K := 0) C (mX3_tell hL hy16) cw_X3_tell wd_145 (by decide) rfl rfl ⟨Nat.le_of_ble_eq_true rfl, Nat.le_of_ble_eq_true rfl⟩ rfl rfl (Nat.le_of_ble_eq_true rfl) dX3_copy_74 ?_
            exact v_iret C dX3_copy_77 (fin_im hf hQ)
        · refine v_aload_n C 0 dX3_copy_43 rfl rfl ?_
          refine v_ldc C wd_591 dX3_copy_44 ?_
          obtain ⟨y17, hy17, hf⟩ := bnd hf
          refine v_callV (r := some (.int y17.1)) (As := [.int (-1000006)]) (rest := []) (K := 0) C (mX3_tell hL hy17) cw_X3_tell wd_145 (by decide) rfl rfl ⟨Nat.le_of_ble_eq_true rfl, Nat.le_of_ble_eq_true rfl⟩ rfl rfl (Nat.le_of_ble_eq_true rfl) dX3_copy_46 ?_
          exact v_iret C dX3_copy_49 (fin_im hf hQ)
    · refine v_aload_n C 0 dX3_copy_14 rfl rfl ?_
      refine v_ldc C wd_144 dX3_copy_15 ?_
      obtain ⟨y18, hy18, hf⟩ := bnd hf
      refine v_callV (r := some (.int y18.1)) (As := [.int (-1000001)]) (rest := []) (K := 0) C (mX3_tell hL hy18) cw_X3_tell wd_145 (by decide) rfl rfl ⟨Nat.le_of_ble_eq_true rfl, Nat.le_of_ble_eq_true rfl⟩ rfl rfl (Nat.le_of_ble_eq_true rfl) dX3_copy_17 ?_
      exact v_iret C dX3_copy_20 (fin_im hf hQ)
theorem mX3_copy {B : BB} {l : Launch} {L : St2 → St2} {κ : St2} {v1 : Int32} {v2 : Int32} {v3 : Int32} {v4 : Int32} {v5 : Int32} {res : (Int32 × St2)} (hL : LnC L) (hf : fX3_copy κ v1 v2 v3 v4 v5 = some res) : Ret l B yX3_copy cX3_copy 6 (some .int) 2 44 [.ref (ad B 0), .int v1, .int v2, .int v3, .int v4, .int v5] (L κ) (some (.int res.1)) (L res.2) := ret_of (own := RX3) (by decide) rfl (Nat.le_of_ble_eq_true rfl) (fun E C hQ => tX3_copy C hL hQ hf)
def fX3_load_42 (N : Nat) (v1 : Int32) (v3 : Int32) : Nat → St2 → Int32 → Option (Int32 × St2)
  | 0, _, _ => none
  | n + 1, κ, v4 => if v3 ≤ v4 then (some (v3, κ)) else ((ck v1 4).bind fun r4 => (rd (κ (6 + r4)) 40 v4).bind fun a5 => (rd (tv 1) 6 3).bind fun a6 => (rd (tv 2) 6 3).bind fun a7 => (fX3_within a5 a6 a7).bind fun y8 => if y8 = 0 then (some (v4, κ)) else ((wr κ (12 + (6 + 3)) 8 v4 a5).bind fun κ9 => (fX3_load_42 N v1 v3 n) κ9 (v4 + 1)))
set_option maxHeartbeats 4000000 in
set_option maxRecDepth 100000 in
theorem tX3_load_42 {E : EE} {B : BB} {l : Launch} {L : St2 → St2} {N : Nat} {v1 : Int32} {v3 : Int32} {res : (Int32 × St2)} (C : Cx E B l cX3_load RX3 (some .int) 6 3 63) (hL : LnC L) (hQ : Fin9 E B (some (.int res.1)) (L res.2)) : ∀ (n : Nat) (κ : St2) (v4 : Int32), fX3_load_42 N v1 v3 n κ v4 = some res → V E B (L κ) 42 [(0, .ref (ad B 0)), (1, .int v1), (3, .int v3), (4, .int v4)] [] := by
  intro n
  induction n with
  | zero =>
    intro κ v4 hf
    cases hf
  | succ n ih =>
    intro κ v4 hf
    rw [fX3_load_42] at hf
    refine v_iload C 3 dX3_load_42 rfl ?_
    refine v_iload_n C 2 dX3_load_44 rfl rfl ?_
    refine v_icmp_ge (tgt := 103) C dX3_load_45 (by decide) hf (fun hf => ?_) (fun hf => ?_)
    · refine v_iload_n C 2 dX3_load_103 rfl rfl ?_
      exact v_iret C dX3_load_104 (fin_im hf hQ)
    · refine v_aload_n C 0 dX3_load_48 rfl rfl ?_
      refine g_getR (K := 0) (i := 5) (j := 4) C (by decide) rfl rfl inX3 (by decide) rfl wd_117 dX3_load_49 ?_
      refine g_getR (K := 4) (i := 0) (j := 5) C (by decide) rfl rfl inX0 (by decide) rfl wd_100 dX3_load_52 ?_
      refine v_iload_n C 1 dX3_load_55 rfl rfl ?_
      refine g_rowD (K := 5) (j := 6) C (by decide) rfl dX3_load_56 hf (fun r4 hr4 hf => ?_)
      refine v_iload C 3 dX3_load_57 rfl ?_
      refine c_ald (k := 6 + r4) C hL (by omega) (tb_nr hr4) dX3_load_59 hf (fun a5 hf => ?_)
      refine v_istore (lv' := [(0, .ref (ad B 0)), (1, .int v1), (3, .int v3), (4, .int v4), (5, .int a5)]) C [1, 2, 3, 4, 0] dX3_load_60 (by decide) rfl ?_
      refine v_iload C 4 dX3_load_62 rfl ?_
      refine g_gets C (sz1 B) wd_231 dX3_load_64 ?_
      refine v_iconst (v := 3) C dX3_load_67 (by decide) ?_
      refine t_ld1 C dX3_load_68 hf (fun a6 hf => ?_)
      refine g_gets C (sz2 B) wd_233 dX3_load_69 ?_
      refine v_iconst (v := 3) C dX3_load_72 (by decide) ?_
      refine t_ld2 C dX3_load_73 hf (fun a7 hf => ?_)
      obtain ⟨y8, hy8, hf⟩ := bnd hf
      refine v_callS (r := some (.int y8)) (As := [.int a5, .int a6, .int a7]) (rest := []) C (mX3_within  hy8) cw_X3_within wd_141 ⟨Nat.le_of_ble_eq_true rfl, Nat.le_of_ble_eq_true rfl⟩ rfl rfl (Nat.le_of_ble_eq_true rfl) dX3_load_74 ?_
      refine v_if_ne (tgt := 83) C dX3_load_77 (by decide) hf (fun hf => ?_) (fun hf => ?_)
      · refine v_aload_n C 0 dX3_load_83 rfl rfl ?_
        refine g_getR (K := 0) (i := 0) (j := 12) C (by decide) rfl rfl inX3 (by decide) rfl wd_112 dX3_load_84 ?_
        refine sh_getR (i := 1) (j := 12 + 5) C sb12 (by decide) rfl wd_32 dX3_load_87 ?_
        refine v_iconst (v := 3) C dX3_load_90 (by decide) ?_
        refine sh_trS C 3 sb12 rfl (by decide) dX3_load_91 ?_
        refine v_iload C 3 dX3_load_92 rfl ?_
        refine v_iload C 4 dX3_load_94 rfl ?_
        refine c_ast (k := 12 + (6 + 3)) C hL (by decide) (tb_tr sb12 (r := 3) (by decide)) dX3_load_96 hf (fun κ9 hf => ?_)
        refine v_iinc (q := 3) (v := v4 + 1) (lv' := [(0, .ref (ad B 0)), (1, .int v1), (3, .int v3), (4, .int (v4 + 1)), (5, .int a5)]) C [1, 2, 3, 0, 4] dX3_load_97 rfl rfl (by decide) rfl ?_
        refine v_goto (tgt := 42) C dX3_load_100 (by decide) ?_
        refine v_sub [0, 1, 2, 3] rfl ?_
        exact ih κ9 (v4 + 1) hf
      · refine v_iload C 3 dX3_load_80 rfl ?_
        exact v_iret C dX3_load_82 (fin_im hf hQ)
def fX3_load (N : Nat) (κ : St2) (v1 : Int32) : Option (Int32 × St2) := (fX0_findingOf κ v1).bind fun y1 => if y1 = 0 then ((rd (κ 11) 4 v1).bind fun a2 => (some (imin a2 (κ 12 3))).bind fun w3 => fX3_load_42 N v1 w3 N κ 0) else ((fX3_tell κ y1).bind fun y11 => some (y11.1, y11.2))
set_option maxHeartbeats 4000000 in
set_option maxRecDepth 100000 in
theorem tX3_load {E : EE} {B : BB} {l : Launch} {L : St2 → St2} {N : Nat} {κ : St2} {v1 : Int32} {res : (Int32 × St2)} (C : Cx E B l cX3_load RX3 (some .int) 6 3 63) (hL : LnC L) (hQ : Fin9 E B (some (.int res.1)) (L res.2)) (hf : fX3_load N κ v1 = some res) : V E B (L κ) 0 [(0, .ref (ad B 0)), (1, .int v1)] [] := by
  unfold fX3_load at hf
  refine v_aload_n C 0 dX3_load_0 rfl rfl ?_
  refine g_getR (K := 0) (i := 5) (j := 4) C (by decide) rfl rfl inX3 (by decide) rfl wd_117 dX3_load_1 ?_
  refine v_iload_n C 1 dX3_load_4 rfl rfl ?_
  obtain ⟨y1, hy1, hf⟩ := bnd hf
  refine v_callV (r := some (.int y1)) (As := [.int v1]) (rest := []) (K := 4) C (mX0_findingOf hL hy1) cw_X0_findingOf wd_387 (by decide) rfl rfl ⟨Nat.le_of_ble_eq_true rfl, Nat.le_of_ble_eq_true rfl⟩ rfl rfl (Nat.le_of_ble_eq_true rfl) dX3_load_5 ?_
  refine v_istore_n (lv' := [(0, .ref (ad B 0)), (1, .int v1), (2, .int y1)]) C [1, 2, 0] dX3_load_8 rfl (by decide) rfl ?_
  refine v_iload_n C 2 dX3_load_9 rfl rfl ?_
  refine v_if_eq (tgt := 19) C dX3_load_10 (by decide) hf (fun hf => ?_) (fun hf => ?_)
  · refine v_aload_n C 0 dX3_load_19 rfl rfl ?_
    refine g_getR (K := 0) (i := 5) (j := 4) C (by decide) rfl rfl inX3 (by decide) rfl wd_117 dX3_load_20 ?_
    refine g_getR (K := 4) (i := 2) (j := 11) C (by decide) rfl rfl inX0 (by decide) rfl wd_104 dX3_load_23 ?_
    refine v_iload_n C 1 dX3_load_26 rfl rfl ?_
    refine c_ald (k := 11) C hL (by decide) rfl dX3_load_27 hf (fun a2 hf => ?_)
    refine v_aload_n C 0 dX3_load_28 rfl rfl ?_
    refine g_getR (K := 0) (i := 0) (j := 12) C (by decide) rfl rfl inX3 (by decide) rfl wd_112 dX3_load_29 ?_
    refine shC_getI (i := 3) C sb12 hL (by decide) rfl wd_38 dX3_load_32 ?_
    refine w_mmin C wd_409 (by decide) (Nat.le_of_ble_eq_true rfl) dX3_load_35 ?_
    refine v_top hf (fun w3 hf => ?_)
    refine v_istore_n (lv' := [(0, .ref (ad B 0)), (1, .int v1), (2, .int y1), (3, .int w3)]) C [1, 2, 3, 0] dX3_load_38 rfl (by decide) rfl ?_
    refine v_iconst (v := 0) C dX3_load_39 (by decide) ?_
    refine v_istore (lv' := [(0, .ref (ad B 0)), (1, .int v1), (2, .int y1), (3, .int w3), (4, .int 0)]) C [1, 2, 3, 4, 0] dX3_load_40 (by decide) rfl ?_
    refine v_sub [0, 1, 3, 4] rfl ?_
    exact tX3_load_42 C hL hQ N κ 0 hf
  · refine v_aload_n C 0 dX3_load_13 rfl rfl ?_
    refine v_iload_n C 2 dX3_load_14 rfl rfl ?_
    obtain ⟨y11, hy11, hf⟩ := bnd hf
    refine v_callV (r := some (.int y11.1)) (As := [.int y1]) (rest := []) (K := 0) C (mX3_tell hL hy11) cw_X3_tell wd_145 (by decide) rfl rfl ⟨Nat.le_of_ble_eq_true rfl, Nat.le_of_ble_eq_true rfl⟩ rfl rfl (Nat.le_of_ble_eq_true rfl) dX3_load_15 ?_
    exact v_iret C dX3_load_18 (fin_im hf hQ)
theorem mX3_load {B : BB} {l : Launch} {L : St2 → St2} {N : Nat} {κ : St2} {v1 : Int32} {res : (Int32 × St2)} (hL : LnC L) (hf : fX3_load N κ v1 = some res) : Ret l B yX3_load cX3_load 6 (some .int) 3 63 [.ref (ad B 0), .int v1] (L κ) (some (.int res.1)) (L res.2) := ret_of (own := RX3) (by decide) rfl (Nat.le_of_ble_eq_true rfl) (fun E C hQ => tX3_load C hL hQ hf)
def fX3_judge_21 (N : Nat) (κ : St2) (v1 : Int32) : Nat → Int32 → Option (Int32 × St2)
  | 0, _ => none
  | n + 1, v3 => (rd (κ 11) 4 v1).bind fun a2 => if a2 ≤ v3 then (some (0, κ)) else ((fX3_isCell v3).bind fun y3 => if y3 = 0 then (some ((1 + v3), κ)) else ((ck v1 4).bind fun r4 => (rd (κ (6 + r4)) 40 v3).bind fun a5 => (rd (κ (12 + (2 + 0))) 24 v3).bind fun a6 => if a5 = a6 then ((fX3_judge_21 N κ v1 n) (v3 + 1)) else (some ((1 + v3), κ))))
set_option maxHeartbeats 4000000 in
set_option maxRecDepth 100000 in
theorem tX3_judge_21 {E : EE} {B : BB} {l : Launch} {L : St2 → St2} {N : Nat} {κ : St2} {v1 : Int32} {res : (Int32 × St2)} (C : Cx E B l cX3_judge RX3 (some .int) 4 3 63) (hL : LnC L) (hQ : Fin9 E B (some (.int res.1)) (L res.2)) : ∀ (n : Nat) (v3 : Int32), fX3_judge_21 N κ v1 n v3 = some res → V E B (L κ) 21 [(0, .ref (ad B 0)), (1, .int v1), (3, .int v3)] [] := by
  intro n
  induction n with
  | zero =>
    intro v3 hf
    cases hf
  | succ n ih =>
    intro v3 hf
    rw [fX3_judge_21] at hf
    refine v_iload_n C 2 dX3_judge_21 rfl rfl ?_
    refine v_aload_n C 0 dX3_judge_22 rfl rfl ?_
    refine g_getR (K := 0) (i := 5) (j := 4) C (by decide) rfl rfl inX3 (by decide) rfl wd_117 dX3_judge_23 ?_
    refine g_getR (K := 4) (i := 2) (j := 11) C (by decide) rfl rfl inX0 (by decide) rfl wd_104 dX3_judge_26 ?_
    refine v_iload_n C 1 dX3_judge_29 rfl rfl ?_
    refine c_ald (k := 11) C hL (by decide) rfl dX3_judge_30 hf (fun a2 hf => ?_)
    refine v_icmp_ge (tgt := 76) C dX3_judge_31 (by decide) hf (fun hf => ?_) (fun hf => ?_)
    · refine v_iconst (v := 0) C dX3_judge_76 (by decide) ?_
      exact v_iret C dX3_judge_77 (fin_im hf hQ)
    · refine v_iload_n C 2 dX3_judge_34 rfl rfl ?_
      obtain ⟨y3, hy3, hf⟩ := bnd hf
      refine v_callS (r := some (.int y3)) (As := [.int v3]) (rest := []) C (mX3_isCell  hy3) cw_X3_isCell wd_138 ⟨Nat.le_of_ble_eq_true rfl, Nat.le_of_ble_eq_true rfl⟩ rfl rfl (Nat.le_of_ble_eq_true rfl) dX3_judge_35 ?_
      refine v_if_eq (tgt := 66) C dX3_judge_38 (by decide) hf (fun hf => ?_) (fun hf => ?_)
      · refine v_iconst (v := 1) C dX3_judge_66 (by decide) ?_
        refine v_iload_n C 2 dX3_judge_67 rfl rfl ?_
        refine v_iadd C dX3_judge_68 ?_
        exact v_iret C dX3_judge_69 (fin_im hf hQ)
      · refine v_aload_n C 0 dX3_judge_41 rfl rfl ?_
        refine g_getR (K := 0) (i := 5) (j := 4) C (by decide) rfl rfl inX3 (by decide) rfl wd_117 dX3_judge_42 ?_
        refine g_getR (K := 4) (i := 0) (j := 5) C (by decide) rfl rfl inX0 (by decide) rfl wd_100 dX3_judge_45 ?_
        refine v_iload_n C 1 dX3_judge_48 rfl rfl ?_
        refine g_rowD (K := 5) (j := 6) C (by decide) rfl dX3_judge_49 hf (fun r4 hr4 hf => ?_)
        refine v_iload_n C 2 dX3_judge_50 rfl rfl ?_
        refine c_ald (k := 6 + r4) C hL (by omega) (tb_nr hr4) dX3_judge_51 hf (fun a5 hf => ?_)
        refine v_aload_n C 0 dX3_judge_52 rfl rfl ?_
        refine g_getR (K := 0) (i := 0) (j := 12) C (by decide) rfl rfl inX3 (by decide) rfl wd_112 dX3_judge_53 ?_
        refine sh_getR (i := 0) (j := 12 + 1) C sb12 (by decide) rfl wd_30 dX3_judge_56 ?_
        refine v_iconst (v := 0) C dX3_judge_59 (by decide) ?_
        refine sh_prS C 0 sb12 rfl (by decide) dX3_judge_60 ?_
        refine v_iload_n C 2 dX3_judge_61 rfl rfl ?_
        refine c_ald (k := 12 + (2 + 0)) C hL (by decide) (tb_pr sb12 (r := 0) (by decide)) dX3_judge_62 hf (fun a6 hf => ?_)
        refine v_icmp_eq (tgt := 70) C dX3_judge_63 (by decide) hf (fun hf => ?_) (fun hf => ?_)
        · refine v_iinc (q := 2) (v := v3 + 1) (lv' := [(0, .ref (ad B 0)), (1, .int v1), (3, .int (v3 + 1))]) C [1, 2, 0] dX3_judge_70 rfl rfl (by decide) rfl ?_
          refine v_goto (tgt := 21) C dX3_judge_73 (by decide) ?_
          exact ih (v3 + 1) hf
        · refine v_iconst (v := 1) C dX3_judge_66 (by decide) ?_
          refine v_iload_n C 2 dX3_judge_67 rfl rfl ?_
          refine v_iadd C dX3_judge_68 ?_
          exact v_iret C dX3_judge_69 (fin_im hf hQ)
def fX3_judge (N : Nat) (κ : St2) (v1 : Int32) : Option (Int32 × St2) := (fX0_findingOf κ v1).bind fun y1 => if y1 = 0 then (fX3_judge_21 N κ v1 N 0) else ((fX3_tell κ y1).bind fun y8 => some (y8.1, y8.2))
set_option maxHeartbeats 4000000 in
set_option maxRecDepth 100000 in
theorem tX3_judge {E : EE} {B : BB} {l : Launch} {L : St2 → St2} {N : Nat} {κ : St2} {v1 : Int32} {res : (Int32 × St2)} (C : Cx E B l cX3_judge RX3 (some .int) 4 3 63) (hL : LnC L) (hQ : Fin9 E B (some (.int res.1)) (L res.2)) (hf : fX3_judge N κ v1 = some res) : V E B (L κ) 0 [(0, .ref (ad B 0)), (1, .int v1)] [] := by
  unfold fX3_judge at hf
  refine v_aload_n C 0 dX3_judge_0 rfl rfl ?_
  refine g_getR (K := 0) (i := 5) (j := 4) C (by decide) rfl rfl inX3 (by decide) rfl wd_117 dX3_judge_1 ?_
  refine v_iload_n C 1 dX3_judge_4 rfl rfl ?_
  obtain ⟨y1, hy1, hf⟩ := bnd hf
  refine v_callV (r := some (.int y1)) (As := [.int v1]) (rest := []) (K := 4) C (mX0_findingOf hL hy1) cw_X0_findingOf wd_387 (by decide) rfl rfl ⟨Nat.le_of_ble_eq_true rfl, Nat.le_of_ble_eq_true rfl⟩ rfl rfl (Nat.le_of_ble_eq_true rfl) dX3_judge_5 ?_
  refine v_istore_n (lv' := [(0, .ref (ad B 0)), (1, .int v1), (2, .int y1)]) C [1, 2, 0] dX3_judge_8 rfl (by decide) rfl ?_
  refine v_iload_n C 2 dX3_judge_9 rfl rfl ?_
  refine v_if_eq (tgt := 19) C dX3_judge_10 (by decide) hf (fun hf => ?_) (fun hf => ?_)
  · refine v_iconst (v := 0) C dX3_judge_19 (by decide) ?_
    refine v_istore_n (lv' := [(0, .ref (ad B 0)), (1, .int v1), (2, .int y1), (3, .int 0)]) C [1, 2, 3, 0] dX3_judge_20 rfl (by decide) rfl ?_
    refine v_sub [0, 1, 3] rfl ?_
    exact tX3_judge_21 C hL hQ N 0 hf
  · refine v_aload_n C 0 dX3_judge_13 rfl rfl ?_
    refine v_iload_n C 2 dX3_judge_14 rfl rfl ?_
    obtain ⟨y8, hy8, hf⟩ := bnd hf
    refine v_callV (r := some (.int y8.1)) (As := [.int y1]) (rest := []) (K := 0) C (mX3_tell hL hy8) cw_X3_tell wd_145 (by decide) rfl rfl ⟨Nat.le_of_ble_eq_true rfl, Nat.le_of_ble_eq_true rfl⟩ rfl rfl (Nat.le_of_ble_eq_true rfl) dX3_judge_15 ?_
    exact v_iret C dX3_judge_18 (fin_im hf hQ)
theorem mX3_judge {B : BB} {l : Launch} {L : St2 → St2} {N : Nat} {κ : St2} {v1 : Int32} {res : (Int32 × St2)} (hL : LnC L) (hf : fX3_judge N κ v1 = some res) : Ret l B yX3_judge cX3_judge 4 (some .int) 3 63 [.ref (ad B 0), .int v1] (L κ) (some (.int res.1)) (L res.2) := ret_of (own := RX3) (by decide) rfl (Nat.le_of_ble_eq_true rfl) (fun E C hQ => tX3_judge C hL hQ hf)
def fX3_image (N : Nat) (κ : St2) : Option (Int32 × St2) := (fX1_become N 38 12 κ).bind fun y1 => (pfz y1 0 3 1).bind fun κ2 => some (1, κ2)
set_option maxHeartbeats 4000000 in
set_option maxRecDepth 100000 in
theorem tX3_image {E : EE} {B : BB} {l : Launch} {L : St2 → St2} {N : Nat} {κ : St2} {res : (Int32 × St2)} (C : Cx E B l cX3_image RX3 (some .int) 1 2 48) (hL : LnC L) (hQ : Fin9 E B (some (.int res.1)) (L res.2)) (hf : fX3_image N κ = some res) : V E B (L κ) 0 [(0, .ref (ad B 0))] [] := by
  unfold fX3_image at hf
  refine v_aload_n C 0 dX3_image_0 rfl rfl ?_
  refine g_getR (K := 0) (i := 2) (j := 38) C (by decide) rfl rfl inX3 (by decide) rfl wd_114 dX3_image_1 ?_
  refine v_aload_n C 0 dX3_image_4 rfl rfl ?_
  refine g_getR (K := 0) (i := 0) (j := 12) C (by decide) rfl rfl inX3 (by decide) rfl wd_112 dX3_image_5 ?_
  obtain ⟨y1, hy1, hf⟩ := bnd hf
  refine v_callV (r := none) (As := [.ref (ad B 12)]) (rest := []) (K := 38) C (mX1_become hL sb38 sb12 hy1) cw_X1_become wd_307 (by decide) (tb_o sb38) rfl ⟨Nat.le_of_ble_eq_true rfl, Nat.le_of_ble_eq_true rfl⟩ rfl rfl (Nat.le_of_ble_eq_true rfl) dX3_image_8 ?_
  refine v_aload_n C 0 dX3_image_11 rfl rfl ?_
  refine v_iconst (v := 1) C dX3_image_12 (by decide) ?_
  refine c_putZ (k := 0) (i := 3) C hL (by decide) rfl rfl inX3 tyX3 tyX3_ok nmX3 (by decide) rfl wd_115 rfl (by decide +kernel) dX3_image_13 hf (fun κ2 hf => ?_)
  refine v_iconst (v := 1) C dX3_image_16 (by decide) ?_
  exact v_iret C dX3_image_17 (fin_im hf hQ)
theorem mX3_image {B : BB} {l : Launch} {L : St2 → St2} {N : Nat} {κ : St2} {res : (Int32 × St2)} (hL : LnC L) (hf : fX3_image N κ = some res) : Ret l B yX3_image cX3_image 1 (some .int) 2 48 [.ref (ad B 0)] (L κ) (some (.int res.1)) (L res.2) := ret_of (own := RX3) (by decide) rfl (Nat.le_of_ble_eq_true rfl) (fun E C hQ => tX3_image C hL hQ hf)
def fX3_undo (N : Nat) (κ : St2) : Option (Int32 × St2) := if (κ 0 3) = 0 then ((fX3_tell κ (-1000004)).bind fun y2 => some (y2.1, y2.2)) else ((fX1_become N 12 38 κ).bind fun y1 => some ((y1 12 6), y1))
set_option maxHeartbeats 4000000 in
set_option maxRecDepth 100000 in
theorem tX3_undo {E : EE} {B : BB} {l : Launch} {L : St2 → St2} {N : Nat} {κ : St2} {res : (Int32 × St2)} (C : Cx E B l cX3_undo RX3 (some .int) 1 2 48) (hL : LnC L) (hQ : Fin9 E B (some (.int res.1)) (L res.2)) (hf : fX3_undo N κ = some res) : V E B (L κ) 0 [(0, .ref (ad B 0))] [] := by
  unfold fX3_undo at hf
  refine v_aload_n C 0 dX3_undo_0 rfl rfl ?_
  refine c_getI (k := 0) (i := 3) C hL (by decide) rfl rfl inX3 (by decide) rfl wd_115 dX3_undo_1 ?_
  refine v_if_ne (tgt := 14) C dX3_undo_4 (by decide) hf (fun hf => ?_) (fun hf => ?_)
  · refine v_aload_n C 0 dX3_undo_14 rfl rfl ?_
    refine g_getR (K := 0) (i := 0) (j := 12) C (by decide) rfl rfl inX3 (by decide) rfl wd_112 dX3_undo_15 ?_
    refine v_aload_n C 0 dX3_undo_18 rfl rfl ?_
    refine g_getR (K := 0) (i := 2) (j := 38) C (by decide) rfl rfl inX3 (by decide) rfl wd_114 dX3_undo_19 ?_
    obtain ⟨y1, hy1, hf⟩ := bnd hf
    refine v_callV (r := none) (As := [.ref (ad B 38)]) (rest := []) (K := 12) C (mX1_become hL sb12 sb38 hy1) cw_X1_become wd_307 (by decide) (tb_o sb12) rfl ⟨Nat.le_of_ble_eq_true rfl, Nat.le_of_ble_eq_true rfl⟩ rfl rfl (Nat.le_of_ble_eq_true rfl) dX3_undo_22 ?_
    refine v_aload_n C 0 dX3_undo_25 rfl rfl ?_
    refine g_getR (K := 0) (i := 0) (j := 12) C (by decide) rfl rfl inX3 (by decide) rfl wd_112 dX3_undo_26 ?_
    refine shC_getI (i := 6) C sb12 hL (by decide) rfl wd_45 dX3_undo_29 ?_
    exact v_iret C dX3_undo_32 (fin_im hf hQ)
  · refine v_aload_n C 0 dX3_undo_7 rfl rfl ?_
    refine v_ldc C wd_328 dX3_undo_8 ?_
    obtain ⟨y2, hy2, hf⟩ := bnd hf
    refine v_callV (r := some (.int y2.1)) (As := [.int (-1000004)]) (rest := []) (K := 0) C (mX3_tell hL hy2) cw_X3_tell wd_145 (by decide) rfl rfl ⟨Nat.le_of_ble_eq_true rfl, Nat.le_of_ble_eq_true rfl⟩ rfl rfl (Nat.le_of_ble_eq_true rfl) dX3_undo_10 ?_
    exact v_iret C dX3_undo_13 (fin_im hf hQ)
theorem mX3_undo {B : BB} {l : Launch} {L : St2 → St2} {N : Nat} {κ : St2} {res : (Int32 × St2)} (hL : LnC L) (hf : fX3_undo N κ = some res) : Ret l B yX3_undo cX3_undo 1 (some .int) 2 48 [.ref (ad B 0)] (L κ) (some (.int res.1)) (L res.2) := ret_of (own := RX3) (by decide) rfl (Nat.le_of_ble_eq_true rfl) (fun E C hQ => tX3_undo C hL hQ hf)
def fX3_tear (κ : St2) : Option (Int32 × St2) := if (κ 0 3) = 0 then ((pfz κ 0 3 0).bind fun κ1 => some (0, κ1)) else ((pfz κ 0 3 0).bind fun κ2 => some (1, κ2))
set_option maxHeartbeats 4000000 in
set_option maxRecDepth 100000 in
theorem tX3_tear {E : EE} {B : BB} {l : Launch} {L : St2 → St2} {κ : St2} {res : (Int32 × St2)} (C : Cx E B l cX3_tear RX3 (some .int) 2 0 0) (hL : LnC L) (hQ : Fin9 E B (some (.int res.1)) (L res.2)) (hf : fX3_tear κ = some res) : V E B (L κ) 0 [(0, .ref (ad B 0))] [] := by
  unfold fX3_tear at hf
  refine v_aload_n C 0 dX3_tear_0 rfl rfl ?_
  refine c_getI (k := 0) (i := 3) C hL (by decide) rfl rfl inX3 (by decide) rfl wd_115 dX3_tear_1 ?_
  refine v_if_eq (tgt := 11) C dX3_tear_4 (by decide) hf (fun hf => ?_) (fun hf => ?_)
  · refine v_iconst (v := 0) C dX3_tear_11 (by decide) ?_
    refine v_istore_n (lv' := [(0, .ref (ad B 0)), (1, .int 0)]) C [1, 0] dX3_tear_12 rfl (by decide) rfl ?_
    refine v_aload_n C 0 dX3_tear_13 rfl rfl ?_
    refine v_iconst (v := 0) C dX3_tear_14 (by decide) ?_
    refine c_putZ (k := 0) (i := 3) C hL (by decide) rfl rfl inX3 tyX3 tyX3_ok nmX3 (by decide) rfl wd_115 rfl (by decide +kernel) dX3_tear_15 hf (fun κ1 hf => ?_)
    refine v_iload_n C 1 dX3_tear_18 rfl rfl ?_
    exact v_iret C dX3_tear_19 (fin_im hf hQ)
  · refine v_iconst (v := 1) C dX3_tear_7 (by decide) ?_
    refine v_goto (tgt := 12) C dX3_tear_8 (by decide) ?_
    refine v_istore_n (lv' := [(0, .ref (ad B 0)), (1, .int 1)]) C [1, 0] dX3_tear_12 rfl (by decide) rfl ?_
    refine v_aload_n C 0 dX3_tear_13 rfl rfl ?_
    refine v_iconst (v := 0) C dX3_tear_14 (by decide) ?_
    refine c_putZ (k := 0) (i := 3) C hL (by decide) rfl rfl inX3 tyX3 tyX3_ok nmX3 (by decide) rfl wd_115 rfl (by decide +kernel) dX3_tear_15 hf (fun κ2 hf => ?_)
    refine v_iload_n C 1 dX3_tear_18 rfl rfl ?_
    exact v_iret C dX3_tear_19 (fin_im hf hQ)
theorem mX3_tear {B : BB} {l : Launch} {L : St2 → St2} {κ : St2} {res : (Int32 × St2)} (hL : LnC L) (hf : fX3_tear κ = some res) : Ret l B yX3_tear cX3_tear 2 (some .int) 0 0 [.ref (ad B 0)] (L κ) (some (.int res.1)) (L res.2) := ret_of (own := RX3) (by decide) rfl (Nat.le_of_ble_eq_true rfl) (fun E C hQ => tX3_tear C hL hQ hf)
def fX3_count (N : Nat) (κ : St2) (v1 : Int32) : Option (Int32 × St2) := if v1 = 0 then (some ((κ 12 6), κ)) else (if v1 = 1 then (some ((κ 12 3), κ)) else (if v1 = 2 then ((fX1_printCount N (vw κ 12)).bind fun y1 => some (y1, κ)) else (if v1 = 3 then (some ((κ 12 5), κ)) else (if v1 = 4 then ((fX1_stepSum N (vw κ 12)).bind fun y2 => some (y2, κ)) else (if v1 = 5 then (some ((κ 2 1), κ)) else (if v1 = 6 then (some ((κ 12 7), κ)) else (if v1 = 7 then ((fX1_heldCount N (vw κ 12)).bind fun y3 => some (y3, κ)) else ((fX3_tell κ (-1000001)).bind fun y4 => some (y4.1, y4.2)))))))))
set_option maxHeartbeats 4000000 in
set_option maxRecDepth 100000 in
theorem tX3_count {E : EE} {B : BB} {l : Launch} {L : St2 → St2} {N : Nat} {κ : St2} {v1 : Int32} {res : (Int32 × St2)} (C : Cx E B l cX3_count RX3 (some .int) 2 3 63) (hL : LnC L) (hQ : Fin9 E B (some (.int res.1)) (L res.2)) (hf : fX3_count N κ v1 = some res) : V E B (L κ) 0 [(0, .ref (ad B 0)), (1, .int v1)] [] := by
  unfold fX3_count at hf
  refine v_iload_n C 1 dX3_count_0 rfl rfl ?_
  by_cases hc1_0 : v1 = 0
  · rw [if_pos hc1_0] at hf
    refine v_tabIn (tgt := 48) C dX3_count_1 hc1_0 (by decide) (by decide) rfl (by decide) ?_
    refine v_aload_n C 0 dX3_count_48 rfl rfl ?_
    refine g_getR (K := 0) (i := 0) (j := 12) C (by decide) rfl rfl inX3 (by decide) rfl wd_112 dX3_count_49 ?_
    refine shC_getI (i := 6) C sb12 hL (by decide) rfl wd_45 dX3_count_52 ?_
    exact v_iret C dX3_count_55 (fin_im hf hQ)
  · rw [if_neg hc1_0] at hf
    by_cases hc1_1 : v1 = 1
    · rw [if_pos hc1_1] at hf
      refine v_tabIn (tgt := 56) C dX3_count_1 hc1_1 (by decide) (by decide) rfl (by decide) ?_
      refine v_aload_n C 0 dX3_count_56 rfl rfl ?_
      refine g_getR (K := 0) (i := 0) (j := 12) C (by decide) rfl rfl inX3 (by decide) rfl wd_112 dX3_count_57 ?_
      refine shC_getI (i := 3) C sb12 hL (by decide) rfl wd_38 dX3_count_60 ?_
      exact v_iret C dX3_count_63 (fin_im hf hQ)
    · rw [if_neg hc1_1] at hf
      by_cases hc1_2 : v1 = 2
      · rw [if_pos hc1_2] at hf
        refine v_tabIn (tgt := 64) C dX3_count_1 hc1_2 (by decide) (by decide) rfl (by decide) ?_
        refine v_aload_n C 0 dX3_count_64 rfl rfl ?_
        refine g_getR (K := 0) (i := 0) (j := 12) C (by decide) rfl rfl inX3 (by decide) rfl wd_112 dX3_count_65 ?_
        obtain ⟨y1, hy1, hf⟩ := bnd hf
        refine v_callV (r := some (.int y1)) (As := []) (rest := []) (K := 12) C (nX1_printCount hL sb12 hy1) cw_X1_printCount wd_258 (by decide) (tb_o sb12) rfl ⟨Nat.le_of_ble_eq_true rfl, Nat.le_of_ble_eq_true rfl⟩ rfl rfl (Nat.le_of_ble_eq_true rfl) dX3_count_68 ?_
        exact v_iret C dX3_count_71 (fin_im hf hQ)
      · rw [if_neg hc1_2] at hf
        by_cases hc1_3 : v1 = 3
        · rw [if_pos hc1_3] at hf
          refine v_tabIn (tgt := 72) C dX3_count_1 hc1_3 (by decide) (by decide) rfl (by decide) ?_
          refine v_aload_n C 0 dX3_count_72 rfl rfl ?_
          refine g_getR (K := 0) (i := 0) (j := 12) C (by decide) rfl rfl inX3 (by decide) rfl wd_112 dX3_count_73 ?_
          refine shC_getI (i := 5) C sb12 hL (by decide) rfl wd_43 dX3_count_76 ?_
          exact v_iret C dX3_count_79 (fin_im hf hQ)
        · rw [if_neg hc1_3] at hf
          by_cases hc1_4 : v1 = 4
          · rw [if_pos hc1_4] at hf
            refine v_tabIn (tgt := 80) C dX3_count_1 hc1_4 (by decide) (by decide) rfl (by decide) ?_
            refine v_aload_n C 0 dX3_count_80 rfl rfl ?_
            refine g_getR (K := 0) (i := 0) (j := 12) C (by decide) rfl rfl inX3 (by decide) rfl wd_112 dX3_count_81 ?_
            obtain ⟨y2, hy2, hf⟩ := bnd hf
            refine v_callV (r := some (.int y2)) (As := []) (rest := []) (K := 12) C (nX1_stepSum hL sb12 hy2) cw_X1_stepSum wd_291 (by decide) (tb_o sb12) rfl ⟨Nat.le_of_ble_eq_true rfl, Nat.le_of_ble_eq_true rfl⟩ rfl rfl (Nat.le_of_ble_eq_true rfl) dX3_count_84 ?_
            exact v_iret C dX3_count_87 (fin_im hf hQ)
          · rw [if_neg hc1_4] at hf
            by_cases hc1_5 : v1 = 5
            · rw [if_pos hc1_5] at hf
              refine v_tabIn (tgt := 88) C dX3_count_1 hc1_5 (by decide) (by decide) rfl (by decide) ?_
              refine v_aload_n C 0 dX3_count_88 rfl rfl ?_
              refine g_getR (K := 0) (i := 4) (j := 2) C (by decide) rfl rfl inX3 (by decide) rfl wd_116 dX3_count_89 ?_
              refine c_getI (k := 2) (i := 1) C hL (by decide) rfl rfl inX2 (by decide) rfl wd_74 dX3_count_92 ?_
              exact v_iret C dX3_count_95 (fin_im hf hQ)
            · rw [if_neg hc1_5] at hf
              by_cases hc1_6 : v1 = 6
              · rw [if_pos hc1_6] at hf
                refine v_tabIn (tgt := 96) C dX3_count_1 hc1_6 (by decide) (by decide) rfl (by decide) ?_
                refine v_aload_n C 0 dX3_count_96 rfl rfl ?_
                refine g_getR (K := 0) (i := 0) (j := 12) C (by decide) rfl rfl inX3 (by decide) rfl wd_112 dX3_count_97 ?_
                refine shC_getI (i := 7) C sb12 hL (by decide) rfl wd_47 dX3_count_100 ?_
                exact v_iret C dX3_count_103 (fin_im hf hQ)
              · rw [if_neg hc1_6] at hf
                by_cases hc1_7 : v1 = 7
                · rw [if_pos hc1_7] at hf
                  refine v_tabIn (tgt := 104) C dX3_count_1 hc1_7 (by decide) (by decide) rfl (by decide) ?_
                  refine v_aload_n C 0 dX3_count_104 rfl rfl ?_
                  refine g_getR (K := 0) (i := 0) (j := 12) C (by decide) rfl rfl inX3 (by decide) rfl wd_112 dX3_count_105 ?_
                  obtain ⟨y3, hy3, hf⟩ := bnd hf
                  refine v_callV (r := some (.int y3)) (As := []) (rest := []) (K := 12) C (nX1_heldCount hL sb12 hy3) cw_X1_heldCount wd_653 (by decide) (tb_o sb12) rfl ⟨Nat.le_of_ble_eq_true rfl, Nat.le_of_ble_eq_true rfl⟩ rfl rfl (Nat.le_of_ble_eq_true rfl) dX3_count_108 ?_
                  exact v_iret C dX3_count_111 (fin_im hf hQ)
                · rw [if_neg hc1_7] at hf
                  have e1_0 : v1.toInt ≠ 0 := ne_ti (y := 0) hc1_0
                  have e1_1 : v1.toInt ≠ 1 := ne_ti (y := 1) hc1_1
                  have e1_2 : v1.toInt ≠ 2 := ne_ti (y := 2) hc1_2
                  have e1_3 : v1.toInt ≠ 3 := ne_ti (y := 3) hc1_3
                  have e1_4 : v1.toInt ≠ 4 := ne_ti (y := 4) hc1_4
                  have e1_5 : v1.toInt ≠ 5 := ne_ti (y := 5) hc1_5
                  have e1_6 : v1.toInt ≠ 6 := ne_ti (y := 6) hc1_6
                  have e1_7 : v1.toInt ≠ 7 := ne_ti (y := 7) hc1_7
                  refine v_tabOut (tgt := 112) C dX3_count_1 (by omega) (by decide) ?_
                  refine v_aload_n C 0 dX3_count_112 rfl rfl ?_
                  refine v_ldc C wd_144 dX3_count_113 ?_
                  obtain ⟨y4, hy4, hf⟩ := bnd hf
                  refine v_callV (r := some (.int y4.1)) (As := [.int (-1000001)]) (rest := []) (K := 0) C (mX3_tell hL hy4) cw_X3_tell wd_145 (by decide) rfl rfl ⟨Nat.le_of_ble_eq_true rfl, Nat.le_of_ble_eq_true rfl⟩ rfl rfl (Nat.le_of_ble_eq_true rfl) dX3_count_115 ?_
                  exact v_iret C dX3_count_118 (fin_im hf hQ)
theorem mX3_count {B : BB} {l : Launch} {L : St2 → St2} {N : Nat} {κ : St2} {v1 : Int32} {res : (Int32 × St2)} (hL : LnC L) (hf : fX3_count N κ v1 = some res) : Ret l B yX3_count cX3_count 2 (some .int) 3 63 [.ref (ad B 0), .int v1] (L κ) (some (.int res.1)) (L res.2) := ret_of (own := RX3) (by decide) rfl (Nat.le_of_ble_eq_true rfl) (fun E C hQ => tX3_count C hL hQ hf)
def fX3_status_32 (N : Nat) (κ : St2) : Nat → Int32 → Int32 → Option (Int32 × St2)
  | 0, _, _ => none
  | n + 1, v2, v3 => if 7 ≤ v3 then (some (v2, κ)) else ((rd (κ 1) 7 v3).bind fun a2 => (some (v2 + a2)).bind fun w3 => (fX3_status_32 N κ n) w3 (v3 + 1))
set_option maxHeartbeats 4000000 in
set_option maxRecDepth 100000 in
theorem tX3_status_32 {E : EE} {B : BB} {l : Launch} {L : St2 → St2} {N : Nat} {κ : St2} {res : (Int32 × St2)} (C : Cx E B l cX3_status RX3 (some .int) 4 2 44) (hL : LnC L) (hQ : Fin9 E B (some (.int res.1)) (L res.2)) : ∀ (n : Nat) (v2 : Int32) (v3 : Int32), fX3_status_32 N κ n v2 v3 = some res → V E B (L κ) 32 [(0, .ref (ad B 0)), (2, .int v2), (3, .int v3)] [] := by
  intro n
  induction n with
  | zero =>
    intro v2 v3 hf
    cases hf
  | succ n ih =>
    intro v2 v3 hf
    rw [fX3_status_32] at hf
    refine v_iload_n C 2 dX3_status_32 rfl rfl ?_
    refine v_bipush (v := 7) C dX3_status_33 (by decide) ?_
    refine v_icmp_ge (tgt := 53) C dX3_status_35 (by decide) hf (fun hf => ?_) (fun hf => ?_)
    · refine v_iload_n C 1 dX3_status_53 rfl rfl ?_
      exact v_iret C dX3_status_54 (fin_im hf hQ)
    · refine v_iload_n C 1 dX3_status_38 rfl rfl ?_
      refine v_aload_n C 0 dX3_status_39 rfl rfl ?_
      refine g_getR (K := 0) (i := 6) (j := 1) C (by decide) rfl rfl inX3 (by decide) rfl wd_118 dX3_status_40 ?_
      refine v_iload_n C 2 dX3_status_43 rfl rfl ?_
      refine c_ald (k := 1) C hL (by decide) rfl dX3_status_44 hf (fun a2 hf => ?_)
      refine v_iadd C dX3_status_45 ?_
      refine v_top hf (fun w3 hf => ?_)
      refine v_istore_n (lv' := [(0, .ref (ad B 0)), (2, .int w3), (3, .int v3)]) C [1, 0, 2] dX3_status_46 rfl (by decide) rfl ?_
      refine v_iinc (q := 2) (v := v3 + 1) (lv' := [(0, .ref (ad B 0)), (2, .int w3), (3, .int (v3 + 1))]) C [1, 2, 0] dX3_status_47 rfl rfl (by decide) rfl ?_
      refine v_goto (tgt := 32) C dX3_status_50 (by decide) ?_
      exact ih w3 (v3 + 1) hf
def fX3_status (N : Nat) (κ : St2) (v1 : Int32) : Option (Int32 × St2) := (fX3_within v1 (-1) 6).bind fun y1 => if y1 = 0 then ((fX3_tell κ (-1000001)).bind fun y6 => some (y6.1, y6.2)) else (if v1 < 0 then (fX3_status_32 N κ N 0 0) else ((rd (κ 1) 7 v1).bind fun a5 => some (a5, κ)))
set_option maxHeartbeats 4000000 in
set_option maxRecDepth 100000 in
theorem tX3_status {E : EE} {B : BB} {l : Launch} {L : St2 → St2} {N : Nat} {κ : St2} {v1 : Int32} {res : (Int32 × St2)} (C : Cx E B l cX3_status RX3 (some .int) 4 2 44) (hL : LnC L) (hQ : Fin9 E B (some (.int res.1)) (L res.2)) (hf : fX3_status N κ v1 = some res) : V E B (L κ) 0 [(0, .ref (ad B 0)), (1, .int v1)] [] := by
  unfold fX3_status at hf
  refine v_iload_n C 1 dX3_status_0 rfl rfl ?_
  refine v_iconst (v := (-1)) C dX3_status_1 (by decide) ?_
  refine v_bipush (v := 6) C dX3_status_2 (by decide) ?_
  obtain ⟨y1, hy1, hf⟩ := bnd hf
  refine v_callS (r := some (.int y1)) (As := [.int v1, .int (-1), .int 6]) (rest := []) C (mX3_within  hy1) cw_X3_within wd_141 ⟨Nat.le_of_ble_eq_true rfl, Nat.le_of_ble_eq_true rfl⟩ rfl rfl (Nat.le_of_ble_eq_true rfl) dX3_status_4 ?_
  refine v_if_ne (tgt := 17) C dX3_status_7 (by decide) hf (fun hf => ?_) (fun hf => ?_)
  · refine v_iload_n C 1 dX3_status_17 rfl rfl ?_
    refine v_if_lt (tgt := 28) C dX3_status_18 (by decide) hf (fun hf => ?_) (fun hf => ?_)
    · refine v_iconst (v := 0) C dX3_status_28 (by decide) ?_
      refine v_istore_n (lv' := [(0, .ref (ad B 0)), (1, .int v1), (2, .int 0)]) C [1, 2, 0] dX3_status_29 rfl (by decide) rfl ?_
      refine v_iconst (v := 0) C dX3_status_30 (by decide) ?_
      refine v_istore_n (lv' := [(0, .ref (ad B 0)), (1, .int v1), (2, .int 0), (3, .int 0)]) C [1, 2, 3, 0] dX3_status_31 rfl (by decide) rfl ?_
      refine v_sub [0, 2, 3] rfl ?_
      exact tX3_status_32 C hL hQ N 0 0 hf
    · refine v_aload_n C 0 dX3_status_21 rfl rfl ?_
      refine g_getR (K := 0) (i := 6) (j := 1) C (by decide) rfl rfl inX3 (by decide) rfl wd_118 dX3_status_22 ?_
      refine v_iload_n C 1 dX3_status_25 rfl rfl ?_
      refine c_ald (k := 1) C hL (by decide) rfl dX3_status_26 hf (fun a5 hf => ?_)
      exact v_iret C dX3_status_27 (fin_im hf hQ)
  · refine v_aload_n C 0 dX3_status_10 rfl rfl ?_
    refine v_ldc C wd_144 dX3_status_11 ?_
    obtain ⟨y6, hy6, hf⟩ := bnd hf
    refine v_callV (r := some (.int y6.1)) (As := [.int (-1000001)]) (rest := []) (K := 0) C (mX3_tell hL hy6) cw_X3_tell wd_145 (by decide) rfl rfl ⟨Nat.le_of_ble_eq_true rfl, Nat.le_of_ble_eq_true rfl⟩ rfl rfl (Nat.le_of_ble_eq_true rfl) dX3_status_13 ?_
    exact v_iret C dX3_status_16 (fin_im hf hQ)
theorem mX3_status {B : BB} {l : Launch} {L : St2 → St2} {N : Nat} {κ : St2} {v1 : Int32} {res : (Int32 × St2)} (hL : LnC L) (hf : fX3_status N κ v1 = some res) : Ret l B yX3_status cX3_status 4 (some .int) 2 44 [.ref (ad B 0), .int v1] (L κ) (some (.int res.1)) (L res.2) := ret_of (own := RX3) (by decide) rfl (Nat.le_of_ble_eq_true rfl) (fun E C hQ => tX3_status C hL hQ hf)
