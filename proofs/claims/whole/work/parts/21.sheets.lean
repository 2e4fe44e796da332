def fX1_become_34 (N : Nat) (b : Nat) (b2 : Nat) : Nat → St2 → Int32 → Option St2
  | 0, _, _ => none
  | n + 1, κ, v2 => if 6 ≤ v2 then ((cp κ (b2 + 12) 10 (b + 12) 10 0 0 10).bind fun κ1 => (pf κ1 b 3 (κ1 b2 3)).bind fun κ2 => (pf κ2 b 4 (κ2 b2 4)).bind fun κ3 => (pf κ3 b 5 (κ3 b2 5)).bind fun κ4 => (pf κ4 b 6 (κ4 b2 6)).bind fun κ5 => (pf κ5 b 7 (κ5 b2 7)).bind fun κ6 => some κ6) else ((ck v2 6).bind fun r7 => (ck v2 6).bind fun r8 => (cp κ (b2 + (6 + r7)) 8 (b + (6 + r8)) 8 0 0 8).bind fun κ9 => (fX1_become_34 N b b2 n) κ9 (v2 + 1))
set_option maxHeartbeats 4000000 in
set_option maxRecDepth 100000 in
theorem tX1_become_34 {E : EE} {B : BB} {l : Launch} {L : St2 → St2} {N : Nat} {b : Nat} {b2 : Nat} {res : St2} (C : Cx E B l cX1_become RX1 none 3 1 26) (hL : LnC L) (hb : Sb b) (hb2 : Sb b2) (hQ : Fin9 E B none (L res)) : ∀ (n : Nat) (κ : St2) (v2 : Int32), fX1_become_34 N b b2 n κ v2 = some res → V E B (L κ) 34 [(0, .ref (ad B b)), (1, .ref (ad B b2)), (2, .int v2)] [] := by
  intro n
  induction n with
  | zero =>
    intro κ v2 hf
    cases hf
  | succ n ih =>
    intro κ v2 hf
    rw [fX1_become_34] at hf
    refine v_iload_n C 2 dX1_become_34 rfl rfl ?_
    refine v_bipush (v := 6) C dX1_become_35 (by decide) ?_
    refine v_icmp_ge (tgt := 65) C dX1_become_37 (by decide) hf (fun hf => ?_) (fun hf => ?_)
    · refine v_aload_n C 1 dX1_become_65 rfl rfl ?_
      refine sh_getR (i := 2) (j := b2 + 12) C hb2 (by decide) rfl wd_34 dX1_become_66 ?_
      refine v_iconst (v := 0) C dX1_become_69 (by decide) ?_
      refine v_aload_n C 0 dX1_become_70 rfl rfl ?_
      refine sh_getR (i := 2) (j := b + 12) C hb (by decide) rfl wd_34 dX1_become_71 ?_
      refine v_iconst (v := 0) C dX1_become_74 (by decide) ?_
      refine v_bipush (v := 10) C dX1_become_75 (by decide) ?_
      refine c_copy (j := b2 + 12) (k := b + 12) C hL (by have := Sb.le hb2; omega) (by have := Sb.le hb; omega) (tb_sp hb2) (tb_sp hb) wd_311 wac_native wac_static wac_ini (by decide) (Nat.le_of_ble_eq_true rfl) dX1_become_77 hf (fun κ1 hf => ?_)
      refine v_aload_n C 0 dX1_become_80 rfl rfl ?_
      refine v_aload_n C 1 dX1_become_81 rfl rfl ?_
      refine shC_getI (i := 3) C hb2 hL (by decide) rfl wd_36 dX1_become_82 ?_
      refine shC_putI (i := 3) C hb hL (by decide) rfl wd_36 rfl (by decide +kernel) dX1_become_85 hf (fun κ2 hf => ?_)
      refine v_aload_n C 0 dX1_become_88 rfl rfl ?_
      refine v_aload_n C 1 dX1_become_89 rfl rfl ?_
      refine shC_getI (i := 4) C hb2 hL (by decide) rfl wd_39 dX1_become_90 ?_
      refine shC_putI (i := 4) C hb hL (by decide) rfl wd_39 rfl (by decide +kernel) dX1_become_93 hf (fun κ3 hf => ?_)
      refine v_aload_n C 0 dX1_become_96 rfl rfl ?_
      refine v_aload_n C 1 dX1_become_97 rfl rfl ?_
      refine shC_getI (i := 5) C hb2 hL (by decide) rfl wd_42 dX1_become_98 ?_
      refine shC_putI (i := 5) C hb hL (by decide) rfl wd_42 rfl (by decide +kernel) dX1_become_101 hf (fun κ4 hf => ?_)
      refine v_aload_n C 0 dX1_become_104 rfl rfl ?_
      refine v_aload_n C 1 dX1_become_105 rfl rfl ?_
      refine shC_getI (i := 6) C hb2 hL (by decide) rfl wd_44 dX1_become_106 ?_
      refine shC_putI (i := 6) C hb hL (by decide) rfl wd_44 rfl (by decide +kernel) dX1_become_109 hf (fun κ5 hf => ?_)
      refine v_aload_n C 0 dX1_become_112 rfl rfl ?_
      refine v_aload_n C 1 dX1_become_113 rfl rfl ?_
      refine shC_getI (i := 7) C hb2 hL (by decide) rfl wd_46 dX1_become_114 ?_
      refine shC_putI (i := 7) C hb hL (by decide) rfl wd_46 rfl (by decide +kernel) dX1_become_117 hf (fun κ6 hf => ?_)
      exact v_vret C dX1_become_120 (fin_v hf hQ)
    · refine v_aload_n C 1 dX1_become_40 rfl rfl ?_
      refine sh_getR (i := 1) (j := b2 + 5) C hb2 (by decide) rfl wd_31 dX1_become_41 ?_
      refine v_iload_n C 2 dX1_become_44 rfl rfl ?_
      refine sh_trD C hb2 dX1_become_45 hf (fun r7 hr7 hf => ?_)
      refine v_iconst (v := 0) C dX1_become_46 (by decide) ?_
      refine v_aload_n C 0 dX1_become_47 rfl rfl ?_
      refine sh_getR (i := 1) (j := b + 5) C hb (by decide) rfl wd_31 dX1_become_48 ?_
      refine v_iload_n C 2 dX1_become_51 rfl rfl ?_
      refine sh_trD C hb dX1_become_52 hf (fun r8 hr8 hf => ?_)
      refine v_iconst (v := 0) C dX1_become_53 (by decide) ?_
      refine v_bipush (v := 8) C dX1_become_54 (by decide) ?_
      refine c_copy (j := b2 + (6 + r7)) (k := b + (6 + r8)) C hL (by have := Sb.le hb2; omega) (by have := Sb.le hb; omega) (tb_tr hb2 hr7) (tb_tr hb hr8) wd_311 wac_native wac_static wac_ini (by decide) (Nat.le_of_ble_eq_true rfl) dX1_become_56 hf (fun κ9 hf => ?_)
      refine v_iinc (q := 2) (v := v2 + 1) (lv' := [(0, .ref (ad B b)), (1, .ref (ad B b2)), (2, .int (v2 + 1))]) C [1, 2, 0] dX1_become_59 rfl rfl (by decide) rfl ?_
      refine v_goto (tgt := 34) C dX1_become_62 (by decide) ?_
      exact ih κ9 (v2 + 1) hf
def fX1_become_2 (N : Nat) (b : Nat) (b2 : Nat) : Nat → St2 → Int32 → Option St2
  | 0, _, _ => none
  | n + 1, κ, v2 => if 3 ≤ v2 then (fX1_become_34 N b b2 N κ 0) else ((ck v2 3).bind fun r11 => (ck v2 3).bind fun r12 => (cp κ (b2 + (2 + r11)) 24 (b + (2 + r12)) 24 0 0 24).bind fun κ13 => (fX1_become_2 N b b2 n) κ13 (v2 + 1))
set_option maxHeartbeats 4000000 in
set_option maxRecDepth 100000 in
theorem tX1_become_2 {E : EE} {B : BB} {l : Launch} {L : St2 → St2} {N : Nat} {b : Nat} {b2 : Nat} {res : St2} (C : Cx E B l cX1_become RX1 none 3 1 26) (hL : LnC L) (hb : Sb b) (hb2 : Sb b2) (hQ : Fin9 E B none (L res)) : ∀ (n : Nat) (κ : St2) (v2 : Int32), fX1_become_2 N b b2 n κ v2 = some res → V E B (L κ) 2 [(0, .ref (ad B b)), (1, .ref (ad B b2)), (2, .int v2)] [] := by
  intro n
  induction n with
  | zero =>
    intro κ v2 hf
    cases hf
  | succ n ih =>
    intro κ v2 hf
    rw [fX1_become_2] at hf
    refine v_iload_n C 2 dX1_become_2 rfl rfl ?_
    refine v_iconst (v := 3) C dX1_become_3 (by decide) ?_
    refine v_icmp_ge (tgt := 32) C dX1_become_4 (by decide) hf (fun hf => ?_) (fun hf => ?_)
    · refine v_iconst (v := 0) C dX1_become_32 (by decide) ?_
      refine v_istore_n (lv' := [(0, .ref (ad B b)), (1, .ref (ad B b2)), (2, .int 0)]) C [1, 2, 0] dX1_become_33 rfl (by decide) rfl ?_
      exact tX1_become_34 C hL hb hb2 hQ N κ 0 hf
    · refine v_aload_n C 1 dX1_become_7 rfl rfl ?_
      refine sh_getR (i := 0) (j := b2 + 1) C hb2 (by decide) rfl wd_29 dX1_become_8 ?_
      refine v_iload_n C 2 dX1_become_11 rfl rfl ?_
      refine sh_prD C hb2 dX1_become_12 hf (fun r11 hr11 hf => ?_)
      refine v_iconst (v := 0) C dX1_become_13 (by decide) ?_
      refine v_aload_n C 0 dX1_become_14 rfl rfl ?_
      refine sh_getR (i := 0) (j := b + 1) C hb (by decide) rfl wd_29 dX1_become_15 ?_
      refine v_iload_n C 2 dX1_become_18 rfl rfl ?_
      refine sh_prD C hb dX1_become_19 hf (fun r12 hr12 hf => ?_)
      refine v_iconst (v := 0) C dX1_become_20 (by decide) ?_
      refine v_bipush (v := 24) C dX1_become_21 (by decide) ?_
      refine c_copy (j := b2 + (2 + r11)) (k := b + (2 + r12)) C hL (by have := Sb.le hb2; omega) (by have := Sb.le hb; omega) (tb_pr hb2 hr11) (tb_pr hb hr12) wd_311 wac_native wac_static wac_ini (by decide) (Nat.le_of_ble_eq_true rfl) dX1_become_23 hf (fun κ13 hf => ?_)
      refine v_iinc (q := 2) (v := v2 + 1) (lv' := [(0, .ref (ad B b)), (1, .ref (ad B b2)), (2, .int (v2 + 1))]) C [1, 2, 0] dX1_become_26 rfl rfl (by decide) rfl ?_
      refine v_goto (tgt := 2) C dX1_become_29 (by decide) ?_
      exact ih κ13 (v2 + 1) hf
def fX1_become (N : Nat) (b : Nat) (b2 : Nat) (κ : St2) : Option St2 := fX1_become_2 N b b2 N κ 0
set_option maxHeartbeats 4000000 in
set_option maxRecDepth 100000 in
theorem tX1_become {E : EE} {B : BB} {l : Launch} {L : St2 → St2} {N : Nat} {b : Nat} {b2 : Nat} {κ : St2} {res : St2} (C : Cx E B l cX1_become RX1 none 3 1 26) (hL : LnC L) (hb : Sb b) (hb2 : Sb b2) (hQ : Fin9 E B none (L res)) (hf : fX1_become N b b2 κ = some res) : V E B (L κ) 0 [(0, .ref (ad B b)), (1, .ref (ad B b2))] [] := by
  unfold fX1_become at hf
  refine v_iconst (v := 0) C dX1_become_0 (by decide) ?_
  refine v_istore_n (lv' := [(0, .ref (ad B b)), (1, .ref (ad B b2)), (2, .int 0)]) C [1, 2, 0] dX1_become_1 rfl (by decide) rfl ?_
  exact tX1_become_2 C hL hb hb2 hQ N κ 0 hf
theorem mX1_become {B : BB} {l : Launch} {L : St2 → St2} {N : Nat} {b : Nat} {b2 : Nat} {κ : St2} {res : St2} (hL : LnC L) (hb : Sb b) (hb2 : Sb b2) (hf : fX1_become N b b2 κ = some res) : Ret l B yX1_become cX1_become 3 none 1 26 [.ref (ad B b), .ref (ad B b2)] (L κ) none (L res) := ret_of (own := RX1) (by decide) rfl (Nat.le_of_ble_eq_true rfl) (fun E C hQ => tX1_become C hL hb hb2 hQ hf)
def fX0_isSheet (v0 : Int32) : Option Int32 := (fX3_within v0 0 3).bind fun y1 => (bz y1).bind fun w2 => some w2
set_option maxHeartbeats 4000000 in
set_option maxRecDepth 100000 in
theorem tX0_isSheet {E : EE} {B : BB} {l : Launch} {σ : St2} {v0 : Int32} {res : Int32} (C : Cx E B l cX0_isSheet RX0 (some .boolean) 1 1 22) (hQ : Fin9 E B (some (.int res)) σ) (hf : fX0_isSheet v0 = some res) : V E B σ 0 [(0, .int v0)] [] := by
  unfold fX0_isSheet at hf
  refine v_iload_n C 0 dX0_isSheet_0 rfl rfl ?_
  refine v_iconst (v := 0) C dX0_isSheet_1 (by decide) ?_
  refine v_iconst (v := 3) C dX0_isSheet_2 (by decide) ?_
  obtain ⟨y1, hy1, hf⟩ := bnd hf
  refine v_callSN (r := some (.int y1)) (As := [.int v0, .int 0, .int 3]) (rest := []) C (mX3_within  hy1) cw_X3_within nw1 ⟨Nat.le_of_ble_eq_true rfl, Nat.le_of_ble_eq_true rfl⟩ rfl rfl (Nat.le_of_ble_eq_true rfl) dX0_isSheet_3 ?_
  obtain ⟨hz, hf⟩ := bz_b hf
  exact v_zret C hz dX0_isSheet_6 (fin_i hf hQ)
theorem mX0_isSheet {B : BB} {l : Launch} {σ : St2} {v0 : Int32} {res : Int32} (hf : fX0_isSheet v0 = some res) : Ret l B yX0_isSheet cX0_isSheet 1 (some .boolean) 1 22 [.int v0] σ (some (.int res)) σ := ret_of (own := RX0) (by decide) rfl (Nat.le_of_ble_eq_true rfl) (fun E C hQ => tX0_isSheet C hQ hf)
def fX0_isWidth (v0 : Int32) : Option Int32 := if v0 = 0 then (some 1) else (if v0 = 8 then (some 1) else (if v0 = 16 then (some 1) else (if v0 = 32 then (some 1) else (some 0))))
set_option maxHeartbeats 4000000 in
set_option maxRecDepth 100000 in
theorem tX0_isWidth {E : EE} {B : BB} {l : Launch} {σ : St2} {v0 : Int32} {res : Int32} (C : Cx E B l cX0_isWidth RX0 (some .boolean) 1 0 0) (hQ : Fin9 E B (some (.int res)) σ) (hf : fX0_isWidth v0 = some res) : V E B σ 0 [(0, .int v0)] [] := by
  unfold fX0_isWidth at hf
  refine v_iload_n C 0 dX0_isWidth_0 rfl rfl ?_
  refine v_if_eq (tgt := 22) C dX0_isWidth_1 (by decide) hf (fun hf => ?_) (fun hf => ?_)
  · refine v_iconst (v := 1) C dX0_isWidth_22 (by decide) ?_
    refine v_goto (tgt := 27) C dX0_isWidth_23 (by decide) ?_
    exact v_zret C (Or.inr rfl) dX0_isWidth_27 (fin_i hf hQ)
  · refine v_iload_n C 0 dX0_isWidth_4 rfl rfl ?_
    refine v_bipush (v := 8) C dX0_isWidth_5 (by decide) ?_
    refine v_icmp_eq (tgt := 22) C dX0_isWidth_7 (by decide) hf (fun hf => ?_) (fun hf => ?_)
    · refine v_iconst (v := 1) C dX0_isWidth_22 (by decide) ?_
      refine v_goto (tgt := 27) C dX0_isWidth_23 (by decide) ?_
      exact v_zret C (Or.inr rfl) dX0_isWidth_27 (fin_i hf hQ)
    · refine v_iload_n C 0 dX0_isWidth_10 rfl rfl ?_
      refine v_bipush (v := 16) C dX0_isWidth_11 (by decide) ?_
      refine v_icmp_eq (tgt := 22) C dX0_isWidth_13 (by decide) hf (fun hf => ?_) (fun hf => ?_)
      · refine v_iconst (v := 1) C dX0_isWidth_22 (by decide) ?_
        refine v_goto (tgt := 27) C dX0_isWidth_23 (by decide) ?_
        exact v_zret C (Or.inr rfl) dX0_isWidth_27 (fin_i hf hQ)
      · refine v_iload_n C 0 dX0_isWidth_16 rfl rfl ?_
        refine v_bipush (v := 32) C dX0_isWidth_17 (by decide) ?_
        refine v_icmp_ne (tgt := 26) C dX0_isWidth_19 (by decide) hf (fun hf => ?_) (fun hf => ?_)
        · refine v_iconst (v := 0) C dX0_isWidth_26 (by decide) ?_
          exact v_zret C (Or.inl rfl) dX0_isWidth_27 (fin_i hf hQ)
        · refine v_iconst (v := 1) C dX0_isWidth_22 (by decide) ?_
          refine v_goto (tgt := 27) C dX0_isWidth_23 (by decide) ?_
          exact v_zret C (Or.inr rfl) dX0_isWidth_27 (fin_i hf hQ)
theorem mX0_isWidth {B : BB} {l : Launch} {σ : St2} {v0 : Int32} {res : Int32} (hf : fX0_isWidth v0 = some res) : Ret l B yX0_isWidth cX0_isWidth 1 (some .boolean) 0 0 [.int v0] σ (some (.int res)) σ := ret_of (own := RX0) (by decide) rfl (Nat.le_of_ble_eq_true rfl) (fun E C hQ => tX0_isWidth C hQ hf)
def fX0_isMissing (κ : St2) (v1 : Int32) : Option Int32 := (rd (κ 10) 4 v1).bind fun a1 => if a1 = 0 then (some 1) else (some 0)
set_option maxHeartbeats 4000000 in
set_option maxRecDepth 100000 in
theorem tX0_isMissing {E : EE} {B : BB} {l : Launch} {L : St2 → St2} {κ : St2} {v1 : Int32} {res : Int32} (C : Cx E B l cX0_isMissing RX0 (some .boolean) 2 0 0) (hL : LnC L) (hQ : Fin9 E B (some (.int res)) (L κ)) (hf : fX0_isMissing κ v1 = some res) : V E B (L κ) 0 [(0, .ref (ad B 4)), (1, .int v1)] [] := by
  unfold fX0_isMissing at hf
  refine v_aload_n C 0 dX0_isMissing_0 rfl rfl ?_
  refine g_getR (K := 4) (i := 1) (j := 10) C (by decide) rfl rfl inX0 (by decide) rfl wd_101 dX0_isMissing_1 ?_
  refine v_iload_n C 1 dX0_isMissing_4 rfl rfl ?_
  refine c_ald (k := 10) C hL (by decide) rfl dX0_isMissing_5 hf (fun a1 hf => ?_)
  refine v_if_ne (tgt := 13) C dX0_isMissing_6 (by decide) hf (fun hf => ?_) (fun hf => ?_)
  · refine v_iconst (v := 0) C dX0_isMissing_13 (by decide) ?_
    exact v_zret C (Or.inl rfl) dX0_isMissing_14 (fin_i hf hQ)
  · refine v_iconst (v := 1) C dX0_isMissing_9 (by decide) ?_
    refine v_goto (tgt := 14) C dX0_isMissing_10 (by decide) ?_
    exact v_zret C (Or.inr rfl) dX0_isMissing_14 (fin_i hf hQ)
theorem mX0_isMissing {B : BB} {l : Launch} {L : St2 → St2} {κ : St2} {v1 : Int32} {res : Int32} (hL : LnC L) (hf : fX0_isMissing κ v1 = some res) : Ret l B yX0_isMissing cX0_isMissing 2 (some .boolean) 0 0 [.ref (ad B 4), .int v1] (L κ) (some (.int res)) (L κ) := ret_of (own := RX0) (by decide) rfl (Nat.le_of_ble_eq_true rfl) (fun E C hQ => tX0_isMissing C hL hQ hf)
def fX0_findingOf (κ : St2) (v1 : Int32) : Option Int32 := (fX0_isSheet v1).bind fun y1 => if y1 = 0 then (some (-1000001)) else ((fX0_isMissing κ v1).bind fun y2 => if y2 = 0 then (some 0) else (some (-1000006)))
set_option maxHeartbeats 4000000 in
set_option maxRecDepth 100000 in
theorem tX0_findingOf {E : EE} {B : BB} {l : Launch} {L : St2 → St2} {κ : St2} {v1 : Int32} {res : Int32} (C : Cx E B l cX0_findingOf RX0 (some .int) 2 2 42) (hL : LnC L) (hQ : Fin9 E B (some (.int res)) (L κ)) (hf : fX0_findingOf κ v1 = some res) : V E B (L κ) 0 [(0, .ref (ad B 4)), (1, .int v1)] [] := by
  unfold fX0_findingOf at hf
  refine v_iload_n C 1 dX0_findingOf_0 rfl rfl ?_
  obtain ⟨y1, hy1, hf⟩ := bnd hf
  refine v_callS (r := some (.int y1)) (As := [.int v1]) (rest := []) C (mX0_isSheet  hy1) cw_X0_isSheet wd_391 ⟨Nat.le_of_ble_eq_true rfl, Nat.le_of_ble_eq_true rfl⟩ rfl rfl (Nat.le_of_ble_eq_true rfl) dX0_findingOf_1 ?_
  refine v_if_ne (tgt := 10) C dX0_findingOf_4 (by decide) hf (fun hf => ?_) (fun hf => ?_)
  · refine v_aload_n C 0 dX0_findingOf_10 rfl rfl ?_
    refine v_iload_n C 1 dX0_findingOf_11 rfl rfl ?_
    obtain ⟨y2, hy2, hf⟩ := bnd hf
    refine v_callV (r := some (.int y2)) (As := [.int v1]) (rest := []) (K := 4) C (mX0_isMissing hL hy2) cw_X0_isMissing wd_396 (by decide) rfl rfl ⟨Nat.le_of_ble_eq_true rfl, Nat.le_of_ble_eq_true rfl⟩ rfl rfl (Nat.le_of_ble_eq_true rfl) dX0_findingOf_12 ?_
    refine v_if_eq (tgt := 23) C dX0_findingOf_15 (by decide) hf (fun hf => ?_) (fun hf => ?_)
    · refine v_iconst (v := 0) C dX0_findingOf_23 (by decide) ?_
      exact v_iret C dX0_findingOf_24 (fin_i hf hQ)
    · refine v_ldc C wd_400 dX0_findingOf_18 ?_
      refine v_goto (tgt := 24) C dX0_findingOf_20 (by decide) ?_
      exact v_iret C dX0_findingOf_24 (fin_i hf hQ)
  · refine v_ldc C wd_395 dX0_findingOf_7 ?_
    exact v_iret C dX0_findingOf_9 (fin_i hf hQ)
theorem mX0_findingOf {B : BB} {l : Launch} {L : St2 → St2} {κ : St2} {v1 : Int32} {res : Int32} (hL : LnC L) (hf : fX0_findingOf κ v1 = some res) : Ret l B yX0_findingOf cX0_findingOf 2 (some .int) 2 42 [.ref (ad B 4), .int v1] (L κ) (some (.int res)) (L κ) := ret_of (own := RX0) (by decide) rfl (Nat.le_of_ble_eq_true rfl) (fun E C hQ => tX0_findingOf C hL hQ hf)
def fX0_lay_25 (N : Nat) (v1 : Int32) : Nat → St2 → Int32 → Option (Int32 × St2)
  | 0, _, _ => none
  | n + 1, κ, v4 => if 40 ≤ v4 then ((rd (κ 11) 4 v1).bind fun a3 => some (a3, κ)) else ((ck v1 4).bind fun r4 => (wr κ (6 + r4) 40 v4 0).bind fun κ5 => (fX0_lay_25 N v1 n) κ5 (v4 + 1))
set_option maxHeartbeats 4000000 in
set_option maxRecDepth 100000 in
theorem tX0_lay_25 {E : EE} {B : BB} {l : Launch} {L : St2 → St2} {N : Nat} {v1 : Int32} {res : (Int32 × St2)} (C : Cx E B l cX0_lay RX0 (some .int) 5 0 0) (hL : LnC L) (hQ : Fin9 E B (some (.int res.1)) (L res.2)) : ∀ (n : Nat) (κ : St2) (v4 : Int32), fX0_lay_25 N v1 n κ v4 = some res → V E B (L κ) 25 [(0, .ref (ad B 4)), (1, .int v1), (4, .int v4)] [] := by
  intro n
  induction n with
  | zero =>
    intro κ v4 hf
    cases hf
  | succ n ih =>
    intro κ v4 hf
    rw [fX0_lay_25] at hf
    refine v_iload C 2 dX0_lay_25 rfl ?_
    refine v_bipush (v := 40) C dX0_lay_27 (by decide) ?_
    refine v_icmp_ge (tgt := 48) C dX0_lay_29 (by decide) hf (fun hf => ?_) (fun hf => ?_)
    · refine v_aload_n C 0 dX0_lay_48 rfl rfl ?_
      refine g_getR (K := 4) (i := 2) (j := 11) C (by decide) rfl rfl inX0 (by decide) rfl wd_103 dX0_lay_49 ?_
      refine v_iload_n C 1 dX0_lay_52 rfl rfl ?_
      refine c_ald (k := 11) C hL (by decide) rfl dX0_lay_53 hf (fun a3 hf => ?_)
      exact v_iret C dX0_lay_54 (fin_im hf hQ)
    · refine v_aload_n C 0 dX0_lay_32 rfl rfl ?_
      refine g_getR (K := 4) (i := 0) (j := 5) C (by decide) rfl rfl inX0 (by decide) rfl wd_99 dX0_lay_33 ?_
      refine v_iload_n C 1 dX0_lay_36 rfl rfl ?_
      refine g_rowD (K := 5) (j := 6) C (by decide) rfl dX0_lay_37 hf (fun r4 hr4 hf => ?_)
      refine v_iload C 2 dX0_lay_38 rfl ?_
      refine v_iconst (v := 0) C dX0_lay_40 (by decide) ?_
      refine c_ast (k := 6 + r4) C hL (by omega) (tb_nr hr4) dX0_lay_41 hf (fun κ5 hf => ?_)
      refine v_iinc (q := 2) (v := v4 + 1) (lv' := [(0, .ref (ad B 4)), (1, .int v1), (4, .int (v4 + 1))]) C [1, 2, 0] dX0_lay_42 rfl rfl (by decide) rfl ?_
      refine v_goto (tgt := 25) C dX0_lay_45 (by decide) ?_
      exact ih κ5 (v4 + 1) hf
def fX0_lay_21 (N : Nat) (κ : St2) (v1 : Int32) (s0 : Int32) (s1 : Int32) : Option (Int32 × St2) := (wr κ 11 4 s1 s0).bind fun κ2 => fX0_lay_25 N v1 N κ2 0
set_option maxHeartbeats 4000000 in
set_option maxRecDepth 100000 in
theorem tX0_lay_21 {E : EE} {B : BB} {l : Launch} {L : St2 → St2} {N : Nat} {κ : St2} {v1 : Int32} {s0 : Int32} {s1 : Int32} {res : (Int32 × St2)} (C : Cx E B l cX0_lay RX0 (some .int) 5 0 0) (hL : LnC L) (hQ : Fin9 E B (some (.int res.1)) (L res.2)) (hf : fX0_lay_21 N κ v1 s0 s1 = some res) : V E B (L κ) 21 [(0, .ref (ad B 4)), (1, .int v1)] [.int s0, .int s1, .ref (ad B 11)] := by
  unfold fX0_lay_21 at hf
  refine c_ast (k := 11) C hL (by decide) rfl dX0_lay_21 hf (fun κ2 hf => ?_)
  refine v_iconst (v := 0) C dX0_lay_22 (by decide) ?_
  refine v_istore (lv' := [(0, .ref (ad B 4)), (1, .int v1), (4, .int 0)]) C [1, 2, 0] dX0_lay_23 (by decide) rfl ?_
  exact tX0_lay_25 C hL hQ N κ2 0 hf
def fX0_lay (N : Nat) (κ : St2) (v1 : Int32) (v2 : Int32) (v3 : Int32) : Option (Int32 × St2) := (wr κ 10 4 v1 v2).bind fun κ1 => if v2 = 0 then (fX0_lay_21 N κ1 v1 0 v1) else (fX0_lay_21 N κ1 v1 v3 v1)
set_option maxHeartbeats 4000000 in
set_option maxRecDepth 100000 in
theorem tX0_lay {E : EE} {B : BB} {l : Launch} {L : St2 → St2} {N : Nat} {κ : St2} {v1 : Int32} {v2 : Int32} {v3 : Int32} {res : (Int32 × St2)} (C : Cx E B l cX0_lay RX0 (some .int) 5 0 0) (hL : LnC L) (hQ : Fin9 E B (some (.int res.1)) (L res.2)) (hf : fX0_lay N κ v1 v2 v3 = some res) : V E B (L κ) 0 [(0, .ref (ad B 4)), (1, .int v1), (2, .int v2), (3, .int v3)] [] := by
  unfold fX0_lay at hf
  refine v_aload_n C 0 dX0_lay_0 rfl rfl ?_
  refine g_getR (K := 4) (i := 1) (j := 10) C (by decide) rfl rfl inX0 (by decide) rfl wd_101 dX0_lay_1 ?_
  refine v_iload_n C 1 dX0_lay_4 rfl rfl ?_
  refine v_iload_n C 2 dX0_lay_5 rfl rfl ?_
  refine c_ast (k := 10) C hL (by decide) rfl dX0_lay_6 hf (fun κ1 hf => ?_)
  refine v_aload_n C 0 dX0_lay_7 rfl rfl ?_
  refine g_getR (K := 4) (i := 2) (j := 11) C (by decide) rfl rfl inX0 (by decide) rfl wd_103 dX0_lay_8 ?_
  refine v_iload_n C 1 dX0_lay_11 rfl rfl ?_
  refine v_iload_n C 2 dX0_lay_12 rfl rfl ?_
  refine v_if_ne (tgt := 20) C dX0_lay_13 (by decide) hf (fun hf => ?_) (fun hf => ?_)
  · refine v_iload_n C 3 dX0_lay_20 rfl rfl ?_
    refine v_sub [0, 1] rfl ?_
    exact tX0_lay_21 C hL hQ hf
  · refine v_iconst (v := 0) C dX0_lay_16 (by decide) ?_
    refine v_goto (tgt := 21) C dX0_lay_17 (by decide) ?_
    refine v_sub [0, 1] rfl ?_
    exact tX0_lay_21 C hL hQ hf
theorem mX0_lay {B : BB} {l : Launch} {L : St2 → St2} {N : Nat} {κ : St2} {v1 : Int32} {v2 : Int32} {v3 : Int32} {res : (Int32 × St2)} (hL : LnC L) (hf : fX0_lay N κ v1 v2 v3 = some res) : Ret l B yX0_lay cX0_lay 5 (some .int) 0 0 [.ref (ad B 4), .int v1, .int v2, .int v3] (L κ) (some (.int res.1)) (L res.2) := ret_of (own := RX0) (by decide) rfl (Nat.le_of_ble_eq_true rfl) (fun E C hQ => tX0_lay C hL hQ hf)
def fX0_put (κ : St2) (v1 : Int32) (v2 : Int32) (v3 : Int32) : Option St2 := (rd (κ 10) 4 v1).bind fun a1 => (some (32 - a1)).bind fun w2 => (ck v1 4).bind fun r3 => (wr κ (6 + r3) 40 v2 ((v3 <<< (w2 &&& 31)) >>> (w2 &&& 31))).bind fun κ4 => some κ4
set_option maxHeartbeats 4000000 in
set_option maxRecDepth 100000 in
theorem tX0_put {E : EE} {B : BB} {l : Launch} {L : St2 → St2} {κ : St2} {v1 : Int32} {v2 : Int32} {v3 : Int32} {res : St2} (C : Cx E B l cX0_put RX0 none 5 0 0) (hL : LnC L) (hQ : Fin9 E B none (L res)) (hf : fX0_put κ v1 v2 v3 = some res) : V E B (L κ) 0 [(0, .ref (ad B 4)), (1, .int v1), (2, .int v2), (3, .int v3)] [] := by
  unfold fX0_put at hf
  refine v_bipush (v := 32) C dX0_put_0 (by decide) ?_
  refine v_aload_n C 0 dX0_put_2 rfl rfl ?_
  refine g_getR (K := 4) (i := 1) (j := 10) C (by decide) rfl rfl inX0 (by decide) rfl wd_101 dX0_put_3 ?_
  refine v_iload_n C 1 dX0_put_6 rfl rfl ?_
  refine c_ald (k := 10) C hL (by decide) rfl dX0_put_7 hf (fun a1 hf => ?_)
  refine v_isub C dX0_put_8 ?_
  refine v_top hf (fun w2 hf => ?_)
  refine v_istore (lv' := [(0, .ref (ad B 4)), (1, .int v1), (2, .int v2), (3, .int v3), (4, .int w2)]) C [1, 2, 3, 4, 0] dX0_put_9 (by decide) rfl ?_
  refine v_aload_n C 0 dX0_put_11 rfl rfl ?_
  refine g_getR (K := 4) (i := 0) (j := 5) C (by decide) rfl rfl inX0 (by decide) rfl wd_99 dX0_put_12 ?_
  refine v_iload_n C 1 dX0_put_15 rfl rfl ?_
  refine g_rowD (K := 5) (j := 6) C (by decide) rfl dX0_put_16 hf (fun r3 hr3 hf => ?_)
  refine v_iload_n C 2 dX0_put_17 rfl rfl ?_
  refine v_iload_n C 3 dX0_put_18 rfl rfl ?_
  refine v_iload C 4 dX0_put_19 rfl ?_
  refine v_ishl C dX0_put_21 ?_
  refine v_iload C 4 dX0_put_22 rfl ?_
  refine v_ishr C dX0_put_24 ?_
  refine c_ast (k := 6 + r3) C hL (by omega) (tb_nr hr3) dX0_put_25 hf (fun κ4 hf => ?_)
  exact v_vret C dX0_put_26 (fin_v hf hQ)
theorem mX0_put {B : BB} {l : Launch} {L : St2 → St2} {κ : St2} {v1 : Int32} {v2 : Int32} {v3 : Int32} {res : St2} (hL : LnC L) (hf : fX0_put κ v1 v2 v3 = some res) : Ret l B yX0_put cX0_put 5 none 0 0 [.ref (ad B 4), .int v1, .int v2, .int v3] (L κ) none (L res) := ret_of (own := RX0) (by decide) rfl (Nat.le_of_ble_eq_true rfl) (fun E C hQ => tX0_put C hL hQ hf)
def fX0_hasPart (κ : St2) (v1 : Int32) (v2 : Int32) (v3 : Int32) : Option Int32 := if v3 < 0 then (some 0) else ((rd (κ 11) 4 v1).bind fun a1 => if a1 < v3 then (some 0) else (if v2 < 0 then (some 0) else ((rd (κ 11) 4 v1).bind fun a2 => if (a2 - v3) < v2 then (some 0) else (some 1))))
set_option maxHeartbeats 4000000 in
set_option maxRecDepth 100000 in
theorem tX0_hasPart {E : EE} {B : BB} {l : Launch} {L : St2 → St2} {κ : St2} {v1 : Int32} {v2 : Int32} {v3 : Int32} {res : Int32} (C : Cx E B l cX0_hasPart RX0 (some .boolean) 4 0 0) (hL : LnC L) (hQ : Fin9 E B (some (.int res)) (L κ)) (hf : fX0_hasPart κ v1 v2 v3 = some res) : V E B (L κ) 0 [(0, .ref (ad B 4)), (1, .int v1), (2, .int v2), (3, .int v3)] [] := by
  unfold fX0_hasPart at hf
  refine v_iload_n C 3 dX0_hasPart_0 rfl rfl ?_
  refine v_if_lt (tgt := 34) C dX0_hasPart_1 (by decide) hf (fun hf => ?_) (fun hf => ?_)
  · refine v_iconst (v := 0) C dX0_hasPart_34 (by decide) ?_
    exact v_zret C (Or.inl rfl) dX0_hasPart_35 (fin_i hf hQ)
  · refine v_iload_n C 3 dX0_hasPart_4 rfl rfl ?_
    refine v_aload_n C 0 dX0_hasPart_5 rfl rfl ?_
    refine g_getR (K := 4) (i := 2) (j := 11) C (by decide) rfl rfl inX0 (by decide) rfl wd_103 dX0_hasPart_6 ?_
    refine v_iload_n C 1 dX0_hasPart_9 rfl rfl ?_
    refine c_ald (k := 11) C hL (by decide) rfl dX0_hasPart_10 hf (fun a1 hf => ?_)
    refine v_icmp_gt (tgt := 34) C dX0_hasPart_11 (by decide) hf (fun hf => ?_) (fun hf => ?_)
    · refine v_iconst (v := 0) C dX0_hasPart_34 (by decide) ?_
      exact v_zret C (Or.inl rfl) dX0_hasPart_35 (fin_i hf hQ)
    · refine v_iload_n C 2 dX0_hasPart_14 rfl rfl ?_
      refine v_if_lt (tgt := 34) C dX0_hasPart_15 (by decide) hf (fun hf => ?_) (fun hf => ?_)
      · refine v_iconst (v := 0) C dX0_hasPart_34 (by decide) ?_
        exact v_zret C (Or.inl rfl) dX0_hasPart_35 (fin_i hf hQ)
      · refine v_iload_n C 2 dX0_hasPart_18 rfl rfl ?_
        refine v_aload_n C 0 dX0_hasPart_19 rfl rfl ?_
        refine g_getR (K := 4) (i := 2) (j := 11) C (by decide) rfl rfl inX0 (by decide) rfl wd_103 dX0_hasPart_20 ?_
        refine v_iload_n C 1 dX0_hasPart_23 rfl rfl ?_
        refine c_ald (k := 11) C hL (by decide) rfl dX0_hasPart_24 hf (fun a2 hf => ?_)
        refine v_iload_n C 3 dX0_hasPart_25 rfl rfl ?_
        refine v_isub C dX0_hasPart_26 ?_
        refine v_icmp_gt (tgt := 34) C dX0_hasPart_27 (by decide) hf (fun hf => ?_) (fun hf => ?_)
        · refine v_iconst (v := 0) C dX0_hasPart_34 (by decide) ?_
          exact v_zret C (Or.inl rfl) dX0_hasPart_35 (fin_i hf hQ)
        · refine v_iconst (v := 1) C dX0_hasPart_30 (by decide) ?_
          refine v_goto (tgt := 35) C dX0_hasPart_31 (by decide) ?_
          exact v_zret C (Or.inr rfl) dX0_hasPart_35 (fin_i hf hQ)
theorem mX0_hasPart {B : BB} {l : Launch} {L : St2 → St2} {κ : St2} {v1 : Int32} {v2 : Int32} {v3 : Int32} {res : Int32} (hL : LnC L) (hf : fX0_hasPart κ v1 v2 v3 = some res) : Ret l B yX0_hasPart cX0_hasPart 4 (some .boolean) 0 0 [.ref (ad B 4), .int v1, .int v2, .int v3] (L κ) (some (.int res)) (L κ) := ret_of (own := RX0) (by decide) rfl (Nat.le_of_ble_eq_true rfl) (fun E C hQ => tX0_hasPart C hL hQ hf)
def fJ6_numberOfTrailingZeros_0f7a4_62 (v0 : Int32) (v1 : Int32) : Option Int32 := if v0 ≤ 4 then (some (v1 + ((v0.toUInt32 >>> ((1 : Int32).toUInt32 &&& Int32.toUInt32 31)).toInt32))) else ((some ((v0.toUInt32 >>> ((2 : Int32).toUInt32 &&& Int32.toUInt32 31)).toInt32)).bind fun w3 => some ((v1 + 2) + ((w3.toUInt32 >>> ((1 : Int32).toUInt32 &&& Int32.toUInt32 31)).toInt32)))
set_option maxHeartbeats 4000000 in
set_option maxRecDepth 100000 in
theorem tJ6_numberOfTrailingZeros_0f7a4_62 {E : EE} {B : BB} {l : Launch} {σ : St2} {v0 : Int32} {v1 : Int32} {res : Int32} (C : Cx E B l cJ6_numberOfTrailingZeros_0f7a4 RJ6 (some .int) 2 0 0) (hQ : Fin9 E B (some (.int res)) σ) (hf : fJ6_numberOfTrailingZeros_0f7a4_62 v0 v1 = some res) : V E B σ 62 [(0, .int v0), (1, .int v1)] [] := by
  unfold fJ6_numberOfTrailingZeros_0f7a4_62 at hf
  refine v_iload_n C 0 dJ6_numberOfTrailingZeros_0f7a4_62 rfl rfl ?_
  refine v_iconst (v := 4) C dJ6_numberOfTrailingZeros_0f7a4_63 (by decide) ?_
  refine v_icmp_le (tgt := 74) C dJ6_numberOfTrailingZeros_0f7a4_64 (by decide) hf (fun hf => ?_) (fun hf => ?_)
  · refine v_iload_n C 1 dJ6_numberOfTrailingZeros_0f7a4_74 rfl rfl ?_
    refine v_iload_n C 0 dJ6_numberOfTrailingZeros_0f7a4_75 rfl rfl ?_
    refine v_iconst (v := 1) C dJ6_numberOfTrailingZeros_0f7a4_76 (by decide) ?_
    refine v_iushr C dJ6_numberOfTrailingZeros_0f7a4_77 ?_
    refine v_iadd C dJ6_numberOfTrailingZeros_0f7a4_78 ?_
    exact v_iret C dJ6_numberOfTrailingZeros_0f7a4_79 (fin_i hf hQ)
  · refine v_iinc (q := 1) (v := v1 + 2) (lv' := [(0, .int v0), (1, .int (v1 + 2))]) C [1, 0] dJ6_numberOfTrailingZeros_0f7a4_67 rfl rfl (by decide) rfl ?_
    refine v_iload_n C 0 dJ6_numberOfTrailingZeros_0f7a4_70 rfl rfl ?_
    refine v_iconst (v := 2) C dJ6_numberOfTrailingZeros_0f7a4_71 (by decide) ?_
    refine v_iushr C dJ6_numberOfTrailingZeros_0f7a4_72 ?_
    refine v_top hf (fun w3 hf => ?_)
    refine v_istore_n (lv' := [(0, .int w3), (1, .int (v1 + 2))]) C [0, 1] dJ6_numberOfTrailingZeros_0f7a4_73 rfl (by decide) rfl ?_
    refine v_iload_n C 1 dJ6_numberOfTrailingZeros_0f7a4_74 rfl rfl ?_
    refine v_iload_n C 0 dJ6_numberOfTrailingZeros_0f7a4_75 rfl rfl ?_
    refine v_iconst (v := 1) C dJ6_numberOfTrailingZeros_0f7a4_76 (by decide) ?_
    refine v_iushr C dJ6_numberOfTrailingZeros_0f7a4_77 ?_
    refine v_iadd C dJ6_numberOfTrailingZeros_0f7a4_78 ?_
    exact v_iret C dJ6_numberOfTrailingZeros_0f7a4_79 (fin_i hf hQ)
def fJ6_numberOfTrailingZeros_0f7a4_49 (v0 : Int32) (v1 : Int32) : Option Int32 := if v0 ≤ 16 then (fJ6_numberOfTrailingZeros_0f7a4_62 v0 v1) else ((some ((v0.toUInt32 >>> ((4 : Int32).toUInt32 &&& Int32.toUInt32 31)).toInt32)).bind fun w5 => fJ6_numberOfTrailingZeros_0f7a4_62 w5 (v1 + 4))
set_option maxHeartbeats 4000000 in
set_option maxRecDepth 100000 in
theorem tJ6_numberOfTrailingZeros_0f7a4_49 {E : EE} {B : BB} {l : Launch} {σ : St2} {v0 : Int32} {v1 : Int32} {res : Int32} (C : Cx E B l cJ6_numberOfTrailingZeros_0f7a4 RJ6 (some .int) 2 0 0) (hQ : Fin9 E B (some (.int res)) σ) (hf : fJ6_numberOfTrailingZeros_0f7a4_49 v0 v1 = some res) : V E B σ 49 [(0, .int v0), (1, .int v1)] [] := by
  unfold fJ6_numberOfTrailingZeros_0f7a4_49 at hf
  refine v_iload_n C 0 dJ6_numberOfTrailingZeros_0f7a4_49 rfl rfl ?_
  refine v_bipush (v := 16) C dJ6_numberOfTrailingZeros_0f7a4_50 (by decide) ?_
  refine v_icmp_le (tgt := 62) C dJ6_numberOfTrailingZeros_0f7a4_52 (by decide) hf (fun hf => ?_) (fun hf => ?_)
  · exact tJ6_numberOfTrailingZeros_0f7a4_62 C hQ hf
  · refine v_iinc (q := 1) (v := v1 + 4) (lv' := [(0, .int v0), (1, .int (v1 + 4))]) C [1, 0] dJ6_numberOfTrailingZeros_0f7a4_55 rfl rfl (by decide) rfl ?_
    refine v_iload_n C 0 dJ6_numberOfTrailingZeros_0f7a4_58 rfl rfl ?_
    refine v_iconst (v := 4) C dJ6_numberOfTrailingZeros_0f7a4_59 (by decide) ?_
    refine v_iushr C dJ6_numberOfTrailingZeros_0f7a4_60 ?_
    refine v_top hf (fun w5 hf => ?_)
    refine v_istore_n (lv' := [(0, .int w5), (1, .int (v1 + 4))]) C [0, 1] dJ6_numberOfTrailingZeros_0f7a4_61 rfl (by decide) rfl ?_
    exact tJ6_numberOfTrailingZeros_0f7a4_62 C hQ hf
def fJ6_numberOfTrailingZeros_0f7a4_34 (v0 : Int32) (v1 : Int32) : Option Int32 := if v0 ≤ 256 then (fJ6_numberOfTrailingZeros_0f7a4_49 v0 v1) else ((some ((v0.toUInt32 >>> ((8 : Int32).toUInt32 &&& Int32.toUInt32 31)).toInt32)).bind fun w7 => fJ6_numberOfTrailingZeros_0f7a4_49 w7 (v1 + 8))
set_option maxHeartbeats 4000000 in
set_option maxRecDepth 100000 in
theorem tJ6_numberOfTrailingZeros_0f7a4_34 {E : EE} {B : BB} {l : Launch} {σ : St2} {v0 : Int32} {v1 : Int32} {res : Int32} (C : Cx E B l cJ6_numberOfTrailingZeros_0f7a4 RJ6 (some .int) 2 0 0) (hQ : Fin9 E B (some (.int res)) σ) (hf : fJ6_numberOfTrailingZeros_0f7a4_34 v0 v1 = some res) : V E B σ 34 [(0, .int v0), (1, .int v1)] [] := by
  unfold fJ6_numberOfTrailingZeros_0f7a4_34 at hf
  refine v_iload_n C 0 dJ6_numberOfTrailingZeros_0f7a4_34 rfl rfl ?_
  refine v_sipush (v := 256) C dJ6_numberOfTrailingZeros_0f7a4_35 (by decide) ?_
  refine v_icmp_le (tgt := 49) C dJ6_numberOfTrailingZeros_0f7a4_38 (by decide) hf (fun hf => ?_) (fun hf => ?_)
  · exact tJ6_numberOfTrailingZeros_0f7a4_49 C hQ hf
  · refine v_iinc (q := 1) (v := v1 + 8) (lv' := [(0, .int v0), (1, .int (v1 + 8))]) C [1, 0] dJ6_numberOfTrailingZeros_0f7a4_41 rfl rfl (by decide) rfl ?_
    refine v_iload_n C 0 dJ6_numberOfTrailingZeros_0f7a4_44 rfl rfl ?_
    refine v_bipush (v := 8) C dJ6_numberOfTrailingZeros_0f7a4_45 (by decide) ?_
    refine v_iushr C dJ6_numberOfTrailingZeros_0f7a4_47 ?_
    refine v_top hf (fun w7 hf => ?_)
    refine v_istore_n (lv' := [(0, .int w7), (1, .int (v1 + 8))]) C [0, 1] dJ6_numberOfTrailingZeros_0f7a4_48 rfl (by decide) rfl ?_
    exact tJ6_numberOfTrailingZeros_0f7a4_49 C hQ hf
def fJ6_numberOfTrailingZeros_0f7a4 (v0 : Int32) : Option Int32 := (some ((v0 ^^^ (-1)) &&& (v0 - 1))).bind fun w1 => if 0 < w1 then (if w1 ≤ 65536 then (fJ6_numberOfTrailingZeros_0f7a4_34 w1 1) else ((some ((w1.toUInt32 >>> ((16 : Int32).toUInt32 &&& Int32.toUInt32 31)).toInt32)).bind fun w9 => fJ6_numberOfTrailingZeros_0f7a4_34 w9 (1 + 16))) else (some (w1 &&& 32))
set_option maxHeartbeats 4000000 in
set_option maxRecDepth 100000 in
theorem tJ6_numberOfTrailingZeros_0f7a4 {E : EE} {B : BB} {l : Launch} {σ : St2} {v0 : Int32} {res : Int32} (C : Cx E B l cJ6_numberOfTrailingZeros_0f7a4 RJ6 (some .int) 2 0 0) (hQ : Fin9 E B (some (.int res)) σ) (hf : fJ6_numberOfTrailingZeros_0f7a4 v0 = some res) : V E B σ 0 [(0, .int v0)] [] := by
  unfold fJ6_numberOfTrailingZeros_0f7a4 at hf
  refine v_iload_n C 0 dJ6_numberOfTrailingZeros_0f7a4_0 rfl rfl ?_
  refine v_iconst (v := (-1)) C dJ6_numberOfTrailingZeros_0f7a4_1 (by decide) ?_
  refine v_ixor C dJ6_numberOfTrailingZeros_0f7a4_2 ?_
  refine v_iload_n C 0 dJ6_numberOfTrailingZeros_0f7a4_3 rfl rfl ?_
  refine v_iconst (v := 1) C dJ6_numberOfTrailingZeros_0f7a4_4 (by decide) ?_
  refine v_isub C dJ6_numberOfTrailingZeros_0f7a4_5 ?_
  refine v_iand C dJ6_numberOfTrailingZeros_0f7a4_6 ?_
  refine v_top hf (fun w1 hf => ?_)
  refine v_istore_n (lv' := [(0, .int w1)]) C [0] dJ6_numberOfTrailingZeros_0f7a4_7 rfl (by decide) rfl ?_
  refine v_iload_n C 0 dJ6_numberOfTrailingZeros_0f7a4_8 rfl rfl ?_
  refine v_if_gt (tgt := 17) C dJ6_numberOfTrailingZeros_0f7a4_9 (by decide) hf (fun hf => ?_) (fun hf => ?_)
  · refine v_iconst (v := 1) C dJ6_numberOfTrailingZeros_0f7a4_17 (by decide) ?_
    refine v_istore_n (lv' := [(0, .int w1), (1, .int 1)]) C [1, 0] dJ6_numberOfTrailingZeros_0f7a4_18 rfl (by decide) rfl ?_
    refine v_iload_n C 0 dJ6_numberOfTrailingZeros_0f7a4_19 rfl rfl ?_
    refine v_ldcw C wd_417 dJ6_numberOfTrailingZeros_0f7a4_20 ?_
    refine v_icmp_le (tgt := 34) C dJ6_numberOfTrailingZeros_0f7a4_23 (by decide) hf (fun hf => ?_) (fun hf => ?_)
    · exact tJ6_numberOfTrailingZeros_0f7a4_34 C hQ hf
    · refine v_iinc (q := 1) (v := 1 + 16) (lv' := [(0, .int w1), (1, .int (1 + 16))]) C [1, 0] dJ6_numberOfTrailingZeros_0f7a4_26 rfl rfl (by decide) rfl ?_
      refine v_iload_n C 0 dJ6_numberOfTrailingZeros_0f7a4_29 rfl rfl ?_
      refine v_bipush (v := 16) C dJ6_numberOfTrailingZeros_0f7a4_30 (by decide) ?_
      refine v_iushr C dJ6_numberOfTrailingZeros_0f7a4_32 ?_
      refine v_top hf (fun w9 hf => ?_)
      refine v_istore_n (lv' := [(0, .int w9), (1, .int (1 + 16))]) C [0, 1] dJ6_numberOfTrailingZeros_0f7a4_33 rfl (by decide) rfl ?_
      exact tJ6_numberOfTrailingZeros_0f7a4_34 C hQ hf
  · refine v_iload_n C 0 dJ6_numberOfTrailingZeros_0f7a4_12 rfl rfl ?_
    refine v_bipush (v := 32) C dJ6_numberOfTrailingZeros_0f7a4_13 (by decide) ?_
    refine v_iand C dJ6_numberOfTrailingZeros_0f7a4_15 ?_
    exact v_iret C dJ6_numberOfTrailingZeros_0f7a4_16 (fin_i hf hQ)
theorem mJ6_numberOfTrailingZeros_0f7a4 {B : BB} {l : Launch} {σ : St2} {v0 : Int32} {res : Int32} (hf : fJ6_numberOfTrailingZeros_0f7a4 v0 = some res) : Ret l B yJ6_numberOfTrailingZeros_0f7a4 cJ6_numberOfTrailingZeros_0f7a4 2 (some .int) 0 0 [.int v0] σ (some (.int res)) σ := ret_of (own := RJ6) (by decide) rfl (Nat.le_of_ble_eq_true rfl) (fun E C hQ => tJ6_numberOfTrailingZeros_0f7a4 C hQ hf)
def fX3_isUnder_4 (N : Nat) (v1 : Int32) : Nat → Int32 → Int32 → Option Int32
  | 0, _, _ => none
  | n + 1, v2, v3 => if 7 ≤ v3 then (some 0) else (if v2 = v1 then (some 1) else ((fX3_within v2 0 6).bind fun y1 => if y1 = 0 then (some 0) else ((rd (tv 0) 7 v2).bind fun a2 => (fX3_isUnder_4 N v1 n) a2 (v3 + 1))))
set_option maxHeartbeats 4000000 in
set_option maxRecDepth 100000 in
theorem tX3_isUnder_4 {E : EE} {B : BB} {l : Launch} {σ : St2} {N : Nat} {v1 : Int32} {res : Int32} (C : Cx E B l cX3_isUnder RX3 (some .boolean) 4 1 22) (hQ : Fin9 E B (some (.int res)) σ) : ∀ (n : Nat) (v2 : Int32) (v3 : Int32), fX3_isUnder_4 N v1 n v2 v3 = some res → V E B σ 4 [(1, .int v1), (2, .int v2), (3, .int v3)] [] := by
  intro n
  induction n with
  | zero =>
    intro v2 v3 hf
    cases hf
  | succ n ih =>
    intro v2 v3 hf
    rw [fX3_isUnder_4] at hf
    refine v_iload_n C 2 dX3_isUnder_4 rfl rfl ?_
    refine v_bipush (v := 7) C dX3_isUnder_5 (by decide) ?_
    refine v_icmp_ge (tgt := 41) C dX3_isUnder_7 (by decide) hf (fun hf => ?_) (fun hf => ?_)
    · refine v_iconst (v := 0) C dX3_isUnder_41 (by decide) ?_
      exact v_zret C (Or.inl rfl) dX3_isUnder_42 (fin_i hf hQ)
    · refine v_iload_n C 1 dX3_isUnder_10 rfl rfl ?_
      refine v_iload_n C 0 dX3_isUnder_11 rfl rfl ?_
      refine v_icmp_ne (tgt := 17) C dX3_isUnder_12 (by decide) hf (fun hf => ?_) (fun hf => ?_)
      · refine v_iload_n C 1 dX3_isUnder_17 rfl rfl ?_
        refine v_iconst (v := 0) C dX3_isUnder_18 (by decide) ?_
        refine v_bipush (v := 6) C dX3_isUnder_19 (by decide) ?_
        obtain ⟨y1, hy1, hf⟩ := bnd hf
        refine v_callS (r := some (.int y1)) (As := [.int v2, .int 0, .int 6]) (rest := []) C (mX3_within  hy1) cw_X3_within wd_141 ⟨Nat.le_of_ble_eq_true rfl, Nat.le_of_ble_eq_true rfl⟩ rfl rfl (Nat.le_of_ble_eq_true rfl) dX3_isUnder_21 ?_
        refine v_if_ne (tgt := 29) C dX3_isUnder_24 (by decide) hf (fun hf => ?_) (fun hf => ?_)
        · refine g_gets C (sz0 B) wd_595 dX3_isUnder_29 ?_
          refine v_iload_n C 1 dX3_isUnder_32 rfl rfl ?_
          refine t_ld0 C dX3_isUnder_33 hf (fun a2 hf => ?_)
          refine v_istore_n (lv' := [(1, .int v1), (2, .int a2), (3, .int v3)]) C [1, 0, 2] dX3_isUnder_34 rfl (by decide) rfl ?_
          refine v_iinc (q := 2) (v := v3 + 1) (lv' := [(1, .int v1), (2, .int a2), (3, .int (v3 + 1))]) C [1, 2, 0] dX3_isUnder_35 rfl rfl (by decide) rfl ?_
          refine v_goto (tgt := 4) C dX3_isUnder_38 (by decide) ?_
          exact ih a2 (v3 + 1) hf
        · refine v_iconst (v := 0) C dX3_isUnder_27 (by decide) ?_
          exact v_zret C (Or.inl rfl) dX3_isUnder_28 (fin_i hf hQ)
      · refine v_iconst (v := 1) C dX3_isUnder_15 (by decide) ?_
        exact v_zret C (Or.inr rfl) dX3_isUnder_16 (fin_i hf hQ)
def fX3_isUnder (N : Nat) (v0 : Int32) (v1 : Int32) : Option Int32 := fX3_isUnder_4 N v1 N v0 0
set_option maxHeartbeats 4000000 in
set_option maxRecDepth 100000 in
theorem tX3_isUnder {E : EE} {B : BB} {l : Launch} {σ : St2} {N : Nat} {v0 : Int32} {v1 : Int32} {res : Int32} (C : Cx E B l cX3_isUnder RX3 (some .boolean) 4 1 22) (hQ : Fin9 E B (some (.int res)) σ) (hf : fX3_isUnder N v0 v1 = some res) : V E B σ 0 [(0, .int v0), (1, .int v1)] [] := by
  unfold fX3_isUnder at hf
  refine v_iload_n C 0 dX3_isUnder_0 rfl rfl ?_
  refine v_istore_n (lv' := [(0, .int v0), (1, .int v1), (2, .int v0)]) C [1, 2, 0] dX3_isUnder_1 rfl (by decide) rfl ?_
  refine v_iconst (v := 0) C dX3_isUnder_2 (by decide) ?_
  refine v_istore_n (lv' := [(0, .int v0), (1, .int v1), (2, .int v0), (3, .int 0)]) C [1, 2, 3, 0] dX3_isUnder_3 rfl (by decide) rfl ?_
  refine v_sub [1, 2, 3] rfl ?_
  exact tX3_isUnder_4 C hQ N v0 0 hf
theorem mX3_isUnder {B : BB} {l : Launch} {σ : St2} {N : Nat} {v0 : Int32} {v1 : Int32} {res : Int32} (hf : fX3_isUnder N v0 v1 = some res) : Ret l B yX3_isUnder cX3_isUnder 4 (some .boolean) 1 22 [.int v0, .int v1] σ (some (.int res)) σ := ret_of (own := RX3) (by decide) rfl (Nat.le_of_ble_eq_true rfl) (fun E C hQ => tX3_isUnder C hQ hf)
def fX3_power_5 (N : Nat) (v0 : Int64) (v2 : Int32) : Nat → Int64 → Int32 → Option Int64
  | 0, _, _ => none
  | n + 1, v3, v5 => if v2 ≤ v5 then (some v3) else ((some (v3 * v0)).bind fun w1 => (fX3_power_5 N v0 v2 n) w1 (v5 + 1))
set_option maxHeartbeats 4000000 in
set_option maxRecDepth 100000 in
theorem tX3_power_5 {E : EE} {B : BB} {l : Launch} {σ : St2} {N : Nat} {v0 : Int64} {v2 : Int32} {res : Int64} (C : Cx E B l cX3_power RX3 (some .long) 6 0 0) (hQ : Fin9 E B (some (.long res)) σ) : ∀ (n : Nat) (v3 : Int64) (v5 : Int32), fX3_power_5 N v0 v2 n v3 v5 = some res → V E B σ 5 [(0, .long v0), (2, .int v2), (3, .long v3), (5, .int v5)] [] := by
  intro n
  induction n with
  | zero =>
    intro v3 v5 hf
    cases hf
  | succ n ih =>
    intro v3 v5 hf
    rw [fX3_power_5] at hf
    refine v_iload C 3 dX3_power_5 rfl ?_
    refine v_iload_n C 1 dX3_power_7 rfl rfl ?_
    refine v_icmp_ge (tgt := 21) C dX3_power_8 (by decide) hf (fun hf => ?_) (fun hf => ?_)
    · refine v_lload_n C 2 dX3_power_21 rfl rfl ?_
      exact v_lret C dX3_power_22 (fin_l hf hQ)
    · refine v_lload_n C 2 dX3_power_11 rfl rfl ?_
      refine v_lload_n C 0 dX3_power_12 rfl rfl ?_
      refine v_lmul C dX3_power_13 ?_
      refine v_topl hf (fun w1 hf => ?_)
      refine v_lstore_n (lv' := [(0, .long v0), (2, .int v2), (3, .long w1), (5, .int v5)]) C [1, 2, 0, 3] dX3_power_14 rfl (by decide) rfl ?_
      refine v_iinc (q := 3) (v := v5 + 1) (lv' := [(0, .long v0), (2, .int v2), (3, .long w1), (5, .int (v5 + 1))]) C [1, 2, 3, 0] dX3_power_15 rfl rfl (by decide) rfl ?_
      refine v_goto (tgt := 5) C dX3_power_18 (by decide) ?_
      exact ih w1 (v5 + 1) hf
def fX3_power (N : Nat) (v0 : Int64) (v2 : Int32) : Option Int64 := fX3_power_5 N v0 v2 N 1 0
set_option maxHeartbeats 4000000 in
set_option maxRecDepth 100000 in
theorem tX3_power {E : EE} {B : BB} {l : Launch} {σ : St2} {N : Nat} {v0 : Int64} {v2 : Int32} {res : Int64} (C : Cx E B l cX3_power RX3 (some .long) 6 0 0) (hQ : Fin9 E B (some (.long res)) σ) (hf : fX3_power N v0 v2 = some res) : V E B σ 0 [(0, .long v0), (2, .int v2)] [] := by
  unfold fX3_power at hf
  refine v_lconst (v := 1) C dX3_power_0 (by decide) ?_
  refine v_lstore_n (lv' := [(0, .long v0), (2, .int v2), (3, .long 1)]) C [1, 2, 0] dX3_power_1 rfl (by decide) rfl ?_
  refine v_iconst (v := 0) C dX3_power_2 (by decide) ?_
  refine v_istore (lv' := [(0, .long v0), (2, .int v2), (3, .long 1), (5, .int 0)]) C [1, 2, 3, 0] dX3_power_3 (by decide) rfl ?_
  exact tX3_power_5 C hQ N 1 0 hf
theorem mX3_power {B : BB} {l : Launch} {σ : St2} {N : Nat} {v0 : Int64} {v2 : Int32} {res : Int64} (hf : fX3_power N v0 v2 = some res) : Ret l B yX3_power cX3_power 6 (some .long) 0 0 [.long v0, .int v2] σ (some (.long res)) σ := ret_of (own := RX3) (by decide) rfl (Nat.le_of_ble_eq_true rfl) (fun E C hQ => tX3_power C hQ hf)
