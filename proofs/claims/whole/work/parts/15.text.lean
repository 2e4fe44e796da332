/-! ===== texts: length and charAt of the constants ===== -/
section VROWS7
variable {E : EE} {B : BB} {l0 : Launch} {cc : ByteArray} {own : String} {ret : Option FieldType} {mL fr lo : Nat} {σ : St2} {pc : Nat} {lv : List (Nat × Value)} {st : List Value}
theorem v_strf (C : Cx E B l0 cc own ret mL fr lo) {o nm d : String} {v : Value} {q index : Nat} (hE : ∀ (A : Nat → Prop) (U : State) (H : Heap), SF B A U H → va_OF o nm d v q A U H) (hw : Cond.fieldLink own index o nm d ∈ gw) (hd : decode cc pc = .ok (.getfield index, 3)) (k : V E B σ (pc + 3) lv (v :: st)) : V E B σ pc lv (.ref q :: st) := by
  obtain ⟨p, l, e, R, s, m, args, below, meth, c, A, Q, cells, slots, nL⟩ := E
  obtain ⟨hl0, hx, hb, hml, hnl, hr, hlk, hown, hts, hK, hD, hfr, hlo, hcc, hcs, hF⟩ := C
  subst hnl
  intro H locs ls hP hS hl
  exact vk_getf hx hb (hE _ _ _ hF) hS hown (hts _ hw) (fun _ h9 => h9) hd (k H locs ls hP hS hl)
theorem v_gets (C : Cx E B l0 cc own ret mL fr lo) {o nm d : String} {v : Value} {index : Nat} (hZ : ∀ (A : Nat → Prop) (U : State) (H : Heap), SF B A U H → va_Z o nm d v A U H) (hw : Cond.fieldLink own index o nm d ∈ gw) (hd : decode cc pc = .ok (.getstatic index, 3)) (k : V E B σ (pc + 3) lv (v :: st)) : V E B σ pc lv st := by
  obtain ⟨p, l, e, R, s, m, args, below, meth, c, A, Q, cells, slots, nL⟩ := E
  obtain ⟨hl0, hx, hb, hml, hnl, hr, hlk, hown, hts, hK, hD, hfr, hlo, hcc, hcs, hF⟩ := C
  subst hnl
  intro H locs ls hP hS hl
  exact va_gets hx hb (hZ _ _ _ hF) hS hown (hts _ hw) (fun _ h9 => h9) hd (k H locs ls hP hS hl)
theorem v_getsQ (C : Cx E B l0 cc own ret mL fr lo) {o nm d : String} {index : Nat} (hZ : ∀ (A : Nat → Prop) (U : State) (H : Heap), SF B A U H → va_Zq o nm d A U H) (hw : Cond.fieldLink own index o nm d ∈ gw) (hd : decode cc pc = .ok (.getstatic index, 3)) (k : ∀ v : Value, v.category = 1 → V E B σ (pc + 3) lv (v :: st)) : V E B σ pc lv st := by
  obtain ⟨p, l, e, R, s, m, args, below, meth, c, A, Q, cells, slots, nL⟩ := E
  obtain ⟨hl0, hx, hb, hml, hnl, hr, hlk, hown, hts, hK, hD, hfr, hlo, hcc, hcs, hF⟩ := C
  subst hnl
  intro H locs ls hP hS hl
  rcases hZ _ _ _ hF with h | ⟨t, h⟩
  · exact va_gets hx hb h hS hown (hts _ hw) (fun _ h9 => h9) hd (k _ rfl H locs ls hP hS hl)
  · exact va_gets hx hb h hS hown (hts _ hw) (fun _ h9 => h9) hd (k _ rfl H locs ls hP hS hl)
theorem v_slen (C : Cx E B l0 cc own ret mL fr lo) {i : Nat} (hi : i < 14) (hd : decode cc pc = .ok (.arraylength, 1)) (k : V E B σ (pc + 1) lv (.int (nI (slen i)) :: st)) : V E B σ pc lv (.ref (sv B i) :: st) := by
  obtain ⟨p, l, e, R, s, m, args, below, meth, c, A, Q, cells, slots, nL⟩ := E
  obtain ⟨hl0, hx, hb, hml, hnl, hr, hlk, hown, hts, hK, hD, hfr, hlo, hcc, hcs, hF⟩ := C
  subst hnl
  intro H locs ls hP hS hl
  exact va_tlen hx hb (hF.2.1 i hi).2.2.2 hS rfl hd (k H locs ls hP hS hl)
theorem v_sbld (C : Cx E B l0 cc own ret mL fr lo) {i : Nat} {j : Int32} (hi : i < 14) (hin : inb j (slen i)) (hd : decode cc pc = .ok (.baload, 1)) (k : V E B σ (pc + 1) lv (.int (sby i j.toNatClampNeg) :: st)) : V E B σ pc lv (.int j :: .ref (sv B i) :: st) := by
  obtain ⟨p, l, e, R, s, m, args, below, meth, c, A, Q, cells, slots, nL⟩ := E
  obtain ⟨hl0, hx, hb, hml, hnl, hr, hlk, hown, hts, hK, hD, hfr, hlo, hcc, hcs, hF⟩ := C
  subst hnl
  intro H locs ls hP hS hl
  exact va_tb hx hb (hF.2.1 i hi).2.2.2 hS (inb_vp hin) rfl hd (k H locs ls hP hS hl)
end VROWS7
theorem sf_cs (B : BB) (A : Nat → Prop) (U : State) (H : Heap) (h : SF B A U H) : va_Z "java/lang/String" "COMPACT_STRINGS" "Z" (.int 1) A U H := h.2.2.1.1
theorem sf_zq (B : BB) (A : Nat → Prop) (U : State) (H : Heap) (h : SF B A U H) : va_Zq "jdk/internal/util/Preconditions" "SIOOBE_FORMATTER" "Ljava/util/function/BiFunction;" A U H := h.2.2.1.2
theorem sf_co {B : BB} {i : Nat} (hi : i < 14) (A : Nat → Prop) (U : State) (H : Heap) (h : SF B A U H) : va_OF "java/lang/String" "coder" "B" (.int 0) (sk B i) A U H := (h.2.1 i hi).2.1
theorem sf_va {B : BB} {i : Nat} (hi : i < 14) (A : Nat → Prop) (U : State) (H : Heap) (h : SF B A U H) : va_OF "java/lang/String" "value" "[B" (.ref (sv B i)) (sk B i) A U H := (h.2.1 i hi).2.2.1
theorem slen_31 : ∀ i, i < 14 → slen i < 100 := by decide +kernel
theorem sby_c : ∀ i, i < 14 → ∀ j, j < slen i → ((sby i j &&& 255).toUInt32 % 65536).toInt32 = sby i j := by decide +kernel
theorem mJ0_coder {B : BB} {l : Launch} {σ : St2} {i : Nat} (hi : i < 14) : Ret l B yJ0_coder_7d493 cJ0_coder_7d493 1 (some .byte) 0 0 [.ref (sk B i)] σ (some (.int 0)) σ := ret_of (own := RJ0) (by decide) rfl (Nat.le_of_ble_eq_true rfl) (fun E C hQ => by
  refine v_gets C (sf_cs B) wd_510 dJ0_coder_7d493_0 ?_
  refine v_if_eq (tgt := 13) (Pt := none) (Pf := some ()) (res := ()) C dJ0_coder_7d493_3 (by decide) rfl (fun hf => by cases hf) (fun _ => ?_)
  refine v_aload_n C 0 dJ0_coder_7d493_6 rfl rfl ?_
  refine v_strf C (sf_co hi) wd_1130 dJ0_coder_7d493_7 ?_
  refine v_goto (tgt := 14) C dJ0_coder_7d493_10 (by decide) ?_
  exact v_nret C rfl dJ0_coder_7d493_14 hQ)
theorem mJ0_isLatin1 {B : BB} {l : Launch} {σ : St2} {i : Nat} (hi : i < 14) : Ret l B yJ0_isLatin1_aae02 cJ0_isLatin1_aae02 1 (some .boolean) 0 0 [.ref (sk B i)] σ (some (.int 1)) σ := ret_of (own := RJ0) (by decide) rfl (Nat.le_of_ble_eq_true rfl) (fun E C hQ => by
  refine v_gets C (sf_cs B) wd_510 dJ0_isLatin1_aae02_0 ?_
  refine v_if_eq (tgt := 17) (Pt := none) (Pf := some ()) (res := ()) C dJ0_isLatin1_aae02_3 (by decide) rfl (fun hf => by cases hf) (fun _ => ?_)
  refine v_aload_n C 0 dJ0_isLatin1_aae02_6 rfl rfl ?_
  refine v_strf C (sf_co hi) wd_1130 dJ0_isLatin1_aae02_7 ?_
  refine v_if_ne (tgt := 17) (Pt := some ()) (Pf := none) (res := ()) C dJ0_isLatin1_aae02_10 (by decide) rfl (fun hf => by cases hf) (fun _ => ?_)
  refine v_iconst (v := 1) C dJ0_isLatin1_aae02_13 (by decide) ?_
  refine v_goto (tgt := 18) C dJ0_isLatin1_aae02_14 (by decide) ?_
  exact v_zret C (Or.inr rfl) dJ0_isLatin1_aae02_18 hQ)
def fJ0_length_8abf5 (i : Nat) : Option Int32 := some (nI (slen i))
theorem mJ0_length_8abf5 {B : BB} {l : Launch} {σ : St2} {i : Nat} {res : Int32} (hi : i < 14) (hf : fJ0_length_8abf5 i = some res) : Ret l B yJ0_length_8abf5 cJ0_length_8abf5 1 (some .int) 1 20 [.ref (sk B i)] σ (some (.int res)) σ := ret_of (own := RJ0) (by decide) rfl (Nat.le_of_ble_eq_true rfl) (fun E C hQ => by
  cases hf
  refine v_aload_n C 0 dJ0_length_8abf5_0 rfl rfl ?_
  refine v_strf C (sf_va hi) wd_1129 dJ0_length_8abf5_1 ?_
  refine v_slen C hi dJ0_length_8abf5_4 ?_
  refine v_aload_n C 0 dJ0_length_8abf5_5 rfl rfl ?_
  refine v_callT (r := some (.int 0)) (As := []) (rest := [.int (nI (slen i))]) C hi (mJ0_coder hi) cw_J0_coder_7d493 wd_506 ⟨Nat.le_of_ble_eq_true rfl, Nat.le_of_ble_eq_true rfl⟩ rfl rfl (Nat.le_of_ble_eq_true rfl) dJ0_length_8abf5_6 ?_
  refine v_ishr C dJ0_length_8abf5_9 ?_
  have e : nI (slen i) >>> ((0 : Int32) &&& 31) = nI (slen i) := by
    have h : ∀ i, i < 14 → nI (slen i) >>> ((0 : Int32) &&& 31) = nI (slen i) := by decide +kernel
    exact h i hi
  rw [e]
  exact v_iret C dJ0_length_8abf5_10 hQ)
theorem mJ3_checkIndex {B : BB} {l : Launch} {σ : St2} {v : Int32} {n : Nat} {q : Value} (hq : q.category = 1) (hn : n < 100) (hin : inb v n) : Ret l B yJ3_checkIndex_8e157 cJ3_checkIndex_8e157 3 (some .int) 0 0 [.int v, .int (nI n), q] σ (some (.int v)) σ := ret_of (own := RJ3) (by decide) rfl (by cases q <;> first | (cases hq; done) | exact Nat.le_of_ble_eq_true rfl) (fun E C hQ => by
  refine v_sub (lv' := [(0, .int v), (1, .int (nI n))]) [0, 1] rfl ?_
  have h1 : ¬ v < 0 := hin.1
  have h2 : v < nI n := by
    obtain ⟨j, hj, e⟩ := nI_of h1
    have h3 := hin.2
    rw [e, nI_clamp hj] at h3
    rw [e]
    exact nI_lt h3 (by omega)
  refine v_iload_n C 0 dJ3_checkIndex_8e157_0 rfl rfl ?_
  refine v_if_lt (tgt := 9) (Pt := none) (Pf := some ()) (res := ()) C dJ3_checkIndex_8e157_1 (by decide) (if_neg h1) (fun hf => by cases hf) (fun _ => ?_)
  refine v_iload_n C 0 dJ3_checkIndex_8e157_4 rfl rfl ?_
  refine v_iload_n C 1 dJ3_checkIndex_8e157_5 rfl rfl ?_
  refine v_icmp_lt (tgt := 16) (Pt := some ()) (Pf := none) (res := ()) C dJ3_checkIndex_8e157_6 (by decide) (if_pos h2) (fun _ => ?_) (fun hf => by cases hf)
  refine v_iload_n C 0 dJ3_checkIndex_8e157_16 rfl rfl ?_
  exact v_iret C dJ3_checkIndex_8e157_17 hQ)
theorem mJ0_checkIndex {B : BB} {l : Launch} {σ : St2} {v : Int32} {n : Nat} (hn : n < 100) (hin : inb v n) : Ret l B yJ0_checkIndex_df160 cJ0_checkIndex_df160 2 none 1 22 [.int v, .int (nI n)] σ none σ := ret_of (own := RJ0) (by decide) rfl (Nat.le_of_ble_eq_true rfl) (fun E C hQ => by
  refine v_iload_n C 0 dJ0_checkIndex_df160_0 rfl rfl ?_
  refine v_iload_n C 1 dJ0_checkIndex_df160_1 rfl rfl ?_
  refine v_getsQ C (sf_zq B) wd_526 dJ0_checkIndex_df160_2 (fun q hq => ?_)
  refine v_callS (r := some (.int v)) (As := [.int v, .int (nI n), q]) (rest := []) C (mJ3_checkIndex hq hn hin) cw_J3_checkIndex_8e157 wd_528 ⟨Nat.le_of_ble_eq_true rfl, Nat.le_of_ble_eq_true rfl⟩ rfl rfl (Nat.le_of_ble_eq_true rfl) dJ0_checkIndex_df160_5 ?_
  refine v_pop C dJ0_checkIndex_df160_8 rfl ?_
  exact v_vret C dJ0_checkIndex_df160_9 hQ)
theorem mJ1_charAt {B : BB} {l : Launch} {σ : St2} {i : Nat} {v : Int32} (hi : i < 14) (hin : inb v (slen i)) : Ret l B yJ1_charAt_3b067 cJ1_charAt_3b067 2 (some .char) 2 43 [.ref (sv B i), .int v] σ (some (.int (sby i v.toNatClampNeg))) σ := ret_of (own := RJ1) (by decide) rfl (Nat.le_of_ble_eq_true rfl) (fun E C hQ => by
  refine v_iload_n C 1 dJ1_charAt_3b067_0 rfl rfl ?_
  refine v_aload_n C 0 dJ1_charAt_3b067_1 rfl rfl ?_
  refine v_slen C hi dJ1_charAt_3b067_2 ?_
  refine v_callS (r := none) (As := [.int v, .int (nI (slen i))]) (rest := []) C (mJ0_checkIndex (slen_31 i hi) hin) cw_J0_checkIndex_df160 wd_523 ⟨Nat.le_of_ble_eq_true rfl, Nat.le_of_ble_eq_true rfl⟩ rfl rfl (Nat.le_of_ble_eq_true rfl) dJ1_charAt_3b067_3 ?_
  refine v_aload_n C 0 dJ1_charAt_3b067_6 rfl rfl ?_
  refine v_iload_n C 1 dJ1_charAt_3b067_7 rfl rfl ?_
  refine v_sbld C hi hin dJ1_charAt_3b067_8 ?_
  refine v_sipush (v := 255) C dJ1_charAt_3b067_9 (by decide) ?_
  refine v_iand C dJ1_charAt_3b067_12 ?_
  refine v_i2c C dJ1_charAt_3b067_13 ?_
  have hz := pk_nc (sby i v.toNatClampNeg &&& 255)
  rw [sby_c i hi _ hin.2] at hz ⊢
  exact v_nret C hz dJ1_charAt_3b067_14 hQ)
def fJ0_charAt_5068e (i : Nat) (v : Int32) : Option Int32 := rd (sby i) (slen i) v
theorem mJ0_charAt_5068e {B : BB} {l : Launch} {σ : St2} {i : Nat} {v : Int32} {res : Int32} (hi : i < 14) (hf : fJ0_charAt_5068e i v = some res) : Ret l B yJ0_charAt_5068e cJ0_charAt_5068e 2 (some .char) 3 64 [.ref (sk B i), .int v] σ (some (.int res)) σ := ret_of (own := RJ0) (by decide) rfl (Nat.le_of_ble_eq_true rfl) (fun E C hQ => by
  obtain ⟨hin, e⟩ := rd_s hf
  refine v_aload_n C 0 dJ0_charAt_5068e_0 rfl rfl ?_
  refine v_callT (r := some (.int 1)) (As := []) (rest := []) C hi (mJ0_isLatin1 hi) cw_J0_isLatin1_aae02 wd_516 ⟨Nat.le_of_ble_eq_true rfl, Nat.le_of_ble_eq_true rfl⟩ rfl rfl (Nat.le_of_ble_eq_true rfl) dJ0_charAt_5068e_1 ?_
  refine v_if_eq (tgt := 16) (Pt := none) (Pf := some ()) (res := ()) C dJ0_charAt_5068e_4 (by decide) rfl (fun hf => by cases hf) (fun _ => ?_)
  refine v_aload_n C 0 dJ0_charAt_5068e_7 rfl rfl ?_
  refine v_strf C (sf_va hi) wd_1129 dJ0_charAt_5068e_8 ?_
  refine v_iload_n C 1 dJ0_charAt_5068e_11 rfl rfl ?_
  refine v_callS (r := some (.int (sby i v.toNatClampNeg))) (As := [.ref (sv B i), .int v]) (rest := []) C (mJ1_charAt hi hin) cw_J1_charAt_3b067 wd_520 ⟨Nat.le_of_ble_eq_true rfl, Nat.le_of_ble_eq_true rfl⟩ rfl rfl (Nat.le_of_ble_eq_true rfl) dJ0_charAt_5068e_12 ?_
  have hz := pk_nc (sby i v.toNatClampNeg &&& 255)
  rw [sby_c i hi _ hin.2] at hz
  rw [e] at hQ
  exact v_nret C hz dJ0_charAt_5068e_15 hQ)
def Mj (j : Nat) : Prop := j = 1 ∨ j = 2 ∨ j = 3
theorem mj1 : Mj 1 := Or.inl rfl
theorem mj2 : Mj 2 := Or.inr (Or.inl rfl)
theorem mj3 : Mj 3 := Or.inr (Or.inr rfl)
theorem Mj.lt {j : Nat} (h : Mj j) : j < 10 := by rcases h with h | h | h <;> omega
theorem Mj.tb {j : Nat} (h : Mj j) : tb (51 + j) = .inl 135 := by rcases h with rfl | rfl | rfl <;> rfl
