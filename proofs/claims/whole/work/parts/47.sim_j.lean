section SIMJ
variable {hb N : Nat} {κ : St2} {s t k : Nat → Int32} {τ : St2}
theorem vu_self {x : St2} {j : Nat} : va_up x j (x j) = x := by
  funext i
  unfold va_up
  by_cases h : i = j
  · rw [if_pos h, h]
  · rw [if_neg h]
theorem vu_vu {x : St2} {j : Nat} {f g : Nat → Int32} : va_up (va_up x j f) j g = va_up x j g := bx_uu _ _ _ _
theorem vu_s {x : St2} {j : Nat} {f : Nat → Int32} : va_up x j f j = f := by
  unfold va_up
  rw [if_pos rfl]
theorem vu_o {x : St2} {i j : Nat} {f : Nat → Int32} (h : i ≠ j) : va_up x j f i = x i := by
  unfold va_up
  rw [if_neg h]
/-- a sheet is asked for -/
theorem sheetly {v : Int32} {F G : Int32 → Option (Int32 × St2)} (hI : Inv hb κ s k τ) (hok : ∀ q, q < 4 → v = nI q → ¬ κ 10 q = 0 → Ex hb (F 0) (G (-1))) (hF : ∀ y, ¬ y = 0 → F y = (fX3_tell (cq κ s t k) y).bind fun y4 => some (y4.1, y4.2)) (hG : ∀ y, ¬ y < 0 → G y = (fX4_finds (mq τ s) y).bind fun y4 => some (y4.1, y4.2)) : Ex hb ((fX0_findingOf (cq κ s t k) v).bind F) ((fX4_lacks (mq τ s) v).bind G) := by
  rw [finding_c, lacks_m]
  by_cases h1 : 0 ≤ v ∧ v ≤ 3
  · obtain ⟨q, hq, rfl⟩ := sheet_of h1
    obtain ⟨⟨z1, z2⟩, -⟩ := hI.2.2.2.2.1 q hq
    rw [if_pos h1, if_pos h1, rd_n hq (by decide), bs, rd_n hq (by decide), bs, ← z1]
    by_cases h2 : κ 10 q = 0
    · rw [if_pos h2, if_pos h2, bs, bs, hF _ (by decide), hG _ (by decide)]
      exact simT hI 5 (by decide) (by decide) rfl (by decide)
    · rw [if_neg h2, if_neg h2, bs, bs]
      exact hok q hq rfl h2
  · rw [if_neg h1, if_neg h1, bs, bs, hF _ (by decide), hG _ (by decide)]
    exact simB hI
/-! ===== numbers that a sheet of a width holds ===== -/
theorem i_rng (x : Int32) : -2147483648 ≤ x.toInt ∧ x.toInt < 2147483648 := ⟨Int32.le_toInt x, Int32.toInt_lt x⟩
theorem i_tn (x : Int32) : x.toInt = if 2 * x.toBitVec.toNat < 2 ^ 32 then (x.toBitVec.toNat : Int) else (x.toBitVec.toNat : Int) - 2 ^ 32 := BitVec.toInt_eq_toNat_cond x.toBitVec
theorem w_8 (v : Int32) : (v <<< ((32 - 8 : Int32) &&& 31)) >>> ((32 - 8 : Int32) &&& 31) = v.toInt8.toInt32 := by
  apply Int32.toInt_inj.mp
  have h := pk_shl v ((32 - 8 : Int32) &&& 31) 24 (by decide)
  have h1 := i_tn (v <<< ((32 - 8 : Int32) &&& 31))
  have h2 := i_tn v
  rw [pk_shr _ _ 24 (by decide), Int8.toInt_toInt32, Int32.toInt_toInt8, Int.shiftRight_eq_div_pow]
  generalize (v <<< ((32 - 8 : Int32) &&& 31)).toInt = y at h1
  generalize (v <<< ((32 - 8 : Int32) &&& 31)).toBitVec.toNat = yn at h h1
  generalize v.toInt = z at h2
  generalize v.toBitVec.toNat = n at h h2
  simp only [Int.bmod_def]
  split at h1 <;> split at h2 <;> split <;> omega
theorem w_16 (v : Int32) : (v <<< ((32 - 16 : Int32) &&& 31)) >>> ((32 - 16 : Int32) &&& 31) = v.toInt16.toInt32 := by
  apply Int32.toInt_inj.mp
  have h := pk_shl v ((32 - 16 : Int32) &&& 31) 16 (by decide)
  have h1 := i_tn (v <<< ((32 - 16 : Int32) &&& 31))
  have h2 := i_tn v
  rw [pk_shr _ _ 16 (by decide), Int16.toInt_toInt32, Int32.toInt_toInt16, Int.shiftRight_eq_div_pow]
  generalize (v <<< ((32 - 16 : Int32) &&& 31)).toInt = y at h1
  generalize (v <<< ((32 - 16 : Int32) &&& 31)).toBitVec.toNat = yn at h h1
  generalize v.toInt = z at h2
  generalize v.toBitVec.toNat = n at h h2
  simp only [Int.bmod_def]
  split at h1 <;> split at h2 <;> split <;> omega
theorem w_32 (v : Int32) : (v <<< ((32 - 32 : Int32) &&& 31)) >>> ((32 - 32 : Int32) &&& 31) = v := by
  apply Int32.toInt_inj.mp
  have h := pk_shl v ((32 - 32 : Int32) &&& 31) 0 (by decide)
  have h1 := i_tn (v <<< ((32 - 32 : Int32) &&& 31))
  have h2 := i_tn v
  have h3 := v.toBitVec.isLt
  rw [pk_shr _ _ 0 (by decide), Int.shiftRight_eq_div_pow]
  generalize (v <<< ((32 - 32 : Int32) &&& 31)).toInt = y at h1
  generalize (v <<< ((32 - 32 : Int32) &&& 31)).toBitVec.toNat = yn at h h1
  generalize v.toInt = z at h2
  generalize v.toBitVec.toNat = n at h h2 h3
  split at h1 <;> split at h2 <;> omega
theorem sh_wr {q j : Nat} {v : Int32} (hI : Inv hb κ s k τ) (hq : q < 4) (hj : j < 40) : Inv hb (va_up κ (6 + q) (upd (κ (6 + q)) j v)) s k (va_up τ 8 (upd (τ 8) (40 * q + j) v)) := by
  obtain ⟨h1, h2, h3, h4, h5, h6⟩ := hI
  have e0 : ∀ i, i ≠ 6 + q → va_up κ (6 + q) (upd (κ (6 + q)) j v) i = κ i := fun i hi => vu_o hi
  refine ⟨h1, ?_, ?_, ?_, fun q2 hq2 => ?_, h6⟩
  · unfold Kp
    rw [e0 0 (by omega)]
    exact h2
  · unfold Fnd
    rw [e0 1 (by omega)]
    exact h3
  · unfold Tp
    rw [e0 2 (by omega), e0 3 (by omega)]
    exact h4
  · obtain ⟨g1, g2, g3⟩ := h5 q2 hq2
    rw [e0 10 (by omega), e0 11 (by omega)]
    refine ⟨g1, g2, fun i hi => ?_⟩
    show _ = upd (τ 8) (40 * q + j) v (40 * q2 + i)
    by_cases e : q2 = q
    · subst e
      rw [vu_s]
      by_cases e2 : i = j
      · subst e2
        rw [uu, uu]
      · rw [uw e2, uw (by omega)]
        exact g3 i hi
    · rw [e0 _ (by omega), uw (by omega)]
      exact g3 i hi
theorem sim_write {a b v : Int32} (hI : Inv hb κ s k τ) : Ex hb (fX3_write (cq κ s t k) a b v) (fX4_write (mq τ s) a b v) := by
  unfold fX3_write fX4_write
  refine sheetly hI (fun q hq e hk => ?_) (fun y hy => if_neg hy) (fun y hy => if_neg hy)
  subst e
  obtain ⟨⟨z1, z2⟩, ⟨n, n0, n1, n2⟩, z4⟩ := hI.2.2.2.2.1 q hq
  have r11 : rd (cq κ s t k 11) 4 (nI q) = some (nI n) := by rw [rd_n hq (by decide), cq_lo (by decide), n1]
  have r10 : rd (cq κ s t k 10) 4 (nI q) = some (κ 10 q) := by rw [rd_n hq (by decide), cq_lo (by decide)]
  have r7 : rd (mq τ s 7) 4 (nI q) = some (nI n) := by rw [rd_n hq (by decide), mq_o (by decide), n2]
  have r6 : rd (mq τ s 6) 4 (nI q) = some (κ 10 q) := by rw [rd_n hq (by decide), mq_o (by decide), z1]
  unfold fX0_put
  rw [if_pos rfl, if_pos (by decide), r11, bs, within_eq, bs, bl0, r7, bs, in_eq (b := 0) (c := nI n - 1) (by decide) rfl, bs, bl0, r10, r6, bs, bs, bs, bs, ck_n hq (by decide), bs]
  by_cases h : 0 ≤ b ∧ b ≤ nI n - 1
  · have hn : ∃ j, j < n ∧ b = nI j := by
      cases n with
      | zero => exact absurd (Int32.le_trans h.1 h.2) (by decide)
      | succ n =>
        rw [nI_pred] at h
        obtain ⟨j, hj, e⟩ := rng_of (n := n) (by omega) h.1 h.2
        exact ⟨j, by omega, e⟩
    obtain ⟨j, hj, rfl⟩ := hn
    rw [if_pos h, if_pos h, wr_n (show j < 40 by omega) (by decide), bs, bs, cq_lo (by omega), cq_up (by omega), e_40, wr_n (show 40 * q + j < 160 by omega) (by decide), wr_n (show 40 * q + j < 160 by omega) (by decide), wr_n (show 40 * q + j < 160 by omega) (by decide), bs, bs, bs, mq_o (by decide), mq_upo (by decide), mq_upo (by decide), mq_upo (by decide)]
    have fin : ∀ v, Ex hb (some (1, cq (va_up κ (6 + q) (upd (κ (6 + q)) j v)) s t k)) (some (1, mq (va_up τ 8 (upd (τ 8) (40 * q + j) v)) s)) := fun v => ex_same (sh_wr hI hq (by omega))
    rcases z2.resolve_left hk with e | e | e
    · rw [e, if_pos rfl, w_8]
      exact fin _
    · rw [e, if_neg (by decide), if_pos rfl, w_16]
      exact fin _
    · rw [e, if_neg (by decide), if_neg (by decide), w_32]
      exact fin _
  · rw [if_neg h, if_neg h]
    exact simB hI
/-! ===== strides come out of a sheet ===== -/
theorem load_l {q z m : Nat} {s0 : Nat → Int32} (hI : Inv hb κ s0 k τ) (hq : q < 4) (hz : z ≤ 40) (z1 : κ 11 q = nI z) (z2 : τ 7 q = nI z) : ∀ (d i n1 n2 : Nat) (s : Nat → Int32), i + d = min z m → d < n1 → d < n2 → IS m hb s → Ex hb (fX3_load_42 N (nI q) (nI (min z m)) n1 (cq κ s t k) (nI i)) (fX4_load_18 N (nI q) n2 (mq τ s) (nI i)) := by
  intro d
  induction d with
  | zero =>
    intro i n1 n2 s hi h1 h2 hs
    have hm := hs.1.1
    obtain ⟨n1, rfl⟩ : ∃ z, n1 = z + 1 := ⟨n1 - 1, by omega⟩
    obtain ⟨n2, rfl⟩ : ∃ z, n2 = z + 1 := ⟨n2 - 1, by omega⟩
    rw [fX3_load_42, fX4_load_18, if_pos (le_n (by omega) (by omega)), rd_n hq (by decide), bs, mq_o (by decide), z2, rl_2, bs, hs.1.2, show min z m = i by omega]
    by_cases h : z ≤ i
    · rw [if_pos (le_n h (by omega))]
      exact ex_row hI hs.hb60
    · rw [if_neg (nle_n (by omega) (by omega)), if_pos (le_n (by omega) (by omega))]
      exact ex_row hI hs.hb60
  | succ d ih =>
    intro i n1 n2 s hi h1 h2 hs
    have hm := hs.1.1
    obtain ⟨n1, rfl⟩ : ∃ z, n1 = z + 1 := ⟨n1 - 1, by omega⟩
    obtain ⟨n2, rfl⟩ : ∃ z, n2 = z + 1 := ⟨n2 - 1, by omega⟩
    obtain ⟨-, -, g3⟩ := hI.2.2.2.2.1 q hq
    rw [fX3_load_42, fX4_load_18, if_neg (nle_n (by omega) (by omega)), rd_n hq (by decide), bs, mq_o (by decide), z2, rl_2, bs, hs.1.2, if_neg (nle_n (by omega) (by omega)), if_neg (nle_n (by omega) (by omega)), ck_n hq (by decide), bs, cq_lo (by omega), rd_n (by omega) (by decide), bs, show rd (tv 1) 6 3 = some 1 from rfl, show rd (tv 2) 6 3 = some 6 from rfl, bs, bs, within_eq, bs, bl0, e_40, mq_o (by decide), rd_n (by omega) (by decide), bs, in_eq (b := 1) (c := 6) (by decide) (by decide), bs, bl0, ← g3 i (by omega)]
    by_cases h : 1 ≤ κ (6 + q) i ∧ κ (6 + q) i ≤ 6
    · rw [if_pos h, if_pos h, bs, cq_w12 (j := 6 + 3) (by decide) (show i < 8 by omega) (by decide) (ix_t3 (by omega)), bs, sets_3 (by omega), bs, one_n]
      exact ih (i + 1) n1 n2 _ (by omega) (by omega) (by omega) (hs.un (Or.inr (Or.inr ⟨i, 3, by omega, rfl, Or.inr (Or.inr (Or.inl rfl))⟩)))
    · rw [if_neg h, if_neg h]
      exact ex_row hI hs.hb60
theorem imin_n {a b : Nat} (ha : a < 1000000) (hb : b < 1000000) : imin (nI a) (nI b) = nI (min a b) := by
  unfold imin
  by_cases h : b < a
  · rw [if_pos (nI_lt h (by omega)), show min a b = b by omega]
  · rw [if_neg (nI_nlt (by omega) (by omega)), show min a b = a by omega]
theorem sim_load {a : Int32} (hN : 1000 ≤ N) (hI : Inv hb κ s k τ) : Ex hb (fX3_load N (cq κ s t k) a) (fX4_load N (mq τ s) a) := by
  obtain ⟨m, hs⟩ := hI.1
  have hm := hs.1.1
  unfold fX3_load fX4_load
  refine sheetly hI (fun q hq e hk => ?_) (fun y hy => if_neg hy) (fun y hy => if_neg hy)
  subst e
  obtain ⟨-, ⟨n, n0, n1, n2⟩, -⟩ := hI.2.2.2.2.1 q hq
  rw [if_pos rfl, if_pos (by decide), rd_n hq (by decide), bs, cq_lo (by decide), n1, bs, cq_f12, sx_03, hs.1.2, imin_n (by omega) (by omega)]
  exact load_l hI hq n0 n1 n2 (min n m) 0 N N s (by omega) (by omega) (by omega) hs
theorem judge_l {q z : Nat} (hI : Inv hb κ s k τ) (hq : q < 4) (hz : z ≤ 40) (z1 : κ 11 q = nI z) (z2 : τ 7 q = nI z) : ∀ (d i n1 n2 : Nat), i + d = min z 24 → d < n1 → d < n2 → Ex hb (fX3_judge_21 N (cq κ s t k) (nI q) n1 (nI i)) (fX4_judge_18 N (mq τ s) (nI q) n2 (nI i)) := by
  have e1 : rd (cq κ s t k 11) 4 (nI q) = some (nI z) := by rw [rd_n hq (by decide), cq_lo (by decide), z1]
  have e2 : rd (mq τ s 7) 4 (nI q) = some (nI z) := by rw [rd_n hq (by decide), mq_o (by decide), z2]
  intro d
  induction d with
  | zero =>
    intro i n1 n2 hi h1 h2
    obtain ⟨n1, rfl⟩ : ∃ z, n1 = z + 1 := ⟨n1 - 1, by omega⟩
    obtain ⟨n2, rfl⟩ : ∃ z, n2 = z + 1 := ⟨n2 - 1, by omega⟩
    rw [fX3_judge_21, fX4_judge_18, e1, e2, bs, bs]
    unfold fX4_judge_62
    rw [e2, bs, isCell_eq, bs, bl0]
    by_cases h : z ≤ i
    · rw [if_pos (le_n h (by omega)), if_pos (le_n h (by omega)), if_pos (by rw [show i = z by omega])]
      exact ex_same hI
    · have h24 : i = 24 := by omega
      subst h24
      rw [if_neg (nle_n (by omega) (by omega)), if_neg (nle_n (by omega) (by omega)), if_neg (by decide), if_pos (by decide), if_neg (fun e => by have := (nI_eq (by omega) (by omega)).mp e; omega)]
      exact ex_same hI
  | succ d ih =>
    intro i n1 n2 hi h1 h2
    obtain ⟨n1, rfl⟩ : ∃ z, n1 = z + 1 := ⟨n1 - 1, by omega⟩
    obtain ⟨n2, rfl⟩ : ∃ z, n2 = z + 1 := ⟨n2 - 1, by omega⟩
    obtain ⟨-, -, g3⟩ := hI.2.2.2.2.1 q hq
    have hi24 : i < 24 := by omega
    rw [fX3_judge_21, fX4_judge_18, e1, e2, bs, bs]
    unfold fX4_judge_62
    rw [e2, bs, isCell_eq, bs, bl0, if_neg (nle_n (by omega) (by omega)), if_neg (nle_n (by omega) (by omega)), if_pos ⟨nI_pos' (by omega), le_n (b := 23) (by omega) (by omega)⟩, if_neg (show ¬ (24 : Int32) ≤ nI i from nle_n (a := 24) (by omega) (by omega)), ck_n hq (by decide), bs, cq_lo (by omega), rd_n (by omega) (by decide), bs, cq_r12 (j := 2 + 0) (by decide) hi24 (by decide) (ix_p0 hi24), bs, e_5, rm (by omega), bs, e_40, rd_n (by omega) (by decide), bs, mq_o (by decide), ← g3 i (by omega)]
    by_cases h : κ (6 + q) i = s (5 + i)
    · rw [if_pos h, if_pos h.symm, one_n]
      exact ih (i + 1) n1 n2 (by omega) (by omega) (by omega)
    · rw [if_neg h, if_neg (fun e => h e.symm), if_neg (fun e => by have := (nI_eq (by omega) (by omega)).mp e; omega), show 1 + nI i = nI i + 1 from Int32.add_comm _ _]
      exact ex_same hI
theorem sim_judge {a : Int32} (hN : 1000 ≤ N) (hI : Inv hb κ s k τ) : Ex hb (fX3_judge N (cq κ s t k) a) (fX4_judge N (mq τ s) a) := by
  unfold fX3_judge fX4_judge
  refine sheetly hI (fun q hq e hk => ?_) (fun y hy => if_neg hy) (fun y hy => if_neg hy)
  subst e
  obtain ⟨-, ⟨n, n0, n1, n2⟩, -⟩ := hI.2.2.2.2.1 q hq
  rw [if_pos rfl, if_pos (by decide)]
  exact judge_l hI hq n0 n1 n2 (min n 24) 0 N N (by omega) (by omega) (by omega)
end SIMJ
