/-! ===== bits ===== -/
theorem an_n (a b : Nat) : nI a &&& nI b = nI (a &&& b) := by
  apply Int32.toBitVec_inj.1
  show BitVec.ofNat 32 a &&& BitVec.ofNat 32 b = BitVec.ofNat 32 (a &&& b)
  apply BitVec.eq_of_getLsbD_eq
  intro i hi
  simp [hi]
theorem or_n (a b : Nat) : nI a ||| nI b = nI (a ||| b) := by
  apply Int32.toBitVec_inj.1
  show BitVec.ofNat 32 a ||| BitVec.ofNat 32 b = BitVec.ofNat 32 (a ||| b)
  apply BitVec.eq_of_getLsbD_eq
  intro i hi
  simp [hi]
theorem xo_n (a b : Nat) : nI a ^^^ nI b = nI (a ^^^ b) := by
  apply Int32.toBitVec_inj.1
  show BitVec.ofNat 32 a ^^^ BitVec.ofNat 32 b = BitVec.ofNat 32 (a ^^^ b)
  apply BitVec.eq_of_getLsbD_eq
  intro i hi
  simp [hi]
theorem amt : ∀ k, k < 31 → ((nI k &&& 31).toBitVec.smod 32).toNat = k := by decide +kernel
theorem sh1 {k : Nat} (h : k < 31) : (1 : Int32) <<< (nI k &&& 31) = nI (2 ^ k) := by
  have h1 := pk_shlN (n := 1) (nI k &&& 31) k (amt k h) (by rw [Nat.one_mul]; exact Nat.pow_lt_pow_right (by decide) (by omega))
  rw [Nat.one_mul] at h1
  exact h1
theorem shr {a k : Nat} (ha : a < 2 ^ 31) (h : k < 31) : nI a >>> (nI k &&& 31) = nI (a / 2 ^ k) := pk_shrN ha (nI k &&& 31) k (amt k h)
theorem and1 (a : Nat) : nI a &&& 1 = nI (a % 2) := by
  show nI a &&& nI 1 = _
  rw [an_n, Nat.and_one_is_mod]
theorem or_bit {a k : Nat} (ha : a < 2 ^ k) (h : k < 31) : nI a ||| (1 <<< (nI k &&& 31)) = nI (a + 2 ^ k) := by
  rw [sh1 h, or_n, Nat.or_comm]
  have := Nat.two_pow_add_eq_or_of_lt ha 1
  rw [Nat.mul_one] at this
  rw [← this, Nat.add_comm]
/-- the number whose bits are where p says so -/
def bsN (p : Nat → Bool) : Nat → Nat
  | 0 => 0
  | k + 1 => bsN p k + (if p k then 2 ^ k else 0)
theorem bsN_lt (p : Nat → Bool) : ∀ k, bsN p k < 2 ^ k
  | 0 => Nat.one_pos
  | k + 1 => by
    have h := bsN_lt p k
    have e : 2 ^ (k + 1) = 2 ^ k + 2 ^ k := by rw [Nat.pow_succ]; omega
    unfold bsN
    split <;> omega
theorem bsN_cong {p q : Nat → Bool} : ∀ {k : Nat}, (∀ c, c < k → p c = q c) → bsN p k = bsN q k
  | 0, _ => rfl
  | k + 1, h => by
    unfold bsN
    rw [bsN_cong (fun c hc => h c (by omega)), h k (by omega)]
theorem bsN_not (p : Nat → Bool) : ∀ k, bsN p k + bsN (fun c => !p c) k + 1 = 2 ^ k
  | 0 => rfl
  | k + 1 => by
    have h := bsN_not p k
    have e : 2 ^ (k + 1) = 2 ^ k + 2 ^ k := by rw [Nat.pow_succ]; omega
    unfold bsN
    cases hp : p k <;> simp [hp] <;> omega
/-- the sum of the first k bits -/
def pcs : Nat → Nat → Nat
  | 0, _ => 0
  | k + 1, a => pcs k a + a / 2 ^ k % 2
theorem pcs_le : ∀ k a, pcs k a ≤ k
  | 0, _ => Nat.le_refl _
  | k + 1, a => by
    have h := pcs_le k a
    have h2 : a / 2 ^ k % 2 < 2 := Nat.mod_lt _ (by decide)
    unfold pcs
    omega
theorem ones_n {N a : Nat} (hN : 1000 ≤ N) (ha : a < 2 ^ 31) : fX4_ones N (nI a) = some (nI (pcs 24 a)) := by
  have key := itr_loop (ρ := Int32) (fun n (p : Int32) i => fX4_ones_4 N (nI a) n p (nI i)) (fun i p => p = nI (pcs i a)) (fun i _ => nI (pcs (i + 1) a)) 24 (fun p => some p) (fun n p i hi hp => by
      show fX4_ones_4 N (nI a) (n + 1) p (nI i) = fX4_ones_4 N (nI a) n (nI (pcs (i + 1) a)) (nI (i + 1))
      rw [fX4_ones_4, show (24 : Int32) = nI 24 from rfl, if_neg (nle_n hi (by omega)), bs, shr ha (by omega), and1, hp, nI_add, one_n]
      rfl) (fun p i hi hp => rfl) (fun n p hp => by
      show fX4_ones_4 N (nI a) (n + 1) p (nI 24) = some p
      rw [fX4_ones_4, show (24 : Int32) = nI 24 from rfl, if_pos (le_n (Nat.le_refl _) (by omega))]) 24 0 0 N (by omega) (by omega) rfl
  have h := key.1
  rw [key.2] at h
  exact h
theorem and_split {a b c d : Nat} (hb : b < 256) (hd : d < 256) : (256 * a + b) &&& (256 * c + d) = 256 * (a &&& c) + (b &&& d) := by
  have hbd : b &&& d < 2 ^ 8 := Nat.and_lt_two_pow b hd
  apply Nat.eq_of_testBit_eq
  intro i
  rw [Nat.testBit_and, show (256 : Nat) = 2 ^ 8 from rfl, Nat.testBit_two_pow_mul_add a hb i, Nat.testBit_two_pow_mul_add c hd i, Nat.testBit_two_pow_mul_add (a &&& c) hbd i]
  split <;> rw [Nat.testBit_and]
/-! the steps of bitCount on natural numbers -/
def g1 (a : Nat) : Nat := a - (a / 2 &&& 1431655765)
def g2 (a : Nat) : Nat := (a &&& 858993459) + (a / 4 &&& 858993459)
def g3 (a : Nat) : Nat := (a + a / 16) &&& 252645135
theorem by1 : ∀ b, b < 256 → g1 b = b - (b / 2 &&& 85) ∧ (b / 2 &&& 85) ≤ b ∧ g1 b < 256 := by decide +kernel
theorem by1e : ∀ b, b < 128 → ∀ e, e < 2 → (b + 128 * e) &&& 85 = b &&& 85 := by decide +kernel
theorem by2 : ∀ b, b < 256 → g2 b = (b &&& 51) + (b / 4 &&& 51) ∧ g2 b < 256 := by decide +kernel
theorem by2e : ∀ b, b < 64 → ∀ e, e < 4 → (b + 64 * e) &&& 51 = b &&& 51 := by decide +kernel
theorem by3 : ∀ b, b < 256 → g2 (g1 b) ≤ 68 ∧ g2 (g1 b) % 16 ≤ 4 ∧ g3 (g2 (g1 b)) = pcs 8 b := by decide +kernel
theorem g1_split {h b : Nat} (hb : b < 256) (hh : h < 65536) : g1 (256 * h + b) = 256 * g1 h + g1 b := by
  have e : (256 * h + b) / 2 = 256 * (h / 2) + (b / 2 + 128 * (h % 2)) := by omega
  have hl : b / 2 + 128 * (h % 2) < 256 := by omega
  obtain ⟨h1, h2, -⟩ := by1 b hb
  have h3 := by1e (b / 2) (by omega) (h % 2) (by omega)
  have h4 : (h / 2 &&& 5592405) ≤ h / 2 := Nat.and_le_left
  have h5 : (h / 2 &&& 1431655765) = h / 2 &&& 5592405 := by
    have : h / 2 < 65536 := by omega
    apply Nat.eq_of_testBit_eq
    intro i
    rw [Nat.testBit_and, Nat.testBit_and]
    by_cases hi : i < 16
    · have : ∀ i, i < 16 → Nat.testBit 1431655765 i = Nat.testBit 5592405 i := by decide +kernel
      rw [this i hi]
    · rw [Nat.testBit_lt_two_pow (Nat.lt_of_lt_of_le this (Nat.pow_le_pow_right (n := 2) (by decide) (show 16 ≤ i by omega)))]
      rfl
  rw [h1]
  unfold g1
  rw [e, show (1431655765 : Nat) = 256 * 5592405 + 85 from rfl, and_split hl (by decide), h3, ← show (1431655765 : Nat) = 256 * 5592405 + 85 from rfl, h5]
  omega
theorem msk {x m m2 : Nat} (hx : x < 65536) (h : ∀ i, i < 16 → Nat.testBit m i = Nat.testBit m2 i) : x &&& m = x &&& m2 := by
  apply Nat.eq_of_testBit_eq
  intro i
  rw [Nat.testBit_and, Nat.testBit_and]
  by_cases hi : i < 16
  · rw [h i hi]
  · rw [Nat.testBit_lt_two_pow (Nat.lt_of_lt_of_le hx (Nat.pow_le_pow_right (n := 2) (by decide) (show 16 ≤ i by omega)))]
    rfl
theorem g2_split {h b : Nat} (hb : b < 256) (hh : h < 65536) : g2 (256 * h + b) = 256 * g2 h + g2 b := by
  have e : (256 * h + b) / 4 = 256 * (h / 4) + (b / 4 + 64 * (h % 4)) := by omega
  have hl : b / 4 + 64 * (h % 4) < 256 := by omega
  obtain ⟨h1, -⟩ := by2 b hb
  have h3 := by2e (b / 4) (by omega) (h % 4) (by omega)
  have h5 : (h / 4 &&& 858993459) = h / 4 &&& 3355443 := msk (by omega) (by decide +kernel)
  have h6 : (h &&& 858993459) = h &&& 3355443 := msk hh (by decide +kernel)
  rw [h1]
  unfold g2
  rw [e, h5, h6, show (858993459 : Nat) = 256 * 3355443 + 51 from rfl, and_split hl (by decide), and_split hb (by decide), h3]
  omega
theorem and15 (x : Nat) : x &&& 15 = x % 16 := Nat.and_two_pow_sub_one_eq_mod x 4
theorem g3_byte {b : Nat} (hb : b ≤ 68) : g3 b = (b + b / 16) % 16 := by
  have h : ∀ b, b ≤ 68 → g3 b = (b + b / 16) % 16 := by decide +kernel
  exact h b hb
theorem g3_split {h b : Nat} (hb : b ≤ 68) (h4 : h % 16 ≤ 4) (hh : h < 32768) : g3 (256 * h + b) = 256 * g3 h + g3 b := by
  have e : (256 * h + b) + (256 * h + b) / 16 = 256 * (h + h / 16) + (b + b / 16 + 16 * (h % 16)) := by omega
  have h6 : ((h + h / 16) &&& 252645135) = (h + h / 16) &&& 986895 := msk (by omega) (by decide +kernel)
  rw [g3_byte hb]
  unfold g3
  rw [e, h6, show (252645135 : Nat) = 256 * 986895 + 15 from rfl, and_split (by omega) (by decide), and15]
  omega
theorem pcs_b {h b : Nat} (hb : b < 256) : ∀ k, k ≤ 8 → pcs k (256 * h + b) = pcs k b
  | 0, _ => rfl
  | k + 1, hk => by
    unfold pcs
    rw [pcs_b hb k (by omega)]
    have h8 : 256 = 2 ^ k * 2 ^ (8 - k) := by rw [← Nat.pow_add, show k + (8 - k) = 8 by omega]
    have h9 : 2 ^ (8 - k) = 2 * 2 ^ (7 - k) := by rw [show 8 - k = (7 - k) + 1 by omega, Nat.pow_succ, Nat.mul_comm]
    rw [h8, Nat.mul_assoc, Nat.mul_add_div (Nat.pow_pos (by decide)), h9, Nat.mul_assoc, Nat.mul_add_mod]
theorem pcs_h {h b : Nat} (hb : b < 256) : ∀ k, pcs (8 + k) (256 * h + b) = pcs 8 b + pcs k h
  | 0 => pcs_b hb 8 (Nat.le_refl _)
  | k + 1 => by
    show pcs (8 + k) (256 * h + b) + (256 * h + b) / 2 ^ (8 + k) % 2 = pcs 8 b + (pcs k h + h / 2 ^ k % 2)
    rw [pcs_h hb k, Nat.pow_add, ← Nat.div_div_eq_div_mul, show (2 : Nat) ^ 8 = 256 from rfl, show (256 * h + b) / 256 = h by omega, Nat.add_assoc]
theorem u_1 {n : Nat} (h : n < 2 ^ 32) : ((nI n).toUInt32 >>> ((1 : Int32).toUInt32 &&& Int32.toUInt32 31)).toInt32 = nI (n / 2) := pk_ushrN h 1 1 (by decide)
theorem u_2 {n : Nat} (h : n < 2 ^ 32) : ((nI n).toUInt32 >>> ((2 : Int32).toUInt32 &&& Int32.toUInt32 31)).toInt32 = nI (n / 4) := pk_ushrN h 2 2 (by decide)
theorem u_4 {n : Nat} (h : n < 2 ^ 32) : ((nI n).toUInt32 >>> ((4 : Int32).toUInt32 &&& Int32.toUInt32 31)).toInt32 = nI (n / 16) := pk_ushrN h 4 4 (by decide)
theorem u_8 {n : Nat} (h : n < 2 ^ 32) : ((nI n).toUInt32 >>> ((8 : Int32).toUInt32 &&& Int32.toUInt32 31)).toInt32 = nI (n / 256) := pk_ushrN h 8 8 (by decide)
theorem u_16 {n : Nat} (h : n < 2 ^ 32) : ((nI n).toUInt32 >>> ((16 : Int32).toUInt32 &&& Int32.toUInt32 31)).toInt32 = nI (n / 65536) := pk_ushrN h 16 16 (by decide)
theorem bc_fin (p0 p1 p2 : Nat) (h0 : p0 ≤ 8) (h1 : p1 ≤ 8) (h2 : p2 ≤ 8) : (256 * (256 * p2 + p1) + p0 + (256 * (256 * p2 + p1) + p0) / 256 + (256 * (256 * p2 + p1) + p0 + (256 * (256 * p2 + p1) + p0) / 256) / 65536) % 64 = p0 + (p1 + p2) := by
  have e1 : (256 * (256 * p2 + p1) + p0) / 256 = 256 * p2 + p1 := by omega
  rw [e1]
  have e2 : (256 * (256 * p2 + p1) + p0 + (256 * p2 + p1)) / 65536 = p2 := by omega
  rw [e2]
  omega
theorem bitCount_n {a : Nat} (ha : a < 16777216) : fJ6_bitCount_0f7a4 (nI a) = some (nI (pcs 24 a)) := by
  obtain ⟨b0, b1, b2, h0, h1, h2, e⟩ : ∃ b0 b1 b2 : Nat, b0 < 256 ∧ b1 < 256 ∧ b2 < 256 ∧ a = 256 * (256 * b2 + b1) + b0 := ⟨a % 256, a / 256 % 256, a / 65536, by omega, by omega, by omega, by omega⟩
  obtain ⟨p0, q0, r0⟩ := by3 b0 h0
  obtain ⟨p1, q1, r1⟩ := by3 b1 h1
  obtain ⟨p2, q2, r2⟩ := by3 b2 h2
  have i0 := (by1 b0 h0).2.2
  have i1 := (by1 b1 h1).2.2
  have i2 := (by1 b2 h2).2.2
  have e1 : g1 a = 256 * (256 * g1 b2 + g1 b1) + g1 b0 := by rw [e, g1_split h0 (by omega), g1_split h1 (by omega)]
  have e2 : g2 (g1 a) = 256 * (256 * g2 (g1 b2) + g2 (g1 b1)) + g2 (g1 b0) := by rw [e1, g2_split i0 (by omega), g2_split i1 (by omega)]
  have e3 : g3 (g2 (g1 a)) = 256 * (256 * pcs 8 b2 + pcs 8 b1) + pcs 8 b0 := by
    rw [e2, g3_split p0 (by omega) (by omega), g3_split p1 (by omega) (by omega), r0, r1, r2]
  have l0 := pcs_le 8 b0
  have l1 := pcs_le 8 b1
  have l2 := pcs_le 8 b2
  have l3 : (a / 2 &&& 1431655765) ≤ a / 2 := Nat.and_le_left
  have e5 : pcs 24 a = pcs 8 b0 + (pcs 8 b1 + pcs 8 b2) := by
    rw [e]
    show pcs (8 + 16) _ = _
    rw [pcs_h h0]
    show _ + pcs (8 + 8) _ = _
    rw [pcs_h h1]
  unfold fJ6_bitCount_0f7a4
  rw [bs, bs, bs, bs, bs, u_1 (by omega), show (1431655765 : Int32) = nI 1431655765 from rfl, an_n, pk_sub (by omega)]
  rw [show a - (a / 2 &&& 1431655765) = g1 a from rfl, u_2 (by omega), show (858993459 : Int32) = nI 858993459 from rfl, an_n, an_n, nI_add]
  rw [show (g1 a &&& 858993459) + (g1 a / 4 &&& 858993459) = g2 (g1 a) from rfl, u_4 (by omega), nI_add, show (252645135 : Int32) = nI 252645135 from rfl, an_n]
  rw [show (g2 (g1 a) + g2 (g1 a) / 16) &&& 252645135 = g3 (g2 (g1 a)) from rfl, e3, u_8 (by omega), nI_add, u_16 (by omega), nI_add, show (63 : Int32) = nI 63 from rfl, an_n, show (63 : Nat) = 2 ^ 6 - 1 from rfl, Nat.and_two_pow_sub_one_eq_mod, e5]
  exact congrArg (fun z => some (nI z)) (bc_fin _ _ _ l0 l1 l2)
