section SIMI
variable {hb N : Nat} {κ : St2} {s t k : Nat → Int32} {τ : St2}
/-! ===== the tape is fed ===== -/
theorem pw8 : ∀ c, c < 4 → ((((8 * nI c).toUInt32 &&& Int32.toUInt32 31).toBitVec % 32).toNat = 8 * c ∧ (((8 * nI c) &&& 31).toBitVec.smod 32).toNat = 8 * c) := by decide +kernel
theorem tn_i (x : Int32) : (x.toBitVec.toNat : Int) = if x.toInt < 0 then x.toInt + 2 ^ 32 else x.toInt := by
  have h : x.toInt = if 2 * x.toBitVec.toNat < 2 ^ 32 then (x.toBitVec.toNat : Int) else (x.toBitVec.toNat : Int) - 2 ^ 32 := BitVec.toInt_eq_toNat_cond x.toBitVec
  have h2 := x.toBitVec.isLt
  split at h <;> split <;> omega
theorem byte_c (x : Int32) {c : Nat} (hc : c < 4) : (x.toUInt32 >>> ((8 * nI c).toUInt32 &&& Int32.toUInt32 31)).toInt32 &&& 255 = nI (x.toBitVec.toNat / 2 ^ (8 * c) % 256) := by
  rw [pk_and _ 8 (by decide), pk_ushr x _ (8 * c) (pw8 c hc).1]
theorem byte_m (x : Int32) {c : Nat} (hc : c < 4) : (x >>> ((8 * nI c) &&& 31)) &&& 255 = nI (x.toBitVec.toNat / 2 ^ (8 * c) % 256) := by
  rw [pk_and _ 8 (by decide)]
  congr 1
  have h := pk_shr x ((8 * nI c) &&& 31) (8 * c) (pw8 c hc).2
  rw [Int.shiftRight_eq_div_pow] at h
  have h1 := tn_i (x >>> ((8 * nI c) &&& 31))
  rw [h] at h1
  have h2 := tn_i x
  have h3 := x.toBitVec.isLt
  generalize (x >>> ((8 * nI c) &&& 31)).toBitVec.toNat = p at h1
  generalize x.toBitVec.toNat = q at h2 h3
  generalize x.toInt = z at h1 h2
  have h4 : c = 0 ∨ c = 1 ∨ c = 2 ∨ c = 3 := by omega
  rcases h4 with rfl | rfl | rfl | rfl <;> simp at h1 ⊢ <;> split at h1 <;> split at h2 <;> omega
theorem feed_l {v : Int32} : ∀ (p n n1 n2 : Nat) (κ τ : St2), p ≤ 4 → n + p ≤ 120 → p < n1 → p < n2 → Inv hb κ s k τ → κ 2 1 = nI n → Ex hb (fX3_feed_38 N v n1 (cq κ s t k) (nI p + (-1))) (fX4_feed_39 N v n2 (mq τ s) (nI p + (-1))) := by
  intro p
  induction p with
  | zero =>
    intro n n1 n2 κ τ hp hn h1 h2 hI e
    obtain ⟨n1, rfl⟩ : ∃ z, n1 = z + 1 := ⟨n1 - 1, by omega⟩
    obtain ⟨n2, rfl⟩ : ∃ z, n2 = z + 1 := ⟨n2 - 1, by omega⟩
    obtain ⟨z, z0, z1, z2, z3⟩ := hI.2.2.2.1
    rw [fX3_feed_38, fX4_feed_39, if_pos (by decide), if_pos (by decide), cq_lo (by decide), mq_o (by decide), z1, z2]
    exact ex_same hI
  | succ p ih =>
    intro n n1 n2 κ τ hp hn h1 h2 hI e
    obtain ⟨n1, rfl⟩ : ∃ z, n1 = z + 1 := ⟨n1 - 1, by omega⟩
    obtain ⟨n2, rfl⟩ : ∃ z, n2 = z + 1 := ⟨n2 - 1, by omega⟩
    obtain ⟨g1, g2, g3, ⟨z, z0, z1, z2, z3⟩, g5, g6⟩ := id hI
    have ez : z = n := (nI_eq (by omega) (by omega)).mp (z1.symm.trans e)
    subst ez
    rw [pk_m1, fX3_feed_38, fX4_feed_39, if_neg (nI_pos (by omega)), if_neg (nI_pos (by omega))]
    unfold fX2_append pf
    rw [byte_c v (by omega), byte_m v (by omega), cq_lo (by decide), z1, wr_n (by omega) (by decide), bs, bs, cq_lo (by decide), cq_up (by decide), cq_lo (by decide), cq_up (by decide), mq_o (by decide), z2, wr_n (by omega) (by decide), bs, bs, mq_o (by decide), mq_upo (by decide), mq_o (by decide), mq_upo (by decide), bs]
    refine ih (z + 1) n1 n2 _ _ (by omega) (by omega) (by omega) (by omega) ⟨g1, g2, g3, ⟨z + 1, by omega, ?_, ?_, fun j hj => ?_⟩, g5.of (fun j j1 j2 => ?_) rfl rfl rfl, g6⟩ ?_
    · show κ 2 1 + 1 = _
      rw [z1, one_n]
    · show τ 0 7 + 1 = _
      rw [z2, one_n]
    · show upd (κ 3) z _ j = upd (τ 5) z _ j ∧ ∃ v, v < 256 ∧ upd (κ 3) z _ j = nI v
      by_cases ej : j = z
      · subst ej
        rw [uu, uu]
        exact ⟨rfl, _, Nat.mod_lt _ (by decide), rfl⟩
      · rw [uw ej, uw ej]
        exact z3 j (by omega)
    · show va_up (va_up κ 3 _) 2 _ j = κ j
      unfold va_up
      rw [if_neg (by omega), if_neg (by omega)]
    · show κ 2 1 + 1 = _
      rw [z1, one_n]
theorem sim_feed {v a : Int32} (hN : 1000 ≤ N) (hI : Inv hb κ s k τ) : Ex hb (fX3_feed N (cq κ s t k) v a) (fX4_feed N (mq τ s) v a) := by
  obtain ⟨z, z0, z1, z2, z3⟩ := hI.2.2.2.1
  unfold fX3_feed fX4_feed fX2_hasRoom
  rw [within_eq, in_eq (b := 1) (c := 4) (by decide) (by decide), cq_lo (by decide), mq_o (by decide), z1, z2]
  simp only [bs, bl0]
  by_cases h1 : 1 ≤ a ∧ a ≤ 4
  · obtain ⟨n, hn, rfl⟩ := rng_of (n := 4) (by decide) (Int32.le_trans (by decide) h1.1) h1.2
    have hn1 : 1 ≤ n := (nI_leI (a := 1) (by omega) (by omega)).mp h1.1
    obtain ⟨p, rfl⟩ : ∃ p, n = p + 1 := ⟨n - 1, by omega⟩
    rw [if_pos h1, if_pos h1, show (120 : Int32) = nI 120 from rfl, pk_sub (by omega), nI_add, nI_pred]
    by_cases h2 : z + (p + 1) ≤ 120
    · rw [if_neg (nI_nlt (by omega) (by omega)), if_pos (le_n h2 (by omega)), bs, if_neg (by decide), ← pk_m1]
      exact feed_l (p + 1) z N N κ τ (by omega) (by omega) (by omega) (by omega) hI z1
    · rw [if_pos (nI_lt (by omega) (by omega)), if_neg (nle_n (by omega) (by omega)), bs, if_pos rfl]
      exact simT hI 1 (by decide) (by decide) rfl (by decide)
  · rw [if_neg h1, if_neg h1]
    exact simB hI
/-! ===== under which kind ===== -/
theorem und_c : ∀ (n n2 N N2 : Nat) (v a i r : Int32), n ≤ n2 → fX3_isUnder_4 N v n a i = some r → fX3_isUnder_4 N2 v n2 a i = some r := by
  intro n
  induction n with
  | zero => exact fun _ _ _ _ _ _ _ _ h => nomatch h
  | succ n ih =>
    intro n2 N N2 v a i r hn h
    obtain ⟨n2, rfl⟩ : ∃ z, n2 = z + 1 := ⟨n2 - 1, by omega⟩
    rw [fX3_isUnder_4] at h ⊢
    by_cases h1 : 7 ≤ i
    · rw [if_pos h1] at h ⊢
      exact h
    rw [if_neg h1] at h ⊢
    by_cases h2 : a = v
    · rw [if_pos h2] at h ⊢
      exact h
    rw [if_neg h2] at h ⊢
    rw [within_eq, bs, bl0] at h ⊢
    by_cases h3 : 0 ≤ a ∧ a ≤ 6
    · rw [if_pos h3] at h ⊢
      obtain ⟨j, hj, rfl⟩ := rng_of (n := 6) (by decide) h3.1 h3.2
      rw [rd_n (by omega) (by decide), bs] at h ⊢
      exact ih n2 N N2 _ _ _ _ (by omega) h
    · rw [if_neg h3] at h ⊢
      exact h
theorem und_m : ∀ (n n2 N N2 : Nat) (v a r : Int32), n ≤ n2 → fX4_isUnder_2 N v n a = some r → fX4_isUnder_2 N2 v n2 a = some r := by
  intro n
  induction n with
  | zero => exact fun _ _ _ _ _ _ _ h => nomatch h
  | succ n ih =>
    intro n2 N N2 v a r hn h
    obtain ⟨n2, rfl⟩ : ∃ z, n2 = z + 1 := ⟨n2 - 1, by omega⟩
    rw [fX4_isUnder_2] at h ⊢
    by_cases h1 : a = 0
    · rw [if_pos h1] at h ⊢
      exact h
    rw [if_neg h1] at h ⊢
    by_cases h2 : a = v
    · rw [if_pos h2] at h ⊢
      exact h
    rw [if_neg h2] at h ⊢
    cases e : fX4_aboveOf a with
    | none => rw [e] at h; exact nomatch h
    | some b =>
      rw [e, bs] at h
      rw [bs]
      exact ih n2 N N2 _ _ _ (by omega) h
theorem und_2 : ∀ a, a < 7 → ∀ b, b < 7 → fX3_isUnder_4 8 (nI b) 8 (nI a) 0 = some ((fX3_isUnder_4 8 (nI b) 8 (nI a) 0).getD 7) ∧ fX4_isUnder_2 8 (nI b) 8 (nI a) = some ((fX3_isUnder_4 8 (nI b) 8 (nI a) 0).getD 7) := by decide +kernel
theorem und {a b : Nat} (hN : 1000 ≤ N) (ha : a < 7) (hb : b < 7) : ∃ r, fX3_isUnder N (nI a) (nI b) = some r ∧ fX4_isUnder N (nI a) (nI b) = some r := ⟨_, und_c 8 N 8 N _ _ _ _ (by omega) (und_2 a ha b hb).1, und_m 8 N 8 N _ _ _ (by omega) (und_2 a ha b hb).2⟩
theorem sim_as {a b : Int32} (hN : 1000 ≤ N) (hI : Inv hb κ s k τ) : Ex hb (fX3_as N (cq κ s t k) a b) (fX4_as N (mq τ s) a b) := by
  obtain ⟨m, hs⟩ := hI.1
  have hm := hs.1.1
  unfold fX3_as fX4_as
  rw [within_eq, within_eq, isSpot4_eq, isKind4_eq]
  simp only [bs, bl0]
  by_cases h1 : 0 ≤ a ∧ a ≤ 9
  · obtain ⟨c, hc, rfl⟩ := rng_of (n := 9) (by decide) h1.1 h1.2
    rw [if_pos h1, if_pos h1]
    by_cases h2 : 0 ≤ b ∧ b ≤ 6
    · obtain ⟨j, hj, rfl⟩ := rng_of (n := 6) (by decide) h2.1 h2.2
      rw [if_pos h2, if_pos h2, cq_r12 (j := 12) (by decide) (by omega) (by decide) (ix_sp (by omega)), bs, e_125, rm (by omega), bs, cq_v12, iw_x, bs, bl0]
      rcases hs.2.2.2.2.2.2 c (by omega) with e | ⟨w, hw, e⟩
      · rw [e, if_neg (fun h => absurd h.1 (by decide)), if_neg (by decide)]
        exact simT hI 5 (by decide) (by decide) rfl (by decide)
      · obtain ⟨kk, hk1, hk2⟩ := (hs.2.2.2.2.1 w hw).1
        obtain ⟨r, r1, r2⟩ := und (a := kk) (b := j) hN (by omega) (by omega)
        rw [e, if_pos (iw_to hs hw), if_pos (iw_to hs hw).1, cq_r12 (j := 6 + 0) (by decide) (show w < 8 by omega) (by decide) (ix_t0 (by omega)), bs, its_0 (by omega), bs, hk2, r1, r2, bs, bs]
        by_cases hr : r = 0
        · rw [if_pos hr, if_pos hr]
          exact simT hI 2 (by decide) (by decide) rfl (by decide)
        · rw [if_neg hr, if_neg hr]
          exact ex_same hI
    · rw [if_neg h2, if_neg h2]
      exact simB hI
  · rw [if_neg h1, if_neg h1]
    exact simB hI
end SIMI
