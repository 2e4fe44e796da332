section SIML
variable {hb N : Nat} {κ : St2} {s t k : Nat → Int32} {τ : St2}
theorem copy_ok {q1 q2 z1 z2 a c n : Nat} (hN : 1000 ≤ N) (hI : Inv hb κ s k τ) (hq1 : q1 < 4) (hq2 : q2 < 4) (hz1 : z1 ≤ 40) (hz2 : z2 ≤ 40) (h1 : a + n ≤ z1) (h2 : c + n ≤ z2) : Ex hb ((ck (nI q1) 4).bind fun r12 => (ck (nI q2) 4).bind fun r13 => (cp (cq κ s t k) (6 + r12) 40 (6 + r13) 40 (nI a) (nI c) (nI n)).bind fun κ14 => some (nI n, κ14)) (fX4_copy_119 N (mq τ s) (nI q1) (nI a) (nI q2) (nI c) (nI n) 1) := by
  obtain ⟨f, f1, f2⟩ := cpy_1 (N := N) (τ := τ) (s := s) (q2 := q2) (c := c) hq1 (show a + n ≤ 40 by omega) n 0 N (τ 9) (by omega) (by omega) (fun j hj => absurd hj (by omega))
  obtain ⟨g, g1, g2⟩ := cpy_2 (N := N) (τ := va_up τ 9 f) (s := s) hq2 (show c + n ≤ 40 by omega) vu_s n 0 N (va_up τ 9 f 8) (by omega) (by omega) (fun j => by rw [if_neg (by omega)])
  rw [vu_self] at f2 g2
  have f2' : fX4_copy_135 N (nI q1) (nI a) (nI q2) (nI c) (nI n) N (mq τ s) 0 = _ := f2
  have g2' : fX4_copy_172 N (nI q2) (nI c) (nI n) N (mq (va_up τ 9 f) s) 0 = _ := g2
  unfold fX4_copy_119 cp
  rw [if_neg (by decide), f2', g2', ck_n hq1 (by decide), ck_n hq2 (by decide), bs, bs, nI_clamp (by omega), nI_clamp (by omega), nI_clamp (by omega), if_pos ⟨⟨nI_pos (by omega), nI_pos (by omega), nI_pos (by omega)⟩, by omega, by omega⟩, bs, cq_lo (by omega), cq_lo (by omega), cq_up (by omega)]
  obtain ⟨i1, i2, i3, i4, i5, i6⟩ := hI
  generalize hG : va_cpy (κ (6 + q1)) (κ (6 + q2)) a c n = G
  have e0 : ∀ i, i ≠ 6 + q2 → va_up κ (6 + q2) G i = κ i := fun i hi => vu_o hi
  refine ex_same ⟨i1, ?_, ?_, ?_, fun q hq => ?_, i6⟩
  · unfold Kp
    rw [e0 0 (by omega)]
    exact i2
  · unfold Fnd
    rw [e0 1 (by omega)]
    exact i3
  · unfold Tp
    rw [e0 2 (by omega), e0 3 (by omega)]
    exact i4
  · obtain ⟨j1, j2, j3⟩ := i5 q hq
    rw [e0 10 (by omega), e0 11 (by omega)]
    refine ⟨j1, j2, fun j hj => ?_⟩
    show va_up κ (6 + q2) G (6 + q) j = g (40 * q + j)
    rw [g1]
    by_cases e : q = q2
    · subst e
      rw [vu_s, ← hG]
      by_cases h : c ≤ j ∧ j < c + n
      · rw [pk_cpy_in h.1 h.2, if_pos (by omega), f1 _ (by omega), (i5 q1 hq1).2.2 _ (by omega), show 40 * q1 + (a + (j - c)) = 40 * q1 + a + (40 * q + j - (40 * q + c)) by omega]
      · rw [pk_cpy_out (by omega), if_neg (by omega)]
        exact j3 j hj
    · rw [e0 _ (by omega), if_neg (by omega)]
      exact j3 j hj
theorem sim_copy {a b c d e : Int32} (hN : 1000 ≤ N) (hI : Inv hb κ s k τ) : Ex hb (fX3_copy (cq κ s t k) a b c d e) (fX4_copy N (mq τ s) a b c d e) := by
  unfold fX3_copy fX4_copy fX4_copy_118 fX0_isMissing
  rw [isSheet_eq, isSheet4_eq, isSheet_eq, isSheet4_eq, bs, bs, bs, bs, bl0, bl0, bl0, bl0]
  by_cases h1 : 0 ≤ a ∧ a ≤ 3
  · obtain ⟨q1, hq1, rfl⟩ := sheet_of h1
    rw [if_pos h1, if_pos h1]
    by_cases h2 : 0 ≤ c ∧ c ≤ 3
    · obtain ⟨q2, hq2, rfl⟩ := sheet_of h2
      obtain ⟨⟨u1, -⟩, ⟨z1, z10, z11, z12⟩, -⟩ := hI.2.2.2.2.1 q1 hq1
      obtain ⟨⟨u2, -⟩, ⟨z2, z20, z21, z22⟩, -⟩ := hI.2.2.2.2.1 q2 hq2
      have rc1 : rd (cq κ s t k 10) 4 (nI q1) = some (κ 10 q1) := by rw [rd_n hq1 (by decide), cq_lo (by decide)]
      have rc2 : rd (cq κ s t k 10) 4 (nI q2) = some (κ 10 q2) := by rw [rd_n hq2 (by decide), cq_lo (by decide)]
      have rm1 : rd (mq τ s 6) 4 (nI q1) = some (κ 10 q1) := by rw [rd_n hq1 (by decide), mq_o (by decide), u1]
      have rm2 : rd (mq τ s 6) 4 (nI q2) = some (κ 10 q2) := by rw [rd_n hq2 (by decide), mq_o (by decide), u2]
      have rn1 : rd (mq τ s 7) 4 (nI q1) = some (nI z1) := by rw [rd_n hq1 (by decide), mq_o (by decide), z12]
      have rn2 : rd (mq τ s 7) 4 (nI q2) = some (nI z2) := by rw [rd_n hq2 (by decide), mq_o (by decide), z22]
      rw [if_pos h2, if_pos h2, rc1, rc2, rm1, rm2, rn1, rn2]
      simp only [bs]
      by_cases h3 : κ 10 q1 = 0
      · rw [if_pos h3, if_pos h3, bs, if_neg (by decide)]
        exact simT hI 5 (by decide) (by decide) rfl (by decide)
      rw [if_neg h3, if_neg h3, bs, if_pos rfl]
      by_cases h4 : κ 10 q2 = 0
      · rw [if_pos h4, if_pos h4, bs, if_neg (by decide)]
        exact simT hI 5 (by decide) (by decide) rfl (by decide)
      rw [if_neg h4, if_neg h4, bs, if_pos rfl]
      by_cases h5 : κ 10 q1 = κ 10 q2
      · rw [if_pos h5, if_pos h5]
        have hbad : ∀ p : Prop, [Decidable p] → ∀ X, ((if p then fX4_copy_119 N (mq τ s) (nI q1) b (nI q2) d e 0 else X) = if p then ((fX4_finds (mq τ s) 0).bind fun y15 => some (y15.1, y15.2)) else X) := by
          intro p _ X
          unfold fX4_copy_119
          rw [if_pos rfl]
        rw [hbad, hbad, hbad, hbad, hbad]
        by_cases hP : ∃ x n, b = nI x ∧ e = nI n ∧ x + n ≤ z1
        · obtain ⟨x, n, rfl, rfl, hx⟩ := hP
          rw [part_t hq1 z10 z11 hx, bs, if_neg (by decide), if_neg (nI_pos (by omega)), if_neg (nI_pos (by omega))]
          by_cases hQ : ∃ y n2, d = nI y ∧ nI n = nI n2 ∧ y + n2 ≤ z2
          · obtain ⟨y, n2, rfl, en, hy⟩ := hQ
            have e2 : n = n2 := (nI_eq (by omega) (by omega)).mp en
            subst e2
            rw [part_t hq2 z20 z21 hy, bs, if_neg (by decide), if_neg (nI_pos (by omega)), if_neg (fun h => absurd ((long_gt (by omega) (by omega) z10).mp h) (by omega)), if_neg (fun h => absurd ((long_gt (by omega) (by omega) z20).mp h) (by omega))]
            exact copy_ok hN hI hq1 hq2 z10 z20 hx hy
          · rw [part_f hq2 z20 z21 hQ, bs, if_pos rfl]
            by_cases hd : d < 0
            · rw [if_pos hd]
              exact simB hI
            · obtain ⟨y, hy, rfl⟩ := nI_of hd
              rw [if_neg hd, if_neg (fun h => absurd ((long_gt (by omega) (by omega) z10).mp h) (by omega)), if_pos ((long_gt (by omega) (by omega) z20).mpr (Nat.lt_of_not_le fun h => hQ ⟨y, n, rfl, rfl, h⟩))]
              exact simB hI
        · rw [part_f hq1 z10 z11 hP, bs, if_pos rfl]
          by_cases he : e < 0
          · rw [if_pos he]
            exact simB hI
          obtain ⟨n, hn, rfl⟩ := nI_of he
          rw [if_neg he]
          by_cases hb9 : b < 0
          · rw [if_pos hb9]
            exact simB hI
          obtain ⟨x, hx, rfl⟩ := nI_of hb9
          rw [if_neg hb9]
          by_cases hd : d < 0
          · rw [if_pos hd]
            exact simB hI
          rw [if_neg hd, if_pos ((long_gt (by omega) (by omega) z10).mpr (Nat.lt_of_not_le fun h => hP ⟨x, n, rfl, rfl, h⟩))]
          exact simB hI
      · rw [if_neg h5, if_neg h5]
        exact simT hI 2 (by decide) (by decide) rfl (by decide)
    · rw [if_neg h2, if_neg h2]
      exact simB hI
  · rw [if_neg h1, if_neg h1]
    exact simB hI
end SIML
