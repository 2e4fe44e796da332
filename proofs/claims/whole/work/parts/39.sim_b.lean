section SIMB
variable {hb N : Nat} {κ : St2} {s t k : Nat → Int32} {τ : St2}
def adS (s : Nat → Int32) (m : Nat) (kd c : Int32) : Nat → Int32 := upd (upd (upd (upd (upd (upd (upd s 2 (nI m + 1)) (77 + 6 * m) kd) (77 + 6 * m + 1) c) (77 + 6 * m + 2) 1) (77 + 6 * m + 3) 1) (77 + 6 * m + 4) 4) (77 + 6 * m + 5) 0
theorem room_x {m : Nat} (hs : IS m hb s) : fX1_hasRoom (sx s) = some (bl (m < 8)) := by
  have hm := hs.1.1
  unfold fX1_hasRoom
  rw [sx_03, hs.1.2]
  by_cases h : m < 8
  · rw [bl_t h, if_neg (show ¬ (8 : Int32) ≤ nI m from nle_n (a := 8) h (by omega))]
  · rw [bl_f h, if_pos (show (8 : Int32) ≤ nI m from le_n (a := 8) (by omega) (by omega))]
theorem add_x {m : Nat} {kd c : Int32} (hs : IS m hb s) (hm : m < 8) : fX1_add (sx s) kd c = some (nI m, sx (adS s m kd c)) := by
  unfold fX1_add
  rw [bs, sx_03, hs.1.2, wx hm (by decide) (ix_t0 hm), bs, wx hm (by decide) (ix_t1 hm), bs, wx hm (by decide) (ix_t2 hm), bs, wx hm (by decide) (ix_t3 hm), bs, wx hm (by decide) (ix_t4 hm), bs, wx hm (by decide) (ix_t5 hm), bs, sx_03, px (i := 2) rfl, bs, uw (by omega), uw (by omega), uw (by omega), uw (by omega), uw (by omega), uw (by omega), hs.1.2]
  refine congrArg (fun z => some (nI m, sx z)) ?_
  unfold adS
  funext j
  by_cases h : j = 2
  · subst h
    rw [uu, uw (by omega), uw (by omega), uw (by omega), uw (by omega), uw (by omega), uw (by omega), uu]
  · rw [uw h]
    unfold upd
    rw [if_neg (c := j = 2) h]
theorem add_m {m : Nat} {kd c : Int32} (hs : IS m hb s) (hm : m < 8) : fX4_adds (mq τ s) kd c = some (nI m, mq τ (adS s m kd c)) := by
  unfold fX4_adds adS
  rw [rl_2, bs, bs, wl_2, bs, hs.1.2, sets_0 hm, bs, sets_1 hm, bs, sets_2 hm, bs, sets_3 hm, bs, sets_4 hm, bs, sets_5 hm, bs]
theorem IS.add {m kk : Nat} {c : Int32} (hs : IS m hb s) (hm : m < 8) (hk : kk ≤ 6) : IS (m + 1) hb (adS s m (nI kk) c) := by
  have at_ : ∀ j, j ≠ 2 → (j < 77 + 6 * m ∨ 77 + 6 * m + 6 ≤ j) → adS s m (nI kk) c j = s j := fun j h1 h2 => by
    unfold adS
    rw [uw (by omega), uw (by omega), uw (by omega), uw (by omega), uw (by omega), uw (by omega), uw (by omega)]
  have a2 : adS s m (nI kk) c 2 = nI (m + 1) := by
    unfold adS
    rw [uw (by omega), uw (by omega), uw (by omega), uw (by omega), uw (by omega), uw (by omega), uu, one_n]
  have a0 : adS s m (nI kk) c (77 + 6 * m) = nI kk := by
    unfold adS
    rw [uw (by omega), uw (by omega), uw (by omega), uw (by omega), uw (by omega), uu]
  have a4 : adS s m (nI kk) c (77 + 6 * m + 4) = nI 4 := by
    unfold adS
    rw [uw (by omega), uu]
    rfl
  obtain ⟨-, ⟨z, z1, z2⟩, ⟨r, r1, r2⟩, ⟨q, q1, q2⟩, ht, hp, hsp⟩ := hs
  refine ⟨⟨by omega, a2⟩, ⟨z, z1, (at_ 0 (by omega) (by omega)).trans z2⟩, ⟨r, r1, (at_ 3 (by omega) (by omega)).trans r2⟩, ⟨q, q1, (at_ 4 (by omega) (by omega)).trans q2⟩, fun w hw => ?_, fun c2 hc => ?_, fun k2 hk2 => ?_⟩
  · by_cases e : w = m
    · subst e
      rw [a0, a4]
      exact ⟨⟨kk, hk, rfl⟩, 4, by omega, rfl⟩
    · rw [at_ _ (by omega) (by omega), at_ _ (by omega) (by omega)]
      exact ht w (by omega)
  · rw [at_ _ (by omega) (by omega), at_ _ (by omega) (by omega)]
    exact hp c2 hc
  · rw [at_ _ (by omega) (by omega)]
    rcases hsp k2 hk2 with h | ⟨w, h1, h2⟩
    · exact Or.inl h
    · exact Or.inr ⟨w, by omega, h2⟩
theorem sim_walker {a b : Int32} (hI : Inv hb κ s k τ) : Ex hb (fX3_walker (cq κ s t k) a b) (fX4_walker (mq τ s) a b) := by
  obtain ⟨m, hs⟩ := hI.1
  have hm := hs.1.1
  unfold fX3_walker fX4_walker
  rw [within_eq, isKind4_eq, isCell_eq, isCell4_eq, cq_v12, room_x hs, rl_2]
  simp only [bs, bl0]
  by_cases h1 : 0 ≤ a ∧ a ≤ 6
  · obtain ⟨kk, hk, rfl⟩ := rng_of (n := 6) (by decide) h1.1 h1.2
    rw [if_pos h1, if_pos h1]
    by_cases h2 : 0 ≤ b ∧ b ≤ 23
    · rw [if_pos h2, if_pos h2, hs.1.2]
      by_cases h3 : m < 8
      · have h4 : ¬ nI m = 8 := fun e => by
          have := (nI_eq (b := 8) (by omega) (by omega)).mp e
          omega
        rw [if_pos h3, if_neg h4, add_x hs h3, add_m hs h3, bs, bs, cq_p12]
        exact ex_row hI (hs.hb60.add h3 hk)
      · have h4 : nI m = 8 := by rw [show m = 8 by omega]; rfl
        rw [if_neg h3, if_pos h4]
        exact simT hI 1 (by decide) (by decide) rfl (by decide)
    · rw [if_neg h2, if_neg h2]
      exact simB hI
  · rw [if_neg h1, if_neg h1]
    exact simB hI
theorem lit_ne {r a : Nat} (h : r ≠ a) (hr : r < 1000) (ha : a < 1000) : ¬ nI r = nI a := fun e => h ((nI_eq (by omega) (by omega)).mp e)
theorem sim_of {a b : Int32} (hN : 1000 ≤ N) (hI : Inv hb κ s k τ) : Ex hb (fX3_of N (cq κ s t k) a b) (fX4_of N (mq τ s) a b) := by
  obtain ⟨m, hs⟩ := hI.1
  have hm := hs.1.1
  unfold fX3_of fX4_of
  rw [cq_v12, iw_x, iw_m, within_eq, in_eq (b := 0) (c := 9) (by decide) (by decide)]
  simp only [bs, bl0]
  by_cases h1 : 0 ≤ a ∧ a ≤ s 2 - 1
  · obtain ⟨w, hw, rfl⟩ := iw_of hs h1
    have hw8 : w < 8 := by omega
    rw [if_pos h1, if_pos h1]
    by_cases h2 : 0 ≤ b ∧ b ≤ 9
    · obtain ⟨r, hr, rfl⟩ := rng_of (n := 9) (by decide) h2.1 h2.2
      obtain ⟨n9, hn9, he9⟩ := (hs.2.2.2.2.1 w hw).2
      rw [if_pos h2, if_pos h2, strides_x hw8, strides_m hw8, presses_x hw8 hn9 he9, presses_m hw8, looks_x hw8, looks_m hw8, workSet_x hN, workOf_m hN]
      simp only [bs]
      by_cases h6 : nI r = 6
      · rw [if_pos h6, if_pos h6]
        exact ex_same hI
      · rw [if_neg h6, if_neg h6]
        by_cases h7 : nI r = 7
        · rw [if_pos h7, if_pos h7]
          exact ex_same hI
        · rw [if_neg h7, if_neg h7]
          by_cases h8 : nI r = 8
          · rw [if_pos h8, if_pos h8]
            exact ex_same hI
          · rw [if_neg h8, if_neg h8]
            by_cases h9 : nI r = 9
            · rw [if_pos h9, if_pos h9]
              exact ex_same hI
            · rw [if_neg h9, if_neg h9]
              have hr6 : r < 6 := by
                have q6 : r ≠ 6 := fun e => h6 (by rw [e]; rfl)
                have q7 : r ≠ 7 := fun e => h7 (by rw [e]; rfl)
                have q8 : r ≠ 8 := fun e => h8 (by rw [e]; rfl)
                have q9 : r ≠ 9 := fun e => h9 (by rw [e]; rfl)
                omega
              rw [ck_n hr6 (by decide), bs, cq_r12 (by omega) hw8 (by decide) (ix_t hr6 hw8), bs, its_n r rfl hw8 hr6, bs]
              exact ex_same hI
    · rw [if_neg h2, if_neg h2]
      exact simB hI
  · rw [if_neg h1, if_neg h1]
    exact simB hI
theorem mayBe_n {r : Nat} {v : Int32} (hr : r < 6) : fX4_mayBe (nI r) v = some (bl (tv 1 r ≤ v ∧ v ≤ tv 2 r)) := by
  unfold fX4_mayBe
  rw [isKind4_eq, isCell4_eq, in_eq (b := 0) (c := 1) (by decide) (by decide), in_eq (b := 1) (c := 6) (by decide) (by decide), in_eq (b := 1) (c := 9) (by decide) (by decide), in_eq (b := 0) (c := 99999) (by decide) (by decide)]
  simp only [bs, bz_bl, bl0]
  rcases (show r = 0 ∨ r = 1 ∨ r = 2 ∨ r = 3 ∨ r = 4 ∨ r = 5 by omega) with rfl | rfl | rfl | rfl | rfl | rfl
  · rw [if_pos (by decide)]
    rfl
  · rw [if_neg (by decide), if_pos (by decide)]
    rfl
  · rw [if_neg (by decide), if_neg (by decide), if_pos (by decide)]
    rfl
  · rw [if_neg (by decide), if_neg (by decide), if_neg (by decide), if_pos (by decide)]
    rfl
  · rw [if_neg (by decide), if_neg (by decide), if_neg (by decide), if_neg (by decide), if_pos (by decide)]
    rfl
  · rw [if_neg (by decide), if_neg (by decide), if_neg (by decide), if_neg (by decide), if_neg (by decide), if_pos (by decide)]
    unfold bl
    split
    · rename_i h
      rw [if_pos (show tv 1 5 ≤ v ∧ v ≤ tv 2 5 from h)]
    · rename_i h
      rw [if_neg (show ¬ (tv 1 5 ≤ v ∧ v ≤ tv 2 5) from h)]
theorem mayBe_o {b v : Int32} (hb5 : ¬ (0 ≤ b ∧ b ≤ 5)) : fX4_mayBe b v = some 0 := by
  unfold fX4_mayBe
  have ne : ∀ n, n ≤ 5 → ¬ b = nI n := fun n hn e => hb5 (by
    rw [e]
    exact ⟨nI_pos' (by omega), show nI n ≤ nI 5 from le_n hn (by omega)⟩)
  rw [if_neg (show ¬ b = 0 from ne 0 (by omega)), if_neg (show ¬ b = 1 from ne 1 (by omega)), if_neg (show ¬ b = 2 from ne 2 (by omega)), if_neg (show ¬ b = 3 from ne 3 (by omega)), if_neg (show ¬ b = 4 from ne 4 (by omega)), if_neg (show ¬ b = 5 from ne 5 (by omega))]
theorem IS.trait {m w r : Nat} {v : Int32} (hs : IS m hb s) (hw : w < m) (hr : r < 6) (hv : tv 1 r ≤ v ∧ v ≤ tv 2 r) : IS m hb (upd s (77 + 6 * w + r) v) := by
  have hm := hs.1.1
  by_cases h0 : r = 0
  · subst h0
    obtain ⟨kk, hk, e⟩ := rng_of (n := 6) (by decide) (show 0 ≤ v from hv.1) (show v ≤ 6 from hv.2)
    obtain ⟨⟨m1, m2⟩, ⟨z, z1, z2⟩, ⟨r, r1, r2⟩, ⟨q, q1, q2⟩, ht, hp, hsp⟩ := hs
    refine ⟨⟨m1, (uw (by omega)).trans m2⟩, ⟨z, z1, (uw (by omega)).trans z2⟩, ⟨r, r1, (uw (by omega)).trans r2⟩, ⟨q, q1, (uw (by omega)).trans q2⟩, fun w2 hw2 => ?_, fun c2 hc => ?_, fun k2 hk2 => ?_⟩
    · rw [uw (j := 77 + 6 * w2 + 4) (by omega)]
      by_cases ew : w2 = w
      · subst ew
        refine ⟨⟨kk, hk, ?_⟩, (ht w2 hw2).2⟩
        rw [show 77 + 6 * w2 = 77 + 6 * w2 + 0 by omega, uu, e]
      · rw [uw (by omega)]
        exact ht w2 hw2
    · rw [uw (by omega), uw (by omega)]
      exact hp c2 hc
    · rw [uw (by omega)]
      exact hsp k2 hk2
  · by_cases h4 : r = 4
    · subst h4
      obtain ⟨n9, hn, e⟩ := rng_of (n := 9) (by decide) (Int32.le_trans (by decide) (show 1 ≤ v from hv.1)) (show v ≤ 9 from hv.2)
      obtain ⟨⟨m1, m2⟩, ⟨z, z1, z2⟩, ⟨r, r1, r2⟩, ⟨q, q1, q2⟩, ht, hp, hsp⟩ := hs
      refine ⟨⟨m1, (uw (by omega)).trans m2⟩, ⟨z, z1, (uw (by omega)).trans z2⟩, ⟨r, r1, (uw (by omega)).trans r2⟩, ⟨q, q1, (uw (by omega)).trans q2⟩, fun w2 hw2 => ?_, fun c2 hc => ?_, fun k2 hk2 => ?_⟩
      · rw [uw (j := 77 + 6 * w2) (by omega)]
        by_cases ew : w2 = w
        · subst ew
          exact ⟨(ht w2 hw2).1, n9, hn, uu.trans e⟩
        · rw [uw (by omega)]
          exact ht w2 hw2
      · rw [uw (by omega), uw (by omega)]
        exact hp c2 hc
      · rw [uw (by omega)]
        exact hsp k2 hk2
    · exact hs.un (Or.inr (Or.inr ⟨w, r, by omega, rfl, by omega⟩))
theorem tv_r {i r : Nat} (hr : r < 6) : rd (tv i) 6 (nI r) = some (tv i r) := rd_n hr (by decide)
theorem sim_change {a b v : Int32} (hI : Inv hb κ s k τ) : Ex hb (fX3_change (cq κ s t k) a b v) (fX4_change (mq τ s) a b v) := by
  obtain ⟨m, hs⟩ := hI.1
  have hm := hs.1.1
  unfold fX3_change fX4_change fX4_becomes
  rw [cq_v12, iw_x, iw_m, within_eq]
  simp only [bs, bl0]
  by_cases h1 : 0 ≤ a ∧ a ≤ s 2 - 1
  · obtain ⟨w, hw, rfl⟩ := iw_of hs h1
    have hw8 : w < 8 := by omega
    rw [if_pos h1, if_pos h1]
    by_cases h2 : 0 ≤ b ∧ b ≤ 5
    · obtain ⟨r, hr, rfl⟩ := rng_of (n := 5) (by decide) h2.1 h2.2
      have hr6 : r < 6 := by omega
      rw [if_pos h2, tv_r hr6, bs, tv_r hr6, bs, within_eq, mayBe_n hr6]
      simp only [bs, bl0]
      by_cases h3 : tv 1 r ≤ v ∧ v ≤ tv 2 r
      · rw [if_pos h3, if_pos h3, ck_n hr6 (by decide), bs, cq_r12 (by omega) hw8 (by decide) (ix_t hr6 hw8), bs, bs, cq_w12 (by omega) hw8 (by decide) (ix_t hr6 hw8), bs, e_tr, rm (by omega), bs, wm (by omega), bs, bs]
        exact ex_row hI (hs.hb60.trait hw hr6 h3)
      · rw [if_neg h3, if_neg h3]
        exact simB hI
    · rw [if_neg h2, mayBe_o h2, bs, if_pos rfl]
      exact simB hI
  · rw [if_neg h1, if_neg h1]
    exact simB hI
theorem hour_le {m n : Nat} (hs : IS m hb s) (hn : n ≤ 60) (hhb : hb + 60 ≤ 99999) : s 0 + nI n ≤ 99999 := by
  obtain ⟨z, z1, z2⟩ := hs.2.1
  rw [z2, nI_add]
  exact show nI (z + n) ≤ nI 99999 from le_n (by omega) (by omega)
theorem sim_go {a : Int32} (hN : 1000 ≤ N) (hhb : hb + 60 ≤ 99999) (hI : Inv hb κ s k τ) : Ex hb (fX3_go N (cq κ s t k) a) (fX4_go N (mq τ s) a) := by
  obtain ⟨m, hs⟩ := hI.1
  unfold fX3_go fX4_go
  rw [within_eq, in_eq (b := 1) (c := 60) (by decide) (by decide), rl_0]
  simp only [bs, bl0]
  by_cases h1 : 1 ≤ a ∧ a ≤ 60
  · obtain ⟨n, hn, rfl⟩ := rng_of (n := 60) (by decide) (Int32.le_trans (by decide) h1.1) h1.2
    rw [if_pos h1, if_pos h1, cq_f12, sx_06, if_pos (hour_le hs hn hhb), if_pos (hour_le hs hn hhb), cq_v12, hs_x hN (by omega) (by omega) hs, bs]
    have h := hs_m (τ := τ) hN (show n ≤ 200 by omega) hs hI.2.2.2.2.2
    rw [h.1, bs, cq_p12, cq_v12, printCount_x hN h.2, bs, printed_m hN, bs, ones_n hN (Nat.lt_trans (pdN_lt _) (by decide)), bs]
    exact ex_row hI (h.2.mono (by omega))
  · rw [if_neg h1, if_neg h1]
    exact simB hI
theorem sim_now {a : Int32} (hN : 1000 ≤ N) (hI : Inv hb κ s k τ) : Ex hb (fX3_now N (cq κ s t k) a) (fX4_now N (mq τ s) a) := by
  obtain ⟨m, hs⟩ := hI.1
  unfold fX3_now fX4_now
  rw [cq_v12, printCount_x hN hs, printSet_x hN hs, depth_x hN, great_x hN hs, steps_x hN hs, rl_0, printed_m hN, rl_4, depth_m hN, great_m hN hs, steps_m hN hs, cq_f12, cq_f12, sx_05, sx_06]
  simp only [bs]
  rw [ones_n hN (Nat.lt_trans (pdN_lt _) (by decide)), bs]
  by_cases h0 : a = 0
  · rw [if_pos h0, if_pos h0]
    exact ex_same hI
  · rw [if_neg h0, if_neg h0]
    by_cases h1 : a = 1
    · rw [if_pos h1, if_pos h1]
      exact ex_same hI
    · rw [if_neg h1, if_neg h1]
      by_cases h2 : a = 2
      · rw [if_pos h2, if_pos h2]
        exact ex_same hI
      · rw [if_neg h2, if_neg h2]
        by_cases h3 : a = 3
        · rw [if_pos h3, if_pos h3]
          exact ex_same hI
        · rw [if_neg h3, if_neg h3]
          by_cases h4 : a = 4
          · rw [if_pos h4, if_pos h4]
            exact ex_same hI
          · rw [if_neg h4, if_neg h4]
            by_cases h5 : a = 5
            · rw [if_pos h5, if_pos h5]
              exact ex_same hI
            · rw [if_neg h5, if_neg h5]
              by_cases h6 : a = 6
              · rw [if_pos h6, if_pos h6]
                exact ex_same hI
              · rw [if_neg h6, if_neg h6]
                exact simB hI
theorem sim_line {a : Int32} (hN : 1000 ≤ N) (hI : Inv hb κ s k τ) : Ex hb (fX3_line N (cq κ s t k) a) (fX4_line N (mq τ s) a) := by
  unfold fX3_line fX4_line
  rw [cq_v12, iw_x, iw_m, line_x hN, line_m hN]
  simp only [bs, bl0]
  by_cases h1 : 0 ≤ a ∧ a ≤ s 2 - 1
  · rw [if_pos h1, if_pos h1]
    exact ex_same hI
  · rw [if_neg h1, if_neg h1]
    exact simB hI
end SIMB
