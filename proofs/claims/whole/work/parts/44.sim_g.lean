section SIMG
variable {hb N : Nat} {κ : St2} {s t k : Nat → Int32} {τ : St2}
theorem sim_seed {a : Int32} (hI : Inv hb κ s k τ) : Ex hb (fX3_seed (cq κ s t k) a) (fX4_seed (mq τ s) a) := by
  obtain ⟨m, hs⟩ := hI.1
  unfold fX3_seed fX4_seed fX4_becomes
  rw [cq_pf12 (i := 1) rfl, bs, bs, cq_f12, sx_07, rl_1, bs, wl_1, bs, bs]
  exact ex_row hI (hs.hb60.un (Or.inl rfl))
theorem IS.sp {m j : Nat} {v : Int32} (h : IS m hb s) (hj : j < 10) (hv : v = -1 ∨ ∃ w, w < m ∧ v = nI w) : IS m hb (upd s (125 + j) v) := by
  obtain ⟨⟨m1, m2⟩, ⟨z, z1, z2⟩, ⟨r, r1, r2⟩, ⟨q, q1, q2⟩, ht, hp, hs⟩ := h
  refine ⟨⟨m1, (uw (by omega)).trans m2⟩, ⟨z, z1, (uw (by omega)).trans z2⟩, ⟨r, r1, (uw (by omega)).trans r2⟩, ⟨q, q1, (uw (by omega)).trans q2⟩, fun w hw => ?_, fun c hc => ?_, fun i hi => ?_⟩
  · rw [uw (by omega), uw (by omega)]
    exact ht w hw
  · rw [uw (by omega), uw (by omega)]
    exact hp c hc
  · by_cases e : i = j
    · subst e
      rw [uu]
      exact hv
    · rw [uw (by omega)]
      exact hs i hi
theorem sim_hold {a b : Int32} (hI : Inv hb κ s k τ) : Ex hb (fX3_hold (cq κ s t k) a b) (fX4_hold (mq τ s) a b) := by
  obtain ⟨m, hs⟩ := hI.1
  have hm := hs.1.1
  unfold fX3_hold fX4_hold fX4_hold_26
  rw [within_eq, isSpot4_eq, cq_v12, iwn_x hs, iw_m]
  simp only [bs, bl0]
  by_cases h1 : 0 ≤ a ∧ a ≤ 9
  · obtain ⟨c, hc, rfl⟩ := rng_of (n := 9) (by decide) h1.1 h1.2
    rw [if_pos h1, if_pos h1]
    by_cases h2 : b = -1
    · rw [if_pos (Or.inl h2), if_pos h2, cq_w12 (j := 12) (by decide) (by omega) (by decide) (ix_sp (by omega)), bs, e_125, wm (by omega), bs]
      exact ex_row hI (hs.hb60.sp (by omega) (Or.inl h2))
    · rw [if_neg h2]
      by_cases h3 : 0 ≤ b ∧ b ≤ s 2 - 1
      · obtain ⟨w, hw, e⟩ := iw_of hs h3
        rw [if_pos (Or.inr h3), if_pos h3, cq_w12 (j := 12) (by decide) (by omega) (by decide) (ix_sp (by omega)), bs, e_125, wm (by omega), bs]
        exact ex_row hI (hs.hb60.sp (by omega) (Or.inr ⟨w, hw, e⟩))
      · rw [if_neg (fun h => h.elim h2 h3), if_neg h3]
        exact simB hI
  · rw [if_neg h1, if_neg h1]
    exact simB hI
theorem sim_count {a : Int32} (hN : 1000 ≤ N) (hI : Inv hb κ s k τ) : Ex hb (fX3_count N (cq κ s t k) a) (fX4_count N (mq τ s) a) := by
  obtain ⟨m, hs⟩ := hI.1
  obtain ⟨n, -, n1, n2, -⟩ := hI.2.2.2.1
  have e7 : mq τ s 0 7 = κ 2 1 := by rw [mq_o (by decide), n1, n2]
  have e2 : cq κ s t k 2 1 = κ 2 1 := by rw [cq_lo (by decide)]
  unfold fX3_count fX4_count
  rw [cq_v12, printCount_x hN hs, steps_x hN hs, held_x hN, rl_0, rl_2, rl_4, rl_1, printed_m hN, steps_m hN hs, held_m hN hs, cq_f12, cq_f12, cq_f12, cq_f12, sx_03, sx_05, sx_06, sx_07, e7, e2]
  simp only [bs]
  rw [ones_n hN (Nat.lt_trans (pdN_lt _) (by decide)), bs]
  by_cases h0 : a = 0
  · rw [if_pos h0, if_pos h0]
    exact ex_same hI
  rw [if_neg h0, if_neg h0]
  by_cases h1 : a = 1
  · rw [if_pos h1, if_pos h1]
    exact ex_same hI
  rw [if_neg h1, if_neg h1]
  by_cases h2 : a = 2
  · rw [if_pos h2, if_pos h2]
    exact ex_same hI
  rw [if_neg h2, if_neg h2]
  by_cases h3 : a = 3
  · rw [if_pos h3, if_pos h3]
    exact ex_same hI
  rw [if_neg h3, if_neg h3]
  by_cases h4 : a = 4
  · rw [if_pos h4, if_pos h4]
    exact ex_same hI
  rw [if_neg h4, if_neg h4]
  by_cases h5 : a = 5
  · rw [if_pos h5, if_pos h5]
    exact ex_same hI
  rw [if_neg h5, if_neg h5]
  by_cases h6 : a = 6
  · rw [if_pos h6, if_pos h6]
    exact ex_same hI
  rw [if_neg h6, if_neg h6]
  by_cases h7 : a = 7
  · rw [if_pos h7, if_pos h7]
    exact ex_same hI
  rw [if_neg h7, if_neg h7]
  exact simB hI
/-! ===== a keeping of the whole ===== -/
theorem sim_image (hN : 1000 ≤ N) (hI : Inv hb κ s k τ) : Ex hb (fX3_image N (cq κ s t k)) (fX4_image N (mq τ s)) := by
  obtain ⟨⟨m, hs⟩, ⟨k1, k2, k3⟩, h3, h4, h5, h6⟩ := hI
  unfold fX3_image fX4_image
  rw [bec38 hN, bec_m hN (by decide), bs, bs]
  unfold pfz
  rw [if_pos (Or.inr rfl), if_pos (Or.inr rfl), bs, bs, cq_up (by decide), cq_lo (by decide), mq_1, mq_upo (by decide), mq_o (k := 2) (by decide), mq_upo (by decide), mq_o (k := 0) (by decide)]
  refine ⟨1, _, s, t, s, _, rfl, rfl, ⟨m, hs.hb60⟩, ⟨Or.inr rfl, rfl, fun _ => ⟨fun j hj => cpR_lt hj, ⟨m, hs.hb60⟩⟩⟩, h3, h4, h5.of (fun j j1 j2 => ?_) rfl rfl rfl, h6⟩
  exact if_neg (by omega)
theorem sim_undo (hN : 1000 ≤ N) (hI : Inv hb κ s k τ) : Ex hb (fX3_undo N (cq κ s t k)) (fX4_undo N (mq τ s)) := by
  obtain ⟨⟨m, hs⟩, ⟨k1, k2, k3⟩, h3, h4, h5, h6⟩ := id hI
  unfold fX3_undo fX4_undo
  rw [cq_lo (by decide), mq_o (by decide), ← k2]
  by_cases h : κ 0 3 = 0
  · rw [if_pos h, if_pos h]
    exact simT hI 3 (by decide) (by decide) rfl (by decide)
  · have h1 : κ 0 3 = 1 := k1.resolve_left h
    obtain ⟨kk, m2, hk⟩ := k3 h1
    rw [if_neg h, if_neg h, bec1238 hN, bs, bec_m hN (by decide), bs, mq_o (by decide), mq_1, mq_up, cq_f12, sx_06, rl_0, bs, cpR_lt (by decide), kk 0 (by decide)]
    have e : cpR (τ 2) s = cpR k s := by
      funext j
      unfold cpR
      by_cases hj : j < 135
      · rw [if_pos hj, if_pos hj, kk j hj]
      · rw [if_neg hj, if_neg hj]
    rw [e]
    have e2 : cq κ k t k = cq κ (cpR k s) t k := by
      unfold cq
      rw [sx_congr (s := k) (s2 := cpR k s) (fun j hj => (cpR_lt hj).symm)]
    rw [e2]
    exact ex_row hI ((hk.congr (fun j hj => cpR_lt hj)).hb60)
theorem sim_tear (hI : Inv hb κ s k τ) : Ex hb (fX3_tear (cq κ s t k)) (fX4_tear (mq τ s)) := by
  obtain ⟨⟨m, hs⟩, ⟨k1, k2, k3⟩, h3, h4, h5, h6⟩ := id hI
  unfold fX3_tear fX4_tear pfz
  rw [if_pos (Or.inl rfl), if_pos (Or.inl rfl), bs, bs, bs, bs, cq_up (by decide), cq_lo (by decide), mq_upo (by decide), mq_o (k := 0) (by decide), ← k2]
  have hR : Inv (hb + 60) (va_up κ 0 (upd (κ 0) 3 0)) s k (va_up τ 0 (upd (τ 0) 3 0)) := ⟨⟨m, hs.hb60⟩, ⟨Or.inl rfl, rfl, fun e => absurd (show (0 : Int32) = 1 from e) (by decide)⟩, h3, h4, h5.of (fun j j1 j2 => if_neg (by omega)) rfl rfl rfl, h6⟩
  by_cases h : κ 0 3 = 0
  · rw [if_pos h, if_pos h]
    exact ⟨0, _, s, t, k, _, rfl, rfl, hR⟩
  · rw [if_neg h, if_neg h]
    exact ⟨1, _, s, t, k, _, rfl, rfl, hR⟩
theorem sim_wipe (hI : Inv hb κ s k τ) : Ex hb (fX3_wipe (cq κ s t k)) (fX4_wipe (mq τ s)) := by
  obtain ⟨⟨m, hs⟩, ⟨k1, k2, k3⟩, h3, ⟨n, n0, n1, n2, n3⟩, h5, h6⟩ := id hI
  unfold fX3_wipe fX4_wipe pf
  rw [bs, bs, bs, bs, cq_up (by decide), cq_lo (by decide), mq_upo (by decide), mq_o (k := 0) (by decide), n1, n2]
  exact ⟨nI n, _, s, t, k, _, rfl, rfl, ⟨m, hs.hb60⟩, ⟨k1, k2, fun e => ⟨(k3 e).1, (k3 e).2.elim fun m2 h => ⟨m2, h.hb60⟩⟩⟩, h3, ⟨0, by decide, rfl, rfl, fun j hj => absurd hj (by omega)⟩, h5.of (fun j j1 j2 => if_neg (by omega)) rfl rfl rfl, h6⟩
end SIMG
