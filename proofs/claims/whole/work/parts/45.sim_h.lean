section SIMH
variable {hb N : Nat} {κ : St2} {s t k : Nat → Int32} {τ : St2}
theorem n_self (x : Int32) : x = nI x.toBitVec.toNat ∧ x.toBitVec.toNat < 2 ^ 32 := ⟨Int32.toBitVec_inj.mp (BitVec.eq_of_toNat_eq (pk_tn x.toBitVec.isLt).symm), x.toBitVec.isLt⟩
/-! ===== findings told ===== -/
theorem stat_m {j : Nat} (hj : j < 7) : ∀ (d i n : Nat), i + d = 7 → d < n → fX4_status_24 N (mq τ s) (nI j) n (if i ≤ j then 0 else τ 4 j) (nI i) = some (τ 4 j, mq τ s) := by
  intro d
  induction d with
  | zero =>
    intro i n hi hn
    obtain ⟨n, rfl⟩ : ∃ z, n = z + 1 := ⟨n - 1, by omega⟩
    have e : i = 7 := by omega
    subst e
    rw [fX4_status_24, if_pos (by decide), if_neg (by omega)]
  | succ d ih =>
    intro i n hi hn
    obtain ⟨n, rfl⟩ : ∃ z, n = z + 1 := ⟨n - 1, by omega⟩
    rw [fX4_status_24, if_neg (show ¬ (7 : Int32) ≤ nI i from nle_n (a := 7) (by omega) (by omega)), if_neg (nI_pos (by omega))]
    have h := ih (i + 1) n (by omega) (by omega)
    unfold fX4_status_40 fX4_status_50
    rw [bs, rd_n (by omega) (by decide), bs, bs, mq_o (by decide), one_n]
    by_cases e : j = i
    · subst e
      rw [if_pos rfl, if_pos (Nat.le_refl _), Int32.zero_add]
      rw [if_neg (by omega)] at h
      exact h
    · rw [if_neg (fun h => e ((nI_eq (by omega) (by omega)).mp h)), Int32.add_zero]
      by_cases e2 : i ≤ j
      · rw [if_pos e2]
        rw [if_pos (by omega)] at h
        exact h
      · rw [if_neg e2]
        rw [if_neg (by omega)] at h
        exact h
theorem stat_2 (hf : Fnd κ τ) : ∀ (d i n n2 : Nat) (a : Int32), i + d = 7 → d < n → d < n2 → ∃ r, fX3_status_32 N (cq κ s t k) n a (nI i) = some (r, cq κ s t k) ∧ fX4_status_24 N (mq τ s) (-1) n2 a (nI i) = some (r, mq τ s) := by
  intro d
  induction d with
  | zero =>
    intro i n n2 a hi hn hn2
    obtain ⟨n, rfl⟩ : ∃ z, n = z + 1 := ⟨n - 1, by omega⟩
    obtain ⟨n2, rfl⟩ : ∃ z, n2 = z + 1 := ⟨n2 - 1, by omega⟩
    have e : i = 7 := by omega
    subst e
    exact ⟨a, by rw [fX3_status_32, if_pos (by decide)], by rw [fX4_status_24, if_pos (by decide)]⟩
  | succ d ih =>
    intro i n n2 a hi hn hn2
    obtain ⟨n, rfl⟩ : ∃ z, n = z + 1 := ⟨n - 1, by omega⟩
    obtain ⟨n2, rfl⟩ : ∃ z, n2 = z + 1 := ⟨n2 - 1, by omega⟩
    have h7 : ¬ (7 : Int32) ≤ nI i := nle_n (a := 7) (by omega) (by omega)
    obtain ⟨r, r1, r2⟩ := ih (i + 1) n n2 (a + κ 1 i) (by omega) (by omega) (by omega)
    refine ⟨r, ?_, ?_⟩
    · rw [fX3_status_32, if_neg h7, rd_n (by omega) (by decide), bs, bs, cq_lo (by decide), one_n, r1]
    · rw [fX4_status_24, if_neg h7, if_pos (by decide)]
      unfold fX4_status_40 fX4_status_50
      rw [rd_n (by omega) (by decide), bs, bs, mq_o (by decide), one_n, ← hf i (by omega), r2]
theorem sim_status {a : Int32} (hN : 1000 ≤ N) (hI : Inv hb κ s k τ) : Ex hb (fX3_status N (cq κ s t k) a) (fX4_status N (mq τ s) a) := by
  unfold fX3_status fX4_status
  rw [within_eq, in_eq (b := -1) (c := 6) (by decide) (by decide), bs, bs, bl0, bl0]
  by_cases h1 : -1 ≤ a ∧ a ≤ 6
  · rw [if_pos h1, if_pos h1]
    by_cases h2 : a < 0
    · have e : a = -1 := Int32.le_antisymm (by
        rw [Int32.le_iff_toInt_le]
        rw [Int32.lt_iff_toInt_lt] at h2
        have e1 : (-1 : Int32).toInt = -1 := by decide
        have e0 : (0 : Int32).toInt = 0 := by decide
        omega) h1.1
      subst e
      rw [if_pos (by decide)]
      obtain ⟨r, r1, r2⟩ := stat_2 (N := N) (s := s) (t := t) (k := k) hI.2.2.1 7 0 N N 0 (by omega) (by omega) (by omega)
      have r1' : fX3_status_32 N (cq κ s t k) N 0 0 = some (r, cq κ s t k) := r1
      have r2' : fX4_status_24 N (mq τ s) (-1) N 0 0 = some (r, mq τ s) := r2
      rw [r1', r2']
      exact ex_same hI
    · obtain ⟨j, hj, rfl⟩ := rng_of (n := 6) (by decide) (Int32.not_lt.mp h2) h1.2
      rw [if_neg h2, rd_n (by omega) (by decide), bs, cq_lo (by decide), hI.2.2.1 j (by omega)]
      have h := stat_m (N := N) (τ := τ) (s := s) (j := j) (by omega) 7 0 N (by omega) (by omega)
      rw [if_pos (by omega)] at h
      have h' : fX4_status_24 N (mq τ s) (nI j) N 0 0 = some (τ 4 j, mq τ s) := h
      rw [h']
      exact ex_same hI
  · rw [if_neg h1, if_neg h1]
    exact simB hI
/-! ===== drawn hours ===== -/
theorem u8_any (x : Int32) : ∃ c, c < 2 ^ 24 ∧ (x.toUInt32 >>> ((8 : Int32).toUInt32 &&& Int32.toUInt32 31)).toInt32 = nI c := by
  obtain ⟨e, h⟩ := n_self x
  refine ⟨x.toBitVec.toNat / 256, by omega, ?_⟩
  have h2 := u_8 h
  rw [← e] at h2
  exact h2
def dn (x : Int32) : Int32 := x * 1103515245 + 12345
def du (x : Int32) : Int32 := (x.toUInt32 >>> ((8 : Int32).toUInt32 &&& Int32.toUInt32 31)).toInt32
theorem draw_x : fX1_draw (sx s) = some (du (dn (s 1)), sx (upd s 1 (dn (s 1)))) := by
  unfold fX1_draw
  rw [px (i := 1) rfl, bs]
  rfl
theorem draw_m : fX4_draw (mq τ s) = some (du (dn (s 1)), mq τ (upd s 1 (dn (s 1)))) := by
  unfold fX4_draw
  rw [rl_1, bs, wl_1, bs, rl_1, bs]
  rfl
theorem drawn {m : Nat} (hN : 1000 ≤ N) (hhb : hb < 99999) (hs : IS m hb s) (h0 : τ 0 5 = 0) : ∃ s2, IS m (hb + 1) s2 ∧ fX1_passDrawnHour N (sx s) = some (sx s2) ∧ ∀ (v i : Int32) (n : Nat), ¬ v ≤ i → fX4_tides_39 N v (n + 1) (mq τ s) i = fX4_tides_39 N v n (mq τ s2) (i + 1) := by
  have hm := hs.1.1
  obtain ⟨c, hc, ec⟩ := u8_any (dn (s 1))
  have ec' : du (dn (s 1)) = nI c := ec
  have e25 : nI c - nI c / 25 * 25 = nI (c % 25) := pk_rem (d := 25) (by omega) (by omega) (by omega)
  have hs1 : IS m hb (upd s 1 (dn (s 1))) := hs.un (Or.inl rfl)
  have hs2 : IS m hb (upd (upd s 1 (dn (s 1))) 3 (nI (c % 25))) := hs1.r3 (by omega)
  obtain ⟨d, hd, ed⟩ := u8_any (dn (upd (upd s 1 (dn (s 1))) 3 (nI (c % 25)) 1))
  have ed' : du (dn (upd (upd s 1 (dn (s 1))) 3 (nI (c % 25)) 1)) = nI d := ed
  have e8 : nI d - nI d / 8 * 8 = nI (d % 8) := pk_rem (d := 8) (by omega) (by omega) (by omega)
  have hs3 : IS m hb (upd (upd (upd s 1 (dn (s 1))) 3 (nI (c % 25))) 1 (dn (upd (upd s 1 (dn (s 1))) 3 (nI (c % 25)) 1))) := hs2.un (Or.inl rfl)
  have hw : d % 8 < 8 := by omega
  generalize e3 : upd (upd (upd s 1 (dn (s 1))) 3 (nI (c % 25))) 1 (dn (upd (upd s 1 (dn (s 1))) 3 (nI (c % 25)) 1)) = s3 at hs3
  have c1 : fX1_passDrawnHour N (sx s) = (fX1_isWalker (sx s3) (nI (d % 8))).bind fun y5 => if y5 = 0 then ((fX1_passHour N (sx s3) 0).bind fun y6 => some y6) else ((rd (tv 2) 6 3).bind fun a7 => (rd (sx s3 9) 8 (nI (d % 8))).bind fun a8 => (wr (sx s3) 9 8 (nI (d % 8)) (imin a7 (a8 + 1))).bind fun x9 => (fX1_passHour N x9 0).bind fun y10 => some y10) := by
    unfold fX1_passDrawnHour
    rw [draw_x, bs, ec', e25, px (i := 3) rfl, bs, draw_x, bs, ed', e8, bs, e3]
  have c2 : ∀ (v i : Int32) (n : Nat), ¬ v ≤ i → fX4_tides_39 N v (n + 1) (mq τ s) i = (fX4_isWalker (mq τ s3) (nI (d % 8))).bind fun y9 => if y9 = 0 then (fX4_tides_92 N (fX4_tides_39 N v n) (mq τ s3) v i) else ((fX4_its (mq τ s3) (nI (d % 8)) 3).bind fun y12 => (fX4_sets (mq τ s3) (nI (d % 8)) 3 (imin 6 (y12 + 1))).bind fun y13 => fX4_tides_92 N (fX4_tides_39 N v n) y13 v i) := by
    intro v i n h
    rw [fX4_tides_39, if_neg h, draw_m, bs, ec', e25, wl_3, bs, draw_m, bs, ed', e8, bs, e3]
  by_cases h : 0 ≤ nI (d % 8) ∧ nI (d % 8) ≤ s3 2 - 1
  · have hs4 : IS m hb (upd s3 (77 + 6 * (d % 8) + 3) (imin 6 (s3 (77 + 6 * (d % 8) + 3) + 1))) := hs3.un (Or.inr (Or.inr ⟨d % 8, 3, hw, rfl, Or.inr (Or.inr (Or.inl rfl))⟩))
    refine ⟨hrS 0 m (upd s3 (77 + 6 * (d % 8) + 3) (imin 6 (s3 (77 + 6 * (d % 8) + 3) + 1))), (hr_m (τ := τ) hN hs4 h0).2, ?_, fun v i n hv => ?_⟩
    · rw [c1, iw_x, bs, bl0, if_pos h, show rd (tv 2) 6 3 = some 6 from rfl, bs, rx hw (by decide) (ix_t3 hw), bs, wx hw (by decide) (ix_t3 hw), bs, hr_x hN hhb hs4, bs]
    · rw [c2 v i n hv, iw_m, bs, bl0, if_pos h, its_3 hw, bs, sets_3 hw, bs]
      unfold fX4_tides_92
      rw [(hr_m hN hs4 h0).1, bs]
  · refine ⟨hrS 0 m s3, (hr_m (τ := τ) hN hs3 h0).2, ?_, fun v i n hv => ?_⟩
    · rw [c1, iw_x, bs, bl0, if_neg h, hr_x hN hhb hs3, bs]
    · rw [c2 v i n hv, iw_m, bs, bl0, if_neg h]
      unfold fX4_tides_92
      rw [(hr_m hN hs3 h0).1, bs]
theorem tides_l {m n : Nat} {s0 : Nat → Int32} (hN : 1000 ≤ N) (hhb : hb + 60 ≤ 99999) (hn : n ≤ 20) (hI : Inv hb κ s0 k τ) : ∀ (d i n1 n2 : Nat) (s t : Nat → Int32), i + d = n → d < n1 → d < n2 → IS m (hb + i) s → Ex hb (fX3_tides_40 N (nI n) n1 (cq κ s t k) (nI i)) (fX4_tides_39 N (nI n) n2 (mq τ s) (nI i)) := by
  intro d
  induction d with
  | zero =>
    intro i n1 n2 s t hi h1 h2 hs
    obtain ⟨n1, rfl⟩ : ∃ z, n1 = z + 1 := ⟨n1 - 1, by omega⟩
    obtain ⟨n2, rfl⟩ : ∃ z, n2 = z + 1 := ⟨n2 - 1, by omega⟩
    have h : nI n ≤ nI i := le_n (by omega) (by omega)
    rw [fX3_tides_40, fX4_tides_39, if_pos h, if_pos h, cq_v12, printCount_x hN hs, bs, printed_m hN, bs, ones_n hN (Nat.lt_trans (pdN_lt _) (by decide)), bs]
    exact ex_row hI (hs.mono (by omega))
  | succ d ih =>
    intro i n1 n2 s t hi h1 h2 hs
    obtain ⟨n1, rfl⟩ : ∃ z, n1 = z + 1 := ⟨n1 - 1, by omega⟩
    obtain ⟨n2, rfl⟩ : ∃ z, n2 = z + 1 := ⟨n2 - 1, by omega⟩
    have h : ¬ nI n ≤ nI i := nle_n (by omega) (by omega)
    obtain ⟨s2, q1, q2, q3⟩ := drawn (N := N) (τ := τ) hN (by omega) hs hI.2.2.2.2.2
    rw [fX3_tides_40, if_neg h, cq_v12, q2, bs, bs, cq_p12, q3 _ _ _ h, one_n]
    exact ih (i + 1) n1 n2 s2 t (by omega) (by omega) (by omega) q1
theorem sim_tides {a : Int32} (hN : 1000 ≤ N) (hhb : hb + 60 ≤ 99999) (hI : Inv hb κ s k τ) : Ex hb (fX3_tides N (cq κ s t k) a) (fX4_tides N (mq τ s) a) := by
  obtain ⟨m, hs⟩ := hI.1
  unfold fX3_tides fX4_tides
  rw [within_eq, in_eq (b := 1) (c := 20) (by decide) (by decide), rl_0]
  simp only [bs, bl0]
  by_cases h1 : 1 ≤ a ∧ a ≤ 20
  · obtain ⟨n, hn, rfl⟩ := rng_of (n := 20) (by decide) (Int32.le_trans (by decide) h1.1) h1.2
    rw [if_pos h1, if_pos h1, cq_f12, sx_06, if_pos (hour_le hs (by omega) hhb), if_pos (hour_le hs (by omega) hhb)]
    exact tides_l hN hhb hn hI n 0 N N s t (by omega) (by omega) (by omega) hs
  · rw [if_neg h1, if_neg h1]
    exact simB hI
end SIMH
