/-! ===== the tide ===== -/
def tdG (c : Nat) (p : Int32 × (Nat → Int32)) : Int32 × (Nat → Int32) :=
  if p.2 (5 + c) < 0 then p else if p.2 (29 + c) < 8 then (p.1 + 1, ptS p.2 c (-1) 0 0) else (p.1, upd p.2 (29 + c) (p.2 (29 + c) - 1))
/-- the tide: how many are gone, and the row behind it; r is how far it comes -/
def tdS (r : Nat) (s : Nat → Int32) : Int32 × (Nat → Int32) := itr tdG r 0 (0, s)
theorem tdG_P {m hb r i : Nat} {p : Int32 × (Nat → Int32)} (hr : r ≤ 24) (hi : i < r) (h : IS m hb p.2 ∧ p.2 3 = nI r) : IS m hb (tdG i p).2 ∧ (tdG i p).2 3 = nI r := by
  unfold tdG
  split
  · exact h
  · split
    · exact ⟨h.1.pt (by omega) (Or.inl ⟨rfl, rfl⟩), (pt_o (by omega) (by omega)).trans h.2⟩
    · rename_i h1 h2
      exact ⟨h.1.dp (by omega) (Int32.not_lt.mp h1), (uw (by omega)).trans h.2⟩
theorem tide_m {N m hb r : Nat} {τ : St2} {s : Nat → Int32} (hN : 1000 ≤ N) (hr : r ≤ 24) (h : IS m hb s) (h3 : s 3 = nI r) : fX4_theTide N (mq τ s) = some ((tdS r s).1, mq τ (tdS r s).2) ∧ IS m hb (tdS r s).2 := by
  have key := itr_loop (ρ := Int32 × St2) (fun n (p : Int32 × (Nat → Int32)) i => fX4_theTide_4 N n (mq τ p.2) p.1 (nI i)) (fun _ p => IS m hb p.2 ∧ p.2 3 = nI r) tdG r (fun p => some (p.1, mq τ p.2)) (fun n p i hi hp => by
      show fX4_theTide_4 N (n + 1) (mq τ p.2) p.1 (nI i) = fX4_theTide_4 N n (mq τ (tdG i p).2) (tdG i p).1 (nI (i + 1))
      rw [fX4_theTide_4, rl_3, bs, hp.2, if_neg (nle_n hi (by omega)), e_5, rm (by omega), bs, e_29, rm (by omega), bs, prints_m0 (by omega) (by decide), bs, bs, wm (by omega), bs]
      unfold fX4_theTide_66 tdG
      rw [one_n]
      split
      · rfl
      · split <;> rfl) (fun p i hi hp => tdG_P hr hi hp) (fun n p hp => by
      show fX4_theTide_4 N (n + 1) (mq τ p.2) p.1 (nI r) = some (p.1, mq τ p.2)
      rw [fX4_theTide_4, rl_3, bs, hp.2, if_pos (le_n (Nat.le_refl _) (by omega))]) r 0 (0, s) N (by omega) (by omega) ⟨h, h3⟩
  exact ⟨key.1, key.2.1⟩
theorem tide_x {N m hb r : Nat} {s : Nat → Int32} (hN : 1000 ≤ N) (hr : r ≤ 24) (h : IS m hb s) (h3 : s 3 = nI r) : fX1_comeTide N (sx s) = some ((tdS r s).1, sx (tdS r s).2) := by
  have key := itr_loop (ρ := Int32 × St2) (fun n (p : Int32 × (Nat → Int32)) i => fX1_comeTide_4 N n (sx p.2) p.1 (nI i)) (fun _ p => IS m hb p.2 ∧ p.2 3 = nI r) tdG r (fun p => some (p.1, sx p.2)) (fun n p i hi hp => by
      have hc : i < 24 := by omega
      show fX1_comeTide_4 N (n + 1) (sx p.2) p.1 (nI i) = fX1_comeTide_4 N n (sx (tdG i p).2) (tdG i p).1 (nI (i + 1))
      rw [fX1_comeTide_4, sx_04, hp.2, if_neg (nle_n hi (by omega)), show (24 : Int32) = nI 24 from rfl, if_neg (nle_n hc (by omega)), rx hc (by decide) (ix_p1 hc), bs, rx hc (by decide) (ix_p0 hc), bs, clear_x hc, bs, bs, wx hc (by decide) (ix_p1 hc), bs]
      unfold fX1_comeTide_66 tdG
      rw [one_n]
      rcases hp.1.2.2.2.2.2.1 i hc with ⟨h1, h2⟩ | h1
      · rw [h1, h2, if_pos (by decide), if_pos (by decide), if_pos (by decide)]
      · have h2 : ¬ p.2 (5 + i) = -1 := fun e => by rw [e] at h1; exact absurd h1 (by decide)
        rw [if_neg h2, if_neg (nlt0 h1)]
        split <;> rfl) (fun p i hi hp => tdG_P hr hi hp) (fun n p hp => by
      show fX1_comeTide_4 N (n + 1) (sx p.2) p.1 (nI r) = some (p.1, sx p.2)
      rw [fX1_comeTide_4, sx_04, hp.2, if_pos (le_n (Nat.le_refl _) (by omega))]) r 0 (0, s) N (by omega) (by omega) ⟨h, h3⟩
  exact key.1
/-! ===== an hour, hours ===== -/
def hrW (aw : Int32) (w : Nat) (s : Nat → Int32) : Nat → Int32 := if ((aw >>> (nI w &&& 31)) &&& 1) = 0 then goS s w else s
/-- behind the walkers: the hour, and the tide -/
def hrE (s : Nat → Int32) : Nat → Int32 := if ((s 0 + 1) - (s 0 + 1) / 6 * 6) = 0 then (tdS (s 3).toNatClampNeg (upd s 0 (s 0 + 1))).2 else upd s 0 (s 0 + 1)
def hrS (aw : Int32) (m : Nat) (s : Nat → Int32) : Nat → Int32 := hrE (itr (hrW aw) m 0 s)
theorem hrW_P {m hb : Nat} {aw : Int32} {s : Nat → Int32} {i : Nat} (hi : i < m) (h : IS m hb s) : IS m hb (hrW aw i s) := by
  unfold hrW
  split
  · exact h.go hi
  · exact h
theorem hr_m {N m hb : Nat} {τ : St2} {s : Nat → Int32} {aw : Int32} (hN : 1000 ≤ N) (h : IS m hb s) (ha : τ 0 5 = aw) : fX4_anHour N (mq τ s) = some (mq τ (hrS aw m s)) ∧ IS m (hb + 1) (hrS aw m s) := by
  have hm := h.1.1
  have key := itr_loop (ρ := St2) (fun n (p : Nat → Int32) i => fX4_anHour_2 N n (mq τ p) (nI i)) (fun _ p => IS m hb p) (hrW aw) m (fun p => some (mq τ (hrE p))) (fun n p i hi hp => by
      show fX4_anHour_2 N (n + 1) (mq τ p) (nI i) = fX4_anHour_2 N n (mq τ (hrW aw i p)) (nI (i + 1))
      rw [fX4_anHour_2, rl_2, bs, hp.1.2, if_neg (nle_n hi (by omega)), mq_o (by decide), ha, go_m (by omega), bs]
      unfold fX4_anHour_28 hrW
      rw [one_n]
      split <;> rfl) (fun p i hi hp => hrW_P hi hp) (fun n p hp => by
      show fX4_anHour_2 N (n + 1) (mq τ p) (nI m) = some (mq τ (hrE p))
      rw [fX4_anHour_2, rl_2, bs, hp.1.2, if_pos (le_n (Nat.le_refl _) (by omega)), rl_0, bs, wl_0, bs, rl_0, bs, uu]
      unfold hrE
      obtain ⟨z, z1, z2⟩ := hp.2.1
      obtain ⟨r, r1, r2⟩ := hp.2.2.1
      have h2 : IS m (hb + 1) (upd p 0 (p 0 + 1)) := by
        rw [z2, one_n]
        exact hp.h0 (by omega)
      have ht := tide_m (N := N) (τ := τ) hN r1 h2 ((uw (by omega)).trans r2)
      rw [ht.1, bs, r2, nI_clamp (by omega)]
      split <;> rfl) m 0 s N (by omega) (by omega) h
  refine ⟨key.1, ?_⟩
  have hp := key.2
  unfold hrS hrE
  obtain ⟨z, z1, z2⟩ := hp.2.1
  obtain ⟨r, r1, r2⟩ := hp.2.2.1
  have h2 : IS m (hb + 1) (upd (itr (hrW aw) m 0 s) 0 (itr (hrW aw) m 0 s 0 + 1)) := by
    rw [z2, one_n]
    exact hp.h0 (by omega)
  have ht := tide_m (N := N) (τ := τ) hN r1 h2 ((uw (by omega)).trans r2)
  split
  · rw [r2, nI_clamp (by omega)]
    exact ht.2
  · exact h2
theorem hr_x {N m hb : Nat} {s : Nat → Int32} {aw : Int32} (hN : 1000 ≤ N) (hhb : hb < 99999) (h : IS m hb s) : fX1_passHour N (sx s) aw = some (sx (hrS aw m s)) := by
  have hm := h.1.1
  have key := itr_loop (ρ := St2) (fun n (p : Nat → Int32) i => fX1_passHour_2 N aw n (sx p) (nI i)) (fun _ p => IS m hb p) (hrW aw) m (fun p => some (sx (hrE p))) (fun n p i hi hp => by
      obtain ⟨n9, hn9, he9⟩ := (hp.2.2.2.2.1 i hi).2
      show fX1_passHour_2 N aw (n + 1) (sx p) (nI i) = fX1_passHour_2 N aw n (sx (hrW aw i p)) (nI (i + 1))
      rw [fX1_passHour_2, sx_03, hp.1.2, if_neg (nle_n hi (by omega)), go_x (by omega) hn9 he9 hp.2.2.2.2.2.1, bs]
      unfold fX1_passHour_23 hrW
      rw [one_n]
      split <;> rfl) (fun p i hi hp => hrW_P hi hp) (fun n p hp => by
      show fX1_passHour_2 N aw (n + 1) (sx p) (nI m) = some (sx (hrE p))
      obtain ⟨z, z1, z2⟩ := hp.2.1
      obtain ⟨r, r1, r2⟩ := hp.2.2.1
      have h2 : IS m (hb + 1) (upd p 0 (p 0 + 1)) := by
        rw [z2, one_n]
        exact hp.h0 (by omega)
      have hmin : imin 99999 (p 0 + 1) = p 0 + 1 := by
        rw [z2, one_n]
        unfold imin
        have h9 : nI (z + 1) < 99999 ∨ nI (z + 1) = 99999 := by
          by_cases h8 : z + 1 < 99999
          · exact Or.inl (show nI (z + 1) < nI 99999 from nI_lt h8 (by omega))
          · have : z + 1 = 99999 := by omega
            rw [this]
            exact Or.inr rfl
        rcases h9 with h9 | h9
        · rw [if_pos h9]
        · rw [h9]
          rfl
      rw [fX1_passHour_2, sx_03, hp.1.2, if_pos (le_n (Nat.le_refl _) (by omega)), sx_06, hmin, px (i := 0) rfl, bs, sx_06, uu]
      unfold hrE
      rw [tide_x hN r1 h2 ((uw (by omega)).trans r2), bs, r2, nI_clamp (by omega)]
      split <;> rfl) m 0 s N (by omega) (by omega) h
  exact key.1
def hsS (aw : Int32) (m k : Nat) (s : Nat → Int32) : Nat → Int32 := itr (fun _ p => hrS aw m p) k 0 s
theorem hs_m {N m hb k : Nat} {τ : St2} {s : Nat → Int32} {aw : Int32} (hN : 1000 ≤ N) (hk : k ≤ 200) (h : IS m hb s) (ha : τ 0 5 = aw) : fX4_hours N (mq τ s) (nI k) = some (mq τ (hsS aw m k s)) ∧ IS m (hb + k) (hsS aw m k s) := by
  have key := itr_loop (ρ := St2) (fun n (p : Nat → Int32) i => fX4_hours_2 N (nI k) n (mq τ p) (nI i)) (fun i p => IS m (hb + i) p) (fun _ p => hrS aw m p) k (fun p => some (mq τ p)) (fun n p i hi hp => by
      show fX4_hours_2 N (nI k) (n + 1) (mq τ p) (nI i) = fX4_hours_2 N (nI k) n (mq τ (hrS aw m p)) (nI (i + 1))
      rw [fX4_hours_2, if_neg (nle_n hi (by omega)), (hr_m hN hp ha).1, bs, one_n]) (fun p i hi hp => (hr_m (τ := τ) hN hp ha).2) (fun n p hp => by
      show fX4_hours_2 N (nI k) (n + 1) (mq τ p) (nI k) = some (mq τ p)
      rw [fX4_hours_2, if_pos (le_n (Nat.le_refl _) (by omega))]) k 0 s N (by omega) (by omega) h
  exact key
theorem hs_x {N m hb k : Nat} {s : Nat → Int32} {aw : Int32} (hN : 1000 ≤ N) (hk : k ≤ 200) (hhb : hb + k ≤ 99999) (h : IS m hb s) : fX1_passHours N (sx s) (nI k) aw = some (sx (hsS aw m k s)) := by
  have key := itr_loop (ρ := St2) (fun n (p : Nat → Int32) i => fX1_passHours_2 N (nI k) aw n (sx p) (nI i)) (fun i p => IS m (hb + i) p) (fun _ p => hrS aw m p) k (fun p => some (sx p)) (fun n p i hi hp => by
      show fX1_passHours_2 N (nI k) aw (n + 1) (sx p) (nI i) = fX1_passHours_2 N (nI k) aw n (sx (hrS aw m p)) (nI (i + 1))
      rw [fX1_passHours_2, if_neg (nle_n hi (by omega)), hr_x hN (by omega) hp, bs, one_n]) (fun p i hi hp => (hr_m (τ := fun _ _ => aw) hN hp rfl).2) (fun n p hp => by
      show fX1_passHours_2 N (nI k) aw (n + 1) (sx p) (nI k) = some (sx p)
      rw [fX1_passHours_2, if_pos (le_n (Nat.le_refl _) (by omega))]) k 0 s N (by omega) (by omega) h
  exact key.1
