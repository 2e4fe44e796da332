section SIME
variable {hb N : Nat} {κ : St2} {s t k : Nat → Int32} {τ : St2}
/-! ===== the least weight ===== -/
def fst9 (p : Nat → Bool) : Nat → Nat → Int32
  | 0, _ => -1
  | n + 1, i => if p i then nI i else fst9 p n (i + 1)
theorem fst9_c (p : Nat → Bool) : ∀ n i, i + n < 1000 → fst9 p n i = -1 ∨ 0 ≤ fst9 p n i
  | 0, _, _ => Or.inl rfl
  | n + 1, i, h => by
    unfold fst9
    split
    · exact Or.inr (nI_pos' (by omega))
    · exact fst9_c p n (i + 1) (by omega)
def wtP (m q c w : Nat) (s : Nat → Int32) (v : Nat) : Bool := decide (hsS 0 m q (upd s (77 + 6 * w + 4) (nI v)) (5 + c) = nI w)
theorem wt_v {i : Nat} (h1 : 1 ≤ i) (h2 : i ≤ 9) : tv 1 4 ≤ nI i ∧ nI i ≤ tv 2 4 := rng_tv (lo := 1) (hi := 9) rfl rfl h1 h2 (by decide)
theorem wt_m {m q c w : Nat} (hN : 1000 ≤ N) (hs : IS m hb s) (hw : w < m) (hq : q ≤ 40) (hc : c < 24) : ∀ (i n : Nat) (τ : St2), i ≤ 9 → i < n → Inv hb κ s k τ → ∃ τ2, Inv hb κ s k τ2 ∧ fX4_weightFor_35 N (nI w) (nI c) (nI q) n (mq τ s) (fst9 (wtP m q c w s) (9 - i) (i + 1)) (nI i) = if 0 ≤ fst9 (wtP m q c w s) 9 1 then some (fst9 (wtP m q c w s) 9 1, mq τ2 s) else (fX4_finds (mq τ2 s) 3).bind fun y => some (y.1, y.2) := by
  have hm := hs.1.1
  have hw8 : w < 8 := by omega
  intro i
  induction i with
  | zero =>
    intro n τ hi hn hI
    obtain ⟨n, rfl⟩ : ∃ z, n = z + 1 := ⟨n - 1, by omega⟩
    refine ⟨τ, hI, ?_⟩
    rw [fX4_weightFor_35, if_pos (by decide)]
  | succ i ih =>
    intro n τ hi hn hI
    obtain ⟨n, rfl⟩ : ∃ z, n = z + 1 := ⟨n - 1, by omega⟩
    obtain ⟨τ2, h1, h2⟩ := ih n (aL τ s) (by omega) (by omega) hI.aside
    refine ⟨τ2, h1, ?_⟩
    rw [← h2, fX4_weightFor_35, if_neg (show ¬ nI (i + 1) < 1 from nI_nlt (b := 1) (by omega) (by omega)), lend hN rfl, bs, sets_4 hw8, bs, whoseIn_m hN (by omega) hc (hs.trait hw (by decide) (wt_v (by omega) hi)) hI.2.2.2.2.2 (fun j hj => uw (by omega)), bs]
    unfold fX4_weightFor_70
    rw [pk_m1, show 9 - i = (9 - (i + 1)) + 1 by omega]
    show _ = fX4_weightFor_35 N (nI w) (nI c) (nI q) n (mq (aL τ s) s) (if wtP m q c w s (i + 1) then nI (i + 1) else fst9 (wtP m q c w s) (9 - (i + 1)) (i + 1 + 1)) (nI i)
    unfold wtP
    by_cases h : hsS 0 m q (upd s (77 + 6 * w + 4) (nI (i + 1))) (5 + c) = nI w
    · rw [if_pos h, if_pos (decide_eq_true h)]
    · rw [if_neg h, if_neg (by simpa using h)]
theorem wt_c {m q c w : Nat} (hN : 1000 ≤ N) (hhb : hb + 201 ≤ 99999) (hs : IS m hb s) (hw : w < m) (hq : q ≤ 40) (hc : c < 24) : ∀ (j i n : Nat) (t : Nat → Int32), i + j = 10 → 1 ≤ i → j < n → ∃ t2, fX3_weightFor_42 N (nI w) (nI c) (nI q) n (cq κ s t k) (nI i) = if fst9 (wtP m q c w s) j i = -1 then ((fX3_tell (cq κ s t2 k) (-1000004)).bind fun y => some (y.1, y.2)) else some (fst9 (wtP m q c w s) j i, cq κ s t2 k) := by
  intro j
  induction j with
  | zero =>
    intro i n t hi h1 hn
    obtain ⟨n, rfl⟩ : ∃ z, n = z + 1 := ⟨n - 1, by omega⟩
    have : i = 10 := by omega
    subst this
    refine ⟨t, ?_⟩
    rw [fX3_weightFor_42, show rd (tv 2) 6 4 = some 9 from rfl, bs, if_pos (by decide)]
    rfl
  | succ j ih =>
    intro i n t hi h1 hn
    obtain ⟨n, rfl⟩ : ∃ z, n = z + 1 := ⟨n - 1, by omega⟩
    have hv := wt_v h1 (show i ≤ 9 by omega)
    have e0 : fX3_weightFor_42 N (nI w) (nI c) (nI q) (n + 1) (cq κ s t k) (nI i) = if hsS 0 m q (upd s (77 + 6 * w + 4) (nI i)) (5 + c) = nI w then some (nI i, cq κ s (hsS 0 m q (upd s (77 + 6 * w + 4) (nI i))) k) else fX3_weightFor_42 N (nI w) (nI c) (nI q) n (cq κ s (hsS 0 m q (upd s (77 + 6 * w + 4) (nI i))) k) (nI (i + 1)) := by
      rw [fX3_weightFor_42, show rd (tv 2) 6 4 = some 9 from rfl, bs, if_neg (show ¬ (9 : Int32) < nI i from Int32.not_lt.mpr (le_n (b := 9) (by omega) (by omega))), show (4 : Int32) = nI 4 from rfl, try_c hN hhb hs hw (by decide) hq hv, bs, cq_r25 (j := 2 + 0) (by decide) hc (by decide) (ix_p0 hc), bs, one_n]
    rw [e0]
    by_cases h : hsS 0 m q (upd s (77 + 6 * w + 4) (nI i)) (5 + c) = nI w
    · refine ⟨hsS 0 m q (upd s (77 + 6 * w + 4) (nI i)), ?_⟩
      have e3 : fst9 (wtP m q c w s) (j + 1) i = nI i := by
        show (if wtP m q c w s i then nI i else _) = _
        unfold wtP
        rw [if_pos (decide_eq_true h)]
      have h5 : ¬ nI i = -1 := fun e => by
        have h6 : 0 ≤ nI i := nI_pos' (by omega)
        rw [e] at h6
        exact absurd h6 (by decide)
      rw [if_pos h, e3, if_neg h5]
    · obtain ⟨t2, e2⟩ := ih (i + 1) n (hsS 0 m q (upd s (77 + 6 * w + 4) (nI i))) (by omega) (by omega) (by omega)
      refine ⟨t2, ?_⟩
      have e3 : fst9 (wtP m q c w s) (j + 1) i = fst9 (wtP m q c w s) j (i + 1) := by
        show (if wtP m q c w s i then nI i else _) = _
        unfold wtP
        rw [if_neg (by simpa using h)]
      rw [if_neg h, e2, e3]
theorem sim_weightFor {a b n : Int32} (hN : 1000 ≤ N) (hhb : hb + 201 ≤ 99999) (hI : Inv hb κ s k τ) : Ex hb (fX3_weightFor N (cq κ s t k) a b n) (fX4_weightFor N (mq τ s) a b n) := by
  obtain ⟨m, hs⟩ := hI.1
  unfold fX3_weightFor fX4_weightFor
  rw [cq_v12, iw_x, iw_m, isCell_eq, isCell4_eq, within_eq, isSoon4_eq, show rd (tv 1) 6 4 = some 1 from rfl]
  simp only [bs, bl0]
  by_cases h0 : 0 ≤ a ∧ a ≤ s 2 - 1
  · obtain ⟨w, hw, rfl⟩ := iw_of hs h0
    rw [if_pos h0, if_pos h0]
    by_cases h1 : 0 ≤ b ∧ b ≤ 23
    · obtain ⟨c, hc, rfl⟩ := cell_of h1
      rw [if_pos h1, if_pos h1]
      by_cases h2 : 0 ≤ n ∧ n ≤ 40
      · obtain ⟨q, hq, rfl⟩ := rng_of (n := 40) (by decide) h2.1 h2.2
        obtain ⟨t2, e2⟩ := wt_c (κ := κ) (k := k) hN hhb hs hw hq hc 9 1 N t (by omega) (by omega) (by omega)
        obtain ⟨τ2, hI2, e3⟩ := wt_m (κ := κ) (k := k) hN hs hw hq hc 9 N τ (by omega) (by omega) hI
        have e2' : fX3_weightFor_42 N (nI w) (nI c) (nI q) N (cq κ s t k) 1 = _ := e2
        have e3' : fX4_weightFor_35 N (nI w) (nI c) (nI q) N (mq τ s) (-1) 9 = _ := e3
        rw [if_pos h2, if_pos h2, e2', e3']
        rcases fst9_c (wtP m q c w s) 9 1 (by decide) with h | h
        · rw [h, if_pos rfl, if_neg (by decide)]
          exact simT hI2 3 (by decide) (by decide) rfl (by decide)
        · have h5 : ¬ fst9 (wtP m q c w s) 9 1 = -1 := fun e => by
            rw [e] at h
            exact absurd h (by decide)
          rw [if_neg h5, if_pos h]
          exact ex_same hI2
      · rw [if_neg h2, if_neg h2]
        exact simB hI
    · rw [if_neg h1, if_neg h1]
      exact simB hI
  · rw [if_neg h0, if_neg h0]
    exact simB hI
/-! ===== whom to keep away ===== -/
def tA (τ : St2) (a : Int32) : St2 := va_up τ 0 (upd (τ 0) 5 a)
theorem tA_5 {a : Int32} : tA τ a 0 5 = a := rfl
theorem pf_away {a : Int32} : pf (mq (aL τ s) s) 0 5 a = some (mq (aL (tA τ a) s) s) := by
  unfold pf
  rw [mq_upo (by decide), mq_o (by decide), aL_o (by decide)]
  refine congrArg (fun z => some (mq z s)) ?_
  funext j
  unfold tA aL va_up
  by_cases h : j = 0
  · rw [if_pos h, if_neg (by omega), if_pos h]
  · rw [if_neg h]
    by_cases h2 : j = 3
    · rw [if_pos h2, if_pos h2, if_neg (by decide)]
    · rw [if_neg h2, if_neg h2, if_neg h]
theorem pf_aw {a : Int32} : pf (mq τ s) 0 5 a = some (mq (tA τ a) s) := by
  unfold pf
  rw [mq_upo (by decide), mq_o (by decide)]
  rfl
/-- all but that nobody is kept away -/
def Inv0 (hb : Nat) (κ : St2) (s k : Nat → Int32) (τ : St2) : Prop := (∃ m, IS m hb s) ∧ Kp hb κ k τ ∧ Fnd κ τ ∧ Tp κ τ ∧ Sh κ τ
theorem Inv0.aw {a : Int32} (h : Inv0 hb κ s k τ) : Inv0 hb κ s k (aL (tA τ a) s) := by
  obtain ⟨h1, h2, h3, h4, h5⟩ := h
  exact ⟨h1, h2, h3, h4, h5.of (fun _ _ _ => rfl) rfl rfl rfl⟩
theorem Inv0.zero (h : Inv0 hb κ s k τ) : Inv hb κ s k (tA τ 0) := by
  obtain ⟨h1, h2, h3, h4, h5⟩ := h
  exact ⟨h1, h2, h3, h4, h5.of (fun _ _ _ => rfl) rfl rfl rfl, rfl⟩
theorem stay_c {m q c i : Nat} (hN : 1000 ≤ N) (hhb : hb + 201 ≤ 99999) (hs : IS m hb s) (hq : q ≤ 40) (hc : c < 24) : fX3_staysWithout N (cq κ s t k) (nI i) (nI c) (nI q) = some (bl (hsS (nI i) m q s (5 + c) = s (5 + c)), cq κ s (hsS (nI i) m q s) k) := by
  unfold fX3_staysWithout
  rw [bec25 hN, bs, cq_v25, hs_x hN (by omega) (by omega) hs, bs, bs, cq_p25, cq_r25 (j := 2 + 0) (by decide) hc (by decide) (ix_p0 hc), bs, cq_r12 (j := 2 + 0) (by decide) hc (by decide) (ix_p0 hc), bs]
  unfold bl
  split <;> rfl
theorem away_l {m q c : Nat} (hN : 1000 ≤ N) (hhb : hb + 201 ≤ 99999) (hs : IS m hb s) (hq : q ≤ 40) (hc : c < 24) : ∀ (j i n n2 : Nat) (t : Nat → Int32) (b : Int32) (τ : St2), i + j = 2 ^ m → j < n → j < n2 → Inv0 hb κ s k τ → (b = -1 ∨ ∃ y, y < i ∧ b = nI y) → Ex hb (fX3_away_40 N (nI c) (nI q) (nI (2 ^ m)) n (cq κ s t k) b (nI i)) (fX4_away_30 N (nI c) (nI q) n2 (mq τ s) b (nI i)) := by
  have hm := hs.1.1
  have h2m : 2 ^ m ≤ 256 := Nat.pow_le_pow_right (n := 2) (by decide) hm
  intro j
  induction j with
  | zero =>
    intro i n n2 t b τ hi hn hn2 hI hb9
    obtain ⟨n, rfl⟩ : ∃ z, n = z + 1 := ⟨n - 1, by omega⟩
    obtain ⟨n2, rfl⟩ : ∃ z, n2 = z + 1 := ⟨n2 - 1, by omega⟩
    have e : i = 2 ^ m := by omega
    subst e
    rw [fX3_away_40, fX4_away_30, rl_2, bs, hs.1.2, sh1 (by omega), if_pos (le_n (Nat.le_refl _) (by omega)), if_pos (le_n (Nat.le_refl _) (by omega)), pf_aw, bs]
    rcases hb9 with rfl | ⟨y, hy, rfl⟩
    · rw [if_pos rfl, if_neg (by decide)]
      exact simT hI.zero 3 (by decide) (by decide) rfl (by decide)
    · have h5 : 0 ≤ nI y := nI_pos' (by omega)
      have h6 : ¬ nI y = -1 := fun e => by
        rw [e] at h5
        exact absurd h5 (by decide)
      rw [if_neg h6, if_pos h5]
      exact ex_same hI.zero
  | succ j ih =>
    intro i n n2 t b τ hi hn hn2 hI hb9
    obtain ⟨n, rfl⟩ : ∃ z, n = z + 1 := ⟨n - 1, by omega⟩
    obtain ⟨n2, rfl⟩ : ∃ z, n2 = z + 1 := ⟨n2 - 1, by omega⟩
    -- the look at this set
    have look : Ex hb (fX3_away_65 N (fX3_away_40 N (nI c) (nI q) (nI (2 ^ m)) n) (cq κ s t k) (nI c) (nI q) (nI (2 ^ m)) b (nI i)) (fX4_away_59 N (fX4_away_30 N (nI c) (nI q) n2) (mq τ s) (nI c) (nI q) b (nI i)) := by
      unfold fX3_away_65 fX3_away_70 fX3_away_92 fX4_away_59 fX4_away_92 fX4_away_93
      rw [if_neg (by decide), stay_c hN hhb hs hq hc, bs, lend hN rfl, bs, pf_away, bs, whoseIn_m hN (by omega) hc hs tA_5 (fun _ _ => rfl), bs, e_5, rm (by omega), bs, one_n, bl0]
      by_cases h : hsS (nI i) m q s (5 + c) = s (5 + c)
      · rw [if_pos h, if_pos h]
        exact ih (i + 1) n n2 _ _ _ (by omega) (by omega) (by omega) hI.aw (Or.inr ⟨i, by omega, rfl⟩)
      · rw [if_neg h, if_neg h]
        exact ih (i + 1) n n2 _ _ _ (by omega) (by omega) (by omega) hI.aw (hb9.elim Or.inl (fun ⟨y, h1, h2⟩ => Or.inr ⟨y, by omega, h2⟩))
    rw [fX3_away_40, fX4_away_30, rl_2, bs, hs.1.2, sh1 (by omega), if_neg (nle_n (by omega) (by omega)), if_neg (nle_n (by omega) (by omega))]
    rcases hb9 with rfl | ⟨y, hy, rfl⟩
    · rw [if_pos rfl, if_pos (by decide)]
      exact look
    · have h5 : 0 ≤ nI y := nI_pos' (by omega)
      have h6 : ¬ nI y = -1 := fun e => by
        rw [e] at h5
        exact absurd h5 (by decide)
      rw [if_neg h6, if_neg (nlt0 h5), bitCount_n (by omega), bs, bitCount_n (by omega), bs, ones_n hN (by omega), bs, ones_n hN (by omega), bs]
      by_cases h7 : nI (pcs 24 y) ≤ nI (pcs 24 i)
      · rw [if_pos h7, if_pos h7]
        unfold fX3_away_70 fX3_away_92 fX4_away_93
        rw [if_pos rfl, one_n]
        exact ih (i + 1) n n2 _ _ _ (by omega) (by omega) (by omega) hI (Or.inr ⟨y, by omega, rfl⟩)
      · rw [if_neg h7, if_neg h7]
        exact look
theorem sim_away {a n : Int32} (hN : 1000 ≤ N) (hhb : hb + 201 ≤ 99999) (hI : Inv hb κ s k τ) : Ex hb (fX3_away N (cq κ s t k) a n) (fX4_away N (mq τ s) a n) := by
  obtain ⟨m, hs⟩ := hI.1
  have hm := hs.1.1
  have h2m : 2 ^ m ≤ 256 := Nat.pow_le_pow_right (n := 2) (by decide) hm
  unfold fX3_away fX4_away
  rw [isCell_eq, isCell4_eq, within_eq, in_eq (b := 0) (c := 20) (by decide) (by decide)]
  simp only [bs, bl0]
  by_cases h1 : 0 ≤ a ∧ a ≤ 23
  · obtain ⟨c, hc, rfl⟩ := cell_of h1
    rw [if_pos h1, if_pos h1]
    by_cases h2 : 0 ≤ n ∧ n ≤ 20
    · obtain ⟨q, hq, rfl⟩ := rng_of (n := 20) (by decide) h2.1 h2.2
      rw [if_pos h2, if_pos h2, cq_f12, sx_03, hs.1.2, sh1 (by omega)]
      obtain ⟨i1, i2, i3, i4, i5, -⟩ := hI
      exact away_l hN hhb hs (by omega) hc (2 ^ m) 0 N N t (-1) τ (by omega) (by omega) (by omega) ⟨i1, i2, i3, i4, i5⟩ (Or.inl rfl)
    · rw [if_neg h2, if_neg h2]
      exact simB hI
  · rw [if_neg h1, if_neg h1]
    exact simB hI
/-! ===== the censor ===== -/
theorem censor_l {m q : Nat} (hN : 1000 ≤ N) (hhb : hb + 201 ≤ 99999) (hs : IS m hb s) (hq : q ≤ 40) : ∀ (j i n n2 : Nat) (t : Nat → Int32) (bc bm lc lm : Int32) (τ : St2), i + j = m → 0 < m → j < n → j < n2 → Inv0 hb κ s k τ → ((bm = bc ∧ 0 ≤ bm ∧ lm = lc) ∨ (bm = -1 ∧ lc = 100000 ∧ 0 < j)) → Ex hb (fX3_censor_42 N (nI q) n (cq κ s t k) bc lc (nI i)) (fX4_censor_20 N (nI q) n2 (mq τ s) bm lm (nI i)) := by
  have hm := hs.1.1
  intro j
  induction j with
  | zero =>
    intro i n n2 t bc bm lc lm τ hi h0 hn hn2 hI hb9
    obtain ⟨n, rfl⟩ : ∃ z, n = z + 1 := ⟨n - 1, by omega⟩
    obtain ⟨n2, rfl⟩ : ∃ z, n2 = z + 1 := ⟨n2 - 1, by omega⟩
    have e : i = m := by omega
    subst e
    rcases hb9 with ⟨rfl, h2, rfl⟩ | ⟨-, -, h⟩
    · rw [fX3_censor_42, fX4_censor_20, rl_2, bs, cq_f12, sx_03, hs.1.2, if_pos (le_n (Nat.le_refl _) (by omega)), if_pos (le_n (Nat.le_refl _) (by omega)), pf_aw, bs, if_pos h2]
      exact ex_same hI.zero
    · omega
  | succ j ih =>
    intro i n n2 t bc bm lc lm τ hi h0 hn hn2 hI hb9
    obtain ⟨n, rfl⟩ : ∃ z, n = z + 1 := ⟨n - 1, by omega⟩
    obtain ⟨n2, rfl⟩ : ∃ z, n2 = z + 1 := ⟨n2 - 1, by omega⟩
    have hsm := hs_m (τ := aL (tA τ (1 <<< (nI i &&& 31))) s) (aw := 1 <<< (nI i &&& 31)) hN (show q ≤ 200 by omega) hs (tA_5 (τ := τ))
    rw [fX3_censor_42, fX4_censor_20, rl_2, bs, cq_f12, sx_03, hs.1.2, if_neg (nle_n (by omega) (by omega)), if_neg (nle_n (by omega) (by omega)), bec25 hN, bs, cq_v25, hs_x hN (by omega) (by omega) hs, bs, cq_p25]
    simp only [bs]
    rw [cq_f25, sx_05, lend hN rfl, bs, pf_away, bs, hsm.1, bs, rl_4, bs, lay hN (fun j hj => hi_hs hs hj), bs]
    obtain ⟨z, z1, z2⟩ := hsm.2.2.2.2.1
    unfold fX3_censor_99 fX4_censor_70 fX4_censor_75 fX4_censor_88 fX4_censor_100
    rw [one_n]
    rcases hb9 with ⟨rfl, h2, rfl⟩ | ⟨rfl, rfl, h⟩
    · rw [if_neg (nlt0 h2)]
      by_cases h3 : lm ≤ hsS (1 <<< (nI i &&& 31)) m q s 4
      · rw [if_pos h3, if_pos h3, if_pos rfl, if_pos rfl]
        exact ih (i + 1) n n2 _ _ _ _ _ _ (by omega) h0 (by omega) (by omega) hI.aw (Or.inl ⟨rfl, h2, rfl⟩)
      · rw [if_neg h3, if_neg h3, if_neg (by decide), if_neg (by decide)]
        exact ih (i + 1) n n2 _ _ _ _ _ _ (by omega) h0 (by omega) (by omega) hI.aw (Or.inl ⟨rfl, nI_pos' (by omega), rfl⟩)
    · have h3 : ¬ (100000 : Int32) ≤ hsS (1 <<< (nI i &&& 31)) m q s 4 := by
        rw [z2]
        exact nle_n (a := 100000) (by omega) (by omega)
      rw [if_neg h3, if_pos (show (-1 : Int32) < 0 by decide), if_neg (show ¬ (1 : Int32) = 0 by decide), if_neg (show ¬ (1 : Int32) = 0 by decide)]
      exact ih (i + 1) n n2 _ _ _ _ _ _ (by omega) h0 (by omega) (by omega) hI.aw (Or.inl ⟨rfl, nI_pos' (by omega), rfl⟩)
theorem sim_censor {a : Int32} (hN : 1000 ≤ N) (hhb : hb + 201 ≤ 99999) (hI : Inv hb κ s k τ) : Ex hb (fX3_censor N (cq κ s t k) a) (fX4_censor N (mq τ s) a) := by
  obtain ⟨m, hs⟩ := hI.1
  have hm := hs.1.1
  unfold fX3_censor fX4_censor
  rw [within_eq, isSoon4_eq]
  simp only [bs, bl0]
  by_cases h1 : 0 ≤ a ∧ a ≤ 40
  · obtain ⟨q, hq, rfl⟩ := rng_of (n := 40) (by decide) h1.1 h1.2
    obtain ⟨i1, i2, i3, i4, i5, i6⟩ := hI
    rw [if_pos h1, if_pos h1, cq_f12, sx_03, hs.1.2]
    by_cases h2 : m = 0
    · subst h2
      obtain ⟨N2, rfl⟩ : ∃ z, N = z + 1 := ⟨N - 1, by omega⟩
      rw [if_pos (show nI 0 = 0 from rfl), fX4_censor_20, rl_2, bs, hs.1.2, if_pos (by decide), pf_aw, bs, if_neg (by decide)]
      exact simT (Inv0.zero ⟨i1, i2, i3, i4, i5⟩) 3 (by decide) (by decide) rfl (by decide)
    · rw [if_neg (show ¬ nI m = 0 from fun e => h2 ((nI_eq (b := 0) (by omega) (by omega)).mp e))]
      exact censor_l hN hhb hs hq m 0 N N t 0 (-1) 100000 0 τ (by omega) (by omega) (by omega) (by omega) ⟨i1, i2, i3, i4, i5⟩ (Or.inr ⟨rfl, rfl, by omega⟩)
  · rw [if_neg h1, if_neg h1]
    exact simB hI
end SIME
