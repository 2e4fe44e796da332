/-! ===== hours leave what lies behind the row ===== -/
theorem hi_go {s : Nat → Int32} {w j : Nat} (hw : w < 8) (hj : 135 ≤ j) : goS s w j = s j := by
  unfold goS goB
  generalize (if s (77 + 6 * w + 2) = 1 then strS s w else -(strS s w)) = by9
  obtain ⟨c, hc, e⟩ := imm_rng (s (77 + 6 * w + 1) + by9)
  rw [e, nI_clamp (by omega)]
  unfold goP goT
  split
  · rw [uw (by omega), uw (by omega), pt_o hc (by omega), qt_t (by omega)]
  · rw [uw (by omega), uw (by omega), uw (by omega), pt_o hc (by omega), qt_t (by omega)]
theorem hi_td {s : Nat → Int32} {r j : Nat} (hr : r ≤ 24) (hj : 135 ≤ j) : (tdS r s).2 j = s j := by
  have h := itr_P (fun _ (p : Int32 × (Nat → Int32)) => ∀ j, 135 ≤ j → p.2 j = s j) tdG r (fun p i hi hp j hj => by
    unfold tdG
    split
    · exact hp j hj
    · split
      · show ptS p.2 i (-1) 0 0 j = s j
        rw [pt_o (by omega) (by omega)]
        exact hp j hj
      · show upd p.2 (29 + i) _ j = s j
        rw [uw (by omega)]
        exact hp j hj) r 0 (0, s) (by omega) (fun j _ => rfl)
  exact h j hj
theorem hi_hr {m hb : Nat} {aw : Int32} {s : Nat → Int32} {j : Nat} (hs : IS m hb s) (hj : 135 ≤ j) : hrS aw m s j = s j := by
  have hm := hs.1.1
  have h := itr_P (fun _ (p : Nat → Int32) => IS m hb p ∧ ∀ j, 135 ≤ j → p j = s j) (hrW aw) m (fun p i hi hp => ⟨hrW_P hi hp.1, fun j hj => by
    unfold hrW
    split
    · rw [hi_go (by omega) hj]
      exact hp.2 j hj
    · exact hp.2 j hj⟩) m 0 s (by omega) ⟨hs, fun j _ => rfl⟩
  unfold hrS hrE
  obtain ⟨r, r1, r2⟩ := h.1.2.2.1
  split
  · rw [r2, nI_clamp (by omega), hi_td r1 hj, uw (by omega)]
    exact h.2 j hj
  · rw [uw (by omega)]
    exact h.2 j hj
theorem hi_hs {m hb k : Nat} {aw : Int32} {s : Nat → Int32} {j : Nat} (hs : IS m hb s) (hj : 135 ≤ j) : hsS aw m k s j = s j := by
  have h := itr_P (fun i (p : Nat → Int32) => IS m (hb + i) p ∧ ∀ j, 135 ≤ j → p j = s j) (fun _ p => hrS aw m p) k (fun p i hi hp => ⟨(hr_m (N := 1000) (τ := fun _ _ => aw) (Nat.le_refl _) hp.1 rfl).2, fun j hj => by
    rw [hi_hr hp.1 hj]
    exact hp.2 j hj⟩) k 0 s (by omega) ⟨hs, fun j _ => rfl⟩
  exact h.2 j hj
/-! ===== lent and laid back ===== -/
def aL (τ : St2) (s : Nat → Int32) : St2 := va_up τ 3 (cpR s (τ 3))
theorem cpR_2 {f g : Nat → Int32} : cpR f (cpR f g) = cpR f g := by
  funext j
  unfold cpR
  by_cases h : j < 135
  · rw [if_pos h, if_pos h]
  · rw [if_neg h]
theorem aL_3 {τ : St2} {s : Nat → Int32} : aL τ s 3 = cpR s (τ 3) := by
  unfold aL va_up
  exact if_pos rfl
theorem aL_o {τ : St2} {s : Nat → Int32} {j : Nat} (h : j ≠ 3) : aL τ s j = τ j := by
  unfold aL va_up
  exact if_neg h
theorem aL_2 {τ : St2} {s : Nat → Int32} : aL (aL τ s) s = aL τ s := by
  show va_up (aL τ s) 3 (cpR s (aL τ s 3)) = _
  rw [aL_3, cpR_2]
  exact bx_uu _ _ _ _
section SIMC
variable {hb N : Nat} {κ : St2} {s t k : Nat → Int32} {τ : St2}
theorem lend {T : St2} (hN : 1000 ≤ N) (hT : aL τ s = T) : fX4_lends N (mq τ s) = some (mq T s) := by
  rw [lends_m hN, ← hT]
  rfl
theorem lay {s1 : Nat → Int32} (hN : 1000 ≤ N) (h : ∀ j, 135 ≤ j → s1 j = s j) : fX4_laysBack N (mq (aL τ s) s1) = some (mq (aL τ s) s) := by
  rw [lays_m hN, aL_3]
  refine congrArg (fun z => some (mq (aL τ s) z)) ?_
  funext j
  unfold cpR
  by_cases hj : j < 135
  · rw [if_pos hj, if_pos hj]
  · rw [if_neg hj, h j (by omega)]
theorem Inv.aside (hI : Inv hb κ s k τ) : Inv hb κ s k (aL τ s) := by
  obtain ⟨h1, h2, h3, h4, h5, h6⟩ := hI
  exact ⟨h1, h2, h3, h4, h5.of (fun _ _ _ => rfl) rfl rfl rfl, h6⟩
theorem sim_ahead {a b n : Int32} (hN : 1000 ≤ N) (hhb : hb + 201 ≤ 99999) (hI : Inv hb κ s k τ) : Ex hb (fX3_ahead N (cq κ s t k) a b n) (fX4_ahead N (mq τ s) a b n) := by
  obtain ⟨m, hs⟩ := hI.1
  unfold fX3_ahead fX4_ahead
  rw [isCell_eq, isCell4_eq, within_eq, within_eq, in_eq (b := 0) (c := 2) (by decide) (by decide), isAhead4_eq]
  simp only [bs, bl0]
  by_cases h1 : 0 ≤ a ∧ a ≤ 23
  · obtain ⟨c, hc, rfl⟩ := cell_of h1
    rw [if_pos h1, if_pos h1]
    by_cases h2 : 0 ≤ b ∧ b ≤ 2
    · obtain ⟨r, hr, rfl⟩ := rng_of (n := 2) (by decide) h2.1 h2.2
      rw [if_pos h2, if_pos h2]
      by_cases h3 : 0 ≤ n ∧ n ≤ 100
      · obtain ⟨q, hq, rfl⟩ := rng_of (n := 100) (by decide) h3.1 h3.2
        have hm := hs_m (τ := aL τ s) hN (show q ≤ 200 by omega) hs hI.2.2.2.2.2
        rw [if_pos h3, if_pos h3, bec25 hN, bs, cq_v25, hs_x hN (by omega) (by omega) hs, bs, cq_p25, ck_n (by omega) (by decide), bs, cq_r25 (by omega) hc (by decide) (ix_p (by omega) hc), bs, lend hN rfl, bs, hm.1, bs, e_24, rm (by omega), bs, lay hN (fun j hj => hi_hs hs hj), bs]
        exact ex_same hI.aside
      · rw [if_neg h3, if_neg h3]
        exact simB hI
    · rw [if_neg h2, if_neg h2]
      exact simB hI
  · rw [if_neg h1, if_neg h1]
    exact simB hI
theorem workIn_m {m q w : Nat} {s1 : Nat → Int32} (hN : 1000 ≤ N) (hq : q ≤ 200) (hs : IS m hb s1) (ha : τ 0 5 = 0) (h1 : ∀ j, 135 ≤ j → s1 j = s j) : fX4_workIn N (mq (aL τ s) s1) (nI w) (nI q) = some (nI (szN (hsS 0 m q s1) w), mq (aL τ s) s) := by
  have hm := hs_m (τ := aL τ s) hN hq hs ha
  unfold fX4_workIn szN
  rw [hm.1, bs, workOf_m hN, bs, ones_n hN (Nat.lt_trans (wkN_lt _ _) (by decide)), bs, lay hN (fun j hj => (hi_hs hs hj).trans (h1 j hj)), bs]
theorem sim_work {a n : Int32} (hN : 1000 ≤ N) (hhb : hb + 201 ≤ 99999) (hI : Inv hb κ s k τ) : Ex hb (fX3_work N (cq κ s t k) a n) (fX4_work N (mq τ s) a n) := by
  obtain ⟨m, hs⟩ := hI.1
  unfold fX3_work fX4_work
  rw [cq_v12, iw_x, iw_m, within_eq, isAhead4_eq]
  simp only [bs, bl0]
  by_cases h1 : 0 ≤ a ∧ a ≤ s 2 - 1
  · obtain ⟨w, hw, rfl⟩ := iw_of hs h1
    rw [if_pos h1, if_pos h1]
    by_cases h3 : 0 ≤ n ∧ n ≤ 100
    · obtain ⟨q, hq, rfl⟩ := rng_of (n := 100) (by decide) h3.1 h3.2
      rw [if_pos h3, if_pos h3, bec25 hN, bs, cq_v25, hs_x hN (by omega) (by omega) hs, bs, cq_p25, cq_v25, workSize_x hN, bs, lend hN rfl, bs, workIn_m hN (by omega) hs hI.2.2.2.2.2 (fun _ _ => rfl), bs]
      exact ex_same hI.aside
    · rw [if_neg h3, if_neg h3]
      exact simB hI
  · rw [if_neg h1, if_neg h1]
    exact simB hI
/-- the end of a search: found -/
theorem orN_f {i : Nat} {s1 : Nat → Int32} (hN : 1000 ≤ N) (hi : i ≤ 200) (h : ∀ j, 135 ≤ j → s1 j = s j) : fX4_orNone N (mq (aL τ s) s1) (nI i) 200 = some (nI i, mq (aL τ s) s) := by
  unfold fX4_orNone
  rw [lay hN h, bs, if_neg (show ¬ (200 : Int32) < nI i from nI_nlt (b := 200) (a := 200) (by omega) (by omega) |> fun _ => Int32.not_lt.mpr (le_n (b := 200) hi (by omega)))]
theorem orN_n {s1 : Nat → Int32} (hN : 1000 ≤ N) (h : ∀ j, 135 ≤ j → s1 j = s j) : fX4_orNone N (mq (aL τ s) s1) (nI 201) 200 = (fX4_finds (mq (aL τ s) s) 3).bind fun y2 => some (y2.1, y2.2) := by
  unfold fX4_orNone
  rw [lay hN h, bs, if_pos (by decide)]
theorem not200 {i : Nat} (hi : i ≤ 200) : ¬ (200 : Int32) < nI i := Int32.not_lt.mpr (le_n (b := 200) hi (by omega))
theorem bind_eta {o : Option (Int32 × St2)} : (o.bind fun y => some (y.1, y.2)) = o := by
  cases o with
  | none => rfl
  | some y => rfl
theorem when_l {m c : Nat} {v : Int32} (hN : 1000 ≤ N) (hhb : hb + 201 ≤ 99999) (hI : Inv hb κ s k τ) (hc : c < 24) : ∀ (j i n n2 : Nat) (t : Nat → Int32), i + j = 201 → j < n → j < n2 → IS m (hb + i) t → (∀ q, 135 ≤ q → t q = s q) → Ex hb (fX3_hoursUntilWhose_13 N (nI c) v n (cq κ s t k) (nI i)) (fX4_when_27 N v (nI c) n2 (mq (aL τ s) t) (nI i)) := by
  intro j
  induction j with
  | zero =>
    intro i n n2 t hi hn hn2 ht hq
    obtain ⟨n, rfl⟩ : ∃ z, n = z + 1 := ⟨n - 1, by omega⟩
    obtain ⟨n2, rfl⟩ : ∃ z, n2 = z + 1 := ⟨n2 - 1, by omega⟩
    have : i = 201 := by omega
    subst this
    rw [fX3_hoursUntilWhose_13, fX4_when_27, if_pos (by decide), if_pos (by decide), orN_n hN hq, bind_eta (o := fX4_finds _ _), bind_eta (o := fX4_finds _ _)]
    have h := simT (t := t) hI.aside 3 (by decide) (f := -1000004) (v := 3) (by decide) rfl (by decide)
    rw [bind_eta (o := fX4_finds _ _)] at h
    exact h
  | succ j ih =>
    intro i n n2 t hi hn hn2 ht hq
    obtain ⟨n, rfl⟩ : ∃ z, n = z + 1 := ⟨n - 1, by omega⟩
    obtain ⟨n2, rfl⟩ : ∃ z, n2 = z + 1 := ⟨n2 - 1, by omega⟩
    have hm := hr_m (τ := aL τ s) hN ht hI.2.2.2.2.2
    rw [fX3_hoursUntilWhose_13, fX4_when_27, if_neg (not200 (by omega)), if_neg (not200 (by omega)), cq_r25 (j := 2 + 0) (by decide) hc (by decide) (ix_p0 hc), bs, e_5, rm (by omega), bs, orN_f hN (by omega) hq, bs, cq_v25, hr_x hN (by omega) ht, bs, bs, cq_p25, hm.1, bs, one_n]
    by_cases h : t (5 + c) = v
    · rw [if_pos h, if_pos h]
      exact ex_same hI.aside
    · rw [if_neg h, if_neg h]
      exact ih (i + 1) n n2 _ (by omega) (by omega) (by omega) hm.2 (fun q hq2 => (hi_hr ht hq2).trans (hq q hq2))
theorem gone_l {m c : Nat} (hN : 1000 ≤ N) (hhb : hb + 201 ≤ 99999) (hI : Inv hb κ s k τ) (hc : c < 24) : ∀ (j i n n2 : Nat) (t : Nat → Int32), i + j = 201 → j < n → j < n2 → IS m (hb + i) t → (∀ q, 135 ≤ q → t q = s q) → Ex hb (fX3_hoursUntilWhose_13 N (nI c) (-1) n (cq κ s t k) (nI i)) (fX4_gone_19 N (nI c) n2 (mq (aL τ s) t) (nI i)) := by
  intro j
  induction j with
  | zero =>
    intro i n n2 t hi hn hn2 ht hq
    obtain ⟨n, rfl⟩ : ∃ z, n = z + 1 := ⟨n - 1, by omega⟩
    obtain ⟨n2, rfl⟩ : ∃ z, n2 = z + 1 := ⟨n2 - 1, by omega⟩
    have : i = 201 := by omega
    subst this
    rw [fX3_hoursUntilWhose_13, fX4_gone_19, if_pos (by decide), if_pos (by decide), orN_n hN hq, bind_eta (o := fX4_finds _ _), bind_eta (o := fX4_finds _ _)]
    have h := simT (t := t) hI.aside 3 (by decide) (f := -1000004) (v := 3) (by decide) rfl (by decide)
    rw [bind_eta (o := fX4_finds _ _)] at h
    exact h
  | succ j ih =>
    intro i n n2 t hi hn hn2 ht hq
    obtain ⟨n, rfl⟩ : ∃ z, n = z + 1 := ⟨n - 1, by omega⟩
    obtain ⟨n2, rfl⟩ : ∃ z, n2 = z + 1 := ⟨n2 - 1, by omega⟩
    have hm := hr_m (τ := aL τ s) hN ht hI.2.2.2.2.2
    rw [fX3_hoursUntilWhose_13, fX4_gone_19, if_neg (not200 (by omega)), if_neg (not200 (by omega)), cq_r25 (j := 2 + 0) (by decide) hc (by decide) (ix_p0 hc), bs, e_5, rm (by omega), bs, orN_f hN (by omega) hq, bs, cq_v25, hr_x hN (by omega) ht, bs, bs, cq_p25, hm.1, bs, one_n]
    rcases ht.2.2.2.2.2.1 c hc with ⟨h, -⟩ | h
    · rw [if_pos h, h, if_pos (by decide)]
      exact ex_same hI.aside
    · have h2 : ¬ t (5 + c) = -1 := fun e => by rw [e] at h; exact absurd h (by decide)
      rw [if_neg h2, if_neg (nlt0 h)]
      exact ih (i + 1) n n2 _ (by omega) (by omega) (by omega) hm.2 (fun q hq2 => (hi_hr ht hq2).trans (hq q hq2))
theorem meet_l {m a b : Nat} (hN : 1000 ≤ N) (hhb : hb + 201 ≤ 99999) (hI : Inv hb κ s k τ) (ha : a < 8) (hb8 : b < 8) : ∀ (j i n n2 : Nat) (t : Nat → Int32), i + j = 201 → j < n → j < n2 → IS m (hb + i) t → (∀ q, 135 ≤ q → t q = s q) → Ex hb (fX3_meet_47 N (nI a) (nI b) n (cq κ s t k) (nI i)) (fX4_meet_33 N (nI a) (nI b) n2 (mq (aL τ s) t) (nI i)) := by
  intro j
  induction j with
  | zero =>
    intro i n n2 t hi hn hn2 ht hq
    obtain ⟨n, rfl⟩ : ∃ z, n = z + 1 := ⟨n - 1, by omega⟩
    obtain ⟨n2, rfl⟩ : ∃ z, n2 = z + 1 := ⟨n2 - 1, by omega⟩
    have : i = 201 := by omega
    subst this
    rw [fX3_meet_47, fX4_meet_33, if_pos (by decide), if_pos (by decide), orN_n hN hq, bind_eta (o := fX4_finds _ _), bind_eta (o := fX4_finds _ _)]
    have h := simT (t := t) hI.aside 3 (by decide) (f := -1000004) (v := 3) (by decide) rfl (by decide)
    rw [bind_eta (o := fX4_finds _ _)] at h
    exact h
  | succ j ih =>
    intro i n n2 t hi hn hn2 ht hq
    obtain ⟨n, rfl⟩ : ∃ z, n = z + 1 := ⟨n - 1, by omega⟩
    obtain ⟨n2, rfl⟩ : ∃ z, n2 = z + 1 := ⟨n2 - 1, by omega⟩
    have hm := hr_m (τ := aL τ s) hN ht hI.2.2.2.2.2
    rw [fX3_meet_47, fX4_meet_33, if_neg (not200 (by omega)), if_neg (not200 (by omega)), cq_r25 (j := 6 + 1) (by decide) ha (by decide) (ix_t1 ha), bs, cq_r25 (j := 6 + 1) (by decide) hb8 (by decide) (ix_t1 hb8), bs, its_1 ha, bs, its_1 hb8, bs, orN_f hN (by omega) hq, bs, cq_v25, hr_x hN (by omega) ht, bs, bs, cq_p25, hm.1, bs, one_n]
    by_cases h : t (77 + 6 * a + 1) = t (77 + 6 * b + 1)
    · rw [if_pos h, if_pos h]
      exact ex_same hI.aside
    · rw [if_neg h, if_neg h]
      exact ih (i + 1) n n2 _ (by omega) (by omega) (by omega) hm.2 (fun q hq2 => (hi_hr ht hq2).trans (hq q hq2))
theorem sim_when {a b : Int32} (hN : 1000 ≤ N) (hhb : hb + 201 ≤ 99999) (hI : Inv hb κ s k τ) : Ex hb (fX3_when N (cq κ s t k) a b) (fX4_when N (mq τ s) a b) := by
  obtain ⟨m, hs⟩ := hI.1
  unfold fX3_when fX4_when fX3_hoursUntilWhose
  rw [cq_v12, iw_x, iw_m, isCell_eq, isCell4_eq]
  simp only [bs, bl0]
  by_cases h1 : 0 ≤ a ∧ a ≤ s 2 - 1
  · rw [if_pos h1, if_pos h1]
    by_cases h2 : 0 ≤ b ∧ b ≤ 23
    · obtain ⟨c, hc, rfl⟩ := cell_of h2
      rw [if_pos h2, if_pos h2, bind_eta (o := Option.bind _ _), bec25 hN, bs, lend hN rfl, bs]
      exact when_l hN hhb hI hc 201 0 N N s (by omega) (by omega) (by omega) hs (fun _ _ => rfl)
    · rw [if_neg h2, if_neg h2]
      exact simB hI
  · rw [if_neg h1, if_neg h1]
    exact simB hI
theorem sim_gone {a : Int32} (hN : 1000 ≤ N) (hhb : hb + 201 ≤ 99999) (hI : Inv hb κ s k τ) : Ex hb (fX3_gone N (cq κ s t k) a) (fX4_gone N (mq τ s) a) := by
  obtain ⟨m, hs⟩ := hI.1
  unfold fX3_gone fX4_gone fX3_hoursUntilWhose
  rw [isCell_eq, isCell4_eq]
  simp only [bs, bl0]
  by_cases h2 : 0 ≤ a ∧ a ≤ 23
  · obtain ⟨c, hc, rfl⟩ := cell_of h2
    rw [if_pos h2, if_pos h2, bind_eta (o := Option.bind _ _), bec25 hN, bs, lend hN rfl, bs]
    exact gone_l hN hhb hI hc 201 0 N N s (by omega) (by omega) (by omega) hs (fun _ _ => rfl)
  · rw [if_neg h2, if_neg h2]
    exact simB hI
theorem sim_meet {a b : Int32} (hN : 1000 ≤ N) (hhb : hb + 201 ≤ 99999) (hI : Inv hb κ s k τ) : Ex hb (fX3_meet N (cq κ s t k) a b) (fX4_meet N (mq τ s) a b) := by
  obtain ⟨m, hs⟩ := hI.1
  have hm8 := hs.1.1
  unfold fX3_meet fX4_meet
  rw [cq_v12, iw_x, iw_x, iw_m, iw_m]
  simp only [bs, bl0]
  by_cases h1 : 0 ≤ a ∧ a ≤ s 2 - 1
  · obtain ⟨wa, hwa, rfl⟩ := iw_of hs h1
    rw [if_pos h1, if_pos h1]
    by_cases h2 : 0 ≤ b ∧ b ≤ s 2 - 1
    · obtain ⟨wb, hwb, rfl⟩ := iw_of hs h2
      rw [if_pos h2, if_pos h2]
      by_cases h3 : nI wa = nI wb
      · rw [if_pos h3, if_pos h3]
        exact simB hI
      · rw [if_neg h3, if_neg h3, bec25 hN, bs, lend hN rfl, bs]
        exact meet_l hN hhb hI (by omega) (by omega) 201 0 N N s (by omega) (by omega) (by omega) hs (fun _ _ => rfl)
    · rw [if_neg h2, if_neg h2]
      exact simB hI
  · rw [if_neg h1, if_neg h1]
    exact simB hI
end SIMC
