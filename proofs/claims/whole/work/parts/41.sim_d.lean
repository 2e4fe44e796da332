section SIMD
variable {hb N : Nat} {κ : St2} {s t k : Nat → Int32} {τ : St2}
theorem try_c {m w r q : Nat} {v : Int32} (hN : 1000 ≤ N) (hhb : hb + 201 ≤ 99999) (hs : IS m hb s) (hw : w < m) (hr : r < 6) (hq : q ≤ 40) (hv : tv 1 r ≤ v ∧ v ≤ tv 2 r) : fX3_tryTrait N (cq κ s t k) (nI w) (nI r) v (nI q) = some (cq κ s (hsS 0 m q (upd s (77 + 6 * w + r) v)) k) := by
  have hm := hs.1.1
  have hw8 : w < 8 := by omega
  unfold fX3_tryTrait
  rw [bec25 hN, bs, ck_n hr (by decide), bs, cq_w25 (by omega) hw8 (by decide) (ix_t hr hw8), bs, cq_v25, hs_x hN (by omega) (by omega) (hs.trait hw hr hv), bs, bs, cq_p25]
theorem rng_tv {r lo hi i : Nat} (hlo : tv 1 r = nI lo) (hhi : tv 2 r = nI hi) (h1 : lo ≤ i) (h2 : i ≤ hi) (h3 : hi < 900) : tv 1 r ≤ nI i ∧ nI i ≤ tv 2 r := by
  rw [hlo, hhi]
  exact ⟨le_n h1 (by omega), le_n h2 (by omega)⟩
theorem z1 : ∀ k, k ≤ 24 → ¬ nI k ≤ (-1 : Int32) := by decide +kernel
theorem best_l {m w q r lo hi : Nat} (hN : 1000 ≤ N) (hhb : hb + 201 ≤ 99999) (hs : IS m hb s) (hw : w < m) (hr : r < 6) (hq : q ≤ 40) (hlo : tv 1 r = nI lo) (hhi : tv 2 r = nI hi) (h3 : hi < 900) : ∀ (j i n n2 : Nat) (t : Nat → Int32) (bc bm mo : Int32) (τ : St2), i + j = hi + 1 → lo ≤ i → j < n → j < n2 → Inv hb κ s k τ → (bc = bm ∨ (mo = -1 ∧ 0 < j)) → Ex hb (fX3_traitForMostWork_45 N (nI w) (nI r) (nI q) n (cq κ s t k) bc mo (nI i)) (fX4_bestBy_9 N (nI w) (nI r) (nI hi) (nI q) n2 (mq τ s) bm mo (nI i)) := by
  have hm := hs.1.1
  have hw8 : w < 8 := by omega
  intro j
  induction j with
  | zero =>
    intro i n n2 t bc bm mo τ hi9 hlo9 hn hn2 hI hb9
    obtain ⟨n, rfl⟩ : ∃ z, n = z + 1 := ⟨n - 1, by omega⟩
    obtain ⟨n2, rfl⟩ : ∃ z, n2 = z + 1 := ⟨n2 - 1, by omega⟩
    rcases hb9 with rfl | ⟨-, h⟩
    · rw [fX3_traitForMostWork_45, fX4_bestBy_9, tv_r hr, bs, hhi, if_pos (nI_lt (by omega) (by omega)), if_pos (nI_lt (by omega) (by omega))]
      exact ex_same hI
    · omega
  | succ j ih =>
    intro i n n2 t bc bm mo τ hi9 hlo9 hn hn2 hI hb9
    obtain ⟨n, rfl⟩ : ∃ z, n = z + 1 := ⟨n - 1, by omega⟩
    obtain ⟨n2, rfl⟩ : ∃ z, n2 = z + 1 := ⟨n2 - 1, by omega⟩
    have hv := rng_tv hlo hhi hlo9 (show i ≤ hi by omega) h3
    rw [fX3_traitForMostWork_45, fX4_bestBy_9, tv_r hr, bs, hhi, if_neg (nI_nlt (by omega) (by omega)), if_neg (nI_nlt (by omega) (by omega)), try_c hN hhb hs hw hr hq hv, bs, cq_v25, workSize_x hN, bs, lend hN rfl, bs, sets_n r rfl hw8 hr, bs, workIn_m hN (by omega) (hs.trait hw hr hv) hI.2.2.2.2.2 (fun j hj => uw (by omega)), bs]
    unfold fX3_traitForMostWork_89 fX4_bestBy_51
    rw [bs, bs, one_n]
    have hz := szN_lt (hsS 0 m q (upd s (77 + 6 * w + r) (nI i))) w
    unfold szN at hz ⊢
    by_cases h : nI (pcs 24 (wkN (hsS 0 m q (upd s (77 + 6 * w + r) (nI i))) (nI w))) ≤ mo
    · have hmo : ¬ mo = -1 := fun e => by
        rw [e] at h
        exact z1 _ hz h
      have e2 : imax mo (nI (pcs 24 (wkN (hsS 0 m q (upd s (77 + 6 * w + r) (nI i))) (nI w)))) = mo := if_neg (Int32.not_lt.mpr h)
      rw [if_pos h, if_pos h, e2]
      exact ih (i + 1) n n2 _ bc bm mo _ (by omega) (by omega) (by omega) (by omega) hI.aside (Or.inl (hb9.elim id (fun z => absurd z.1 hmo)))
    · have e2 : imax mo (nI (pcs 24 (wkN (hsS 0 m q (upd s (77 + 6 * w + r) (nI i))) (nI w)))) = nI (pcs 24 (wkN (hsS 0 m q (upd s (77 + 6 * w + r) (nI i))) (nI w))) := if_pos (Int32.not_le.mp h)
      rw [if_neg h, if_neg h, e2]
      exact ih (i + 1) n n2 _ _ _ _ _ (by omega) (by omega) (by omega) (by omega) hI.aside (Or.inl rfl)
theorem sim_best {r lo hi : Nat} {a n : Int32} (hN : 1000 ≤ N) (hhb : hb + 201 ≤ 99999) (hI : Inv hb κ s k τ) (hr : r < 6) (hlo : tv 1 r = nI lo) (hhi : tv 2 r = nI hi) (h3 : hi < 900) (h4 : lo ≤ hi) : Ex hb ((fX3_traitForMostWork N (cq κ s t k) a (nI r) n).bind fun y1 => some (y1.1, y1.2)) ((fX4_isAsked (mq τ s) a n).bind fun y1 => if y1 = 0 then ((fX4_finds (mq τ s) 0).bind fun y2 => some (y2.1, y2.2)) else ((fX4_bestBy N (mq τ s) a (nI r) (nI lo) (nI hi) n).bind fun y3 => some (y3.1, y3.2))) := by
  obtain ⟨m, hs⟩ := hI.1
  unfold fX3_traitForMostWork fX4_isAsked fX4_bestBy
  rw [cq_v12, iw_x, iw_m, within_eq, isSoon4_eq]
  simp only [bs, bl0]
  by_cases h1 : 0 ≤ a ∧ a ≤ s 2 - 1
  · obtain ⟨w, hw, rfl⟩ := iw_of hs h1
    rw [if_pos h1, if_pos h1]
    by_cases h2 : 0 ≤ n ∧ n ≤ 40
    · obtain ⟨q, hq, rfl⟩ := rng_of (n := 40) (by decide) h2.1 h2.2
      rw [if_pos h2, if_pos h2, tv_r hr, bs, bs, bs, if_neg (by decide), bind_eta, bind_eta, hlo]
      exact best_l hN hhb hs hw hr hq hlo hhi h3 (hi + 1 - lo) lo N N t _ _ _ τ (by omega) (Nat.le_refl _) (by omega) (by omega) hI (Or.inr ⟨rfl, by omega⟩)
    · rw [if_neg h2, if_neg h2, bind_eta (o := Option.bind _ _), bs, if_pos rfl]
      exact simB hI
  · rw [if_neg h1, if_neg h1, bind_eta (o := Option.bind _ _), bs, if_pos rfl]
    exact simB hI
theorem sim_strideFor {a n : Int32} (hN : 1000 ≤ N) (hhb : hb + 201 ≤ 99999) (hI : Inv hb κ s k τ) : Ex hb (fX3_strideFor N (cq κ s t k) a n) (fX4_strideFor N (mq τ s) a n) := sim_best (r := 3) (lo := 1) (hi := 6) hN hhb hI (by decide) rfl rfl (by decide) (by decide)
theorem sim_start {a n : Int32} (hN : 1000 ≤ N) (hhb : hb + 201 ≤ 99999) (hI : Inv hb κ s k τ) : Ex hb (fX3_start N (cq κ s t k) a n) (fX4_start N (mq τ s) a n) := sim_best (r := 1) (lo := 0) (hi := 23) hN hhb hI (by decide) rfl rfl (by decide) (by decide)
theorem sim_kindFor {a n : Int32} (hN : 1000 ≤ N) (hhb : hb + 201 ≤ 99999) (hI : Inv hb κ s k τ) : Ex hb (fX3_kindFor N (cq κ s t k) a n) (fX4_kindFor N (mq τ s) a n) := sim_best (r := 0) (lo := 0) (hi := 6) hN hhb hI (by decide) rfl rfl (by decide) (by decide)
/-! ===== how far the tide may come ===== -/
def lst (p : Nat → Bool) : Nat → Int32
  | 0 => -1
  | n + 1 => if p n then nI n else lst p n
theorem lst_c (p : Nat → Bool) : ∀ n, n < 1000 → lst p n = -1 ∨ 0 ≤ lst p n
  | 0, _ => Or.inl rfl
  | n + 1, h => by
    unfold lst
    split
    · exact Or.inr (nI_pos' (by omega))
    · exact lst_c p n (by omega)
def rcP (m q c : Nat) (s : Nat → Int32) (v : Nat) : Bool := decide (0 ≤ hsS 0 m q (upd s 3 (nI v)) (5 + c))
theorem whoseIn_m {m q c : Nat} {aw : Int32} {s1 : Nat → Int32} (hN : 1000 ≤ N) (hq : q ≤ 200) (hc : c < 24) (hs : IS m hb s1) (ha : τ 0 5 = aw) (h1 : ∀ j, 135 ≤ j → s1 j = s j) : fX4_whoseIn N (mq (aL τ s) s1) (nI c) (nI q) = some (hsS aw m q s1 (5 + c), mq (aL τ s) s) := by
  have hm := hs_m (τ := aL τ s) hN hq hs ha
  unfold fX4_whoseIn
  rw [hm.1, bs, e_5, rm (by omega), bs, lay hN (fun j hj => (hi_hs hs hj).trans (h1 j hj)), bs]
theorem reach_m {m q c : Nat} (hN : 1000 ≤ N) (hs : IS m hb s) (hq : q ≤ 40) (hc : c < 24) : ∀ (j i n : Nat) (τ : St2), i + j = 25 → j < n → Inv hb κ s k τ → ∃ τ2, Inv hb κ s k τ2 ∧ fX4_reachFor_25 N (nI c) (nI q) n (mq τ s) (lst (rcP m q c s) i) (nI i) = if 0 ≤ lst (rcP m q c s) 25 then some (lst (rcP m q c s) 25, mq τ2 s) else (fX4_finds (mq τ2 s) 3).bind fun y => some (y.1, y.2) := by
  intro j
  induction j with
  | zero =>
    intro i n τ hi hn hI
    obtain ⟨n, rfl⟩ : ∃ z, n = z + 1 := ⟨n - 1, by omega⟩
    have : i = 25 := by omega
    subst this
    refine ⟨τ, hI, ?_⟩
    rw [fX4_reachFor_25, if_pos (by decide)]
  | succ j ih =>
    intro i n τ hi hn hI
    obtain ⟨n, rfl⟩ : ∃ z, n = z + 1 := ⟨n - 1, by omega⟩
    obtain ⟨τ2, h1, h2⟩ := ih (i + 1) n (aL τ s) (by omega) (by omega) hI.aside
    refine ⟨τ2, h1, ?_⟩
    rw [← h2, fX4_reachFor_25, if_neg (show ¬ (24 : Int32) < nI i from Int32.not_lt.mpr (le_n (b := 24) (by omega) (by omega))), lend hN rfl, bs, wl_3, bs, whoseIn_m hN (by omega) hc (hs.r3 (show i ≤ 24 by omega)) hI.2.2.2.2.2 (fun j hj => uw (by omega)), bs]
    unfold fX4_reachFor_59
    rw [one_n]
    show _ = fX4_reachFor_25 N (nI c) (nI q) n (mq (aL τ s) s) (if rcP m q c s i then nI i else lst (rcP m q c s) i) (nI (i + 1))
    unfold rcP
    by_cases h : hsS 0 m q (upd s 3 (nI i)) (5 + c) < 0
    · rw [if_pos h, if_neg (by simpa using h)]
    · rw [if_neg h, if_pos (by simpa using h)]
theorem reach_c {m q c : Nat} (hN : 1000 ≤ N) (hhb : hb + 201 ≤ 99999) (hs : IS m hb s) (hq : q ≤ 40) (hc : c < 24) : ∀ (i n : Nat) (t : Nat → Int32), i ≤ 24 → i + 1 < n → ∃ t2, fX3_reachFor_27 N (nI c) (nI q) n (cq κ s t k) (nI i) = if lst (rcP m q c s) (i + 1) = -1 then ((fX3_tell (cq κ s t2 k) (-1000004)).bind fun y => some (y.1, y.2)) else some (lst (rcP m q c s) (i + 1), cq κ s t2 k) := by
  intro i
  induction i with
  | zero =>
    intro n t hi hn
    obtain ⟨n, rfl⟩ : ∃ z, n = z + 2 := ⟨n - 2, by omega⟩
    refine ⟨hsS 0 m q (upd s 3 (nI 0)), ?_⟩
    have hs2 := hs.r3 (show 0 ≤ 24 by omega)
    rw [fX3_reachFor_27, if_neg (by decide), bec25 hN, bs, cq_pf25 (i := 3) rfl, bs, cq_v25, hs_x hN (by omega) (by omega) hs2, bs, bs, cq_p25, cq_r25 (j := 2 + 0) (by decide) hc (by decide) (ix_p0 hc), bs]
    have hz : nI 0 + (-1) = (-1 : Int32) := by decide
    have e9 : fX3_reachFor_27 N (nI c) (nI q) (n + 1) (cq κ s (hsS 0 m q (upd s 3 (nI 0))) k) (-1) = (fX3_tell (cq κ s (hsS 0 m q (upd s 3 (nI 0))) k) (-1000004)).bind fun y => some (y.1, y.2) := by
      rw [fX3_reachFor_27, if_pos (by decide)]
    rw [hz, e9]
    show _ = if (if rcP m q c s 0 then nI 0 else (-1)) = -1 then _ else some ((if rcP m q c s 0 then nI 0 else (-1)), _)
    unfold rcP
    have h4 := (hs_m (N := N) (τ := fun _ _ => 0) (aw := 0) hN (show q ≤ 200 by omega) hs2 rfl).2
    rcases h4.2.2.2.2.2.1 c hc with ⟨h, -⟩ | h
    · rw [if_pos h, h, if_pos (by decide)]
    · have h2 : ¬ hsS 0 m q (upd s 3 (nI 0)) (5 + c) = -1 := fun e => by rw [e] at h; exact absurd h (by decide)
      rw [if_neg h2, if_pos (decide_eq_true h), if_neg (by decide)]
  | succ i ih =>
    intro n t hi hn
    obtain ⟨n, rfl⟩ : ∃ z, n = z + 1 := ⟨n - 1, by omega⟩
    have hs2 := hs.r3 (show i + 1 ≤ 24 by omega)
    have h4 := (hs_m (N := N) (τ := fun _ _ => 0) (aw := 0) hN (show q ≤ 200 by omega) hs2 rfl).2
    rcases h4.2.2.2.2.2.1 c hc with ⟨h, -⟩ | h
    · obtain ⟨t2, e2⟩ := ih n (hsS 0 m q (upd s 3 (nI (i + 1)))) (by omega) (by omega)
      refine ⟨t2, ?_⟩
      rw [fX3_reachFor_27, if_neg (nI_pos (by omega)), bec25 hN, bs, cq_pf25 (i := 3) rfl, bs, cq_v25, hs_x hN (by omega) (by omega) hs2, bs, bs, cq_p25, cq_r25 (j := 2 + 0) (by decide) hc (by decide) (ix_p0 hc), bs, if_pos h, pk_m1, e2]
      have e3 : lst (rcP m q c s) (i + 1 + 1) = lst (rcP m q c s) (i + 1) := by
        show (if rcP m q c s (i + 1) then nI (i + 1) else lst (rcP m q c s) (i + 1)) = _
        unfold rcP
        rw [h, if_neg (by decide)]
      rw [e3]
    · refine ⟨hsS 0 m q (upd s 3 (nI (i + 1))), ?_⟩
      have h2 : ¬ hsS 0 m q (upd s 3 (nI (i + 1))) (5 + c) = -1 := fun e => by rw [e] at h; exact absurd h (by decide)
      rw [fX3_reachFor_27, if_neg (nI_pos (by omega)), bec25 hN, bs, cq_pf25 (i := 3) rfl, bs, cq_v25, hs_x hN (by omega) (by omega) hs2, bs, bs, cq_p25, cq_r25 (j := 2 + 0) (by decide) hc (by decide) (ix_p0 hc), bs, if_neg h2]
      have e3 : lst (rcP m q c s) (i + 1 + 1) = nI (i + 1) := by
        show (if rcP m q c s (i + 1) then nI (i + 1) else lst (rcP m q c s) (i + 1)) = _
        unfold rcP
        rw [if_pos (decide_eq_true h)]
      have h5 : ¬ nI (i + 1) = -1 := fun e => by
        have h6 : 0 ≤ nI (i + 1) := nI_pos' (by omega)
        rw [e] at h6
        exact absurd h6 (by decide)
      rw [e3, if_neg h5]
theorem sim_reachFor {a n : Int32} (hN : 1000 ≤ N) (hhb : hb + 201 ≤ 99999) (hI : Inv hb κ s k τ) : Ex hb (fX3_reachFor N (cq κ s t k) a n) (fX4_reachFor N (mq τ s) a n) := by
  obtain ⟨m, hs⟩ := hI.1
  unfold fX3_reachFor fX4_reachFor
  rw [isCell_eq, isCell4_eq, within_eq, isSoon4_eq]
  simp only [bs, bl0]
  by_cases h1 : 0 ≤ a ∧ a ≤ 23
  · obtain ⟨c, hc, rfl⟩ := cell_of h1
    rw [if_pos h1, if_pos h1]
    by_cases h2 : 0 ≤ n ∧ n ≤ 40
    · obtain ⟨q, hq, rfl⟩ := rng_of (n := 40) (by decide) h2.1 h2.2
      obtain ⟨t2, e2⟩ := reach_c (κ := κ) (k := k) hN hhb hs hq hc 24 N t (by omega) (by omega)
      obtain ⟨τ2, hI2, e3⟩ := reach_m (κ := κ) (k := k) (m := m) hN hs hq hc 25 0 N τ (by omega) (by omega) hI
      have e2' : fX3_reachFor_27 N (nI c) (nI q) N (cq κ s t k) 24 = _ := e2
      have e3' : fX4_reachFor_25 N (nI c) (nI q) N (mq τ s) (-1) 0 = _ := e3
      rw [if_pos h2, if_pos h2, e2', e3']
      rcases lst_c (rcP m q c s) 25 (by decide) with h | h
      · rw [h, if_pos rfl, if_neg (by decide)]
        exact simT hI2 3 (by decide) (by decide) rfl (by decide)
      · have h5 : ¬ lst (rcP m q c s) (24 + 1) = -1 := fun e => by
          rw [e] at h
          exact absurd h (by decide)
        rw [if_neg h5, if_pos h]
        exact ex_same hI2
    · rw [if_neg h2, if_neg h2]
      exact simB hI
  · rw [if_neg h1, if_neg h1]
    exact simB hI
end SIMD
