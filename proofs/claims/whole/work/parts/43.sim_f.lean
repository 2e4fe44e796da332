section SIMF
variable {hb N : Nat} {κ : St2} {s t k : Nat → Int32} {τ : St2}
/-! ===== sheets: whether one can be had ===== -/
theorem sheet_of {v : Int32} (h : 0 ≤ v ∧ v ≤ 3) : ∃ q, q < 4 ∧ v = nI q := by
  obtain ⟨c, hc, e⟩ := rng_of (n := 3) (by decide) h.1 h.2
  exact ⟨c, by omega, e⟩
theorem finding_c {v : Int32} : fX0_findingOf (cq κ s t k) v = if 0 ≤ v ∧ v ≤ 3 then ((rd (κ 10) 4 v).bind fun a => if a = 0 then some (-1000006) else some 0) else some (-1000001) := by
  unfold fX0_findingOf fX0_isMissing
  rw [isSheet_eq, bs, bl0, cq_lo (by decide)]
  by_cases h : 0 ≤ v ∧ v ≤ 3
  · obtain ⟨q, hq, rfl⟩ := sheet_of h
    rw [if_pos h, if_pos h, rd_n hq (by decide), bs, bs]
    by_cases h2 : κ 10 q = 0
    · rw [if_pos h2, if_pos h2]
      rfl
    · rw [if_neg h2, if_neg h2]
      rfl
  · rw [if_neg h, if_neg h]
theorem lacks_m {v : Int32} : fX4_lacks (mq τ s) v = if 0 ≤ v ∧ v ≤ 3 then ((rd (τ 6) 4 v).bind fun a => if a = 0 then some 5 else some (-1)) else some 0 := by
  unfold fX4_lacks
  rw [isSheet4_eq, bs, bl0, mq_o (by decide)]
/-! ===== as a sheet tells ===== -/
def at9 (p : Nat → Bool) : Nat → Nat → Int32
  | 0, _ => 1
  | n + 1, i => if p i then at9 p n (i + 1) else 0
theorem at9_c (p : Nat → Bool) : ∀ n i, at9 p n i = 0 ∨ at9 p n i = 1
  | 0, _ => Or.inr rfl
  | n + 1, i => by
    unfold at9
    split
    · exact at9_c p n (i + 1)
    · exact Or.inl rfl
def toP (f t : Nat → Int32) (v : Int32) (j : Nat) : Bool := decide (f j = -1) || decide (f j = if t (5 + j) = v then 1 else 0)
theorem imin24 {n : Nat} (hn : n ≤ 40) : imin (nI n) 24 = nI (min n 24) := by
  have h : ∀ n, n ≤ 40 → imin (nI n) 24 = nI (min n 24) := by decide +kernel
  exact h n hn
theorem told_c {q n : Nat} {v : Int32} (hN : 1000 ≤ N) (hq : q < 4) (hn : n ≤ 40) (e : κ 11 q = nI n) : fX3_trialIsAsTold N (cq κ s t k) (nI q) v = some (at9 (toP (κ (6 + q)) t v) (min n 24) 0) := by
  unfold fX3_trialIsAsTold
  rw [cq_lo (by decide), rd_n hq (by decide), bs, e, imin24 hn, bs]
  have key : ∀ (j i n9 : Nat), i + j = min n 24 → j < n9 → fX3_trialIsAsTold_18 N (cq κ s t k) (nI q) v (nI (min n 24)) n9 (nI i) = some (at9 (toP (κ (6 + q)) t v) j i) := by
    intro j
    induction j with
    | zero =>
      intro i n9 hi hn9
      obtain ⟨n9, rfl⟩ : ∃ z, n9 = z + 1 := ⟨n9 - 1, by omega⟩
      rw [fX3_trialIsAsTold_18, if_pos (le_n (by omega) (by omega))]
      rfl
    | succ j ih =>
      intro i n9 hi hn9
      obtain ⟨n9, rfl⟩ : ∃ z, n9 = z + 1 := ⟨n9 - 1, by omega⟩
      have hi24 : i < 24 := by omega
      rw [fX3_trialIsAsTold_18, if_neg (nle_n (by omega) (by omega)), ck_n hq (by decide), bs, cq_lo (by omega), rd_n (by omega) (by decide), bs, cq_r25 (j := 2 + 0) (by decide) hi24 (by decide) (ix_p0 hi24), bs]
      unfold fX3_trialIsAsTold_59 fX3_trialIsAsTold_76
      rw [one_n, ih (i + 1) n9 (by omega) (by omega)]
      show _ = some (if toP (κ (6 + q)) t v i then at9 (toP (κ (6 + q)) t v) j (i + 1) else 0)
      unfold toP
      by_cases h1 : t (5 + i) = v
      · rw [if_pos h1, if_pos h1]
        by_cases h2 : κ (6 + q) i = -1
        · rw [if_pos h2, if_pos (by simp [h2])]
        · rw [if_neg h2]
          by_cases h3 : κ (6 + q) i = 1
          · rw [if_pos h3, if_pos (by simp [h3])]
          · rw [if_neg h3, if_neg (by simp [h2, h3])]
      · rw [if_neg h1, if_neg h1]
        by_cases h2 : κ (6 + q) i = -1
        · rw [if_pos h2, if_pos (by simp [h2])]
        · rw [if_neg h2]
          by_cases h3 : κ (6 + q) i = 0
          · rw [if_pos h3, if_pos (by simp [h3])]
          · rw [if_neg h3, if_neg (by simp [h2, h3])]
  exact key (min n 24) 0 N (by omega) (by omega)
theorem e_40 (q j : Nat) : 40 * nI q + nI j = nI (40 * q + j) := by
  rw [show (40 : Int32) = nI 40 from rfl, pk_mul, nI_add]
theorem told_m {q n : Nat} {v : Int32} {s1 f : Nat → Int32} (hN : 1000 ≤ N) (hq : q < 4) (hn : n ≤ 40) (e : τ 7 q = nI n) (hf : ∀ j, j < 40 → f j = τ 8 (40 * q + j)) (h1 : ∀ j, 135 ≤ j → s1 j = s j) : fX4_isSo_11 N (mq (aL τ s) s1) (nI q) v N 1 0 = some (at9 (toP f s1 v) (min n 24) 0, mq (aL τ s) s) := by
  have rd7 : rd (mq (aL τ s) s1 7) 4 (nI q) = some (nI n) := by
    rw [mq_o (by decide), aL_o (by decide), rd_n hq (by decide), e]
  have zero : ∀ (j i n9 : Nat), i + j = min n 24 → j < n9 → fX4_isSo_11 N (mq (aL τ s) s1) (nI q) v n9 0 (nI i) = some (0, mq (aL τ s) s) := by
    intro j
    induction j with
    | zero =>
      intro i n9 hi hn9
      obtain ⟨n9, rfl⟩ : ∃ z, n9 = z + 1 := ⟨n9 - 1, by omega⟩
      rw [fX4_isSo_11, rd7, bs, lay hN h1, bs, show bz 0 = some 0 from rfl, bs]
      by_cases h : n ≤ i
      · rw [if_pos (le_n h (by omega))]
      · rw [if_neg (nle_n (by omega) (by omega)), if_pos (show (24 : Int32) ≤ nI i from le_n (a := 24) (by omega) (by omega))]
    | succ j ih =>
      intro i n9 hi hn9
      obtain ⟨n9, rfl⟩ : ∃ z, n9 = z + 1 := ⟨n9 - 1, by omega⟩
      rw [fX4_isSo_11, rd7, bs, if_neg (nle_n (by omega) (by omega)), if_neg (show ¬ (24 : Int32) ≤ nI i from nle_n (a := 24) (by omega) (by omega)), e_40, rd_n (by omega) (by decide), bs, if_pos rfl]
      unfold fX4_isSo_81 fX4_isSo_82
      rw [one_n]
      exact ih (i + 1) n9 (by omega) (by omega)
  have key : ∀ (j i n9 : Nat), i + j = min n 24 → j < n9 → fX4_isSo_11 N (mq (aL τ s) s1) (nI q) v n9 1 (nI i) = some (at9 (toP f s1 v) j i, mq (aL τ s) s) := by
    intro j
    induction j with
    | zero =>
      intro i n9 hi hn9
      obtain ⟨n9, rfl⟩ : ∃ z, n9 = z + 1 := ⟨n9 - 1, by omega⟩
      rw [fX4_isSo_11, rd7, bs, lay hN h1, bs, show bz 1 = some 1 from rfl, bs]
      by_cases h : n ≤ i
      · rw [if_pos (le_n h (by omega))]
        rfl
      · rw [if_neg (nle_n (by omega) (by omega)), if_pos (show (24 : Int32) ≤ nI i from le_n (a := 24) (by omega) (by omega))]
        rfl
    | succ j ih =>
      intro i n9 hi hn9
      obtain ⟨n9, rfl⟩ : ∃ z, n9 = z + 1 := ⟨n9 - 1, by omega⟩
      rw [fX4_isSo_11, rd7, bs, if_neg (nle_n (by omega) (by omega)), if_neg (show ¬ (24 : Int32) ≤ nI i from nle_n (a := 24) (by omega) (by omega)), e_40, rd_n (by omega) (by decide), bs, if_neg (by decide), mq_o (by decide), aL_o (by decide), ← hf i (by omega), e_5, rm (by omega), bs]
      unfold fX4_isSo_74 fX4_isSo_77 fX4_isSo_81 fX4_isSo_82
      rw [one_n, ih (i + 1) n9 (by omega) (by omega), zero j (i + 1) n9 (by omega) (by omega)]
      show _ = some ((if toP f s1 v i then at9 (toP f s1 v) j (i + 1) else 0), _)
      unfold toP
      by_cases h2 : f i = -1
      · rw [if_pos h2, if_pos (by simp [h2])]
      · rw [if_neg h2]
        by_cases h1 : s1 (5 + i) = v
        · rw [if_pos h1, if_pos h1]
          by_cases h3 : f i = 1
          · rw [if_pos h3, if_pos (by simp [h3])]
          · rw [if_neg h3, if_neg (by simp [h2, h3])]
        · rw [if_neg h1, if_neg h1]
          by_cases h3 : f i = 0
          · rw [if_pos h3, if_pos (by simp [h3])]
          · rw [if_neg h3, if_neg (by simp [h2, h3])]
  exact key (min n 24) 0 N (by omega) (by omega)
/-! ===== those by which it is so ===== -/
theorem those_l {m w q n r lo hi : Nat} (hN : 1000 ≤ N) (hhb : hb + 201 ≤ 99999) (hs : IS m hb s) (hw : w < m) (hr : r < 6) (hq : q < 4) (hn : n ≤ 40) (hlo : tv 1 r = nI lo) (hhi : tv 2 r = nI hi) (h3 : hi < 30) : ∀ (j i n1 n2 : Nat) (t : Nat → Int32) (a : Nat) (τ : St2), i + j = hi + 1 → lo ≤ i → j < n1 → j < n2 → Inv hb κ s k τ → a < 2 ^ i → a % 2 ^ lo = 0 → ∃ (a2 : Nat) (t2 : Nat → Int32) (τ2 : St2), a2 < 2 ^ (hi + 1) ∧ a2 % 2 ^ lo = 0 ∧ Inv hb κ s k τ2 ∧ fX3_fittingSet_10 N (nI q) (nI w) (nI r) (nI n) n1 (cq κ s t k) (nI a) (nI i) = some (nI a2, cq κ s t2 k) ∧ fX4_thoseBy_7 N (nI q) (nI w) (nI r) (nI hi) (nI n) n2 (mq τ s) (nI a) (nI i) = some (nI a2, mq τ2 s) := by
  have hm := hs.1.1
  have hw8 : w < 8 := by omega
  intro j
  induction j with
  | zero =>
    intro i n1 n2 t a τ hi9 hlo9 hn1 hn2 hI ha ha2
    obtain ⟨n1, rfl⟩ : ∃ z, n1 = z + 1 := ⟨n1 - 1, by omega⟩
    obtain ⟨n2, rfl⟩ : ∃ z, n2 = z + 1 := ⟨n2 - 1, by omega⟩
    have e : i = hi + 1 := by omega
    subst e
    refine ⟨a, t, τ, ha, ha2, hI, ?_, ?_⟩
    · rw [fX3_fittingSet_10, tv_r hr, bs, hhi, if_pos (nI_lt (by omega) (by omega))]
    · rw [fX4_thoseBy_7, if_pos (nI_lt (by omega) (by omega))]
  | succ j ih =>
    intro i n1 n2 t a τ hi9 hlo9 hn1 hn2 hI ha ha2
    obtain ⟨n1, rfl⟩ : ∃ z, n1 = z + 1 := ⟨n1 - 1, by omega⟩
    obtain ⟨n2, rfl⟩ : ∃ z, n2 = z + 1 := ⟨n2 - 1, by omega⟩
    have hv := rng_tv hlo hhi hlo9 (show i ≤ hi by omega) (by omega)
    obtain ⟨-, -, -, -, hsh, h05⟩ := id hI
    obtain ⟨-, ⟨z, z1, z2, z3⟩, z4⟩ := hsh q hq
    have hst := hs.trait hw hr hv
    have hsm := hs_m (τ := aL τ s) hN (show n ≤ 200 by omega) hst h05
    have e1 : fX3_fittingSet_10 N (nI q) (nI w) (nI r) (nI n) (n1 + 1) (cq κ s t k) (nI a) (nI i) = if at9 (toP (κ (6 + q)) (hsS 0 m n (upd s (77 + 6 * w + r) (nI i))) (nI w)) (min z 24) 0 = 0 then fX3_fittingSet_10 N (nI q) (nI w) (nI r) (nI n) n1 (cq κ s (hsS 0 m n (upd s (77 + 6 * w + r) (nI i))) k) (nI a) (nI (i + 1)) else fX3_fittingSet_10 N (nI q) (nI w) (nI r) (nI n) n1 (cq κ s (hsS 0 m n (upd s (77 + 6 * w + r) (nI i))) k) (nI (a + 2 ^ i)) (nI (i + 1)) := by
      rw [fX3_fittingSet_10, tv_r hr, bs, hhi, if_neg (nI_nlt (by omega) (by omega)), try_c hN hhb hs hw hr (by omega) hv, bs, told_c hN hq z1 z2, bs, bs, or_bit ha (by omega)]
      unfold fX3_fittingSet_48
      rw [one_n]
    have e2 : fX4_thoseBy_7 N (nI q) (nI w) (nI r) (nI hi) (nI n) (n2 + 1) (mq τ s) (nI a) (nI i) = if at9 (toP (κ (6 + q)) (hsS 0 m n (upd s (77 + 6 * w + r) (nI i))) (nI w)) (min z 24) 0 = 0 then fX4_thoseBy_7 N (nI q) (nI w) (nI r) (nI hi) (nI n) n2 (mq (aL τ s) s) (nI a) (nI (i + 1)) else fX4_thoseBy_7 N (nI q) (nI w) (nI r) (nI hi) (nI n) n2 (mq (aL τ s) s) (nI (a + 2 ^ i)) (nI (i + 1)) := by
      rw [fX4_thoseBy_7, if_neg (nI_nlt (by omega) (by omega)), lend hN rfl, bs, sets_n r rfl hw8 hr, bs]
      unfold fX4_isSo fX4_thoseBy_47
      rw [hsm.1, bs, told_m hN hq z1 z3 z4 (fun j hj => (hi_hs hst hj).trans (uw (by omega))), bs, bs, bs, Int32.or_zero, or_bit ha (by omega), one_n]
    rw [e1, e2]
    have hp : 2 ^ (i + 1) = 2 ^ i + 2 ^ i := by rw [Nat.pow_succ]; omega
    by_cases h : at9 (toP (κ (6 + q)) (hsS 0 m n (upd s (77 + 6 * w + r) (nI i))) (nI w)) (min z 24) 0 = 0
    · rw [if_pos h, if_pos h]
      exact ih (i + 1) n1 n2 _ a _ (by omega) (by omega) (by omega) (by omega) hI.aside (by omega) ha2
    · rw [if_neg h, if_neg h]
      refine ih (i + 1) n1 n2 _ (a + 2 ^ i) _ (by omega) (by omega) (by omega) (by omega) hI.aside (by omega) ?_
      have hd : 2 ^ i = 2 ^ lo * 2 ^ (i - lo) := by rw [← Nat.pow_add, show lo + (i - lo) = i by omega]
      rw [hd, Nat.add_mul_mod_self_left, ha2]
/-- what is asked ahead of the three -/
theorem asked {v1 v2 v3 : Int32} {F G : Int32 → Option (Int32 × St2)} (hI : Inv hb κ s k τ) (hok : ∀ q w n m, q < 4 → w < m → n ≤ 20 → IS m hb s → v1 = nI q → v2 = nI w → v3 = nI n → Ex hb (F 0) (G (-1))) (hF : ∀ y, ¬ y = 0 → F y = (fX3_tell (cq κ s t k) y).bind fun y4 => some (y4.1, y4.2)) (hG : ∀ y, ¬ y < 0 → G y = (fX4_finds (mq τ s) y).bind fun y4 => some (y4.1, y4.2)) : Ex hb ((fX3_guessFinding (cq κ s t k) v1 v2 v3).bind F) ((fX4_lacksAsked (mq τ s) v1 v2 v3).bind G) := by
  obtain ⟨m, hs⟩ := hI.1
  unfold fX3_guessFinding fX4_lacksAsked
  rw [finding_c, lacks_m, cq_v12, iw_x, iw_m, within_eq, in_eq (b := 0) (c := 20) (by decide) (by decide)]
  simp only [bs, bl0]
  by_cases h1 : 0 ≤ v1 ∧ v1 ≤ 3
  · obtain ⟨q, hq, rfl⟩ := sheet_of h1
    obtain ⟨⟨z1, z2⟩, -⟩ := hI.2.2.2.2.1 q hq
    rw [if_pos h1, if_pos h1, rd_n hq (by decide), bs, rd_n hq (by decide), bs, ← z1]
    by_cases h2 : κ 10 q = 0
    · rw [if_pos h2, if_pos h2, bs, bs, if_neg (by decide), if_neg (by decide), bs, bs, hF _ (by decide), hG _ (by decide)]
      exact simT hI 5 (by decide) (by decide) rfl (by decide)
    · rw [if_neg h2, if_neg h2, bs, bs, if_pos rfl, if_pos (show (-1 : Int32) < 0 by decide)]
      by_cases h3 : 0 ≤ v2 ∧ v2 ≤ s 2 - 1
      · rw [if_pos h3, if_pos h3]
        by_cases h4 : 0 ≤ v3 ∧ v3 ≤ 20
        · obtain ⟨n, hn, e⟩ := rng_of (n := 20) (by decide) h4.1 h4.2
          obtain ⟨w, hw, e2⟩ := iw_of hs h3
          rw [if_pos h4, if_pos h4, bs, bs]
          exact hok q w n m hq hw hn hs rfl e2 e
        · rw [if_neg h4, if_neg h4, bs, bs, hF _ (by decide), hG _ (by decide)]
          exact simB hI
      · rw [if_neg h3, if_neg h3, bs, bs, hF _ (by decide), hG _ (by decide)]
        exact simB hI
  · rw [if_neg h1, if_neg h1, bs, bs, if_neg (by decide), if_neg (by decide), bs, bs, hF _ (by decide), hG _ (by decide)]
    exact simB hI
theorem ex_inv {r : Int32} {t2 : Nat → Int32} {τ2 : St2} (hI : Inv hb κ s k τ2) : Ex hb (some (r, cq κ s t2 k)) (some (r, mq τ2 s)) := ex_same hI
theorem sim_fits {v1 v2 v3 : Int32} (hN : 1000 ≤ N) (hhb : hb + 201 ≤ 99999) (hI : Inv hb κ s k τ) : Ex hb (fX3_fits N (cq κ s t k) v1 v2 v3) (fX4_fits N (mq τ s) v1 v2 v3) := by
  unfold fX3_fits fX4_fits
  refine asked hI (fun q w n m hq hw hn hs e1 e2 e3 => ?_) (fun y hy => if_neg hy) (fun y hy => if_neg hy)
  subst e1
  subst e2
  subst e3
  obtain ⟨a2, t2, τ2, h1, h2, h3, h4, h5⟩ := those_l (κ := κ) (k := k) (r := 3) (lo := 1) (hi := 6) hN hhb hs hw (by decide) hq (show n ≤ 40 by omega) rfl rfl (by decide) 6 1 N N t 0 τ (by omega) (by omega) (by omega) (by omega) hI (by decide) (by decide)
  have h4' : fX3_fittingSet N (cq κ s t k) (nI q) (nI w) 3 (nI n) = some (nI a2, cq κ s t2 k) := h4
  have h5' : fX4_thoseBy N (mq τ s) (nI q) (nI w) 3 1 6 (nI n) = some (nI a2, mq τ2 s) := h5
  have h1' : a2 < 128 := h1
  rw [if_pos rfl, if_pos (by decide), h4', h5', bs, bs, bitCount_n (by omega), bs, ones_n hN (by omega), bs]
  exact ex_inv h3
theorem sim_kinds {v1 v2 v3 : Int32} (hN : 1000 ≤ N) (hhb : hb + 201 ≤ 99999) (hI : Inv hb κ s k τ) : Ex hb (fX3_kinds N (cq κ s t k) v1 v2 v3) (fX4_kinds N (mq τ s) v1 v2 v3) := by
  unfold fX3_kinds fX4_kinds
  refine asked hI (fun q w n m hq hw hn hs e1 e2 e3 => ?_) (fun y hy => if_neg hy) (fun y hy => if_neg hy)
  subst e1
  subst e2
  subst e3
  obtain ⟨a2, t2, τ2, h1, h2, h3, h4, h5⟩ := those_l (κ := κ) (k := k) (r := 0) (lo := 0) (hi := 6) hN hhb hs hw (by decide) hq (show n ≤ 40 by omega) rfl rfl (by decide) 7 0 N N t 0 τ (by omega) (by omega) (by omega) (by omega) hI (by decide) (by decide)
  have h4' : fX3_fittingSet N (cq κ s t k) (nI q) (nI w) 0 (nI n) = some (nI a2, cq κ s t2 k) := h4
  have h5' : fX4_thoseBy N (mq τ s) (nI q) (nI w) 0 0 6 (nI n) = some (nI a2, mq τ2 s) := h5
  rw [if_pos rfl, if_pos (by decide), h4', h5', bs, bs]
  exact ex_inv h3
theorem ntz_t : ∀ a, a < 128 → a % 2 = 0 → a ≠ 0 → fJ6_numberOfTrailingZeros_0f7a4 (nI a) = some (fst9 (fun v => decide (a / 2 ^ v % 2 = 1)) 6 1) ∧ 0 ≤ fst9 (fun v => decide (a / 2 ^ v % 2 = 1)) 6 1 ∧ ¬ 6 < fst9 (fun v => decide (a / 2 ^ v % 2 = 1)) 6 1 ∧ fst9 (fun v => decide (a / 2 ^ v % 2 = 1)) 6 1 ≠ -1 := by decide +kernel
theorem strode_m {a : Nat} (hN : 1000 ≤ N) (ha : a < 128) : fX4_strode_37 N (mq τ s) (nI a) N 1 = if fst9 (fun v => decide (a / 2 ^ v % 2 = 1)) 6 1 = -1 then ((fX4_finds (mq τ s) 3).bind fun y => some (y.1, y.2)) else some (fst9 (fun v => decide (a / 2 ^ v % 2 = 1)) 6 1, mq τ s) := by
  have key : ∀ (j i n : Nat), i + j = 7 → j < n → fX4_strode_37 N (mq τ s) (nI a) n (nI i) = if fst9 (fun v => decide (a / 2 ^ v % 2 = 1)) j i = -1 then ((fX4_finds (mq τ s) 3).bind fun y => some (y.1, y.2)) else some (fst9 (fun v => decide (a / 2 ^ v % 2 = 1)) j i, mq τ s) := by
    intro j
    induction j with
    | zero =>
      intro i n hi hn
      obtain ⟨n, rfl⟩ : ∃ z, n = z + 1 := ⟨n - 1, by omega⟩
      have e : i = 7 := by omega
      subst e
      rw [fX4_strode_37, if_pos (by decide)]
      unfold fX4_strode_60
      rw [if_pos (by decide)]
      rfl
    | succ j ih =>
      intro i n hi hn
      obtain ⟨n, rfl⟩ : ∃ z, n = z + 1 := ⟨n - 1, by omega⟩
      have h6 : ¬ (6 : Int32) < nI i := Int32.not_lt.mpr (le_n (b := 6) (by omega) (by omega))
      have h7 : ¬ nI i = -1 := fun e => by
        have h8 : 0 ≤ nI i := nI_pos' (by omega)
        rw [e] at h8
        exact absurd h8 (by decide)
      rw [fX4_strode_37, if_neg h6, shr (by omega) (by omega), and1, one_n, ih (i + 1) n (by omega) (by omega)]
      unfold fX4_strode_60
      rw [if_neg h6]
      show _ = if (if decide (a / 2 ^ i % 2 = 1) then nI i else fst9 (fun v => decide (a / 2 ^ v % 2 = 1)) j (i + 1)) = -1 then _ else some ((if decide (a / 2 ^ i % 2 = 1) then nI i else fst9 (fun v => decide (a / 2 ^ v % 2 = 1)) j (i + 1)), _)
      rcases Nat.mod_two_eq_zero_or_one (a / 2 ^ i) with h | h
      · rw [h, if_pos (show nI 0 = 0 from rfl)]
        rfl
      · rw [h, if_neg (show ¬ nI 1 = 0 by decide), if_pos (show decide (1 = 1) = true from rfl), if_neg h7]
  exact key 6 1 N (by omega) (by omega)
theorem sim_strode {v1 v2 v3 : Int32} (hN : 1000 ≤ N) (hhb : hb + 201 ≤ 99999) (hI : Inv hb κ s k τ) : Ex hb (fX3_strode N (cq κ s t k) v1 v2 v3) (fX4_strode N (mq τ s) v1 v2 v3) := by
  unfold fX3_strode fX4_strode
  refine asked hI (fun q w n m hq hw hn hs e1 e2 e3 => ?_) (fun y hy => if_neg hy) (fun y hy => if_neg hy)
  subst e1
  subst e2
  subst e3
  obtain ⟨a2, t2, τ2, h1, h2, h3, h4, h5⟩ := those_l (κ := κ) (k := k) (r := 3) (lo := 1) (hi := 6) hN hhb hs hw (by decide) hq (show n ≤ 40 by omega) rfl rfl (by decide) 6 1 N N t 0 τ (by omega) (by omega) (by omega) (by omega) hI (by decide) (by decide)
  have h4' : fX3_fittingSet N (cq κ s t k) (nI q) (nI w) 3 (nI n) = some (nI a2, cq κ s t2 k) := h4
  have h5' : fX4_thoseBy N (mq τ s) (nI q) (nI w) 3 1 6 (nI n) = some (nI a2, mq τ2 s) := h5
  have h1' : a2 < 128 := h1
  rw [if_pos rfl, if_pos (by decide), h4', h5', bs, bs, strode_m hN h1']
  by_cases h0 : a2 = 0
  · subst h0
    rw [if_pos (show nI 0 = 0 from rfl), if_pos (by decide)]
    exact simT h3 3 (by decide) (by decide) rfl (by decide)
  · obtain ⟨z1, z2, z3, z4⟩ := ntz_t a2 h1' h2 h0
    rw [if_neg (show ¬ nI a2 = 0 from fun e => h0 ((nI_eq (b := 0) (by omega) (by omega)).mp e)), z1, bs, if_neg z4]
    exact ex_inv h3
end SIMF
