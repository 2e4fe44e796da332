section SIMK
variable {hb N : Nat} {κ : St2} {s t k : Nat → Int32} {τ : St2}
/-- a sheet of both sides is another one -/
theorem inv_sheet {q n : Nat} {w : Int32} {f g : Nat → Int32} (hI : Inv hb κ s k τ) (hq : q < 4) (hw : w = 0 ∨ w = 8 ∨ w = 16 ∨ w = 32) (hn : n ≤ 40) (hf : ∀ j, j < 40 → f j = g (40 * q + j)) (hg : ∀ j, ¬ (40 * q ≤ j ∧ j < 40 * q + 40) → g j = τ 8 j) : Inv hb (va_up (va_up (va_up κ 10 (upd (κ 10) q w)) 11 (upd (κ 11) q (nI n))) (6 + q) f) s k (va_up (va_up (va_up τ 6 (upd (τ 6) q w)) 7 (upd (τ 7) q (nI n))) 8 g) := by
  obtain ⟨h1, h2, h3, h4, h5, h6⟩ := hI
  have e0 : ∀ i, i ≠ 6 + q → va_up (va_up (va_up κ 10 (upd (κ 10) q w)) 11 (upd (κ 11) q (nI n))) (6 + q) f i = va_up (va_up κ 10 (upd (κ 10) q w)) 11 (upd (κ 11) q (nI n)) i := fun i hi => vu_o hi
  refine ⟨h1, ?_, ?_, ?_, fun q2 hq2 => ?_, h6⟩
  · unfold Kp
    rw [e0 0 (by omega)]
    exact h2
  · unfold Fnd
    rw [e0 1 (by omega)]
    exact h3
  · unfold Tp
    rw [e0 2 (by omega), e0 3 (by omega)]
    exact h4
  · obtain ⟨g1, g2, g3⟩ := h5 q2 hq2
    rw [e0 10 (by omega), e0 11 (by omega)]
    show (upd (κ 10) q w q2 = upd (τ 6) q w q2 ∧ (upd (κ 10) q w q2 = 0 ∨ upd (κ 10) q w q2 = 8 ∨ upd (κ 10) q w q2 = 16 ∨ upd (κ 10) q w q2 = 32)) ∧ (∃ z, z ≤ 40 ∧ upd (κ 11) q (nI n) q2 = nI z ∧ upd (τ 7) q (nI n) q2 = nI z) ∧ ∀ j, j < 40 → va_up (va_up (va_up κ 10 (upd (κ 10) q w)) 11 (upd (κ 11) q (nI n))) (6 + q) f (6 + q2) j = g (40 * q2 + j)
    by_cases e : q2 = q
    · subst e
      rw [uu, uu, uu, uu, vu_s]
      exact ⟨⟨rfl, hw⟩, ⟨n, hn, rfl, rfl⟩, hf⟩
    · rw [uw e, uw e, uw e, uw e, e0 _ (by omega), vu_o (by omega), vu_o (by omega)]
      exact ⟨g1, g2, fun j hj => (g3 j hj).trans (hg _ (by omega)).symm⟩
theorem lay_c {q : Nat} (hq : q < 4) : ∀ (d i n : Nat) (f : Nat → Int32), i + d = 40 → d < n → (∀ j, j < i → f j = 0) → ∃ f2 : Nat → Int32, (∀ j, j < 40 → f2 j = 0) ∧ fX0_lay_25 N (nI q) n (cq (va_up κ (6 + q) f) s t k) (nI i) = some (κ 11 q, cq (va_up κ (6 + q) f2) s t k) := by
  intro d
  induction d with
  | zero =>
    intro i n f hi hn hf
    obtain ⟨n, rfl⟩ : ∃ z, n = z + 1 := ⟨n - 1, by omega⟩
    have e : i = 40 := by omega
    subst e
    exact ⟨f, hf, by rw [fX0_lay_25, if_pos (by decide), rd_n hq (by decide), bs, cq_lo (by decide), vu_o (by omega)]⟩
  | succ d ih =>
    intro i n f hi hn hf
    obtain ⟨n, rfl⟩ : ∃ z, n = z + 1 := ⟨n - 1, by omega⟩
    obtain ⟨f2, g1, g2⟩ := ih (i + 1) n (upd f i 0) (by omega) (by omega) (fun j hj => by
      by_cases e : j = i
      · subst e
        exact uu
      · rw [uw e]
        exact hf j (by omega))
    refine ⟨f2, g1, ?_⟩
    rw [fX0_lay_25, if_neg (show ¬ (40 : Int32) ≤ nI i from nle_n (a := 40) (by omega) (by omega)), ck_n hq (by decide), bs, wr_n (show i < 40 by omega) (by decide), bs, cq_up (by omega), cq_lo (by omega), vu_s, vu_vu, one_n]
    exact g2
theorem lay_m {q : Nat} (hq : q < 4) : ∀ (d i n : Nat) (f : Nat → Int32), i + d = 40 → d < n → (∀ j, j < i → f (40 * q + j) = 0) → (∀ j, ¬ (40 * q ≤ j ∧ j < 40 * q + 40) → f j = τ 8 j) → ∃ f2 : Nat → Int32, (∀ j, j < 40 → f2 (40 * q + j) = 0) ∧ (∀ j, ¬ (40 * q ≤ j ∧ j < 40 * q + 40) → f2 j = τ 8 j) ∧ fX4_sheet_95 N (nI q) n (mq (va_up τ 8 f) s) (nI i) = some (τ 7 q, mq (va_up τ 8 f2) s) := by
  intro d
  induction d with
  | zero =>
    intro i n f hi hn hf ho
    obtain ⟨n, rfl⟩ : ∃ z, n = z + 1 := ⟨n - 1, by omega⟩
    have e : i = 40 := by omega
    subst e
    exact ⟨f, hf, ho, by rw [fX4_sheet_95, if_pos (by decide), rd_n hq (by decide), bs, mq_o (by decide), vu_o (by decide)]⟩
  | succ d ih =>
    intro i n f hi hn hf ho
    obtain ⟨n, rfl⟩ : ∃ z, n = z + 1 := ⟨n - 1, by omega⟩
    obtain ⟨f2, g1, g2, g3⟩ := ih (i + 1) n (upd f (40 * q + i) 0) (by omega) (by omega) (fun j hj => by
      by_cases e : j = i
      · subst e
        exact uu
      · rw [uw (by omega)]
        exact hf j (by omega)) (fun j hj => by
      rw [uw (by omega)]
      exact ho j hj)
    refine ⟨f2, g1, g2, ?_⟩
    rw [fX4_sheet_95, if_neg (show ¬ (40 : Int32) ≤ nI i from nle_n (a := 40) (by omega) (by omega)), e_40, wr_n (show 40 * q + i < 160 by omega) (by decide), bs, mq_upo (by decide), mq_o (by decide), vu_s, vu_vu, one_n]
    exact g3
theorem width_c {v : Int32} : fX0_isWidth v = some (bl (v = 0 ∨ v = 8 ∨ v = 16 ∨ v = 32)) := by
  unfold fX0_isWidth
  by_cases h0 : v = 0
  · rw [if_pos h0, bl_t (Or.inl h0)]
  rw [if_neg h0]
  by_cases h1 : v = 8
  · rw [if_pos h1, bl_t (Or.inr (Or.inl h1))]
  rw [if_neg h1]
  by_cases h2 : v = 16
  · rw [if_pos h2, bl_t (Or.inr (Or.inr (Or.inl h2)))]
  rw [if_neg h2]
  by_cases h3 : v = 32
  · rw [if_pos h3, bl_t (Or.inr (Or.inr (Or.inr h3)))]
  · rw [if_neg h3, bl_f (fun h => by rcases h with h | h | h | h; exact h0 h; exact h1 h; exact h2 h; exact h3 h)]
theorem sheet_w {a v b : Int32} : fX4_sheet N (mq τ s) a v b = fX4_sheet_27 N (mq τ s) a v b (bl (v = 0 ∨ v = 8 ∨ v = 16 ∨ v = 32)) := by
  unfold fX4_sheet fX4_sheet_22
  by_cases h0 : v = 0
  · rw [if_pos h0, bl_t (Or.inl h0)]
  rw [if_neg h0]
  by_cases h1 : v = 8
  · rw [if_pos h1, bl_t (Or.inr (Or.inl h1))]
  rw [if_neg h1]
  by_cases h2 : v = 16
  · rw [if_pos h2, bl_t (Or.inr (Or.inr (Or.inl h2)))]
  rw [if_neg h2]
  by_cases h3 : v = 32
  · rw [if_pos h3, bl_t (Or.inr (Or.inr (Or.inr h3)))]
  · rw [if_neg h3, bl_f (fun h => by rcases h with h | h | h | h; exact h0 h; exact h1 h; exact h2 h; exact h3 h)]
theorem sheet_l {q n : Nat} {w : Int32} (hN : 1000 ≤ N) (hI : Inv hb κ s k τ) (hq : q < 4) (hw : w = 0 ∨ w = 8 ∨ w = 16 ∨ w = 32) (hn : n ≤ 40) : Ex hb ((fX0_lay_21 N (va_up (cq κ s t k) 10 (upd (cq κ s t k 10) q w)) (nI q) (nI n) (nI q)).bind fun y4 => some (y4.1, y4.2)) (fX4_sheet_91 N (va_up (mq τ s) 6 (upd (mq τ s 6) q w)) (nI q) (nI n) (nI q)) := by
  obtain ⟨f, f1, f2⟩ := lay_c (N := N) (κ := va_up (va_up κ 10 (upd (κ 10) q w)) 11 (upd (κ 11) q (nI n))) (s := s) (t := t) (k := k) hq 40 0 N (va_up (va_up κ 10 (upd (κ 10) q w)) 11 (upd (κ 11) q (nI n)) (6 + q)) (by omega) (by omega) (fun j hj => absurd hj (by omega))
  obtain ⟨g, g1, g2, g3⟩ := lay_m (N := N) (τ := va_up (va_up τ 6 (upd (τ 6) q w)) 7 (upd (τ 7) q (nI n))) (s := s) hq 40 0 N (va_up (va_up τ 6 (upd (τ 6) q w)) 7 (upd (τ 7) q (nI n)) 8) (by omega) (by omega) (fun j hj => absurd hj (by omega)) (fun j _ => rfl)
  rw [vu_self] at f2 g3
  have f2' : fX0_lay_25 N (nI q) N (cq (va_up (va_up κ 10 (upd (κ 10) q w)) 11 (upd (κ 11) q (nI n))) s t k) 0 = _ := f2
  have g3' : fX4_sheet_95 N (nI q) N (mq (va_up (va_up τ 6 (upd (τ 6) q w)) 7 (upd (τ 7) q (nI n))) s) 0 = _ := g3
  unfold fX0_lay_21 fX4_sheet_91
  rw [cq_lo (by decide), cq_up (by decide), wr_n hq (by decide), bs, cq_lo (by decide), cq_up (by decide), vu_o (i := 11) (by decide), f2', bs, mq_o (by decide), mq_upo (by decide), wr_n hq (by decide), bs, mq_o (by decide), mq_upo (by decide), vu_o (i := 7) (by decide), g3', vu_s, vu_s, uu, uu]
  exact ex_same (inv_sheet hI hq hw hn (fun j hj => (f1 j hj).trans (g1 j hj).symm) g2)
theorem sim_sheet {a w b : Int32} (hN : 1000 ≤ N) (hI : Inv hb κ s k τ) : Ex hb (fX3_sheet N (cq κ s t k) a w b) (fX4_sheet N (mq τ s) a w b) := by
  rw [sheet_w]
  unfold fX3_sheet fX4_sheet_27
  rw [isSheet_eq, isSheet4_eq, bs, bs, bl0, bl0, width_c, bs, bl0, bl0]
  by_cases h1 : 0 ≤ a ∧ a ≤ 3
  · obtain ⟨q, hq, rfl⟩ := sheet_of h1
    rw [if_pos h1, if_pos h1]
    by_cases h2 : w = 0 ∨ w = 8 ∨ w = 16 ∨ w = 32
    · rw [if_pos h2, if_pos h2]
      by_cases h3 : 0 ≤ b
      · rw [if_pos h3, if_pos h3]
        by_cases h4 : b ≤ 40
        · obtain ⟨n, hn, rfl⟩ := rng_of (n := 40) (by decide) h3 h4
          unfold fX0_lay
          rw [if_pos h4, if_pos h4, wr_n hq (by decide), bs, wr_n hq (by decide), bs]
          by_cases h5 : w = 0
          · rw [if_pos h5, if_pos h5]
            exact sheet_l (n := 0) hN hI hq h2 (by omega)
          · rw [if_neg h5, if_neg h5]
            exact sheet_l hN hI hq h2 hn
        · rw [if_neg h4, if_neg h4]
          exact simB hI
      · rw [if_neg h3, if_neg h3]
        exact simT hI 6 (by decide) (by decide) rfl (by decide)
    · rw [if_neg h2, if_neg h2]
      exact simB hI
  · rw [if_neg h1, if_neg h1]
    exact simB hI
/-! ===== numbers come from sheet to sheet ===== -/
theorem part_t {q z a n : Nat} (hq : q < 4) (hz : z ≤ 40) (e : κ 11 q = nI z) (h : a + n ≤ z) : fX0_hasPart (cq κ s t k) (nI q) (nI a) (nI n) = some 1 := by
  have r11 : rd (cq κ s t k 11) 4 (nI q) = some (nI z) := by rw [rd_n hq (by decide), cq_lo (by decide), e]
  unfold fX0_hasPart
  rw [if_neg (nI_pos (by omega)), r11, bs, if_neg (nI_nlt (by omega) (by omega)), if_neg (nI_pos (by omega)), bs, pk_sub (by omega), if_neg (nI_nlt (by omega) (by omega))]
theorem part_f {q z : Nat} {v u : Int32} (hq : q < 4) (hz : z ≤ 40) (e : κ 11 q = nI z) (h : ¬ ∃ a n, v = nI a ∧ u = nI n ∧ a + n ≤ z) : fX0_hasPart (cq κ s t k) (nI q) v u = some 0 := by
  have r11 : rd (cq κ s t k 11) 4 (nI q) = some (nI z) := by rw [rd_n hq (by decide), cq_lo (by decide), e]
  unfold fX0_hasPart
  by_cases h1 : u < 0
  · rw [if_pos h1]
  obtain ⟨n, n1, rfl⟩ := nI_of h1
  rw [if_neg h1, r11, bs, bs]
  by_cases h2 : z < n
  · rw [if_pos (nI_lt h2 (by omega))]
  rw [if_neg (nI_nlt (by omega) (by omega)), pk_sub (by omega)]
  by_cases h3 : v < 0
  · rw [if_pos h3]
  obtain ⟨a, a1, rfl⟩ := nI_of h3
  rw [if_neg h3]
  by_cases h4 : z - n < a
  · rw [if_pos (nI_lt h4 (by omega))]
  · exact absurd ⟨a, n, rfl, rfl, by omega⟩ h
theorem long_gt {a n z : Nat} (ha : a < 2 ^ 31) (hn : n < 2 ^ 31) (hz : z ≤ 40) : 0 < lg_cmp ((nI a).toInt64 + (nI n).toInt64) (nI z).toInt64 ↔ z < a + n := by
  rw [lgc_gt, nI_l ha, nI_l hn, nI_l (by omega), lN_add, pk_lLT (by omega) (by omega)]
theorem cpy_1 {q1 q2 a c n : Nat} (hq1 : q1 < 4) (ha : a + n ≤ 40) : ∀ (d i n9 : Nat) (f : Nat → Int32), i + d = n → d < n9 → (∀ j, j < i → f j = τ 8 (40 * q1 + a + j)) → ∃ f2 : Nat → Int32, (∀ j, j < n → f2 j = τ 8 (40 * q1 + a + j)) ∧ fX4_copy_135 N (nI q1) (nI a) (nI q2) (nI c) (nI n) n9 (mq (va_up τ 9 f) s) (nI i) = fX4_copy_172 N (nI q2) (nI c) (nI n) N (mq (va_up τ 9 f2) s) 0 := by
  intro d
  induction d with
  | zero =>
    intro i n9 f hi hn hf
    obtain ⟨n9, rfl⟩ : ∃ z, n9 = z + 1 := ⟨n9 - 1, by omega⟩
    have e : i = n := by omega
    subst e
    exact ⟨f, hf, by rw [fX4_copy_135, if_pos (le_n (by omega) (by omega))]⟩
  | succ d ih =>
    intro i n9 f hi hn hf
    obtain ⟨n9, rfl⟩ : ∃ z, n9 = z + 1 := ⟨n9 - 1, by omega⟩
    obtain ⟨f2, g1, g2⟩ := ih (i + 1) n9 (upd f i (τ 8 (40 * q1 + a + i))) (by omega) (by omega) (fun j hj => by
      by_cases e : j = i
      · subst e
        exact uu
      · rw [uw e]
        exact hf j (by omega))
    refine ⟨f2, g1, ?_⟩
    rw [fX4_copy_135, if_neg (nle_n (by omega) (by omega)), e_40, nI_add, mq_o (by decide), vu_o (by decide), rd_n (by omega) (by decide), bs, wr_n (show i < 40 by omega) (by decide), bs, mq_upo (by decide), mq_o (by decide), vu_s, vu_vu, one_n]
    exact g2
theorem cpy_2 {q2 c n : Nat} {h : Nat → Int32} (hq2 : q2 < 4) (hc : c + n ≤ 40) (h9 : τ 9 = h) : ∀ (d i n9 : Nat) (f : Nat → Int32), i + d = n → d < n9 → (∀ j, f j = if 40 * q2 + c ≤ j ∧ j < 40 * q2 + c + i then h (j - (40 * q2 + c)) else τ 8 j) → ∃ f2 : Nat → Int32, (∀ j, f2 j = if 40 * q2 + c ≤ j ∧ j < 40 * q2 + c + n then h (j - (40 * q2 + c)) else τ 8 j) ∧ fX4_copy_172 N (nI q2) (nI c) (nI n) n9 (mq (va_up τ 8 f) s) (nI i) = some (nI n, mq (va_up τ 8 f2) s) := by
  intro d
  induction d with
  | zero =>
    intro i n9 f hi hn hf
    obtain ⟨n9, rfl⟩ : ∃ z, n9 = z + 1 := ⟨n9 - 1, by omega⟩
    have e : i = n := by omega
    subst e
    exact ⟨f, hf, by rw [fX4_copy_172, if_pos (le_n (by omega) (by omega))]⟩
  | succ d ih =>
    intro i n9 f hi hn hf
    obtain ⟨n9, rfl⟩ : ∃ z, n9 = z + 1 := ⟨n9 - 1, by omega⟩
    obtain ⟨f2, g1, g2⟩ := ih (i + 1) n9 (upd f (40 * q2 + c + i) (h i)) (by omega) (by omega) (fun j => by
      by_cases e : j = 40 * q2 + c + i
      · subst e
        rw [uu, if_pos (by omega), show 40 * q2 + c + i - (40 * q2 + c) = i by omega]
      · rw [uw e, hf j]
        by_cases h2 : 40 * q2 + c ≤ j ∧ j < 40 * q2 + c + i
        · rw [if_pos h2, if_pos (by omega)]
        · rw [if_neg h2, if_neg (by omega)])
    refine ⟨f2, g1, ?_⟩
    rw [fX4_copy_172, if_neg (nle_n (by omega) (by omega)), mq_o (by decide), vu_o (by decide), rd_n (show i < 40 by omega) (by decide), bs, h9, e_40, nI_add, wr_n (show 40 * q2 + c + i < 160 by omega) (by decide), bs, mq_upo (by decide), mq_o (by decide), vu_s, vu_vu, one_n]
    exact g2
end SIMK
