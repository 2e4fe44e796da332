/-! ===== both sides together ===== -/
def Fnd (κ τ : St2) : Prop := ∀ j, j < 7 → κ 1 j = τ 4 j
def Kp (hb : Nat) (κ : St2) (k : Nat → Int32) (τ : St2) : Prop := (κ 0 3 = 0 ∨ κ 0 3 = 1) ∧ κ 0 3 = τ 0 3 ∧ (κ 0 3 = 1 → (∀ j, j < 135 → τ 2 j = k j) ∧ ∃ m, IS m hb k)
def Tp (κ τ : St2) : Prop := ∃ n, n ≤ 120 ∧ κ 2 1 = nI n ∧ τ 0 7 = nI n ∧ ∀ j, j < n → κ 3 j = τ 5 j ∧ ∃ v, v < 256 ∧ κ 3 j = nI v
def Sh (κ τ : St2) : Prop := ∀ q, q < 4 → (κ 10 q = τ 6 q ∧ (κ 10 q = 0 ∨ κ 10 q = 8 ∨ κ 10 q = 16 ∨ κ 10 q = 32)) ∧ (∃ n, n ≤ 40 ∧ κ 11 q = nI n ∧ τ 7 q = nI n) ∧ ∀ j, j < 40 → κ (6 + q) j = τ 8 (40 * q + j)
def Inv (hb : Nat) (κ : St2) (s k : Nat → Int32) (τ : St2) : Prop := (∃ m, IS m hb s) ∧ Kp hb κ k τ ∧ Fnd κ τ ∧ Tp κ τ ∧ Sh κ τ ∧ τ 0 5 = 0
theorem Kp.mono {hb hb2 : Nat} {κ : St2} {k : Nat → Int32} {τ : St2} (h : Kp hb κ k τ) (hle : hb ≤ hb2) : Kp hb2 κ k τ := ⟨h.1, h.2.1, fun e => ⟨(h.2.2 e).1, by obtain ⟨m, h9⟩ := (h.2.2 e).2; exact ⟨m, h9.mono hle⟩⟩⟩
theorem Inv.mono {hb hb2 : Nat} {κ : St2} {s k : Nat → Int32} {τ : St2} (h : Inv hb κ s k τ) (hle : hb ≤ hb2) : Inv hb2 κ s k τ := by
  obtain ⟨⟨m, h1⟩, h2, h3⟩ := h
  exact ⟨⟨m, h1.mono hle⟩, h2.mono hle, h3⟩
/-- a new row, all else as it was -/
theorem Inv.row {hb hb2 m : Nat} {κ : St2} {s s2 k : Nat → Int32} {τ : St2} (h : Inv hb κ s k τ) (hle : hb ≤ hb2) (hs : IS m hb2 s2) : Inv hb2 κ s2 k τ := by
  obtain ⟨-, h2, h3⟩ := h
  exact ⟨⟨m, hs⟩, h2.mono hle, h3⟩
/-- what a method owes on both sides -/
def Ex (hb : Nat) (A B : Option (Int32 × St2)) : Prop := ∃ (r : Int32) (κ2 : St2) (s2 t2 k2 : Nat → Int32) (τ2 : St2), A = some (r, cq κ2 s2 t2 k2) ∧ B = some (r, mq τ2 s2) ∧ Inv (hb + 60) κ2 s2 k2 τ2
theorem Sh.of {κ κ2 τ τ2 : St2} (h : Sh κ τ) (hk : ∀ j, 6 ≤ j → j ≤ 11 → κ2 j = κ j) (h6 : τ2 6 = τ 6) (h7 : τ2 7 = τ 7) (h8 : τ2 8 = τ 8) : Sh κ2 τ2 := fun q hq => by
  rw [hk 10 (by omega) (by omega), hk 11 (by omega) (by omega), hk (6 + q) (by omega) (by omega), h6, h7, h8]
  exact h q hq
section SIMA
variable {hb N : Nat} {κ : St2} {s t k : Nat → Int32} {τ : St2}
/-- nothing changes -/
theorem ex_same {r : Int32} (hI : Inv hb κ s k τ) : Ex hb (some (r, cq κ s t k)) (some (r, mq τ s)) := ⟨r, κ, s, t, k, τ, rfl, rfl, hI.mono (by omega)⟩
theorem ex_row {m : Nat} {r : Int32} {s2 t2 : Nat → Int32} (hI : Inv hb κ s k τ) (hs : IS m (hb + 60) s2) : Ex hb (some (r, cq κ s2 t2 k)) (some (r, mq τ s2)) := ⟨r, κ, s2, t2, k, τ, rfl, rfl, hI.row (by omega) hs⟩
theorem inv_tell {i : Nat} (hI : Inv hb κ s k τ) (hi : i < 7) : Inv hb (va_up κ 1 (upd (κ 1) i (κ 1 i + 1))) s k (va_up τ 4 (upd (τ 4) i (τ 4 i + 1))) := by
  obtain ⟨h1, h2, h3, h4, h5, h6⟩ := hI
  refine ⟨h1, h2, fun j hj => ?_, h4, h5.of (fun j hj _ => if_neg (by omega)) rfl rfl rfl, h6⟩
  show (if j = i then κ 1 i + 1 else κ 1 j) = if j = i then τ 4 i + 1 else τ 4 j
  rw [h3 i hi, h3 j hj]
theorem tell_c {i : Nat} {f : Int32} (hi : i < 7) (e : (-1000001) - f = nI i) : fX3_tell (cq κ s t k) f = some (f, cq (va_up κ 1 (upd (κ 1) i (κ 1 i + 1))) s t k) := by
  unfold fX3_tell
  have hp : (0 : Int32) ≤ nI i ∧ nI i ≤ 6 := ⟨nI_pos' (by omega), show nI i ≤ nI 6 from le_n (by omega) (by omega)⟩
  rw [bs, e, within_eq, bs, bl0, if_pos hp, rd_n hi (by decide), bs, wr_n hi (by decide), bs, cq_lo (by decide), cq_up (by decide)]
theorem finds_m {i : Nat} {v : Int32} (hi : i < 7) (e : v = nI i) : fX4_finds (mq τ s) v = some ((-1000001) - v, mq (va_up τ 4 (upd (τ 4) i (τ 4 i + 1))) s) := by
  unfold fX4_finds
  subst e
  rw [rd_n hi (by decide), bs, wr_n hi (by decide), bs, mq_o (by decide), mq_upo (by decide)]
theorem simT {f v : Int32} (hI : Inv hb κ s k τ) (i : Nat) (hi : i < 7) (e1 : (-1000001) - f = nI i) (e2 : v = nI i) (e3 : (-1000001) - v = f) : Ex hb ((fX3_tell (cq κ s t k) f).bind fun y => some (y.1, y.2)) ((fX4_finds (mq τ s) v).bind fun y => some (y.1, y.2)) := by
  rw [tell_c hi e1, finds_m hi e2, bs, bs, e3]
  exact ⟨f, _, s, t, k, _, rfl, rfl, (inv_tell hI hi).mono (by omega)⟩
theorem simB (hI : Inv hb κ s k τ) : Ex hb ((fX3_tell (cq κ s t k) (-1000001)).bind fun y => some (y.1, y.2)) ((fX4_finds (mq τ s) 0).bind fun y => some (y.1, y.2)) := simT hI 0 (by decide) (by decide) rfl (by decide)
theorem iw_x {v : Int32} : fX1_isWalker (sx s) v = some (bl (0 ≤ v ∧ v ≤ s 2 - 1)) := by
  unfold fX1_isWalker
  rw [within_eq, bs, bz_bl, bs, sx_03]
theorem iw_m {v : Int32} : fX4_isWalker (mq τ s) v = some (bl (0 ≤ v ∧ v ≤ s 2 - 1)) := by
  unfold fX4_isWalker
  rw [rl_2, bs, in_eq (b := 0) (c := s 2 - 1) (by decide) rfl, bs, bz_bl, bs]
theorem iw_of {m : Nat} {v : Int32} (hs : IS m hb s) (h : 0 ≤ v ∧ v ≤ s 2 - 1) : ∃ w, w < m ∧ v = nI w := by
  have hm := hs.1.1
  rw [hs.1.2] at h
  cases m with
  | zero => exact absurd (Int32.le_trans h.1 h.2) (by decide)
  | succ m =>
    rw [nI_pred] at h
    obtain ⟨c, hc, e⟩ := rng_of (by omega) h.1 h.2
    exact ⟨c, by omega, e⟩
theorem iw_to {m w : Nat} (hs : IS m hb s) (h : w < m) : 0 ≤ nI w ∧ nI w ≤ s 2 - 1 := by
  have hm := hs.1.1
  rw [hs.1.2]
  cases m with
  | zero => omega
  | succ m =>
    rw [nI_pred]
    exact ⟨nI_pos' (by omega), le_n (by omega) (by omega)⟩
theorem iwn_x {m : Nat} {v : Int32} (hs : IS m hb s) : fX1_isWalkerOrNobody (sx s) v = some (bl (v = -1 ∨ (0 ≤ v ∧ v ≤ s 2 - 1))) := by
  unfold fX1_isWalkerOrNobody
  have e : (-1 ≤ v ∧ v ≤ s 2 - 1) ↔ (v = -1 ∨ (0 ≤ v ∧ v ≤ s 2 - 1)) := by
    have hm := hs.1.1
    have hz : (-1 : Int32) ≤ s 2 - 1 := by
      rw [hs.1.2]
      have : ∀ m, m ≤ 8 → (-1 : Int32) ≤ nI m - 1 := by decide +kernel
      exact this m hm
    constructor
    · intro h
      by_cases h1 : v = -1
      · exact Or.inl h1
      · refine Or.inr ⟨?_, h.2⟩
        have h2 := Int32.le_iff_toInt_le.mp h.1
        have h3 : v.toInt ≠ (-1 : Int32).toInt := ne_ti h1
        apply Int32.le_iff_toInt_le.mpr
        have e1 : (-1 : Int32).toInt = -1 := rfl
        have e0 : (0 : Int32).toInt = 0 := rfl
        omega
    · intro h
      rcases h with h | h
      · rw [h]
        exact ⟨Int32.le_refl _, hz⟩
      · exact ⟨Int32.le_trans (by decide) h.1, h.2⟩
  rw [within_eq, bs, bz_bl, bs, sx_03]
  congr 1
  unfold bl
  by_cases h : -1 ≤ v ∧ v ≤ s 2 - 1
  · rw [if_pos h, if_pos (e.mp h)]
  · rw [if_neg h, if_neg (fun z => h (e.mpr z))]
theorem cell_of {v : Int32} (h : 0 ≤ v ∧ v ≤ 23) : ∃ c, c < 24 ∧ v = nI c := by
  obtain ⟨c, hc, e⟩ := rng_of (n := 23) (by decide) h.1 h.2
  exact ⟨c, by omega, e⟩
theorem e_24 (r c : Nat) : (5 + 24 * nI r) + nI c = nI (5 + 24 * r + c) := by
  rw [show (5 : Int32) = nI 5 from rfl, show (24 : Int32) = nI 24 from rfl, pk_mul, nI_add, nI_add]
theorem sim_cell {a b : Int32} (hN : 1000 ≤ N) (hI : Inv hb κ s k τ) : Ex hb (fX3_cell N (cq κ s t k) a b) (fX4_cell N (mq τ s) a b) := by
  obtain ⟨m, hs⟩ := hI.1
  unfold fX3_cell fX4_cell
  rw [isCell_eq, isCell4_eq, bs, bs, bl0, bl0]
  by_cases h1 : 0 ≤ a ∧ a ≤ 23
  · obtain ⟨c, hc, rfl⟩ := cell_of h1
    rw [if_pos h1, if_pos h1, within_eq, in_eq (b := 0) (c := 3) (by decide) (by decide), bs, bs, bl0, bl0]
    by_cases h2 : 0 ≤ b ∧ b ≤ 3
    · obtain ⟨r, hr, rfl⟩ := rng_of (n := 3) (by decide) h2.1 h2.2
      rw [if_pos h2, if_pos h2, cq_v12, walkersAt_x hN hs, walkersAt_m hN hs, bs, bs]
      by_cases h3 : r = 3
      · subst h3
        rw [if_pos (by decide), if_pos (show nI 3 = 3 from rfl)]
        exact ex_same hI
      · have h4 : ¬ (3 : Int32) ≤ nI r := nle_n (a := 3) (by omega) (by omega)
        have h5 : ¬ nI r = 3 := fun e => h3 ((nI_eq (b := 3) (by omega) (by omega)).mp e)
        rw [if_neg h4, if_neg h5, ck_n (by omega) (by decide), bs, cq_r12 (by omega) hc (by decide) (ix_p (by omega) hc), bs, e_24, rm (by omega), bs]
        exact ex_same hI
    · rw [if_neg h2, if_neg h2]
      exact simB hI
  · rw [if_neg h1, if_neg h1]
    exact simB hI
theorem IS.hb60 {m : Nat} (h : IS m hb s) : IS m (hb + 60) s := h.mono (by omega)
theorem sim_print {a b d : Int32} (hI : Inv hb κ s k τ) : Ex hb (fX3_print (cq κ s t k) a b d) (fX4_print (mq τ s) a b d) := by
  obtain ⟨m, hs⟩ := hI.1
  have hm := hs.1.1
  unfold fX3_print fX4_print
  rw [isCell_eq, isCell4_eq, bs, bs, bl0, bl0]
  by_cases h1 : 0 ≤ a ∧ a ≤ 23
  · obtain ⟨c, hc, rfl⟩ := cell_of h1
    rw [if_pos h1, if_pos h1, cq_v12, iwn_x hs, bs, bl0, iw_m, bs, bl0]
    unfold fX4_print_20
    rw [within_eq, in_eq (b := 0) (c := 9) (by decide) (by decide), bs, bs, bl0, bl0]
    by_cases h2 : b = -1
    · subst h2
      rw [if_pos (Or.inl rfl), if_pos rfl]
      by_cases h3 : 0 ≤ d ∧ d ≤ 9
      · rw [if_pos h3, if_pos h3, cq_r12 (j := 2 + 0) (by decide) hc (by decide) (ix_p0 hc), bs, if_pos rfl, clear_x hc, bs, bs, cq_p12, e_5, rm (by omega), bs, if_neg (by decide), prints_m0 hc (by decide), bs]
        exact ex_row hI (hs.hb60.pt hc (Or.inl ⟨rfl, rfl⟩))
      · rw [if_neg h3, if_neg h3]
        exact simB hI
    · rw [if_neg h2]
      by_cases h3 : 0 ≤ b ∧ b ≤ s 2 - 1
      · obtain ⟨w, hw, rfl⟩ := iw_of hs h3
        rw [if_pos (Or.inr h3), if_pos h3]
        by_cases h4 : 0 ≤ d ∧ d ≤ 9
        · rw [if_pos h4, if_pos h4, cq_r12 (j := 2 + 0) (by decide) hc (by decide) (ix_p0 hc), bs, if_neg h2, cq_r12 (j := 6 + 2) (by decide) (show w < 8 by omega) (by decide) (ix_t2 (by omega)), bs, put_x hc, bs, bs, cq_p12, e_5, rm (by omega), bs, if_pos h3.1, its_2 (by omega), bs, prints_m hc h3.1, bs]
          exact ex_row hI (hs.hb60.pt hc (Or.inr h3.1))
        · rw [if_neg h4, if_neg h4]
          exact simB hI
      · rw [if_neg (fun h => h.elim h2 h3), if_neg h3]
        exact simB hI
  · rw [if_neg h1, if_neg h1]
    exact simB hI
theorem sim_reach {a : Int32} (hI : Inv hb κ s k τ) : Ex hb (fX3_reach (cq κ s t k) a) (fX4_reach (mq τ s) a) := by
  obtain ⟨m, hs⟩ := hI.1
  unfold fX3_reach fX4_reach fX4_becomes
  rw [within_eq, in_eq (b := 0) (c := 24) (by decide) (by decide)]
  simp only [bs, bl0]
  by_cases h1 : 0 ≤ a ∧ a ≤ 24
  · obtain ⟨r, hr, rfl⟩ := rng_of (n := 24) (by decide) h1.1 h1.2
    rw [if_pos h1, if_pos h1, cq_pf12 (i := 3) rfl, bs, cq_f12, sx_04, rl_3, bs, wl_3, bs, bs]
    exact ex_row hI (hs.hb60.r3 hr)
  · rw [if_neg h1, if_neg h1]
    exact simB hI
theorem sim_tide (hN : 1000 ≤ N) (hI : Inv hb κ s k τ) : Ex hb (fX3_tide N (cq κ s t k)) (fX4_tide N (mq τ s)) := by
  obtain ⟨m, hs⟩ := hI.1
  obtain ⟨r, hr, e⟩ := hs.2.2.1
  unfold fX3_tide fX4_tide
  have h := tide_m (τ := τ) hN hr hs e
  rw [cq_v12, tide_x hN hr hs e, bs, bs, cq_p12, h.1, bs]
  exact ex_row hI h.2.hb60
end SIMA
