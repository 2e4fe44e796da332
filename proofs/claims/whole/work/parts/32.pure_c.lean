/-! ===== loops that count ===== -/
def itr {α : Type} (g : Nat → α → α) : Nat → Nat → α → α
  | 0, _, a => a
  | k + 1, i, a => itr g k (i + 1) (g i a)
theorem itr_loop {α ρ : Type} (L : Nat → α → Nat → Option ρ) (P : Nat → α → Prop) (g : Nat → α → α) (e : Nat) (fin : α → Option ρ) (h1 : ∀ n a i, i < e → P i a → L (n + 1) a i = L n (g i a) (i + 1)) (hP : ∀ a i, i < e → P i a → P (i + 1) (g i a)) (h2 : ∀ n a, P e a → L (n + 1) a e = fin a) : ∀ k i a n, i + k = e → k < n → P i a → L n a i = fin (itr g k i a) ∧ P e (itr g k i a) := by
  intro k
  induction k with
  | zero =>
    intro i a n hi hn hp
    obtain ⟨n, rfl⟩ : ∃ z, n = z + 1 := ⟨n - 1, by omega⟩
    have : i = e := by omega
    subst this
    exact ⟨h2 n a hp, hp⟩
  | succ k ih =>
    intro i a n hi hn hp
    obtain ⟨n, rfl⟩ : ∃ z, n = z + 1 := ⟨n - 1, by omega⟩
    rw [h1 n a i (by omega) hp]
    exact ih (i + 1) (g i a) n (by omega) (by omega) (hP a i (by omega) hp)
theorem itr_P {α : Type} (P : Nat → α → Prop) (g : Nat → α → α) (e : Nat) (hP : ∀ a i, i < e → P i a → P (i + 1) (g i a)) : ∀ k i a, i + k = e → P i a → P e (itr g k i a) := by
  intro k
  induction k with
  | zero =>
    intro i a hi hp
    have : i = e := by omega
    subst this
    exact hp
  | succ k ih =>
    intro i a hi hp
    exact ih (i + 1) (g i a) (by omega) (hP a i (by omega) hp)
theorem nle_n {a b : Nat} (h : b < a) (ha : a < 1000000) : ¬ nI a ≤ nI b := nI_ge h (by omega)
theorem le_n {a b : Nat} (h : a ≤ b) (hb : b < 1000000) : nI a ≤ nI b := nI_le h (by omega)
theorem one_n (a : Nat) : nI a + 1 = nI (a + 1) := nI_1 a
/-! ===== which rows are sound ===== -/
def IS (m hb : Nat) (s : Nat → Int32) : Prop := (m ≤ 8 ∧ s 2 = nI m) ∧ (∃ h, h ≤ hb ∧ s 0 = nI h) ∧ (∃ r, r ≤ 24 ∧ s 3 = nI r) ∧ (∃ q, q ≤ 99999 ∧ s 4 = nI q) ∧ (∀ w, w < m → (∃ k, k ≤ 6 ∧ s (77 + 6 * w) = nI k) ∧ ∃ n, n ≤ 9 ∧ s (77 + 6 * w + 4) = nI n) ∧ (∀ c, c < 24 → (s (5 + c) = -1 ∧ s (29 + c) = 0) ∨ 0 ≤ s (5 + c)) ∧ ∀ k, k < 10 → s (125 + k) = -1 ∨ ∃ w, w < m ∧ s (125 + k) = nI w
theorem uw {f : Nat → Int32} {k j : Nat} {x : Int32} (h : j ≠ k) : upd f k x j = f j := if_neg h
theorem uu {f : Nat → Int32} {k : Nat} {x : Int32} : upd f k x k = x := if_pos rfl
theorem IS.mono {m hb hb2 : Nat} {s : Nat → Int32} (h : IS m hb s) (hle : hb ≤ hb2) : IS m hb2 s := by
  obtain ⟨a1, ⟨z, z1, z2⟩, a3⟩ := h
  exact ⟨a1, ⟨z, by omega, z2⟩, a3⟩
theorem IS.congr {m hb : Nat} {s s2 : Nat → Int32} (h : IS m hb s) (e : ∀ j, j < 135 → s2 j = s j) : IS m hb s2 := by
  obtain ⟨⟨m1, m2⟩, ⟨z, z1, z2⟩, ⟨r, r1, r2⟩, ⟨q, q1, q2⟩, ht, hp, hs⟩ := h
  refine ⟨⟨m1, (e 2 (by omega)).trans m2⟩, ⟨z, z1, (e 0 (by omega)).trans z2⟩, ⟨r, r1, (e 3 (by omega)).trans r2⟩, ⟨q, q1, (e 4 (by omega)).trans q2⟩, fun w hw => ?_, fun c hc => ?_, fun k hk => ?_⟩
  · rw [e _ (by omega), e _ (by omega)]
    exact ht w hw
  · rw [e _ (by omega), e _ (by omega)]
    exact hp c hc
  · rw [e _ (by omega)]
    exact hs k hk
/-- a place that soundness doesn't ask for -/
def fre (i : Nat) : Prop := i = 1 ∨ (53 ≤ i ∧ i < 77) ∨ ∃ w k, w < 8 ∧ i = 77 + 6 * w + k ∧ (k = 1 ∨ k = 2 ∨ k = 3 ∨ k = 5)
theorem IS.un {m hb i : Nat} {s : Nat → Int32} {v : Int32} (h : IS m hb s) (hi : fre i) : IS m hb (upd s i v) := by
  obtain ⟨⟨m1, m2⟩, ⟨z, z1, z2⟩, ⟨r, r1, r2⟩, ⟨q, q1, q2⟩, ht, hp, hs⟩ := h
  have h0 : i ≠ 0 ∧ i ≠ 2 ∧ i ≠ 3 ∧ i ≠ 4 ∧ (∀ w, w < 8 → i ≠ 77 + 6 * w ∧ i ≠ 77 + 6 * w + 4) ∧ (∀ c, c < 24 → i ≠ 5 + c ∧ i ≠ 29 + c) ∧ ∀ k, k < 10 → i ≠ 125 + k := by
    rcases hi with h | h | ⟨w9, k9, h1, h2, h3⟩
    · refine ⟨by omega, by omega, by omega, by omega, fun w hw => by omega, fun c hc => by omega, fun k hk => by omega⟩
    · refine ⟨by omega, by omega, by omega, by omega, fun w hw => by omega, fun c hc => by omega, fun k hk => by omega⟩
    · refine ⟨by omega, by omega, by omega, by omega, fun w hw => by omega, fun c hc => by omega, fun k hk => by omega⟩
  obtain ⟨g0, g2, g3, g4, gt, gp, gs⟩ := h0
  refine ⟨⟨m1, (_root_.Eq.trans (if_neg g2.symm) m2)⟩, ⟨z, z1, _root_.Eq.trans (if_neg g0.symm) z2⟩, ⟨r, r1, _root_.Eq.trans (if_neg g3.symm) r2⟩, ⟨q, q1, _root_.Eq.trans (if_neg g4.symm) q2⟩, fun w hw => ?_, fun c hc => ?_, fun k hk => ?_⟩
  · have g := gt w (by omega)
    rw [uw g.1.symm, uw g.2.symm]
    exact ht w hw
  · have g := gp c hc
    rw [uw g.1.symm, uw g.2.symm]
    exact hp c hc
  · have g := gs k hk
    rw [uw g.symm]
    exact hs k hk
