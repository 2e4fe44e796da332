/-! ===== reading and writing a Shore's table and the reference's row ===== -/
theorem ix_p0 {c : Nat} (hc : c < 24) : ix 2 c = some (5 + c) := by have h := ix_p (r := 0) (by decide) hc; simpa using h
theorem ix_p1 {c : Nat} (hc : c < 24) : ix 3 c = some (29 + c) := by have h := ix_p (r := 1) (by decide) hc; simpa using h
theorem ix_p2 {c : Nat} (hc : c < 24) : ix 4 c = some (53 + c) := by have h := ix_p (r := 2) (by decide) hc; simpa using h
theorem ix_t0 {w : Nat} (hw : w < 8) : ix 6 w = some (77 + 6 * w) := by have h := ix_t (k := 0) (by decide) hw; simpa using h
theorem ix_t1 {w : Nat} (hw : w < 8) : ix 7 w = some (77 + 6 * w + 1) := ix_t (k := 1) (by decide) hw
theorem ix_t2 {w : Nat} (hw : w < 8) : ix 8 w = some (77 + 6 * w + 2) := ix_t (k := 2) (by decide) hw
theorem ix_t3 {w : Nat} (hw : w < 8) : ix 9 w = some (77 + 6 * w + 3) := ix_t (k := 3) (by decide) hw
theorem ix_t4 {w : Nat} (hw : w < 8) : ix 10 w = some (77 + 6 * w + 4) := ix_t (k := 4) (by decide) hw
theorem ix_t5 {w : Nat} (hw : w < 8) : ix 11 w = some (77 + 6 * w + 5) := ix_t (k := 5) (by decide) hw
theorem rx {s : Nat → Int32} {k N j i : Nat} (h : j < N) (hN : N < 1000000) (hi : ix k j = some i) : rd (sx s k) N (nI j) = some (s i) := by rw [rd_n h hN, sx_at hi]
theorem wx {s : Nat → Int32} {k N j i : Nat} {v : Int32} (h : j < N) (hN : N < 1000000) (hi : ix k j = some i) : wr (sx s) k N (nI j) v = some (sx (upd s i v)) := by rw [wr_n h hN, sx_up hi]
theorem px {s : Nat → Int32} {k j i : Nat} {v : Int32} (hi : ix k j = some i) : pf (sx s) k j v = some (sx (upd s i v)) := by
  unfold pf
  rw [sx_up hi]
theorem sx_03 (s : Nat → Int32) : sx s 0 3 = s 2 := rfl
theorem sx_04 (s : Nat → Int32) : sx s 0 4 = s 3 := rfl
theorem sx_05 (s : Nat → Int32) : sx s 0 5 = s 4 := rfl
theorem sx_06 (s : Nat → Int32) : sx s 0 6 = s 0 := rfl
theorem sx_07 (s : Nat → Int32) : sx s 0 7 = s 1 := rfl
def mq (τ : St2) (s : Nat → Int32) : St2 := va_up τ 1 s
theorem mq_1 (τ : St2) (s : Nat → Int32) : mq τ s 1 = s := by
  unfold mq va_up
  exact if_pos rfl
theorem mq_o {τ : St2} {s : Nat → Int32} {k : Nat} (h : k ≠ 1) : mq τ s k = τ k := by
  unfold mq va_up
  exact if_neg h
theorem mq_up {τ : St2} {s s2 : Nat → Int32} : va_up (mq τ s) 1 s2 = mq τ s2 := bx_uu _ _ _ _
theorem mq_self (τ : St2) : mq τ (τ 1) = τ := by
  funext k
  unfold mq va_up
  by_cases h : k = 1
  · rw [if_pos h, h]
  · rw [if_neg h]
theorem mq_upo {τ : St2} {s f : Nat → Int32} {k : Nat} (h : k ≠ 1) : va_up (mq τ s) k f = mq (va_up τ k f) s := by
  funext a
  unfold mq va_up
  by_cases h1 : a = k
  · rw [if_pos h1, if_neg (by omega), if_pos h1]
  · rw [if_neg h1]
    by_cases h2 : a = 1
    · rw [if_pos h2, if_pos h2]
    · rw [if_neg h2, if_neg h2, if_neg h1]
theorem rm {τ : St2} {s : Nat → Int32} {j : Nat} (h : j < 135) : rd (mq τ s 1) 135 (nI j) = some (s j) := by rw [mq_1, rd_n h (by decide)]
theorem wm {τ : St2} {s : Nat → Int32} {j : Nat} {v : Int32} (h : j < 135) : wr (mq τ s) 1 135 (nI j) v = some (mq τ (upd s j v)) := by rw [wr_n h (by decide), mq_1, mq_up]
theorem rm_ {τ : St2} {s : Nat → Int32} {i : Int32} (j : Nat) (e : i = nI j) (h : j < 135) : rd (mq τ s 1) 135 i = some (s j) := by rw [e, rm h]
theorem wm_ {τ : St2} {s : Nat → Int32} {i v : Int32} (j : Nat) (e : i = nI j) (h : j < 135) : wr (mq τ s) 1 135 i v = some (mq τ (upd s j v)) := by rw [e, wm h]
theorem e_tr (w k : Nat) : (77 + 6 * nI w) + nI k = nI (77 + 6 * w + k) := by
  rw [show (77 : Int32) = nI 77 from rfl, show (6 : Int32) = nI 6 from rfl, pk_mul, nI_add, nI_add]
theorem e_5 (c : Nat) : 5 + nI c = nI (5 + c) := nI_add 5 c
theorem e_29 (c : Nat) : 29 + nI c = nI (29 + c) := nI_add 29 c
theorem e_53 (c : Nat) : 53 + nI c = nI (53 + c) := nI_add 53 c
theorem its_n {τ : St2} {s : Nat → Int32} {w : Nat} {k9 : Int32} (k : Nat) (e : k9 = nI k) (hw : w < 8) (hk : k < 6) : fX4_its (mq τ s) (nI w) k9 = some (s (77 + 6 * w + k)) := by
  unfold fX4_its
  rw [e, e_tr, rm (by omega), bs]
theorem sets_n {τ : St2} {s : Nat → Int32} {w : Nat} {k9 v : Int32} (k : Nat) (e : k9 = nI k) (hw : w < 8) (hk : k < 6) : fX4_sets (mq τ s) (nI w) k9 v = some (mq τ (upd s (77 + 6 * w + k) v)) := by
  unfold fX4_sets
  rw [e, e_tr, wm (by omega), bs]
theorem its_0 {τ : St2} {s : Nat → Int32} {w : Nat} (hw : w < 8) : fX4_its (mq τ s) (nI w) 0 = some (s (77 + 6 * w)) := its_n 0 rfl hw (by decide)
theorem sets_0 {τ : St2} {s : Nat → Int32} {w : Nat} {v : Int32} (hw : w < 8) : fX4_sets (mq τ s) (nI w) 0 v = some (mq τ (upd s (77 + 6 * w) v)) := sets_n 0 rfl hw (by decide)
theorem its_1 {τ : St2} {s : Nat → Int32} {w : Nat} (hw : w < 8) : fX4_its (mq τ s) (nI w) 1 = some (s (77 + 6 * w + 1)) := its_n 1 rfl hw (by decide)
theorem sets_1 {τ : St2} {s : Nat → Int32} {w : Nat} {v : Int32} (hw : w < 8) : fX4_sets (mq τ s) (nI w) 1 v = some (mq τ (upd s (77 + 6 * w + 1) v)) := sets_n 1 rfl hw (by decide)
theorem its_2 {τ : St2} {s : Nat → Int32} {w : Nat} (hw : w < 8) : fX4_its (mq τ s) (nI w) 2 = some (s (77 + 6 * w + 2)) := its_n 2 rfl hw (by decide)
theorem sets_2 {τ : St2} {s : Nat → Int32} {w : Nat} {v : Int32} (hw : w < 8) : fX4_sets (mq τ s) (nI w) 2 v = some (mq τ (upd s (77 + 6 * w + 2) v)) := sets_n 2 rfl hw (by decide)
theorem its_3 {τ : St2} {s : Nat → Int32} {w : Nat} (hw : w < 8) : fX4_its (mq τ s) (nI w) 3 = some (s (77 + 6 * w + 3)) := its_n 3 rfl hw (by decide)
theorem sets_3 {τ : St2} {s : Nat → Int32} {w : Nat} {v : Int32} (hw : w < 8) : fX4_sets (mq τ s) (nI w) 3 v = some (mq τ (upd s (77 + 6 * w + 3) v)) := sets_n 3 rfl hw (by decide)
theorem its_4 {τ : St2} {s : Nat → Int32} {w : Nat} (hw : w < 8) : fX4_its (mq τ s) (nI w) 4 = some (s (77 + 6 * w + 4)) := its_n 4 rfl hw (by decide)
theorem sets_4 {τ : St2} {s : Nat → Int32} {w : Nat} {v : Int32} (hw : w < 8) : fX4_sets (mq τ s) (nI w) 4 v = some (mq τ (upd s (77 + 6 * w + 4) v)) := sets_n 4 rfl hw (by decide)
theorem its_5 {τ : St2} {s : Nat → Int32} {w : Nat} (hw : w < 8) : fX4_its (mq τ s) (nI w) 5 = some (s (77 + 6 * w + 5)) := its_n 5 rfl hw (by decide)
theorem sets_5 {τ : St2} {s : Nat → Int32} {w : Nat} {v : Int32} (hw : w < 8) : fX4_sets (mq τ s) (nI w) 5 v = some (mq τ (upd s (77 + 6 * w + 5) v)) := sets_n 5 rfl hw (by decide)
theorem rl_0 {τ : St2} {s : Nat → Int32} : rd (mq τ s 1) 135 0 = some (s 0) := rm_ 0 rfl (by decide)
theorem wl_0 {τ : St2} {s : Nat → Int32} {v : Int32} : wr (mq τ s) 1 135 0 v = some (mq τ (upd s 0 v)) := wm_ 0 rfl (by decide)
theorem rl_1 {τ : St2} {s : Nat → Int32} : rd (mq τ s 1) 135 1 = some (s 1) := rm_ 1 rfl (by decide)
theorem wl_1 {τ : St2} {s : Nat → Int32} {v : Int32} : wr (mq τ s) 1 135 1 v = some (mq τ (upd s 1 v)) := wm_ 1 rfl (by decide)
theorem rl_2 {τ : St2} {s : Nat → Int32} : rd (mq τ s 1) 135 2 = some (s 2) := rm_ 2 rfl (by decide)
theorem wl_2 {τ : St2} {s : Nat → Int32} {v : Int32} : wr (mq τ s) 1 135 2 v = some (mq τ (upd s 2 v)) := wm_ 2 rfl (by decide)
theorem rl_3 {τ : St2} {s : Nat → Int32} : rd (mq τ s 1) 135 3 = some (s 3) := rm_ 3 rfl (by decide)
theorem wl_3 {τ : St2} {s : Nat → Int32} {v : Int32} : wr (mq τ s) 1 135 3 v = some (mq τ (upd s 3 v)) := wm_ 3 rfl (by decide)
theorem rl_4 {τ : St2} {s : Nat → Int32} : rd (mq τ s 1) 135 4 = some (s 4) := rm_ 4 rfl (by decide)
theorem wl_4 {τ : St2} {s : Nat → Int32} {v : Int32} : wr (mq τ s) 1 135 4 v = some (mq τ (upd s 4 v)) := wm_ 4 rfl (by decide)
/-! ===== strides, presses, looks ===== -/
def strS (s : Nat → Int32) (w : Nat) : Int32 :=
  if s (77 + 6 * w) = 1 then s (77 + 6 * w + 3) + (s 0 - s 0 / 2 * 2) else if s (77 + 6 * w) = 2 then 1 else if s (77 + 6 * w) = 3 then 1 + s (77 + 6 * w + 3) / 2 else if s (77 + 6 * w) = 4 then 3 + s (77 + 6 * w + 3) / 2 else if s (77 + 6 * w) = 5 then s (77 + 6 * w + 3) else if s (77 + 6 * w) = 6 then 2 * (s (77 + 6 * w + 3) + (s 0 - s 0 / 2 * 2)) else s (77 + 6 * w + 3)
def lkS (s : Nat → Int32) (w : Nat) : Int32 := if s (77 + 6 * w) = 5 then 1 - s (77 + 6 * w + 2) else s (77 + 6 * w + 2)
def prS (s : Nat → Int32) (w : Nat) : Int32 :=
  if s (77 + 6 * w) = 1 then imin 9 (s (77 + 6 * w + 4) / 2) else if s (77 + 6 * w) = 2 then imin 9 (s (77 + 6 * w + 4) + 3) else if s (77 + 6 * w) = 3 then imin 9 (s (77 + 6 * w + 4) + 4) else if s (77 + 6 * w) = 4 then (if s (77 + 6 * w + 3) ≤ 3 then imin 9 (s (77 + 6 * w + 4) + 2) else imin 9 (s (77 + 6 * w + 4) + 4)) else if s (77 + 6 * w) = 5 then imin 9 1 else if s (77 + 6 * w) = 6 then imin 9 (imax 0 (s (77 + 6 * w + 4) / 2 - 1)) else imin 9 (s (77 + 6 * w + 4))
theorem so {α β : Type} {p : Prop} [Decidable p] (a b : α) : (if p then some a else some b) = some (if p then a else b) := by
  by_cases h : p
  · rw [if_pos h, if_pos h]
  · rw [if_neg h, if_neg h]
theorem add3 (a : Int32) : 1 + a + 2 = 3 + a := by
  rw [Int32.add_comm 1 a, Int32.add_assoc, Int32.add_comm 3 a]
  rfl
theorem add31 (a : Int32) : a + 3 + 1 = a + 4 := by
  rw [Int32.add_assoc]
  rfl
theorem add312 (a : Int32) : a + 4 - 2 = a + 2 := by
  rw [Int32.sub_eq_add_neg, Int32.add_assoc]
  rfl
theorem strides_x {s : Nat → Int32} {w : Nat} (hw : w < 8) : fX1_strides (sx s) (nI w) = some (strS s w) := by
  unfold fX1_strides strS
  rw [rx hw (by decide) (ix_t3 hw), bs, sx_06, bs, bs, rx hw (by decide) (ix_t0 hw), bs, add3]
  repeat' split
  all_goals rfl
theorem strides_m {τ : St2} {s : Nat → Int32} {w : Nat} (hw : w < 8) : fX4_strides (mq τ s) (nI w) = some (strS s w) := by
  unfold fX4_strides strS
  rw [its_3 hw, bs, rl_0, bs, bs, its_0 hw, bs]
  repeat' split
  all_goals rfl
theorem looks_x {s : Nat → Int32} {w : Nat} (hw : w < 8) : fX1_looks (sx s) (nI w) = some (lkS s w) := by
  unfold fX1_looks lkS
  rw [rx hw (by decide) (ix_t2 hw), bs, rx hw (by decide) (ix_t0 hw), bs]
  split <;> rfl
theorem looks_m {τ : St2} {s : Nat → Int32} {w : Nat} (hw : w < 8) : fX4_looks (mq τ s) (nI w) = some (lkS s w) := by
  unfold fX4_looks lkS
  rw [its_0 hw, bs, its_2 hw, bs, bs]
  split <;> rfl
/-- a weight from 0 to 9, as a number -/
theorem imin9 : ∀ n, n ≤ 9 → imin 9 (nI n) = nI n ∧ imin 9 (nI n / 2) = nI n / 2 ∧ imin 9 (imax 0 (nI n / 2 - 1)) = imax 0 (nI n / 2 - 1) := by decide +kernel
theorem presses_x {s : Nat → Int32} {w n : Nat} (hw : w < 8) (hn : n ≤ 9) (he : s (77 + 6 * w + 4) = nI n) : fX1_presses (sx s) (nI w) = some (prS s w) := by
  unfold fX1_presses prS
  rw [rx hw (by decide) (ix_t4 hw), bs, bs, rx hw (by decide) (ix_t0 hw), bs, rx hw (by decide) (ix_t3 hw), bs, add31, add312]
  obtain ⟨h1, h2, h3⟩ := imin9 n hn
  rw [← he] at h1 h2 h3
  rw [h1, h2, h3]
  repeat' split
  all_goals rfl
theorem presses_m {τ : St2} {s : Nat → Int32} {w : Nat} (hw : w < 8) : fX4_presses (mq τ s) (nI w) = some (prS s w) := by
  unfold fX4_presses prS
  rw [its_4 hw, bs, its_0 hw, bs, its_3 hw, bs]
  simp only [bs]
  repeat' split
  all_goals rfl
/-! ===== prints ===== -/
def ptS (s : Nat → Int32) (c : Nat) (w d t : Int32) : Nat → Int32 := upd (upd (upd s (5 + c) w) (29 + c) d) (53 + c) t
theorem put_x {s : Nat → Int32} {c : Nat} {w d t : Int32} (hc : c < 24) : fX1_put (sx s) (nI c) w d t = some (sx (ptS s c w d t)) := by
  unfold fX1_put ptS
  rw [wx hc (by decide) (ix_p0 hc), bs, wx hc (by decide) (ix_p1 hc), bs, wx hc (by decide) (ix_p2 hc), bs]
theorem clear_x {s : Nat → Int32} {c : Nat} (hc : c < 24) : fX1_clear (sx s) (nI c) = some (sx (ptS s c (-1) 0 0)) := by
  unfold fX1_clear
  rw [put_x hc, bs]
theorem prints_m {τ : St2} {s : Nat → Int32} {c : Nat} {w d t : Int32} (hc : c < 24) (hw : 0 ≤ w) : fX4_prints (mq τ s) (nI c) w d t = some (mq τ (ptS s c w d t)) := by
  unfold fX4_prints fX4_prints_26 ptS
  rw [e_5, wm (by omega), bs, if_pos hw, e_29, wm (by omega), bs, if_pos hw, e_53, wm (by omega), bs]
theorem prints_m0 {τ : St2} {s : Nat → Int32} {c : Nat} {w d t : Int32} (hc : c < 24) (hw : ¬ 0 ≤ w) : fX4_prints (mq τ s) (nI c) w d t = some (mq τ (ptS s c w 0 0)) := by
  unfold fX4_prints fX4_prints_26 ptS
  rw [e_5, wm (by omega), bs, if_neg hw, e_29, wm (by omega), bs, if_neg hw, e_53, wm (by omega), bs]
