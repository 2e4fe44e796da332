/-! ===== numbers ===== -/
theorem inb_n {n N : Nat} (h : n < N) (hN : N < 1000000) : inb (nI n) N := ⟨nI_pos (by omega), by rw [nI_clamp (by omega)]; exact h⟩
theorem rd_n {f : Nat → Int32} {N n : Nat} (h : n < N) (hN : N < 1000000) : rd f N (nI n) = some (f n) := by
  unfold rd
  rw [if_pos (inb_n h hN), nI_clamp (by omega)]
theorem wr_n {x : St2} {k N n : Nat} {v : Int32} (h : n < N) (hN : N < 1000000) : wr x k N (nI n) v = some (va_up x k (upd (x k) n v)) := by
  unfold wr
  rw [if_pos (inb_n h hN), nI_clamp (by omega)]
theorem ck_n {N n : Nat} (h : n < N) (hN : N < 1000000) : ck (nI n) N = some n := by
  unfold ck
  rw [if_pos (inb_n h hN), nI_clamp (by omega)]
theorem rng_of {v : Int32} {n : Nat} (hn : n < 1000000) (h0 : 0 ≤ v) (h1 : v ≤ nI n) : ∃ c : Nat, c ≤ n ∧ v = nI c := by
  have h2 : ¬ v < 0 := Int32.not_lt.mpr h0
  exact nI_of2 (nI_toInt (by omega)) h2 h1
theorem bs {α β : Type} (a : α) (K : α → Option β) : (some a).bind K = K a := rfl
/-- a truth value as an int -/
def bl (p : Prop) [Decidable p] : Int32 := if p then 1 else 0
theorem bl_t {p : Prop} [Decidable p] (h : p) : bl p = 1 := if_pos h
theorem bl_f {p : Prop} [Decidable p] (h : ¬ p) : bl p = 0 := if_neg h
theorem bz_bl (p : Prop) [Decidable p] : bz (bl p) = some (bl p) := by
  unfold bz bl
  by_cases h : p
  · rw [if_pos h, if_pos (Or.inr rfl)]
  · rw [if_neg h, if_pos (Or.inl rfl)]
theorem bl0 {α : Type} (p : Prop) [Decidable p] (a b : α) : (if bl p = 0 then a else b) = if p then b else a := by
  by_cases h : p
  · rw [bl_t h, if_pos h]
    rfl
  · rw [bl_f h, if_neg h]
    rfl
theorem within_eq (a b c : Int32) : fX3_within a b c = some (bl (b ≤ a ∧ a ≤ c)) := by
  unfold fX3_within bl
  by_cases h1 : a < b
  · rw [if_pos h1, if_neg (fun h => absurd h.1 (Int32.not_le.mpr h1))]
  · rw [if_neg h1]
    by_cases h2 : c < a
    · rw [if_pos h2, if_neg (fun h => absurd h.2 (Int32.not_le.mpr h2))]
    · rw [if_neg h2, if_pos ⟨Int32.not_lt.mp h1, Int32.not_lt.mp h2⟩]
theorem lgc_lt (x y : Int64) : lg_cmp x y < 0 ↔ x < y := by
  have h := lg_cmp_ge x y
  constructor
  · intro h1
    exact Int64.not_le.mp (fun h2 => absurd (h.mpr h2) (Int32.not_le.mpr h1))
  · intro h1
    exact Int32.not_le.mp (fun h2 => absurd (h.mp h2) (Int64.not_le.mpr h1))
theorem lgc_gt (x y : Int64) : 0 < lg_cmp x y ↔ y < x := by
  unfold lg_cmp
  by_cases h : x > y
  · rw [if_pos h]
    exact ⟨fun _ => h, fun _ => by decide⟩
  · rw [if_neg h]
    constructor
    · intro h1
      exfalso
      by_cases h2 : x = y
      · rw [if_pos h2] at h1
        exact absurd h1 (by decide)
      · rw [if_neg h2] at h1
        exact absurd h1 (by decide)
    · intro h1
      exact absurd h1 h
theorem wide_lt (a b : Int32) : a.toInt64 < b.toInt64 ↔ a < b := by
  rw [Int64.lt_iff_toInt_lt, Int32.lt_iff_toInt_lt, Int32.toInt_toInt64, Int32.toInt_toInt64]
theorem in_eq {a b c : Int32} {b2 c2 : Int64} (hb : b2 = b.toInt64) (hc : c2 = c.toInt64) : fX4_in a.toInt64 b2 c2 = some (bl (b ≤ a ∧ a ≤ c)) := by
  subst hb
  subst hc
  unfold fX4_in bl
  by_cases h1 : a < b
  · rw [if_pos ((lgc_lt _ _).mpr ((wide_lt _ _).mpr h1)), if_neg (fun h => absurd h.1 (Int32.not_le.mpr h1))]
  · rw [if_neg (fun h => h1 ((wide_lt _ _).mp ((lgc_lt _ _).mp h)))]
    by_cases h2 : c < a
    · rw [if_pos ((lgc_gt _ _).mpr ((wide_lt _ _).mpr h2)), if_neg (fun h => absurd h.2 (Int32.not_le.mpr h2))]
    · rw [if_neg (fun h => h2 ((wide_lt _ _).mp ((lgc_gt _ _).mp h))), if_pos ⟨Int32.not_lt.mp h1, Int32.not_lt.mp h2⟩]
theorem isCell_eq (v : Int32) : fX3_isCell v = some (bl (0 ≤ v ∧ v ≤ 23)) := by
  unfold fX3_isCell
  rw [within_eq, bs, bz_bl, bs]
theorem isSheet_eq (v : Int32) : fX0_isSheet v = some (bl (0 ≤ v ∧ v ≤ 3)) := by
  unfold fX0_isSheet
  rw [within_eq, bs, bz_bl, bs]
theorem isCell4_eq (v : Int32) : fX4_isCell v = some (bl (0 ≤ v ∧ v ≤ 23)) := by
  unfold fX4_isCell
  rw [in_eq (b := 0) (c := 23) (by decide) (by decide), bs, bz_bl, bs]
theorem isKind4_eq (v : Int32) : fX4_isKind v = some (bl (0 ≤ v ∧ v ≤ 6)) := by
  unfold fX4_isKind
  rw [in_eq (b := 0) (c := 6) (by decide) (by decide), bs, bz_bl, bs]
theorem isAhead4_eq (v : Int32) : fX4_isAhead v = some (bl (0 ≤ v ∧ v ≤ 100)) := by
  unfold fX4_isAhead
  rw [in_eq (b := 0) (c := 100) (by decide) (by decide), bs, bz_bl, bs]
theorem isSoon4_eq (v : Int32) : fX4_isSoon v = some (bl (0 ≤ v ∧ v ≤ 40)) := by
  unfold fX4_isSoon
  rw [in_eq (b := 0) (c := 40) (by decide) (by decide), bs, bz_bl, bs]
theorem isSpot4_eq (v : Int32) : fX4_isSpot v = some (bl (0 ≤ v ∧ v ≤ 9)) := by
  unfold fX4_isSpot
  rw [in_eq (b := 0) (c := 9) (by decide) (by decide), bs, bz_bl, bs]
theorem isSheet4_eq (v : Int32) : fX4_isSheet v = some (bl (0 ≤ v ∧ v ≤ 3)) := by
  unfold fX4_isSheet
  rw [in_eq (b := 0) (c := 3) (by decide) (by decide), bs, bz_bl, bs]
/-! ===== a Shore's table out of the reference's row ===== -/
def ix (k j : Nat) : Option Nat :=
  if k = 0 then (if j = 3 then some 2 else if j = 4 then some 3 else if j = 5 then some 4 else if j = 6 then some 0 else if j = 7 then some 1 else none)
  else if 2 ≤ k ∧ k ≤ 4 then (if j < 24 then some (5 + 24 * (k - 2) + j) else none)
  else if 6 ≤ k ∧ k ≤ 11 then (if j < 8 then some (77 + 6 * j + (k - 6)) else none)
  else if k = 12 then (if j < 10 then some (125 + j) else none)
  else none
theorem ix_s {k j i : Nat} (h : ix k j = some i) : (k = 0 ∧ ((j = 3 ∧ i = 2) ∨ (j = 4 ∧ i = 3) ∨ (j = 5 ∧ i = 4) ∨ (j = 6 ∧ i = 0) ∨ (j = 7 ∧ i = 1))) ∨ (2 ≤ k ∧ k ≤ 4 ∧ j < 24 ∧ i = 5 + 24 * (k - 2) + j) ∨ (6 ≤ k ∧ k ≤ 11 ∧ j < 8 ∧ i = 77 + 6 * j + (k - 6)) ∨ (k = 12 ∧ j < 10 ∧ i = 125 + j) := by
  unfold ix at h
  repeat' split at h
  all_goals first | (cases h; done) | (have := Option.some.inj h; omega)
theorem ix_lt {k j i : Nat} (h : ix k j = some i) : i < 135 := by
  have := ix_s h
  omega
theorem ix_inj {k j k2 j2 i : Nat} (h : ix k j = some i) (h2 : ix k2 j2 = some i) : k = k2 ∧ j = j2 := by
  have h3 := ix_s h
  have h4 := ix_s h2
  omega
def sx (s : Nat → Int32) : St2 := fun k j => match ix k j with
  | some i => s i
  | none => 0
theorem sx_at {s : Nat → Int32} {k j i : Nat} (h : ix k j = some i) : sx s k j = s i := by
  unfold sx
  rw [h]
theorem sx_up {s : Nat → Int32} {k j i : Nat} {v : Int32} (h : ix k j = some i) : va_up (sx s) k (upd (sx s k) j v) = sx (upd s i v) := by
  funext a b
  unfold va_up
  by_cases ha : a = k
  · subst ha
    rw [if_pos rfl]
    unfold upd
    by_cases hb : b = j
    · subst hb
      rw [if_pos rfl, sx_at h, if_pos rfl]
    · rw [if_neg hb]
      unfold sx
      cases h9 : ix a b with
      | none => rfl
      | some i2 =>
        have : i2 ≠ i := fun e => hb (ix_inj (e ▸ h9) h).2
        simp only [if_neg this]
  · rw [if_neg ha]
    unfold sx
    cases h9 : ix a b with
    | none => rfl
    | some i2 =>
      have : i2 ≠ i := fun e => ha (ix_inj (e ▸ h9) h).1
      simp only [upd, if_neg this]
theorem sx_congr {s s2 : Nat → Int32} (h : ∀ j, j < 135 → s j = s2 j) : sx s = sx s2 := by
  funext a b
  unfold sx
  cases h9 : ix a b with
  | none => rfl
  | some i => exact h i (ix_lt h9)
theorem sx_out {s : Nat → Int32} {k : Nat} (h : 13 ≤ k) : sx s k = fun _ => 0 := by
  funext j
  unfold sx
  cases h9 : ix k j with
  | none => rfl
  | some i =>
    have := ix_s h9
    omega
theorem ix_p {r c : Nat} (hr : r < 3) (hc : c < 24) : ix (2 + r) c = some (5 + 24 * r + c) := by
  unfold ix
  rw [if_neg (by omega), if_pos (by omega), if_pos hc]
  congr 2
  omega
theorem ix_t {k w : Nat} (hk : k < 6) (hw : w < 8) : ix (6 + k) w = some (77 + 6 * w + k) := by
  unfold ix
  rw [if_neg (by omega), if_neg (by omega), if_pos (by omega), if_pos hw]
  congr 2
  omega
theorem ix_sp {k : Nat} (hk : k < 10) : ix 12 k = some (125 + k) := by
  unfold ix
  rw [if_neg (by omega), if_neg (by omega), if_neg (by omega), if_pos rfl, if_pos hk]
