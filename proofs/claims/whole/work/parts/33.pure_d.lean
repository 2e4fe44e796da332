theorem pt_w {s : Nat → Int32} {c c2 : Nat} {v d t : Int32} (hc : c < 24) (h2 : c2 < 24) : ptS s c v d t (5 + c2) = if c2 = c then v else s (5 + c2) := by
  unfold ptS
  rw [uw (by omega), uw (by omega)]
  by_cases h : c2 = c
  · rw [h, uu, if_pos rfl]
  · rw [uw (by omega), if_neg h]
theorem pt_d {s : Nat → Int32} {c c2 : Nat} {v d t : Int32} (hc : c < 24) (h2 : c2 < 24) : ptS s c v d t (29 + c2) = if c2 = c then d else s (29 + c2) := by
  unfold ptS
  rw [uw (by omega)]
  by_cases h : c2 = c
  · rw [h, uu, if_pos rfl]
  · rw [uw (by omega), uw (by omega), if_neg h]
theorem pt_o {s : Nat → Int32} {c j : Nat} {v d t : Int32} (hc : c < 24) (hj : j < 5 ∨ 77 ≤ j) : ptS s c v d t j = s j := by
  unfold ptS
  rw [uw (by omega), uw (by omega), uw (by omega)]
theorem IS.pt {m hb c : Nat} {s : Nat → Int32} {v d t : Int32} (h : IS m hb s) (hc : c < 24) (hv : (v = -1 ∧ d = 0) ∨ 0 ≤ v) : IS m hb (ptS s c v d t) := by
  obtain ⟨⟨m1, m2⟩, ⟨z, z1, z2⟩, ⟨r, r1, r2⟩, ⟨q, q1, q2⟩, ht, hp, hs⟩ := h
  refine ⟨⟨m1, (pt_o hc (by omega)).trans m2⟩, ⟨z, z1, (pt_o hc (by omega)).trans z2⟩, ⟨r, r1, (pt_o hc (by omega)).trans r2⟩, ⟨q, q1, (pt_o hc (by omega)).trans q2⟩, fun w hw => ?_, fun c2 hc2 => ?_, fun k hk => ?_⟩
  · rw [pt_o hc (by omega), pt_o hc (by omega)]
    exact ht w hw
  · rw [pt_w hc hc2, pt_d hc hc2]
    by_cases e : c2 = c
    · rw [if_pos e, if_pos e]
      exact hv
    · rw [if_neg e, if_neg e]
      exact hp c2 hc2
  · rw [pt_o hc (by omega)]
    exact hs k hk
theorem IS.q4 {m hb q : Nat} {s : Nat → Int32} (h : IS m hb s) (hq : q ≤ 99999) : IS m hb (upd s 4 (nI q)) := by
  obtain ⟨⟨m1, m2⟩, ⟨z, z1, z2⟩, ⟨r, r1, r2⟩, -, ht, hp, hs⟩ := h
  refine ⟨⟨m1, (uw (by omega)).trans m2⟩, ⟨z, z1, (uw (by omega)).trans z2⟩, ⟨r, r1, (uw (by omega)).trans r2⟩, ⟨q, hq, uu⟩, fun w hw => ?_, fun c hc => ?_, fun k hk => ?_⟩
  · rw [uw (by omega), uw (by omega)]
    exact ht w hw
  · rw [uw (by omega), uw (by omega)]
    exact hp c hc
  · rw [uw (by omega)]
    exact hs k hk
theorem IS.r3 {m hb r : Nat} {s : Nat → Int32} (h : IS m hb s) (hr : r ≤ 24) : IS m hb (upd s 3 (nI r)) := by
  obtain ⟨⟨m1, m2⟩, ⟨z, z1, z2⟩, -, ⟨q, q1, q2⟩, ht, hp, hs⟩ := h
  refine ⟨⟨m1, (uw (by omega)).trans m2⟩, ⟨z, z1, (uw (by omega)).trans z2⟩, ⟨r, hr, uu⟩, ⟨q, q1, (uw (by omega)).trans q2⟩, fun w hw => ?_, fun c hc => ?_, fun k hk => ?_⟩
  · rw [uw (by omega), uw (by omega)]
    exact ht w hw
  · rw [uw (by omega), uw (by omega)]
    exact hp c hc
  · rw [uw (by omega)]
    exact hs k hk
theorem IS.h0 {m hb hb2 h2 : Nat} {s : Nat → Int32} (h : IS m hb s) (hh : h2 ≤ hb2) : IS m hb2 (upd s 0 (nI h2)) := by
  obtain ⟨⟨m1, m2⟩, -, ⟨r, r1, r2⟩, ⟨q, q1, q2⟩, ht, hp, hs⟩ := h
  refine ⟨⟨m1, (uw (by omega)).trans m2⟩, ⟨h2, hh, uu⟩, ⟨r, r1, (uw (by omega)).trans r2⟩, ⟨q, q1, (uw (by omega)).trans q2⟩, fun w hw => ?_, fun c hc => ?_, fun k hk => ?_⟩
  · rw [uw (by omega), uw (by omega)]
    exact ht w hw
  · rw [uw (by omega), uw (by omega)]
    exact hp c hc
  · rw [uw (by omega)]
    exact hs k hk
theorem IS.dp {m hb c : Nat} {s : Nat → Int32} {v : Int32} (h : IS m hb s) (hc : c < 24) (hw : 0 ≤ s (5 + c)) : IS m hb (upd s (29 + c) v) := by
  obtain ⟨⟨m1, m2⟩, ⟨z, z1, z2⟩, ⟨r, r1, r2⟩, ⟨q, q1, q2⟩, ht, hp, hs⟩ := h
  refine ⟨⟨m1, (uw (by omega)).trans m2⟩, ⟨z, z1, (uw (by omega)).trans z2⟩, ⟨r, r1, (uw (by omega)).trans r2⟩, ⟨q, q1, (uw (by omega)).trans q2⟩, fun w hw => ?_, fun c2 hc2 => ?_, fun k hk => ?_⟩
  · rw [uw (by omega), uw (by omega)]
    exact ht w hw
  · rw [uw (k := 29 + c) (j := 5 + c2) (by omega)]
    by_cases e : c2 = c
    · subst e
      exact Or.inr hw
    · rw [uw (by omega)]
      exact hp c2 hc2
  · rw [uw (by omega)]
    exact hs k hk
/-! ===== one goes on ===== -/
theorem imm_rng (x : Int32) : ∃ c : Nat, c < 24 ∧ imax 0 (imin 23 x) = nI c := by
  unfold imax imin
  by_cases h1 : x < 23
  · rw [if_pos h1]
    by_cases h2 : 0 < x
    · rw [if_pos h2]
      obtain ⟨c, hc, e⟩ := rng_of (v := x) (n := 23) (by decide) (Int32.le_of_lt h2) (Int32.le_of_lt h1)
      exact ⟨c, by omega, e⟩
    · rw [if_neg h2]
      exact ⟨0, by decide, rfl⟩
  · rw [if_neg h1]
    exact ⟨23, by decide, by decide⟩
def qtS (s : Nat → Int32) (w c : Nat) : Nat → Int32 := if s (5 + c) < 0 then s else if s (5 + c) = nI w then s else upd s 4 (imin 99999 (s 4 + 1))
def goT (s : Nat → Int32) (w : Nat) (to : Int32) : Nat → Int32 := upd (upd s (77 + 6 * w + 1) to) (77 + 6 * w + 5) (imin 99999 (s (77 + 6 * w + 5) + 1))
def goP (s : Nat → Int32) (w c : Nat) (aim to : Int32) : Nat → Int32 :=
  if to = aim then goT (ptS s c (nI w) (prS s w) (lkS s w)) w to else goT (upd (ptS s c (nI w) (prS s w) (lkS s w)) (77 + 6 * w + 2) (1 - s (77 + 6 * w + 2))) w to
def goB (s : Nat → Int32) (w : Nat) (by9 : Int32) : Nat → Int32 :=
  goP (qtS s w (imax 0 (imin 23 (s (77 + 6 * w + 1) + by9))).toNatClampNeg) w (imax 0 (imin 23 (s (77 + 6 * w + 1) + by9))).toNatClampNeg (s (77 + 6 * w + 1) + by9) (imax 0 (imin 23 (s (77 + 6 * w + 1) + by9)))
def goS (s : Nat → Int32) (w : Nat) : Nat → Int32 := goB s w (if s (77 + 6 * w + 2) = 1 then strS s w else -(strS s w))
theorem goT_m {τ : St2} {s : Nat → Int32} {w : Nat} {to : Int32} (hw : w < 8) : fX4_goes_122 (mq τ s) (nI w) to = some (mq τ (goT s w to)) := by
  unfold fX4_goes_122 goT
  rw [sets_1 hw, bs, its_5 hw, bs, sets_5 hw, bs, uw (by omega)]
theorem goT_x {s : Nat → Int32} {w : Nat} (hw : w < 8) : fX1_goOn_135 (sx s) (nI w) = some (sx (upd s (77 + 6 * w + 5) (imin 99999 (s (77 + 6 * w + 5) + 1)))) := by
  unfold fX1_goOn_135
  rw [rx hw (by decide) (ix_t5 hw), bs, wx hw (by decide) (ix_t5 hw), bs]
theorem goP_m {τ : St2} {s : Nat → Int32} {w c : Nat} {by9 : Int32} (hw : w < 8) (hc : c < 24) : fX4_goes_80 (mq τ s) (nI w) by9 (nI c) = some (mq τ (goP s w c (s (77 + 6 * w + 1) + by9) (nI c))) := by
  unfold fX4_goes_80 goP
  rw [presses_m hw, bs, looks_m hw, bs, prints_m hc (nI_pos' (by omega)), bs, its_1 hw, bs, pt_o hc (by omega), goT_m hw, its_2 hw, bs, pt_o hc (by omega), sets_2 hw, bs, goT_m hw]
  split <;> rfl
theorem goP_x {s : Nat → Int32} {w c n : Nat} {aim : Int32} (hw : w < 8) (hc : c < 24) (hn : n ≤ 9) (he : s (77 + 6 * w + 4) = nI n) : fX1_goOn_91 (sx s) (nI w) (s (77 + 6 * w + 2)) aim (nI c) = some (sx (goP s w c aim (nI c))) := by
  unfold fX1_goOn_91 goP
  rw [presses_x hw hn he, bs, looks_x hw, bs, put_x hc, bs, wx hw (by decide) (ix_t1 hw), bs, goT_x hw, wx hw (by decide) (ix_t2 hw), bs, goT_x hw]
  by_cases h : nI c = aim
  · rw [if_pos h, if_pos h]
    unfold goT
    rw [uw (by omega)]
  · rw [if_neg h, if_neg h]
    unfold goT
    rw [uw (j := 77 + 6 * w + 5) (by omega), uw (j := 77 + 6 * w + 5) (by omega), uw (j := 77 + 6 * w + 5) (k := 77 + 6 * w + 2) (by omega)]
    congr 3
    funext j
    unfold upd
    by_cases h1 : j = 77 + 6 * w + 2
    · rw [if_pos h1, if_neg (by omega), if_pos h1]
    · rw [if_neg h1, if_neg h1]
theorem nlt0 {v : Int32} (h : 0 ≤ v) : ¬ v < 0 := Int32.not_lt.mpr h
theorem qt_t {s : Nat → Int32} {w c j : Nat} (hj : j ≠ 4) : qtS s w c j = s j := by
  unfold qtS
  split
  · rfl
  · split
    · rfl
    · exact uw hj
theorem goB_m {τ : St2} {s : Nat → Int32} {w : Nat} {a b : Int32} (hw : w < 8) : fX4_goes_20 (mq τ s) (nI w) a b = some (mq τ (goB s w (b * a))) := by
  unfold fX4_goes_20 goB
  rw [bs, its_1 hw, bs, bs]
  obtain ⟨c, hc, e⟩ := imm_rng (s (77 + 6 * w + 1) + b * a)
  rw [e, nI_clamp (by omega), e_5, rm (by omega), bs, goP_m hw hc, rl_4, bs, wl_4, bs, goP_m hw hc]
  unfold qtS
  by_cases h1 : s (5 + c) < 0
  · rw [if_pos h1, if_pos h1]
  · rw [if_neg h1, if_neg h1]
    by_cases h2 : s (5 + c) = nI w
    · rw [if_pos h2, if_pos h2]
    · rw [if_neg h2, if_neg h2, uw (by omega)]
theorem goB_x {s : Nat → Int32} {w n : Nat} {by9 : Int32} (hw : w < 8) (hn : n ≤ 9) (he : s (77 + 6 * w + 4) = nI n) (hp : ∀ c, c < 24 → (s (5 + c) = -1 ∧ s (29 + c) = 0) ∨ 0 ≤ s (5 + c)) : fX1_goOn_36 (sx s) (nI w) (s (77 + 6 * w + 2)) by9 (s (77 + 6 * w + 1)) = some (sx (goB s w by9)) := by
  unfold fX1_goOn_36 goB
  rw [bs, bs]
  obtain ⟨c, hc, e⟩ := imm_rng (s (77 + 6 * w + 1) + by9)
  rw [e, nI_clamp (by omega), rx hc (by decide) (ix_p0 hc), bs, goP_x hw hc hn he, bs, sx_05, px (i := 4) rfl, bs]
  have hq : fX1_goOn_91 (sx (upd s 4 (imin 99999 (s 4 + 1)))) (nI w) (s (77 + 6 * w + 2)) (s (77 + 6 * w + 1) + by9) (nI c) = some (sx (goP (upd s 4 (imin 99999 (s 4 + 1))) w c (s (77 + 6 * w + 1) + by9) (nI c))) := by
    have h := goP_x (s := upd s 4 (imin 99999 (s 4 + 1))) (aim := s (77 + 6 * w + 1) + by9) hw hc hn ((uw (by omega)).trans he)
    rw [uw (by omega)] at h
    exact h
  rw [hq]
  unfold qtS
  rcases hp c hc with ⟨h1, -⟩ | h1
  · rw [if_pos h1, h1, if_pos (by decide)]
  · have h2 : ¬ s (5 + c) = -1 := fun h => by rw [h] at h1; exact absurd h1 (by decide)
    rw [if_neg h2, if_neg (nlt0 h1)]
    by_cases h3 : s (5 + c) = nI w
    · rw [if_pos h3, if_pos h3]
    · rw [if_neg h3, if_neg h3]
theorem go_m {τ : St2} {s : Nat → Int32} {w : Nat} (hw : w < 8) : fX4_goes (mq τ s) (nI w) = some (mq τ (goS s w)) := by
  unfold fX4_goes goS
  rw [strides_m hw, bs, its_2 hw, bs, goB_m hw, goB_m hw, Int32.mul_one, show (-1 : Int32) = -(1) from rfl, Int32.mul_neg, Int32.mul_one]
  split <;> rfl
theorem go_x {s : Nat → Int32} {w n : Nat} (hw : w < 8) (hn : n ≤ 9) (he : s (77 + 6 * w + 4) = nI n) (hp : ∀ c, c < 24 → (s (5 + c) = -1 ∧ s (29 + c) = 0) ∨ 0 ≤ s (5 + c)) : fX1_goOn (sx s) (nI w) = some (sx (goS s w)) := by
  unfold fX1_goOn goS
  rw [rx hw (by decide) (ix_t2 hw), bs, rx hw (by decide) (ix_t1 hw), bs, strides_x hw, bs, bs, goB_x hw hn he hp, goB_x hw hn he hp]
  split <;> rfl
theorem imin_q {q : Nat} (h : q ≤ 99999) : ∃ q2, q2 ≤ 99999 ∧ imin 99999 (nI q + 1) = nI q2 := by
  unfold imin
  rw [one_n]
  by_cases h1 : nI (q + 1) < 99999
  · rw [if_pos h1]
    have h2 : nI (q + 1) < nI 99999 := h1
    rw [nI_ltI (by omega) (by omega)] at h2
    exact ⟨q + 1, by omega, rfl⟩
  · rw [if_neg h1]
    exact ⟨99999, by omega, rfl⟩
theorem IS.go {m hb w : Nat} {s : Nat → Int32} (h : IS m hb s) (hw : w < m) : IS m hb (goS s w) := by
  have hm := h.1.1
  have key : ∀ by9, IS m hb (goB s w by9) := by
    intro by9
    unfold goB
    obtain ⟨c, hc, e⟩ := imm_rng (s (77 + 6 * w + 1) + by9)
    rw [e, nI_clamp (by omega)]
    have hq : IS m hb (qtS s w c) := by
      unfold qtS
      split
      · exact h
      · split
        · exact h
        · obtain ⟨q, q1, q2⟩ := h.2.2.2.1
          obtain ⟨q3, q4, q5⟩ := imin_q q1
          rw [q2, q5]
          exact h.q4 q4
    generalize qtS s w c = s1 at hq
    have hpt : IS m hb (ptS s1 c (nI w) (prS s1 w) (lkS s1 w)) := hq.pt hc (Or.inr (nI_pos' (by omega)))
    unfold goP goT
    split
    · exact (hpt.un (Or.inr (Or.inr ⟨w, 1, by omega, rfl, by omega⟩))).un (Or.inr (Or.inr ⟨w, 5, by omega, rfl, by omega⟩))
    · exact ((hpt.un (Or.inr (Or.inr ⟨w, 2, by omega, rfl, by omega⟩))).un (Or.inr (Or.inr ⟨w, 1, by omega, rfl, by omega⟩))).un (Or.inr (Or.inr ⟨w, 5, by omega, rfl, by omega⟩))
  exact key _
