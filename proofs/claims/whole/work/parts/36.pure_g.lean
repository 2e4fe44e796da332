/-! ===== sets and sums of a row ===== -/
theorem le24 (i : Nat) : (24 : Int32) ≤ nI i ↔ nI 24 ≤ nI i := Iff.rfl
def wkN (s : Nat → Int32) (v : Int32) : Nat := bsN (fun c => decide (s (5 + c) = v)) 24
def pdN (s : Nat → Int32) : Nat := bsN (fun c => decide (¬ s (5 + c) < 0)) 24
def waN (m : Nat) (s : Nat → Int32) (v : Int32) : Nat := bsN (fun w => decide (s (77 + 6 * w + 1) = v)) m
theorem bsN_s (p : Nat → Bool) (i : Nat) : bsN p (i + 1) = if p i then bsN p i + 2 ^ i else bsN p i := by
  show bsN p i + (if p i then 2 ^ i else 0) = _
  split <;> rfl
theorem workSet_x {N : Nat} {s : Nat → Int32} {v : Int32} (hN : 1000 ≤ N) : fX1_workSet N (sx s) v = some (nI (wkN s v)) := by
  have key := itr_loop (ρ := Int32) (fun n (p : Int32) i => fX1_workSet_4 N (sx s) v n p (nI i)) (fun i p => p = nI (bsN (fun c => decide (s (5 + c) = v)) i)) (fun i _ => nI (bsN (fun c => decide (s (5 + c) = v)) (i + 1))) 24 (fun p => some p) (fun n p i hi hp => by
      show fX1_workSet_4 N (sx s) v (n + 1) p (nI i) = fX1_workSet_4 N (sx s) v n (nI (bsN (fun c => decide (s (5 + c) = v)) (i + 1))) (nI (i + 1))
      rw [fX1_workSet_4, show (24 : Int32) = nI 24 from rfl, if_neg (nle_n hi (by omega)), rx hi (by decide) (ix_p0 hi), bs, bs, hp, or_bit (bsN_lt _ i) (by omega), bsN_s]
      unfold fX1_workSet_28
      rw [one_n]
      by_cases h : s (5 + i) = v
      · rw [if_pos h, if_pos (decide_eq_true h)]
      · rw [if_neg h, if_neg (by simp [h])]) (fun p i hi hp => rfl) (fun n p hp => by
      show fX1_workSet_4 N (sx s) v (n + 1) p (nI 24) = some p
      rw [fX1_workSet_4, show (24 : Int32) = nI 24 from rfl, if_pos (le_n (Nat.le_refl _) (by omega))]) 24 0 0 N (by omega) (by omega) rfl
  have h := key.1
  rw [key.2] at h
  exact h
theorem workOf_m {N : Nat} {τ : St2} {s : Nat → Int32} {v : Int32} (hN : 1000 ≤ N) : fX4_workOf N (mq τ s) v = some (nI (wkN s v)) := by
  have key := itr_loop (ρ := Int32) (fun n (p : Int32) i => fX4_workOf_4 N (mq τ s) v n p (nI i)) (fun i p => p = nI (bsN (fun c => decide (s (5 + c) = v)) i)) (fun i _ => nI (bsN (fun c => decide (s (5 + c) = v)) (i + 1))) 24 (fun p => some p) (fun n p i hi hp => by
      show fX4_workOf_4 N (mq τ s) v (n + 1) p (nI i) = fX4_workOf_4 N (mq τ s) v n (nI (bsN (fun c => decide (s (5 + c) = v)) (i + 1))) (nI (i + 1))
      rw [fX4_workOf_4, show (24 : Int32) = nI 24 from rfl, if_neg (nle_n hi (by omega)), e_5, rm (by omega), bs, bsN_s]
      unfold fX4_workOf_30
      rw [bs, bs, hp, or_bit (bsN_lt _ i) (by omega), Int32.or_zero, one_n]
      by_cases h : s (5 + i) = v
      · rw [if_pos h, if_pos (decide_eq_true h)]
      · rw [if_neg h, if_neg (by simp [h])]) (fun p i hi hp => rfl) (fun n p hp => by
      show fX4_workOf_4 N (mq τ s) v (n + 1) p (nI 24) = some p
      rw [fX4_workOf_4, show (24 : Int32) = nI 24 from rfl, if_pos (le_n (Nat.le_refl _) (by omega))]) 24 0 0 N (by omega) (by omega) rfl
  have h := key.1
  rw [key.2] at h
  exact h
theorem printed_m {N : Nat} {τ : St2} {s : Nat → Int32} (hN : 1000 ≤ N) : fX4_printed N (mq τ s) = some (nI (pdN s)) := by
  have key := itr_loop (ρ := Int32) (fun n (p : Int32) i => fX4_printed_4 N (mq τ s) n p (nI i)) (fun i p => p = nI (bsN (fun c => decide (¬ s (5 + c) < 0)) i)) (fun i _ => nI (bsN (fun c => decide (¬ s (5 + c) < 0)) (i + 1))) 24 (fun p => some p) (fun n p i hi hp => by
      show fX4_printed_4 N (mq τ s) (n + 1) p (nI i) = fX4_printed_4 N (mq τ s) n (nI (bsN (fun c => decide (¬ s (5 + c) < 0)) (i + 1))) (nI (i + 1))
      rw [fX4_printed_4, show (24 : Int32) = nI 24 from rfl, if_neg (nle_n hi (by omega)), e_5, rm (by omega), bs, bsN_s]
      unfold fX4_printed_29
      rw [bs, bs, hp, or_bit (bsN_lt _ i) (by omega), Int32.or_zero, one_n]
      by_cases h : s (5 + i) < 0
      · rw [if_pos h, if_neg (by simp [h])]
      · rw [if_neg h, if_pos (decide_eq_true h)]) (fun p i hi hp => rfl) (fun n p hp => by
      show fX4_printed_4 N (mq τ s) (n + 1) p (nI 24) = some p
      rw [fX4_printed_4, show (24 : Int32) = nI 24 from rfl, if_pos (le_n (Nat.le_refl _) (by omega))]) 24 0 0 N (by omega) (by omega) rfl
  have h := key.1
  rw [key.2] at h
  exact h
theorem walkersAt_x {N m hb : Nat} {s : Nat → Int32} {v : Int32} (hN : 1000 ≤ N) (hs : IS m hb s) : fX1_walkersAt N (sx s) v = some (nI (waN m s v)) := by
  have hm := hs.1.1
  have key := itr_loop (ρ := Int32) (fun n (p : Int32) i => fX1_walkersAt_4 N (sx s) v n p (nI i)) (fun i p => p = nI (waN i s v)) (fun i _ => nI (waN (i + 1) s v)) m (fun p => some p) (fun n p i hi hp => by
      have hi8 : i < 8 := by omega
      show fX1_walkersAt_4 N (sx s) v (n + 1) p (nI i) = fX1_walkersAt_4 N (sx s) v n (nI (waN (i + 1) s v)) (nI (i + 1))
      unfold waN
      rw [fX1_walkersAt_4, sx_03, hs.1.2, if_neg (nle_n hi (by omega)), rx hi8 (by decide) (ix_t1 hi8), bs, bs, hp]
      unfold waN
      rw [or_bit (bsN_lt _ i) (by omega), bsN_s]
      unfold fX1_walkersAt_30
      rw [one_n]
      by_cases h : s (77 + 6 * i + 1) = v
      · rw [if_pos h, if_pos (decide_eq_true h)]
      · rw [if_neg h, if_neg (by simp [h])]) (fun p i hi hp => rfl) (fun n p hp => by
      show fX1_walkersAt_4 N (sx s) v (n + 1) p (nI m) = some p
      rw [fX1_walkersAt_4, sx_03, hs.1.2, if_pos (le_n (Nat.le_refl _) (by omega))]) m 0 0 N (by omega) (by omega) rfl
  have h := key.1
  rw [key.2] at h
  exact h
theorem walkersAt_m {N m hb : Nat} {τ : St2} {s : Nat → Int32} {v : Int32} (hN : 1000 ≤ N) (hs : IS m hb s) : fX4_walkersAt N (mq τ s) v = some (nI (waN m s v)) := by
  have hm := hs.1.1
  have key := itr_loop (ρ := Int32) (fun n (p : Int32) i => fX4_walkersAt_4 N (mq τ s) v n p (nI i)) (fun i p => p = nI (waN i s v)) (fun i _ => nI (waN (i + 1) s v)) m (fun p => some p) (fun n p i hi hp => by
      show fX4_walkersAt_4 N (mq τ s) v (n + 1) p (nI i) = fX4_walkersAt_4 N (mq τ s) v n (nI (waN (i + 1) s v)) (nI (i + 1))
      unfold waN
      rw [fX4_walkersAt_4, rl_2, bs, hs.1.2, if_neg (nle_n hi (by omega)), its_1 (by omega), bs, hp]
      unfold waN fX4_walkersAt_32
      rw [bs, bs, or_bit (bsN_lt _ i) (by omega), bsN_s, Int32.or_zero, one_n]
      by_cases h : s (77 + 6 * i + 1) = v
      · rw [if_pos h, if_pos (decide_eq_true h)]
      · rw [if_neg h, if_neg (by simp [h])]) (fun p i hi hp => rfl) (fun n p hp => by
      show fX4_walkersAt_4 N (mq τ s) v (n + 1) p (nI m) = some p
      rw [fX4_walkersAt_4, rl_2, bs, hs.1.2, if_pos (le_n (Nat.le_refl _) (by omega))]) m 0 0 N (by omega) (by omega) rfl
  have h := key.1
  rw [key.2] at h
  exact h
theorem wkN_lt (s : Nat → Int32) (v : Int32) : wkN s v < 16777216 := bsN_lt _ 24
theorem pdN_lt (s : Nat → Int32) : pdN s < 16777216 := bsN_lt _ 24
theorem workSize_x {N : Nat} {s : Nat → Int32} {v : Int32} (hN : 1000 ≤ N) : fX1_workSize N (sx s) v = some (nI (pcs 24 (wkN s v))) := by
  unfold fX1_workSize
  rw [workSet_x hN, bs, bitCount_n (wkN_lt s v), bs]
theorem flip24 {a : Nat} (ha : a < 2 ^ 24) : (nI a ^^^ (-1)) &&& 16777215 = nI (2 ^ 24 - (a + 1)) := by
  rw [show (-1 : Int32) = nI (2 ^ 32 - 1) from rfl, show (16777215 : Int32) = nI (2 ^ 24 - 1) from rfl, xo_n, an_n]
  congr 1
  apply Nat.eq_of_testBit_eq
  intro i
  rw [Nat.testBit_and, Nat.testBit_xor, Nat.testBit_two_pow_sub_one, Nat.testBit_two_pow_sub_one, Nat.testBit_two_pow_sub_succ ha]
  by_cases h : i < 24
  · simp [h, show i < 32 by omega]
  · simp [h]
theorem printSet_x {N m hb : Nat} {s : Nat → Int32} (hN : 1000 ≤ N) (hs : IS m hb s) : fX1_printSet N (sx s) = some (nI (pdN s)) := by
  unfold fX1_printSet
  rw [workSet_x hN, bs, flip24 (wkN_lt s (-1))]
  have h := bsN_not (fun c => decide (s (5 + c) = -1)) 24
  have h2 : bsN (fun c => !decide (s (5 + c) = -1)) 24 = pdN s := bsN_cong (fun c hc => by
    rcases hs.2.2.2.2.2.1 c hc with ⟨h1, -⟩ | h1
    · rw [h1]
      decide
    · have h3 : ¬ s (5 + c) = -1 := fun e => by rw [e] at h1; exact absurd h1 (by decide)
      have h4 := nlt0 h1
      simp [h3, h4])
  rw [h2] at h
  have h5 : 2 ^ 24 - (wkN s (-1) + 1) = pdN s := by
    unfold wkN
    omega
  rw [h5]
theorem printCount_x {N m hb : Nat} {s : Nat → Int32} (hN : 1000 ≤ N) (hs : IS m hb s) : fX1_printCount N (sx s) = some (nI (pcs 24 (pdN s))) := by
  unfold fX1_printCount
  rw [printSet_x hN hs, bs, bitCount_n (pdN_lt s), bs]
/-- sums that both take in the same order -/
def dpS (s : Nat → Int32) : Int32 := itr (fun c a => a + s (29 + c)) 24 0 0
def stS (m : Nat) (s : Nat → Int32) : Int32 := itr (fun w a => a + s (77 + 6 * w + 5)) m 0 0
def hdS (s : Nat → Int32) : Int32 := itr (fun k a => if s (125 + k) = -1 then a else a + 1) 10 0 0
def lnG (s : Nat → Int32) (v : Int32) (c : Nat) (p : Int32 × Int32) : Int32 × Int32 := (imax p.1 (if s (5 + c) = v then p.2 + 1 else 0), if s (5 + c) = v then p.2 + 1 else 0)
def lnS (s : Nat → Int32) (v : Int32) : Int32 := (itr (lnG s v) 24 0 (0, 0)).1
theorem depth_x {N : Nat} {s : Nat → Int32} (hN : 1000 ≤ N) : fX1_depthSum N (sx s) = some (dpS s) := by
  exact (itr_loop (ρ := Int32) (fun n (p : Int32) i => fX1_depthSum_4 N (sx s) n p (nI i)) (fun _ _ => True) (fun c a => a + s (29 + c)) 24 (fun p => some p) (fun n p i hi hp => by
      show fX1_depthSum_4 N (sx s) (n + 1) p (nI i) = fX1_depthSum_4 N (sx s) n (p + s (29 + i)) (nI (i + 1))
      rw [fX1_depthSum_4, show (24 : Int32) = nI 24 from rfl, if_neg (nle_n hi (by omega)), rx hi (by decide) (ix_p1 hi), bs, bs, one_n]) (fun p i hi hp => trivial) (fun n p hp => by
      show fX1_depthSum_4 N (sx s) (n + 1) p (nI 24) = some p
      rw [fX1_depthSum_4, show (24 : Int32) = nI 24 from rfl, if_pos (le_n (Nat.le_refl _) (by omega))]) 24 0 0 N (by omega) (by omega) trivial).1
theorem depth_m {N : Nat} {τ : St2} {s : Nat → Int32} (hN : 1000 ≤ N) : fX4_depths N (mq τ s) = some (dpS s) := by
  exact (itr_loop (ρ := Int32) (fun n (p : Int32) i => fX4_depths_4 N (mq τ s) n p (nI i)) (fun _ _ => True) (fun c a => a + s (29 + c)) 24 (fun p => some p) (fun n p i hi hp => by
      show fX4_depths_4 N (mq τ s) (n + 1) p (nI i) = fX4_depths_4 N (mq τ s) n (p + s (29 + i)) (nI (i + 1))
      rw [fX4_depths_4, show (24 : Int32) = nI 24 from rfl, if_neg (nle_n hi (by omega)), e_29, rm (by omega), bs, bs, one_n]) (fun p i hi hp => trivial) (fun n p hp => by
      show fX4_depths_4 N (mq τ s) (n + 1) p (nI 24) = some p
      rw [fX4_depths_4, show (24 : Int32) = nI 24 from rfl, if_pos (le_n (Nat.le_refl _) (by omega))]) 24 0 0 N (by omega) (by omega) trivial).1
theorem steps_x {N m hb : Nat} {s : Nat → Int32} (hN : 1000 ≤ N) (hs : IS m hb s) : fX1_stepSum N (sx s) = some (stS m s) := by
  have hm := hs.1.1
  exact (itr_loop (ρ := Int32) (fun n (p : Int32) i => fX1_stepSum_4 N (sx s) n p (nI i)) (fun _ _ => True) (fun w a => a + s (77 + 6 * w + 5)) m (fun p => some p) (fun n p i hi hp => by
      have hi8 : i < 8 := by omega
      show fX1_stepSum_4 N (sx s) (n + 1) p (nI i) = fX1_stepSum_4 N (sx s) n (p + s (77 + 6 * i + 5)) (nI (i + 1))
      rw [fX1_stepSum_4, sx_03, hs.1.2, if_neg (nle_n hi (by omega)), rx hi8 (by decide) (ix_t5 hi8), bs, bs, one_n]) (fun p i hi hp => trivial) (fun n p hp => by
      show fX1_stepSum_4 N (sx s) (n + 1) p (nI m) = some p
      rw [fX1_stepSum_4, sx_03, hs.1.2, if_pos (le_n (Nat.le_refl _) (by omega))]) m 0 0 N (by omega) (by omega) trivial).1
theorem steps_m {N m hb : Nat} {τ : St2} {s : Nat → Int32} (hN : 1000 ≤ N) (hs : IS m hb s) : fX4_allSteps N (mq τ s) = some (stS m s) := by
  have hm := hs.1.1
  exact (itr_loop (ρ := Int32) (fun n (p : Int32) i => fX4_allSteps_4 N (mq τ s) n p (nI i)) (fun _ _ => True) (fun w a => a + s (77 + 6 * w + 5)) m (fun p => some p) (fun n p i hi hp => by
      show fX4_allSteps_4 N (mq τ s) (n + 1) p (nI i) = fX4_allSteps_4 N (mq τ s) n (p + s (77 + 6 * i + 5)) (nI (i + 1))
      rw [fX4_allSteps_4, rl_2, bs, hs.1.2, if_neg (nle_n hi (by omega)), its_5 (by omega), bs, bs, one_n]) (fun p i hi hp => trivial) (fun n p hp => by
      show fX4_allSteps_4 N (mq τ s) (n + 1) p (nI m) = some p
      rw [fX4_allSteps_4, rl_2, bs, hs.1.2, if_pos (le_n (Nat.le_refl _) (by omega))]) m 0 0 N (by omega) (by omega) trivial).1
theorem held_x {N : Nat} {s : Nat → Int32} (hN : 1000 ≤ N) : fX1_heldCount N (sx s) = some (hdS s) := by
  exact (itr_loop (ρ := Int32) (fun n (p : Int32) i => fX1_heldCount_4 N (sx s) n p (nI i)) (fun _ _ => True) (fun k a => if s (125 + k) = -1 then a else a + 1) 10 (fun p => some p) (fun n p i hi hp => by
      show fX1_heldCount_4 N (sx s) (n + 1) p (nI i) = fX1_heldCount_4 N (sx s) n (if s (125 + i) = -1 then p else p + 1) (nI (i + 1))
      rw [fX1_heldCount_4, show (10 : Int32) = nI 10 from rfl, if_neg (nle_n hi (by omega)), rx hi (by decide) (ix_sp hi), bs]
      unfold fX1_heldCount_23
      rw [one_n]
      split <;> rfl) (fun p i hi hp => trivial) (fun n p hp => by
      show fX1_heldCount_4 N (sx s) (n + 1) p (nI 10) = some p
      rw [fX1_heldCount_4, show (10 : Int32) = nI 10 from rfl, if_pos (le_n (Nat.le_refl _) (by omega))]) 10 0 0 N (by omega) (by omega) trivial).1
theorem e_125 (c : Nat) : 125 + nI c = nI (125 + c) := nI_add 125 c
theorem held_m {N m hb : Nat} {τ : St2} {s : Nat → Int32} (hN : 1000 ≤ N) (hs : IS m hb s) : fX4_held N (mq τ s) = some (hdS s) := by
  exact (itr_loop (ρ := Int32) (fun n (p : Int32) i => fX4_held_4 N (mq τ s) n p (nI i)) (fun _ _ => True) (fun k a => if s (125 + k) = -1 then a else a + 1) 10 (fun p => some p) (fun n p i hi hp => by
      show fX4_held_4 N (mq τ s) (n + 1) p (nI i) = fX4_held_4 N (mq τ s) n (if s (125 + i) = -1 then p else p + 1) (nI (i + 1))
      rw [fX4_held_4, show (10 : Int32) = nI 10 from rfl, if_neg (nle_n hi (by omega)), e_125, rm (by omega), bs]
      unfold fX4_held_28
      rw [bs, bs, one_n, Int32.add_zero]
      rcases hs.2.2.2.2.2.2 i hi with h1 | ⟨w, hw, h1⟩
      · rw [h1, if_neg (by decide), if_pos rfl]
      · have h3 : ¬ s (125 + i) = -1 := fun e => by
          rw [h1] at e
          have h9 : 0 ≤ nI w := nI_pos' (by have := hs.1.1; omega)
          rw [e] at h9
          exact absurd h9 (by decide)
        rw [if_neg h3, h1, if_pos (nI_pos' (by have := hs.1.1; omega))]) (fun p i hi hp => trivial) (fun n p hp => by
      show fX4_held_4 N (mq τ s) (n + 1) p (nI 10) = some p
      rw [fX4_held_4, show (10 : Int32) = nI 10 from rfl, if_pos (le_n (Nat.le_refl _) (by omega))]) 10 0 0 N (by omega) (by omega) trivial).1
theorem line_x {N : Nat} {s : Nat → Int32} {v : Int32} (hN : 1000 ≤ N) : fX1_longestLine N (sx s) v = some (lnS s v) := by
  exact (itr_loop (ρ := Int32) (fun n (p : Int32 × Int32) i => fX1_longestLine_7 N (sx s) v n p.1 p.2 (nI i)) (fun _ _ => True) (lnG s v) 24 (fun p => some p.1) (fun n p i hi hp => by
      show fX1_longestLine_7 N (sx s) v (n + 1) p.1 p.2 (nI i) = fX1_longestLine_7 N (sx s) v n (lnG s v i p).1 (lnG s v i p).2 (nI (i + 1))
      rw [fX1_longestLine_7, show (24 : Int32) = nI 24 from rfl, if_neg (nle_n hi (by omega)), rx hi (by decide) (ix_p0 hi), bs]
      unfold fX1_longestLine_34 lnG
      rw [bs, bs, one_n]
      split <;> rfl) (fun p i hi hp => trivial) (fun n p hp => by
      show fX1_longestLine_7 N (sx s) v (n + 1) p.1 p.2 (nI 24) = some p.1
      rw [fX1_longestLine_7, show (24 : Int32) = nI 24 from rfl, if_pos (le_n (Nat.le_refl _) (by omega))]) 24 0 (0, 0) N (by omega) (by omega) trivial).1
theorem line_m {N : Nat} {τ : St2} {s : Nat → Int32} {v : Int32} (hN : 1000 ≤ N) : fX4_line_21 N (mq τ s) v N 0 0 0 = some (lnS s v, mq τ s) := by
  exact (itr_loop (ρ := Int32 × St2) (fun n (p : Int32 × Int32) i => fX4_line_21 N (mq τ s) v n p.1 p.2 (nI i)) (fun _ _ => True) (lnG s v) 24 (fun p => some (p.1, mq τ s)) (fun n p i hi hp => by
      show fX4_line_21 N (mq τ s) v (n + 1) p.1 p.2 (nI i) = fX4_line_21 N (mq τ s) v n (lnG s v i p).1 (lnG s v i p).2 (nI (i + 1))
      rw [fX4_line_21, show (24 : Int32) = nI 24 from rfl, if_neg (nle_n hi (by omega)), e_5, rm (by omega), bs]
      unfold fX4_line_48 lnG
      rw [bs, bs, one_n]
      split <;> rfl) (fun p i hi hp => trivial) (fun n p hp => by
      show fX4_line_21 N (mq τ s) v (n + 1) p.1 p.2 (nI 24) = some (p.1, mq τ s)
      rw [fX4_line_21, show (24 : Int32) = nI 24 from rfl, if_pos (le_n (Nat.le_refl _) (by omega))]) 24 0 (0, 0) N (by omega) (by omega) trivial).1
/-! the walker whose work is greatest -/
def szN (s : Nat → Int32) (w : Nat) : Nat := pcs 24 (wkN s (nI w))
def grG (s : Nat → Int32) (w : Nat) (p : Int32 × Int32) : Int32 × Int32 := if nI (szN s w) ≤ p.2 then p else (nI w, nI (szN s w))
def grS (m : Nat) (s : Nat → Int32) : Int32 := (itr (grG s) m 0 (-1, -1)).1
theorem szN_lt (s : Nat → Int32) (w : Nat) : szN s w ≤ 24 := pcs_le 24 _
theorem great_x {N m hb : Nat} {s : Nat → Int32} (hN : 1000 ≤ N) (hs : IS m hb s) : fX1_greatestAuthor N (sx s) = some (grS m s) := by
  have hm := hs.1.1
  exact (itr_loop (ρ := Int32) (fun n (p : Int32 × Int32) i => fX1_greatestAuthor_6 N (sx s) n p.1 p.2 (nI i)) (fun _ _ => True) (grG s) m (fun p => some p.1) (fun n p i hi hp => by
      show fX1_greatestAuthor_6 N (sx s) (n + 1) p.1 p.2 (nI i) = fX1_greatestAuthor_6 N (sx s) n (grG s i p).1 (grG s i p).2 (nI (i + 1))
      rw [fX1_greatestAuthor_6, sx_03, hs.1.2, if_neg (nle_n hi (by omega)), workSize_x hN, bs]
      unfold fX1_greatestAuthor_32 grG szN
      rw [one_n]
      split <;> rfl) (fun p i hi hp => trivial) (fun n p hp => by
      show fX1_greatestAuthor_6 N (sx s) (n + 1) p.1 p.2 (nI m) = some p.1
      rw [fX1_greatestAuthor_6, sx_03, hs.1.2, if_pos (le_n (Nat.le_refl _) (by omega))]) m 0 (-1, -1) N (by omega) (by omega) trivial).1
theorem great_m {N m hb : Nat} {τ : St2} {s : Nat → Int32} (hN : 1000 ≤ N) (hs : IS m hb s) : fX4_greatest N (mq τ s) = some (grS m s) := by
  have hm := hs.1.1
  have z1 : ∀ k, k ≤ 24 → ¬ nI k ≤ (-1 : Int32) := by decide +kernel
  exact (itr_loop (ρ := Int32) (fun n (p : Int32 × Int32) i => fX4_greatest_4 N (mq τ s) n p.1 (nI i)) (fun i p => (p = (-1, -1)) ∨ ∃ b, b < i ∧ p = (nI b, nI (szN s b))) (grG s) m (fun p => some p.1) (fun n p i hi hp => by
      show fX4_greatest_4 N (mq τ s) (n + 1) p.1 (nI i) = fX4_greatest_4 N (mq τ s) n (grG s i p).1 (nI (i + 1))
      rw [fX4_greatest_4, rl_2, bs, hs.1.2, if_neg (nle_n hi (by omega))]
      unfold fX4_greatest_37 fX4_greatest_42 grG
      rw [one_n]
      rcases hp with rfl | ⟨b, hb2, rfl⟩
      · rw [if_pos (by decide), if_neg (z1 _ (szN_lt s i))]
      · rw [if_neg (nI_pos (by omega)), workOf_m hN, bs, ones_n hN (Nat.lt_trans (wkN_lt _ _) (by decide)), bs, workOf_m hN, bs, ones_n hN (Nat.lt_trans (wkN_lt _ _) (by decide)), bs]
        unfold szN
        split <;> rfl) (fun p i hi hp => by
      unfold grG
      split
      · rcases hp with h | ⟨b, hb2, h⟩
        · exact Or.inl h
        · exact Or.inr ⟨b, by omega, h⟩
      · exact Or.inr ⟨i, by omega, rfl⟩) (fun n p hp => by
      show fX4_greatest_4 N (mq τ s) (n + 1) p.1 (nI m) = some p.1
      rw [fX4_greatest_4, rl_2, bs, hs.1.2, if_pos (le_n (Nat.le_refl _) (by omega))]) m 0 (-1, -1) N (by omega) (by omega) (Or.inl rfl)).1
