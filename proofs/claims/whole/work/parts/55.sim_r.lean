section SIMR
variable {hb N : Nat} {κ : St2} {s t k : Nat → Int32} {τ : St2}
/-! ===== odds ===== -/
def ExL (hb : Nat) (A B : Option (Int64 × St2)) : Prop := ∃ (r : Int64) (κ2 : St2) (s2 t2 k2 : Nat → Int32) (τ2 : St2), A = some (r, cq κ2 s2 t2 k2) ∧ B = some (r, mq τ2 s2) ∧ Inv (hb + 60) κ2 s2 k2 τ2
theorem exL_same {r : Int64} (hI : Inv hb κ s k τ) : ExL hb (some (r, cq κ s t k)) (some (r, mq τ s)) := ⟨r, κ, s, t, k, τ, rfl, rfl, hI.mono (by omega)⟩
theorem simBL (hI : Inv hb κ s k τ) : ExL hb ((fX3_tell (cq κ s t k) (-1000001)).bind fun y => some (y.1.toInt64, y.2)) ((fX4_finds (mq τ s) 0).bind fun y => some (y.1.toInt64, y.2)) := by
  rw [tell_c (i := 0) (f := -1000001) (by decide) (by decide), finds_m (i := 0) (v := 0) (by decide) rfl, bs, bs]
  exact ⟨_, _, s, t, k, _, rfl, rfl, (inv_tell hI (by decide)).mono (by omega)⟩
def gL : Nat → Int64 → Int64 → Option Int64
  | 0, _, _ => none
  | n + 1, a, b => if (lg_cmp b 0) = 0 then some a else (rmL a b).bind fun r => gL n b r
theorem gL_up : ∀ (n n2 : Nat) (a b r : Int64), n ≤ n2 → gL n a b = some r → gL n2 a b = some r := by
  intro n
  induction n with
  | zero => exact fun _ _ _ _ _ h => nomatch h
  | succ n ih =>
    intro n2 a b r hn h
    obtain ⟨n2, rfl⟩ : ∃ z, n2 = z + 1 := ⟨n2 - 1, by omega⟩
    unfold gL at h ⊢
    by_cases h1 : (lg_cmp b 0) = 0
    · rw [if_pos h1] at h ⊢
      exact h
    · rw [if_neg h1] at h ⊢
      cases h2 : rmL a b with
      | none => rw [h2] at h; cases h
      | some q =>
        rw [h2, bs] at h
        rw [bs]
        exact ih n2 b q r (by omega) h
theorem g82 {x : St2} {v3 : Int32} {v4 v6 g : Int64} : ∀ (n : Nat) (a b : Int64), gL n a b = some g → fX4_odds_82 N x v3 v4 v6 n a b = if v3 = 0 then ((dvL v4 g).bind fun w7 => some (w7, x)) else ((dvL v6 g).bind fun w6 => some (w6, x)) := by
  intro n
  induction n with
  | zero => exact fun _ _ h => nomatch h
  | succ n ih =>
    intro a b h
    unfold gL at h
    rw [fX4_odds_82]
    by_cases h1 : (lg_cmp b 0) = 0
    · rw [if_pos h1] at h ⊢
      cases h
      rfl
    · rw [if_neg h1] at h ⊢
      cases h2 : rmL a b with
      | none => rw [h2] at h; cases h
      | some q =>
        rw [h2, bs] at h
        rw [bs]
        exact ih b q h
def pwL (c : Int64) : Nat → Int64 := fun n => itr (fun _ p => p * c) n 0 1
theorem pow_c {c : Int64} {n : Nat} (hN : 1000 ≤ N) (hn : n ≤ 12) : fX3_power N c (nI n) = some (pwL c n) := by
  have key := itr_loop (ρ := Int64) (fun f (p : Int64) i => fX3_power_5 N c (nI n) f p (nI i)) (fun _ _ => True) (fun _ p => p * c) n (fun p => some p) (fun f p i hi _ => by
      show fX3_power_5 N c (nI n) (f + 1) p (nI i) = fX3_power_5 N c (nI n) f (p * c) (nI (i + 1))
      rw [fX3_power_5, if_neg (nle_n hi (by omega)), bs, one_n]) (fun _ _ _ _ => trivial) (fun f p _ => by
      show fX3_power_5 N c (nI n) (f + 1) p (nI n) = some p
      rw [fX3_power_5, if_pos (le_n (Nat.le_refl _) (by omega))]) n 0 1 N (by omega) (by omega) trivial
  exact key.1
theorem o45 {x : St2} {v1 v3 : Int32} {n : Nat} (hN : 1000 ≤ N) (hn : n ≤ 12) : fX4_odds_45 N x v1 (nI n) v3 N 1 1 0 = fX4_odds_82 N x v3 (itr (fun _ (p : Int64 × Int64) => (p.1 * (v1 + 1).toInt64, p.2 * 25)) n 0 (1, 1)).1 (itr (fun _ (p : Int64 × Int64) => (p.1 * (v1 + 1).toInt64, p.2 * 25)) n 0 (1, 1)).2 N (itr (fun _ (p : Int64 × Int64) => (p.1 * (v1 + 1).toInt64, p.2 * 25)) n 0 (1, 1)).1 (itr (fun _ (p : Int64 × Int64) => (p.1 * (v1 + 1).toInt64, p.2 * 25)) n 0 (1, 1)).2 := by
  have key := itr_loop (ρ := Int64 × St2) (fun f (p : Int64 × Int64) i => fX4_odds_45 N x v1 (nI n) v3 f p.1 p.2 (nI i)) (fun _ _ => True) (fun _ p => (p.1 * (v1 + 1).toInt64, p.2 * 25)) n (fun p => fX4_odds_82 N x v3 p.1 p.2 N p.1 p.2) (fun f p i hi _ => by
      show fX4_odds_45 N x v1 (nI n) v3 (f + 1) p.1 p.2 (nI i) = fX4_odds_45 N x v1 (nI n) v3 f (p.1 * (v1 + 1).toInt64) (p.2 * 25) (nI (i + 1))
      rw [fX4_odds_45, if_neg (nle_n hi (by omega)), bs, bs, one_n]) (fun _ _ _ _ => trivial) (fun f p _ => by
      show fX4_odds_45 N x v1 (nI n) v3 (f + 1) p.1 p.2 (nI n) = _
      rw [fX4_odds_45, if_pos (le_n (Nat.le_refl _) (by omega))]) n 0 (1, 1) N (by omega) (by omega) trivial
  exact key.1
def odA (c n : Nat) : Int64 × Int64 := itr (fun _ (p : Int64 × Int64) => (p.1 * (nI c + 1).toInt64, p.2 * 25)) n 0 (1, 1)
def odS (c : Nat) : Int32 := if ((nI c + 1) - (nI c + 1) / 5 * 5) = 0 then 5 else 1
theorem odds_t : ∀ c, c < 24 → ∀ n, n ≤ 12 → ∃ g, gL 60 (odA c n).1 (odA c n).2 = some g ∧ dvL (odA c n).1 g = some (pwL ((nI c + 1) / odS c).toInt64 n) ∧ dvL (odA c n).2 g = some (pwL ((25 : Int32) / odS c).toInt64 n) := by
  have key : ∀ c, c < 24 → ∀ n, n ≤ 12 → (gL 60 (odA c n).1 (odA c n).2).isSome = true ∧ dvL (odA c n).1 ((gL 60 (odA c n).1 (odA c n).2).getD 0) = some (pwL ((nI c + 1) / odS c).toInt64 n) ∧ dvL (odA c n).2 ((gL 60 (odA c n).1 (odA c n).2).getD 0) = some (pwL ((25 : Int32) / odS c).toInt64 n) := by decide +kernel
  intro c hc n hn
  obtain ⟨h1, h2, h3⟩ := key c hc n hn
  obtain ⟨g, hg⟩ := Option.isSome_iff_exists.mp h1
  rw [hg] at h2 h3
  exact ⟨g, hg, h2, h3⟩
theorem sim_odds {a n w : Int32} (hN : 1000 ≤ N) (hI : Inv hb κ s k τ) : ExL hb (fX3_odds N (cq κ s t k) a n w) (fX4_odds N (mq τ s) a n w) := by
  unfold fX3_odds fX4_odds
  rw [isCell_eq, isCell4_eq, within_eq, within_eq, in_eq (b := 0) (c := 12) (by decide) (by decide), in_eq (b := 0) (c := 1) (by decide) (by decide)]
  simp only [bs, bl0]
  by_cases h1 : 0 ≤ a ∧ a ≤ 23
  · obtain ⟨c, hc, rfl⟩ := cell_of h1
    rw [if_pos h1, if_pos h1]
    by_cases h2 : 0 ≤ n ∧ n ≤ 12
    · obtain ⟨q, hq, rfl⟩ := rng_of (n := 12) (by decide) h2.1 h2.2
      rw [if_pos h2, if_pos h2]
      by_cases h3 : 0 ≤ w ∧ w ≤ 1
      · obtain ⟨g, g1, g2, g3⟩ := odds_t c hc q hq
        have e1 : fX4_odds_45 N (mq τ s) (nI c) (nI q) w N 1 1 0 = fX4_odds_82 N (mq τ s) w (odA c q).1 (odA c q).2 N (odA c q).1 (odA c q).2 := o45 hN hq
        have hs5 : ∀ z : Int32, (z = 5 ∨ z = 1) → ∀ x : Int32, dv x z = some (x / z) := fun z hz x => by
          unfold dv
          rcases hz with rfl | rfl
          · exact if_neg (by decide)
          · exact if_neg (by decide)
        have hz : odS c = 5 ∨ odS c = 1 := by
          unfold odS
          split
          · exact Or.inl rfl
          · exact Or.inr rfl
        have e2 : (if ((nI c + 1) - (nI c + 1) / 5 * 5) = 0 then (fX3_odds_51 N (cq κ s t k) (nI q) w (nI c + 1) 5) else (fX3_odds_51 N (cq κ s t k) (nI q) w (nI c + 1) 1)) = fX3_odds_51 N (cq κ s t k) (nI q) w (nI c + 1) (odS c) := by
          unfold odS
          split <;> rfl
        rw [if_pos h3, if_pos h3, e1, g82 N _ _ (gL_up 60 N _ _ _ (by omega) g1), e2]
        unfold fX3_odds_51
        rw [hs5 _ hz, hs5 _ hz, bs, bs, pow_c hN hq, pow_c hN hq, bs, bs, g2, g3, bs, bs]
        by_cases h4 : w = 0
        · rw [if_pos h4, if_pos h4]
          exact exL_same hI
        · rw [if_neg h4, if_neg h4]
          exact exL_same hI
      · rw [if_neg h3, if_neg h3]
        exact simBL hI
    · rw [if_neg h2, if_neg h2]
      exact simBL hI
  · rw [if_neg h1, if_neg h1]
    exact simBL hI
end SIMR
