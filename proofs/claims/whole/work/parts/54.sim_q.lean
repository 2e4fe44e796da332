section SIMQ
variable {hb N n m b b0 i w : Nat} {f : Nat → Nat} {κ : St2} {g s t k : Nat → Int32} {τ : St2} {h : Nat → Int32} {c3 c5 : Int32}
def kW (f : Nat → Nat) (n b : Nat) : Int32 := if Wd f n b 0 = true then 0 else if Wd f n b 1 = true then 1 else if Wd f n b 2 = true then 2 else if Wd f n b 3 = true then 3 else if Wd f n b 4 = true then 4 else if Wd f n b 5 = true then 5 else if Wd f n b 6 = true then 6 else (-1)
theorem kW_n (hB : By n f (κ 3)) (hb9 : b ≤ n) (h9 : ¬ kW f n b < 0) : ∃ kk, kk ≤ 6 ∧ kW f n b = nI kk ∧ b < n := by
  unfold kW at h9 ⊢
  have key : ∀ i, i < 13 → Wd f n b i = true → b < n := fun i hi hw => Wd_lt hB hb9 hi hw
  by_cases w0 : Wd f n b 0 = true
  · rw [if_pos w0]
    exact ⟨0, by decide, rfl, key 0 (by decide) w0⟩
  rw [if_neg w0] at h9 ⊢
  by_cases w1 : Wd f n b 1 = true
  · rw [if_pos w1]
    exact ⟨1, by decide, rfl, key 1 (by decide) w1⟩
  rw [if_neg w1] at h9 ⊢
  by_cases w2 : Wd f n b 2 = true
  · rw [if_pos w2]
    exact ⟨2, by decide, rfl, key 2 (by decide) w2⟩
  rw [if_neg w2] at h9 ⊢
  by_cases w3 : Wd f n b 3 = true
  · rw [if_pos w3]
    exact ⟨3, by decide, rfl, key 3 (by decide) w3⟩
  rw [if_neg w3] at h9 ⊢
  by_cases w4 : Wd f n b 4 = true
  · rw [if_pos w4]
    exact ⟨4, by decide, rfl, key 4 (by decide) w4⟩
  rw [if_neg w4] at h9 ⊢
  by_cases w5 : Wd f n b 5 = true
  · rw [if_pos w5]
    exact ⟨5, by decide, rfl, key 5 (by decide) w5⟩
  rw [if_neg w5] at h9 ⊢
  by_cases w6 : Wd f n b 6 = true
  · rw [if_pos w6]
    exact ⟨6, by decide, rfl, key 6 (by decide) w6⟩
  rw [if_neg w6] at h9
  exact absurd (show (-1 : Int32) < 0 by decide) h9
theorem kind_c (hN : 1000 ≤ N) (hB : By n f (κ 3)) (hT : TG f n b g) : fX2_kindOfWord N (kq κ g s t k) = some (kW f n b) := by
  have key : ∀ M, fX2_kindOfWord_2 N (kq κ g s t k) (M + 8) 0 = some (kW f n b) := by
    intro M
    have iw : ∀ i, i < 13 → fX2_isWord N i (kq κ g s t k) = some (bl (Wd f n b i = true)) := fun i hi => isWord_c hi hN hB hT
    rw [fX2_kindOfWord_2, if_neg (show ¬ (7 : Int32) ≤ 0 by decide), show fX2_wordOfKind 0 = some 0 from rfl, bs, iw 0 (by decide), bs, bl0, show (0 : Int32) + 1 = 1 from rfl]
    rw [fX2_kindOfWord_2, if_neg (show ¬ (7 : Int32) ≤ 1 by decide), show fX2_wordOfKind 1 = some 1 from rfl, bs, iw 1 (by decide), bs, bl0, show (1 : Int32) + 1 = 2 from rfl]
    rw [fX2_kindOfWord_2, if_neg (show ¬ (7 : Int32) ≤ 2 by decide), show fX2_wordOfKind 2 = some 2 from rfl, bs, iw 2 (by decide), bs, bl0, show (2 : Int32) + 1 = 3 from rfl]
    rw [fX2_kindOfWord_2, if_neg (show ¬ (7 : Int32) ≤ 3 by decide), show fX2_wordOfKind 3 = some 3 from rfl, bs, iw 3 (by decide), bs, bl0, show (3 : Int32) + 1 = 4 from rfl]
    rw [fX2_kindOfWord_2, if_neg (show ¬ (7 : Int32) ≤ 4 by decide), show fX2_wordOfKind 4 = some 4 from rfl, bs, iw 4 (by decide), bs, bl0, show (4 : Int32) + 1 = 5 from rfl]
    rw [fX2_kindOfWord_2, if_neg (show ¬ (7 : Int32) ≤ 5 by decide), show fX2_wordOfKind 5 = some 5 from rfl, bs, iw 5 (by decide), bs, bl0, show (5 : Int32) + 1 = 6 from rfl]
    rw [fX2_kindOfWord_2, if_neg (show ¬ (7 : Int32) ≤ 6 by decide), show fX2_wordOfKind 6 = some 6 from rfl, bs, iw 6 (by decide), bs, bl0, show (6 : Int32) + 1 = 7 from rfl]
    rw [fX2_kindOfWord_2, if_pos (show (7 : Int32) ≤ 7 by decide)]
    unfold kW
    repeat' split
    all_goals rfl
  have h8 := key (N - 8)
  rw [show N - 8 + 8 = N by omega] at h8
  exact h8
theorem k85p {v s0 : Int32} {x : St2} (hv : ¬ v < 0) : fX4_kindHere_85 N x v s0 = some v := by
  unfold fX4_kindHere_85
  rw [if_neg hv]
theorem k85m {s0 : Int32} {x : St2} (hv : ¬ s0 < 0) : fX4_kindHere_85 N x (-1) s0 = some s0 := by
  unfold fX4_kindHere_85
  rw [if_pos (by decide), if_neg hv]
theorem kind_m (hN : 1000 ≤ N) (hB : By n f (τ 5)) (hT : MG f n b h) (h10 : h 10 = 0) : fX4_kindHere N (nq τ h t) = some (kW f n b) := by
  have iw : ∀ i, i < 14 → fX4_isWord N i (nq τ h t) = some (bl (Wd f n b i = true)) := fun i hi => isWord_m hi hN hB hT h10
  have k41p : ∀ v : Int32, ¬ v < 0 → fX4_kindHere_41 N (nq τ h t) v = some v := fun v hv => by
    unfold fX4_kindHere_41
    rw [iw 3 (by decide), bs, bl0, iw 4 (by decide), bs, bl0, iw 5 (by decide), bs, bl0, k85p hv, k85p hv, k85p hv, k85p hv]
    repeat' split
    all_goals rfl
  unfold fX4_kindHere kW
  rw [iw 0 (by decide), bs, bl0, iw 1 (by decide), bs, bl0, iw 2 (by decide), bs, bl0, k41p 0 (by decide), k41p 1 (by decide), k41p 2 (by decide)]
  by_cases w0 : Wd f n b 0 = true
  · rw [if_pos w0, if_pos w0]
  rw [if_neg w0, if_neg w0]
  by_cases w1 : Wd f n b 1 = true
  · rw [if_pos w1, if_pos w1]
  rw [if_neg w1, if_neg w1]
  by_cases w2 : Wd f n b 2 = true
  · rw [if_pos w2, if_pos w2]
  rw [if_neg w2, if_neg w2]
  unfold fX4_kindHere_41
  rw [iw 3 (by decide), bs, bl0, iw 4 (by decide), bs, bl0, iw 5 (by decide), bs, bl0, k85m (s0 := 3) (by decide), k85m (s0 := 4) (by decide), k85m (s0 := 5) (by decide)]
  by_cases w3 : Wd f n b 3 = true
  · rw [if_pos w3, if_pos w3]
  rw [if_neg w3, if_neg w3]
  by_cases w4 : Wd f n b 4 = true
  · rw [if_pos w4, if_pos w4]
  rw [if_neg w4, if_neg w4]
  by_cases w5 : Wd f n b 5 = true
  · rw [if_pos w5, if_pos w5]
  rw [if_neg w5, if_neg w5]
  unfold fX4_kindHere_85
  rw [if_pos (by decide), if_pos (by decide), iw 6 (by decide), bs, bl0]
  by_cases w6 : Wd f n b 6 = true
  · rw [if_pos w6, if_pos w6]
  rw [if_neg w6, if_neg w6]
theorem kind_w (hN : 1000 ≤ N) (h10 : h 10 = 1) : fX4_kindHere N (nq τ h t) = some (-1) := by
  have iw : ∀ i, fX4_isWord N i (nq τ h t) = some 0 := fun i => isWord_w hN h10
  unfold fX4_kindHere
  rw [iw, bs, if_pos rfl, iw, bs, if_pos rfl, iw, bs, if_pos rfl]
  unfold fX4_kindHere_41
  rw [iw, bs, if_pos rfl, iw, bs, if_pos rfl, iw, bs, if_pos rfl]
  unfold fX4_kindHere_85
  rw [if_pos (by decide), if_pos (by decide), iw, bs, if_pos rfl]
theorem item_w (hN : 1000 ≤ N) (hB : By n f (τ 5)) (hW : MW n b h) : fX4_item N (nq τ h t) = some (nq τ h t) := by
  have h10 := hW.2.2.2.2
  unfold fX4_item
  rw [kind_w hN h10, bs, if_pos (by decide), takes_w hN h10, bs, if_pos rfl]
  dsimp only
  rw [isWord_w hN h10, bs, must_w h10, bs, pT_w hN hB hW, bs]
theorem RR.bz {A : Option (Int32 × St2)} {Bm : Option St2} (h : RR hb f n κ s k τ c3 c5 b0 A Bm) : RR hb f n κ s k τ c3 c5 b0 (A.bind fun y5 => (bz y5.1).bind fun w6 => some (w6, y5.2)) Bm := by
  rcases h with ⟨m, b, g, t, h, q, q2, q3, q4⟩ | ⟨b, g, t1, t2, h, q2, q3, q4⟩
  · rw [q3, bs, bz1, bs]
    exact Or.inl ⟨m, b, g, t, h, q, q2, rfl, q4⟩
  · rw [q3, bs, bz0, bs]
    exact Or.inr ⟨b, g, t1, t2, h, q2, rfl, q4⟩
theorem RR.if {A : Option (Int32 × St2)} {Bm : Option St2} (h : RR hb f n κ s k τ c3 c5 b0 A Bm) : RR hb f n κ s k τ c3 c5 b0 (A.bind fun y4 => if y4.1 = 0 then (some (0, y4.2)) else (some (1, y4.2))) Bm := by
  rcases h with ⟨m, b, g, t, h, q, q2, q3, q4⟩ | ⟨b, g, t1, t2, h, q2, q3, q4⟩
  · rw [q3, bs, if_neg (show ¬ (1 : Int32) = 0 by decide)]
    exact Or.inl ⟨m, b, g, t, h, q, q2, rfl, q4⟩
  · rw [q3, bs, if_pos rfl]
    exact Or.inr ⟨b, g, t1, t2, h, q2, rfl, q4⟩
theorem bind_some {α : Type} {o : Option α} : (o.bind fun y => some y) = o := by
  cases o with
  | none => rfl
  | some y => rfl
theorem item_l (hN : 1000 ≤ N) (hBc : By n f (κ 3)) (hBm : By n f (τ 5)) (hP : PS hb f n s c3 c5 m b g t h) : RR hb f n κ s k τ c3 c5 (b + 1) (fX2_readItem N (kq κ g s t k)) (fX4_item N (nq τ h t)) := by
  have hb9 := hP.2.1.2.2.2
  unfold fX2_readItem fX4_item
  rw [kind_c hN hBc hP.1, kind_m hN hBm hP.2.1 hP.2.2.1, bs, bs]
  by_cases hk : kW f n b < 0
  · rw [if_pos hk, if_pos hk, isWord_c (by decide) hN hBc hP.1, bs, bl0]
    by_cases w11 : Wd f n b 11 = true
    · obtain ⟨h2, q1, q2⟩ := reach_l (k := k) hN hBc hBm (Wd_lt hBc hb9 (by decide) w11) hP w11
      rw [if_pos w11, q1, bs, if_neg (show ¬ (1 : Int32) = 0 by decide)]
      exact q2.bz
    · rw [if_neg w11, takes_f (by decide) hN hBm hP.2.1 hP.2.2.1 w11, bs, if_pos rfl, isWord_c (by decide) hN hBc hP.1, bs, bl0]
      dsimp only
      rw [isWord_m (by decide) hN hBm hP.2.1 hP.2.2.1, bs]
      by_cases w12 : Wd f n b 12 = true
      · obtain ⟨h2, q1, q2⟩ := print_l (k := k) hN hBc hBm (Wd_lt hBc hb9 (by decide) w12) hP
        rw [if_pos w12, bl_t w12, q1, bs, bind_some]
        exact q2.if
      · have hW := hP.wr (t2 := t) (fun _ _ => rfl)
        rw [if_neg w12, bl_f w12, must_f hP.2.2.1, bs, pT_w hN hBm hW.2.1, bs]
        exact Or.inr ⟨b, g, t, t, upd h 10 1, hW, rfl, rfl⟩
  · obtain ⟨kk, k1, k2, k3⟩ := kW_n hBc hb9 hk
    rw [if_neg hk, if_neg hk, k2, bind_some]
    exact (walker_l hN hBc hBm k1 k3 hP).bz
/-! ===== the whole text ===== -/
theorem t63_t {v : Int32} (h10 : h 10 = 0) : fX4_text_63 N (nq τ h t) v = some (v, nq τ (upd h 7 0) t) := by
  unfold fX4_text_63
  rw [nq_pf, bs, if_pos (nq_t (h := upd h 7 0) h10)]
theorem t63_w {v : Int32} {X : Nat → Int32} (hN : 1000 ≤ N) (h3 : τ 3 = cpR s X) (hW : MW n b h) (ht : ∀ j, 135 ≤ j → t j = s j) : fX4_text_63 N (nq τ h t) v = some (-1 - nI b, nq τ (upd h 7 0) s) := by
  have e : fX4_laysBack N (nq τ (upd h 7 0) t) = some (nq τ (upd h 7 0) s) := by
    unfold nq
    rw [lays_m hN, vu_o (by decide), h3]
    refine congrArg (fun z => some (mq (va_up τ 0 (upd h 7 0)) z)) ?_
    funext j
    unfold cpR
    by_cases hj : j < 135
    · rw [if_pos hj, if_pos hj]
    · rw [if_neg hj, ht j (by omega)]
  have h8 : upd h 7 0 8 = nI b := hW.2.1
  unfold fX4_text_63
  rw [nq_pf, bs, if_neg (nq_f (h := upd h 7 0) hW.2.2.2.2), e, bs, nq_0, h8]
theorem t24_w {fuel : Nat} {v : Int32} {X : Nat → Int32} (hN : 1000 ≤ N) (h3 : τ 3 = cpR s X) (hW : MW n b h) (ht : ∀ j, 135 ≤ j → t j = s j) : fX4_text_24 N (fuel + 1) (nq τ h t) v = some (-1 - nI b, nq τ (upd h 7 0) s) := by
  rw [fX4_text_24, if_neg (nq_f hW.2.2.2.2), t63_w hN h3 hW ht]
def TX (hb n : Nat) (κ : St2) (s k : Nat → Int32) (τ : St2) (c3 c5 : Int32) (A B : Option (Int32 × St2)) : Prop := (∃ (m c : Nat) (g t h : Nat → Int32), c ≤ 1000 ∧ A = some (nI c, kq κ g s t k) ∧ B = some (nI c, nq τ (upd h 7 0) t) ∧ IS m hb t ∧ (h 3 = c3 ∧ h 5 = c5)) ∨ ∃ (b : Nat) (g t h : Nat → Int32), b ≤ n ∧ A = some (-1 - nI b, kq κ g s t k) ∧ B = some (-1 - nI b, nq τ (upd h 7 0) s) ∧ (h 3 = c3 ∧ h 5 = c5)
theorem text_l {X : Nat → Int32} (hN : 1000 ≤ N) (hBc : By n f (κ 3)) (hBm : By n f (τ 5)) (h3 : τ 3 = cpR s X) : ∀ (d m b c fuel fuel2 : Nat) (g t h : Nat → Int32), n - b < d → d ≤ fuel → d + 1 ≤ fuel2 → 2 * c ≤ b + 2 → PS hb f n s c3 c5 m b g t h → TX hb n κ s k τ c3 c5 (fX2_readText_11 N fuel (kq κ g s t k) (nI c)) ((fX4_item N (nq τ h t)).bind fun y10 => fX4_text_24 N fuel2 y10 (nI c)) := by
  have hn := hBc.1
  intro d
  induction d with
  | zero => exact fun m b c fuel fuel2 g t h hd => absurd hd (Nat.not_lt_zero _)
  | succ d ih =>
    intro m b c fuel fuel2 g t h hd hf hf2 hc hP
    obtain ⟨fuel, rfl⟩ : ∃ z, fuel = z + 1 := ⟨fuel - 1, by omega⟩
    obtain ⟨fuel2, rfl⟩ : ∃ z, fuel2 = z + 2 := ⟨fuel2 - 2, by omega⟩
    have hb9 := hP.2.1.2.2.2
    rw [fX2_readText_11, if_neg (show ¬ (120 : Int32) < nI c from nI_nlt (a := 120) (by omega) (by omega) |> fun _ => Int32.not_lt.mpr (le_n (b := 120) (by omega) (by omega)))]
    rcases item_l (k := k) hN hBc hBm hP with ⟨m2, b2, g2, t2, h2, l2, hP2, q1, q2⟩ | ⟨b2, g2, t1, t2, h2, hW, q1, q2⟩
    · have hb2 := hP2.2.1.2.2.2
      rw [q1, bs, if_neg (show ¬ (1 : Int32) = 0 by decide), q2, bs]
      dsimp only
      have e2 : kq κ g2 s t2 k 2 2 = nI (tK f n b2) := by
        rw [kq_2]
        exact hP2.1.2.1
      rw [fX4_text_24, if_pos (nq_t hP2.2.2.1), nq_0, hP2.2.1.1, hP2.2.1.2.1]
      by_cases hl : b2 < n
      · have ek : tK f n b2 = kdN (f b2) := if_pos hl
        have hkd := kdN_le (f b2)
        rw [if_neg (show ¬ kq κ g2 s t2 k 2 2 = 0 by rw [e2]; exact nI_ne0 (by omega) (by omega)), if_neg (nle_n hl (by omega)), isWord_m (by decide) hN hBm hP2.2.1 hP2.2.2.1, bs]
        by_cases k3 : tK f n b2 = 3
        · obtain ⟨a1, a2, a3, a4⟩ := hP2.at
          have hx := nx_s (f := f) hl
          obtain ⟨g4, r1, r2⟩ := step_n (s := s) (t := t2) (k := k) hN hBc a3 a1 a2
          obtain ⟨h4, u1, u2, u3⟩ := must_t (s := t2) hN hBm hP2.2.1 hP2.2.2.1
          have hP4 : PS hb f n s c3 c5 m2 (nx f n b2) g4 t2 h4 := hP2.nx r2 u2 u3 hP2.is (fun _ _ => rfl)
          rw [if_pos (show kq κ g2 s t2 k 2 2 = 3 by rw [e2, k3]; rfl), r1, bs, bl_t ((Wd_13 hBc hb2).mpr k3), u1, bs, one_n]
          exact ih m2 (nx f n b2) (c + 1) fuel (fuel2 + 1) g4 t2 h4 (by omega) (by omega) (by omega) (by omega) hP4
        · have hW := hP2.wr (t2 := t2) (fun _ _ => rfl)
          rw [if_neg (show ¬ kq κ g2 s t2 k 2 2 = 3 by rw [e2]; exact nln 3 3 rfl (by omega) (by omega) k3), bl_f (fun z => k3 ((Wd_13 hBc hb2).mp z)), must_f hP2.2.2.1, bs, item_w hN hBm hW.2.1, bs, t24_w hN h3 hW.2.1 hW.2.2.2, kq_2, hP2.1.2.2.1]
          exact Or.inr ⟨b2, g2, t2, upd h2 10 1, hb2, rfl, rfl, hW.2.2.1⟩
      · have ek : tK f n b2 = 0 := if_neg hl
        rw [if_pos (show kq κ g2 s t2 k 2 2 = 0 by rw [e2, ek]; rfl), if_pos (le_n (by omega) (by omega)), t63_t hP2.2.2.1]
        exact Or.inl ⟨m2, c, g2, t2, h2, by omega, rfl, rfl, hP2.is, hP2.2.2.2.1⟩
    · rw [q1, bs, if_pos rfl, q2, bs, t24_w hN h3 hW.2.1 hW.2.2.2]
      dsimp only
      rw [kq_2, hW.1.2]
      exact Or.inr ⟨b2, g2, t1, h2, hW.2.1.2.2.1, rfl, rfl, hW.2.2.1⟩
theorem neg_b : ∀ b, b ≤ 120 → -1 - nI b < 0 := by decide +kernel
theorem sim_text (hN : 1000 ≤ N) (hI : Inv hb κ s k τ) : Ex hb (fX3_text N (cq κ s t k)) (fX4_text N (mq τ s)) := by
  obtain ⟨⟨m, hs⟩, hKp, hF, ⟨n, hn, e1, e7, hby⟩, hSh, h5⟩ := id hI
  have hBc : By n (fun j => (κ 3 j).toNatClampNeg) (κ 3) := ⟨hn, fun j hj => by
    obtain ⟨-, v, hv, ev⟩ := hby j hj
    dsimp only
    rw [ev, nI_clamp (by omega)]
    exact ⟨rfl, hv⟩⟩
  have hBm : By n (fun j => (κ 3 j).toNatClampNeg) (aL τ s 5) := ⟨hn, fun j hj => by
    rw [aL_o (by decide), ← (hby j hj).1]
    exact hBc.2 j hj⟩
  generalize (fun j => (κ 3 j).toNatClampNeg) = f at hBc hBm
  have ec : cq κ s s k = kq κ (κ 2) s s k := by
    unfold kq
    rw [vu_self]
  have em : mq (aL τ s) s = nq (aL τ s) (aL τ s 0) s := by
    unfold nq
    rw [vu_self]
  have e0 : aL τ s 0 = τ 0 := aL_o (by decide)
  obtain ⟨g1, q1, q2⟩ := step_n (N := N) (n := n) (f := f) (κ := κ) (g := upd (κ 2) 4 0) (s := s) (t := s) (k := k) (e := 0) hN hBc (by omega) e1 rfl
  obtain ⟨h1, r1, r2, r3⟩ := next_n (N := N) (n := n) (f := f) (τ := aL τ s) (h := upd (upd (τ 0) 10 0) 9 0) (s := s) (e := 0) hN hBm (by omega) e7 rfl
  have hP : PS hb f n s (τ 0 3) (τ 0 5) m (tB f n 0) g1 s h1 := ⟨q2, r2, r3 10 (by omega) (by omega), ⟨r3 3 (by omega) (by omega), r3 5 (by omega) (by omega)⟩, hs, fun _ _ => rfl⟩
  have hT := text_l (k := k) (X := τ 3) hN hBc hBm aL_3 (n + 1) m (tB f n 0) 1 N N g1 s h1 (by omega) (by omega) (by omega) (by omega) hP
  have hT' : TX hb n κ s k (aL τ s) (τ 0 3) (τ 0 5) (fX2_readText_11 N N (kq κ g1 s s k) 1) ((fX4_item N (nq (aL τ s) h1 s)).bind fun y10 => fX4_text_24 N N y10 1) := hT
  unfold fX3_text fX4_text fX2_readText
  rw [bec25 hN, bs, ec, kq_pf, bs, q1, bs, lend hN rfl, bs, em, e0, nq_pfz (Or.inl rfl), bs, nq_pf, bs, r1, bs]
  have fin : ∀ (m2 : Nat) (g t2 h s2 : Nat → Int32), IS m2 hb s2 → h 3 = τ 0 3 → h 5 = τ 0 5 → ∀ r : Int32, Ex hb (some (r, cq (va_up κ 2 (upd g 1 0)) s2 t2 k)) (some (r, nq (aL τ s) (upd h 7 0) s2)) := by
    intro m2 g t2 h s2 hs2 h3 h5' r
    refine ⟨r, _, s2, t2, k, va_up (aL τ s) 0 (upd h 7 0), rfl, rfl, ⟨m2, hs2.hb60⟩, ?_, hF, ⟨0, by decide, rfl, rfl, fun j hj => absurd hj (by omega)⟩, hSh.of (fun j j1 j2 => vu_o (by omega)) rfl rfl rfl, h5'.trans h5⟩
    exact ⟨hKp.1, hKp.2.1.trans h3.symm, fun e => ⟨(hKp.2.2 e).1, by obtain ⟨m9, h9⟩ := (hKp.2.2 e).2; exact ⟨m9, h9.hb60⟩⟩⟩
  rcases hT' with ⟨m2, c, g, t2, h, hc, a1, a2, hs2, h3, h5'⟩ | ⟨b, g, t2, h, hb9, a1, a2, h3, h5'⟩
  · rw [a1, bs, a2]
    dsimp only
    rw [kq_pf, bs, if_neg (nI_pos (by omega))]
    unfold kq
    rw [bec12 hN, bs]
    exact fin m2 g t2 h t2 hs2 h3 h5' _
  · rw [a1, bs, a2]
    dsimp only
    rw [kq_pf, bs, if_pos (neg_b b (by omega))]
    unfold kq
    exact fin m g t2 h s hs h3 h5' _
end SIMQ
