section SIMP
/-- class and reference stand on one token, nothing wrong so far -/
def PS (hb : Nat) (f : Nat → Nat) (n : Nat) (s : Nat → Int32) (c3 c5 : Int32) (m b : Nat) (g t h : Nat → Int32) : Prop := TG f n b g ∧ MG f n b h ∧ h 10 = 0 ∧ (h 3 = c3 ∧ h 5 = c5) ∧ IS m hb t ∧ ∀ j, 135 ≤ j → t j = s j
/-- both have found the fault that begins at b -/
def PW (n : Nat) (s : Nat → Int32) (c3 c5 : Int32) (b : Nat) (g t h : Nat → Int32) : Prop := (g 1 = nI n ∧ g 3 = nI b) ∧ MW n b h ∧ (h 3 = c3 ∧ h 5 = c5) ∧ ∀ j, 135 ≤ j → t j = s j
section PR
variable {hb N n m b b0 i w : Nat} {f : Nat → Nat} {κ : St2} {g s t k : Nat → Int32} {τ : St2} {h : Nat → Int32} {c3 c5 : Int32}
theorem kq_v25 : vw (kq κ g s t k) 25 = sx t := cq_v25
theorem kq_p25 {t2 : Nat → Int32} : putS (kq κ g s t k) 25 (sx t2) = kq κ g s t2 k := cq_p25
theorem kq_w25 {j w N i : Nat} {v : Int32} (hj : j < 13) (hw : w < N) (hN : N < 1000000) (h : ix j w = some i) : wr (kq κ g s t k) (25 + j) N (nI w) v = some (kq κ g s (upd t i v) k) := cq_w25 hj hw hN h
theorem kq_pf25 {i j : Nat} {v : Int32} (h : ix 0 j = some i) : pf (kq κ g s t k) 25 j v = some (kq κ g s (upd t i v) k) := cq_pf25 h
theorem kq_f25 {j : Nat} : kq κ g s t k 25 j = sx t 0 j := cq_f25
theorem nq_sets {k9 v : Int32} (r : Nat) (e : k9 = nI r) (hw : w < 8) (hr : r < 6) : fX4_sets (nq τ h t) (nI w) k9 v = some (nq τ h (upd t (77 + 6 * w + r) v)) := sets_n r e hw hr
theorem nq_adds {kd c : Int32} (hs : IS m hb t) (hm : m < 8) : fX4_adds (nq τ h t) kd c = some (nI m, nq τ h (adS t m kd c)) := add_m hs hm
theorem nq_prints {c : Nat} {v d o : Int32} (hc : c < 24) (hw : 0 ≤ v) : fX4_prints (nq τ h t) (nI c) v d o = some (nq τ h (ptS t c v d o)) := prints_m hc hw
theorem nq_t (e : h 10 = 0) : nq τ h t 0 10 = 0 := by
  rw [nq_0]
  exact e
theorem nq_f (e : h 10 = 1) : ¬ nq τ h t 0 10 = 0 := by
  rw [nq_0, e]
  decide
theorem nq_r2 : rd (nq τ h t 1) 135 2 = some (t 2) := rl_2
theorem nq_w3 {v : Int32} : wr (nq τ h t) 1 135 3 v = some (nq τ h (upd t 3 v)) := wl_3
/-- what the class owes (1: read; 0: a fault), what the reference -/
def RR (hb : Nat) (f : Nat → Nat) (n : Nat) (κ : St2) (s k : Nat → Int32) (τ : St2) (c3 c5 : Int32) (b0 : Nat) (A : Option (Int32 × St2)) (Bm : Option St2) : Prop := (∃ (m b : Nat) (g t h : Nat → Int32), b0 ≤ b ∧ PS hb f n s c3 c5 m b g t h ∧ A = some (1, kq κ g s t k) ∧ Bm = some (nq τ h t)) ∨ ∃ (b : Nat) (g t1 t2 h : Nat → Int32), PW n s c3 c5 b g t2 h ∧ A = some (0, kq κ g s t1 k) ∧ Bm = some (nq τ h t2)
theorem RR.le {b1 : Nat} {A : Option (Int32 × St2)} {Bm : Option St2} (hl : b0 ≤ b1) (h : RR hb f n κ s k τ c3 c5 b1 A Bm) : RR hb f n κ s k τ c3 c5 b0 A Bm := by
  rcases h with ⟨m, b, g, t, h, q, q2⟩ | h
  · exact Or.inl ⟨m, b, g, t, h, by omega, q2⟩
  · exact Or.inr h
theorem Wd_lt (hB : By n f (κ 3)) (hb9 : b ≤ n) (hi : i < 13) (hw : Wd f n b i = true) : b < n := (Wd_k hB hb9 hi hw).1
theorem tK_lt (h : tK f n b ≠ 0) : b < n := by
  rcases Nat.lt_or_ge b n with q | q
  · exact q
  · exact absurd (if_neg (by omega)) h
theorem PS.at (hP : PS hb f n s c3 c5 m b g t h) : g 1 = nI n ∧ g 4 = nI (tE f n b) ∧ tE f n b ≤ n ∧ b ≤ n := ⟨hP.1.1, hP.1.2.2.2.1, (tE_r hP.2.1.2.2.2).2, hP.2.1.2.2.2⟩
theorem PS.nx {m2 b2 : Nat} {g2 t2 h2 : Nat → Int32} (hP : PS hb f n s c3 c5 m b g t h) (hg : TG f n b2 g2) (hh : MG f n b2 h2) (ho : Ot h h2) (ht : IS m2 hb t2) (htt : ∀ j, 135 ≤ j → t2 j = t j) : PS hb f n s c3 c5 m2 b2 g2 t2 h2 := ⟨hg, hh, (ho 10 (by omega) (by omega)).trans hP.2.2.1, ⟨(ho 3 (by omega) (by omega)).trans hP.2.2.2.1.1, (ho 5 (by omega) (by omega)).trans hP.2.2.2.1.2⟩, ht, fun j hj => (htt j hj).trans (hP.2.2.2.2.2 j hj)⟩
theorem PS.ts {m2 : Nat} {t2 : Nat → Int32} (hP : PS hb f n s c3 c5 m b g t h) (ht : IS m2 hb t2) (htt : ∀ j, 135 ≤ j → t2 j = t j) : PS hb f n s c3 c5 m2 b g t2 h := ⟨hP.1, hP.2.1, hP.2.2.1, hP.2.2.2.1, ht, fun j hj => (htt j hj).trans (hP.2.2.2.2.2 j hj)⟩
theorem PS.wr {t2 : Nat → Int32} (hP : PS hb f n s c3 c5 m b g t h) (htt : ∀ j, 135 ≤ j → t2 j = t j) : PW n s c3 c5 b g t2 (upd h 10 1) := ⟨⟨hP.1.1, hP.1.2.2.1⟩, MG.w hP.2.1, hP.2.2.2.1, fun j hj => (htt j hj).trans (hP.2.2.2.2.2 j hj)⟩
theorem PS.is (hP : PS hb f n s c3 c5 m b g t h) : IS m hb t := hP.2.2.2.2.1
/-! ===== a trait, told or not ===== -/
theorem trait_l {r lo hi : Nat} {v1 v2 v3 : Int32} (hN : 1000 ≤ N) (hBc : By n f (κ 3)) (hBm : By n f (τ 5)) (hi13 : i < 13) (hr : r < 6) (hlo : tv 1 r = nI lo) (hhi : tv 2 r = nI hi) (hi9 : hi < 900 ∧ lo < 900) (hw : w < m) (hP : PS hb f n s c3 c5 m b g t h) (e1 : v1 = nI r) (e2 : v2 = nI lo) (e3 : v3 = nI hi) (K : St2 → Option St2) :
    (∃ (b2 : Nat) (g2 t2 h2 : Nat → Int32), b ≤ b2 ∧ PS hb f n s c3 c5 m b2 g2 t2 h2 ∧ fX2_readTrait N i (kq κ g s t k) (nI w) v1 = some (1, kq κ g2 s t2 k) ∧ ((fX4_takes N i (nq τ h t)).bind fun y => if y.1 = 0 then K y.2 else (fX4_numberRead N y.2 v2 v3).bind fun z => (fX4_sets z.2 (nI w) v1 z.1).bind fun x => K x) = K (nq τ h2 t2)) ∨
    ∃ (b2 : Nat) (g2 t1 t2 h2 : Nat → Int32), PW n s c3 c5 b2 g2 t2 h2 ∧ fX2_readTrait N i (kq κ g s t k) (nI w) v1 = some (0, kq κ g2 s t1 k) ∧ ((fX4_takes N i (nq τ h t)).bind fun y => if y.1 = 0 then K y.2 else (fX4_numberRead N y.2 v2 v3).bind fun z => (fX4_sets z.2 (nI w) v1 z.1).bind fun x => K x) = K (nq τ h2 t2) := by
  subst e1
  have hm := hP.is.1.1
  have hw8 : w < 8 := by omega
  obtain ⟨a1, a2, a3, a4⟩ := hP.at
  have hx := nx_r (f := f) a4
  unfold fX2_readTrait
  rw [isWord_c hi13 hN hBc hP.1, bs, bl0]
  by_cases hwd : Wd f n b i = true
  · obtain ⟨h2, q1, q2, q3⟩ := takes_t (s := t) (by omega) hN hBm hP.2.1 hP.2.2.1 hwd
    obtain ⟨g2, r1, r2⟩ := step_n (s := s) (t := t) (k := k) hN hBc a3 a1 a2
    have hP2 : PS hb f n s c3 c5 m (nx f n b) g2 t h2 := hP.nx r2 q2 q3 hP.is (fun _ _ => rfl)
    obtain ⟨d1, d2, d3, d4⟩ := hP2.at
    have hx2 := nx_r (f := f) d4
    obtain ⟨hi9, lo9⟩ := hi9
    have n0 : 0 ≤ v2 := by rw [e2]; exact nI_pos' (by omega)
    have n1 : v3 ≤ 999 := by rw [e3]; exact le_n (b := 999) (by omega) (by omega)
    rw [if_pos hwd, r1, bs, tv_r hr, bs, tv_r hr, bs, isNumber_c hP2.1, bs, bl0, q1, bs, if_neg (show ¬ (1 : Int32) = 0 by decide), hlo, hhi, ← e2, ← e3]
    by_cases hz : tK f n (nx f n b) = 2 ∧ v2 ≤ nI (tV f n (nx f n b)) ∧ nI (tV f n (nx f n b)) ≤ v3
    · obtain ⟨h3, u1, u2, u3⟩ := num_t (s := t) hN hBm hP2.2.1 hP2.2.2.1 n0 n1 hz
      have hv : tv 1 r ≤ nI (tV f n (nx f n b)) ∧ nI (tV f n (nx f n b)) ≤ tv 2 r := by
        rw [hlo, hhi, ← e2, ← e3]
        exact hz.2
      obtain ⟨g3, w1, w2⟩ := step_n (s := s) (t := upd t (77 + 6 * w + r) (nI (tV f n (nx f n b)))) (k := k) hN hBc d3 d1 d2
      refine Or.inl ⟨nx f n (nx f n b), g3, upd t (77 + 6 * w + r) (nI (tV f n (nx f n b))), h3, by omega, hP2.nx w2 u2 u3 (hP.is.trait hw hr hv) (fun j hj => uw (by omega)), ?_, ?_⟩
      · rw [if_pos hz, ck_n hr (by decide), bs, kq_2, hP2.1.2.2.2.2.1, kq_w25 (by omega) hw8 (by decide) (ix_t hr hw8), bs, w1, bs]
      · rw [u1, bs, nq_sets r rfl hw8 hr, bs]
    · obtain ⟨v, u1⟩ := num_f (s := t) hN hBm hP2.2.1 hP2.2.2.1 n0 n1 hz
      refine Or.inr ⟨nx f n b, g2, t, upd t (77 + 6 * w + r) v, upd h2 10 1, hP2.wr (fun j hj => uw (by omega)), ?_, ?_⟩
      · rw [if_neg hz]
      · rw [u1, bs, nq_sets r rfl hw8 hr, bs]
  · rw [if_neg hwd, takes_f (by omega) hN hBm hP.2.1 hP.2.2.1 hwd, bs, if_pos rfl]
    exact Or.inl ⟨b, g, t, h, Nat.le_refl _, hP, rfl, rfl⟩
/-! ===== a walker ===== -/
theorem w98_w {v : Int32} (hN : 1000 ≤ N) (h10 : h 10 = 1) : fX4_walkerTold_98 N (nq τ h t) v = some (nq τ h t) := by
  unfold fX4_walkerTold_98
  rw [takes_w hN h10, bs, if_pos rfl]
theorem w75_w {v : Int32} (hN : 1000 ≤ N) (h10 : h 10 = 1) : fX4_walkerTold_75 N (nq τ h t) v = some (nq τ h t) := by
  unfold fX4_walkerTold_75
  rw [takes_w hN h10, bs, if_pos rfl, w98_w hN h10]
theorem w58_w {v : Int32} (hN : 1000 ≤ N) (h10 : h 10 = 1) : fX4_walkerTold_58 N (nq τ h t) v = some (nq τ h t) := by
  unfold fX4_walkerTold_58
  rw [takes_w hN h10, bs, if_pos rfl, w75_w hN h10]
theorem w56 (hN : 1000 ≤ N) (hBc : By n f (κ 3)) (hBm : By n f (τ 5)) (hw : w < m) (hP : PS hb f n s c3 c5 m b g t h) : RR hb f n κ s k τ c3 c5 b (fX2_readWalker_56 N (kq κ g s t k) (nI w)) (fX4_walkerTold_75 N (nq τ h t) (nI w)) := by
  unfold fX2_readWalker_56
  rcases trait_l (i := 9) (r := 3) (lo := 1) (hi := 6) (v1 := 3) (v2 := 1) (v3 := 6) (k := k) hN hBc hBm (by decide) (by decide) rfl rfl (by decide) hw hP rfl rfl rfl (fun x => fX4_walkerTold_98 N x (nI w)) with ⟨b2, g2, t2, h2, l2, hP2, q1, q2⟩ | ⟨b2, g2, t1, t2, h2, hW, q1, q2⟩
  · have q2' : fX4_walkerTold_75 N (nq τ h t) (nI w) = fX4_walkerTold_98 N (nq τ h2 t2) (nI w) := q2
    rw [q1, bs, if_neg (show ¬ (1 : Int32) = 0 by decide), q2']
    rcases trait_l (i := 10) (r := 4) (lo := 1) (hi := 9) (v1 := 4) (v2 := 1) (v3 := 9) (k := k) hN hBc hBm (by decide) (by decide) rfl rfl (by decide) hw hP2 rfl rfl rfl (fun x => some x) with ⟨b3, g3, t3, h3, l3, hP3, r1, r2⟩ | ⟨b3, g3, t3, t4, h3, hW, r1, r2⟩
    · have r2' : fX4_walkerTold_98 N (nq τ h2 t2) (nI w) = some (nq τ h3 t3) := r2
      rw [r1, bs, if_neg (show ¬ (1 : Int32) = 0 by decide), r2']
      exact Or.inl ⟨m, b3, g3, t3, h3, by omega, hP3, rfl, rfl⟩
    · have r2' : fX4_walkerTold_98 N (nq τ h2 t2) (nI w) = some (nq τ h3 t4) := r2
      rw [r1, bs, if_pos rfl, r2']
      exact Or.inr ⟨b3, g3, t3, t4, h3, hW, rfl, rfl⟩
  · have q2' : fX4_walkerTold_75 N (nq τ h t) (nI w) = fX4_walkerTold_98 N (nq τ h2 t2) (nI w) := q2
    rw [q1, bs, if_pos rfl, q2', w98_w hN hW.2.1.2.2.2.2]
    exact Or.inr ⟨b2, g2, t1, t2, h2, hW, rfl, rfl⟩
theorem walker_l {kk : Nat} (hN : 1000 ≤ N) (hBc : By n f (κ 3)) (hBm : By n f (τ 5)) (hk : kk ≤ 6) (hl : b < n) (hP : PS hb f n s c3 c5 m b g t h) : RR hb f n κ s k τ c3 c5 (b + 1) (fX2_readWalker N (kq κ g s t k) (nI kk)) (fX4_walkerTold N (nq τ h t) (nI kk)) := by
  have hs := hP.is
  have hm := hs.1.1
  obtain ⟨a1, a2, a3, a4⟩ := hP.at
  have hx := nx_s (f := f) hl
  unfold fX2_readWalker fX4_walkerTold
  rw [kq_v25, room_x hs, bs, bl0, nq_r2, bs, hs.1.2]
  by_cases h8 : m < 8
  · have hI2 := hs.add (c := 0) h8 hk
    obtain ⟨h2, q1, q2, q3⟩ := must_t (s := t) hN hBm hP.2.1 hP.2.2.1
    obtain ⟨g2, r1, r2⟩ := step_n (s := s) (t := adS t m (nI kk) 0) (k := k) hN hBc a3 a1 a2
    have h210 : h2 10 = 0 := (q3 10 (by omega) (by omega)).trans hP.2.2.1
    have hP2 : PS hb f n s c3 c5 (m + 1) (nx f n b) g2 (adS t m (nI kk) 0) h2 := hP.nx r2 q2 q3 hI2 (fun j hj => by
      unfold adS
      rw [uw (by omega), uw (by omega), uw (by omega), uw (by omega), uw (by omega), uw (by omega), uw (by omega)])
    unfold fX4_walkerTold_17
    rw [if_pos h8, add_x hs h8, bs, kq_p25, bs, r1, bs, if_neg (show ¬ (8 : Int32) ≤ nI m from nle_n (a := 8) h8 (by omega)), q1, bs, if_pos (nq_t h210), nq_adds hs h8, bs]
    rcases trait_l (i := 7) (r := 1) (lo := 0) (hi := 23) (v1 := 1) (v2 := 0) (v3 := 23) (w := m) (k := k) hN hBc hBm (by decide) (by decide) rfl rfl (by decide) (by omega) hP2 rfl rfl rfl (fun x => fX4_walkerTold_58 N x (nI m)) with ⟨b3, g3, t3, h3, l3, hP3, u1, u2⟩ | ⟨b3, g3, t1, t3, h3, hW, u1, u2⟩
    · have u2' : ((fX4_takes N 7 (nq τ h2 (adS t m (nI kk) 0))).bind fun y4 => if y4.1 = 0 then (fX4_walkerTold_58 N y4.2 (nI m)) else ((fX4_numberRead N y4.2 0 23).bind fun y13 => (fX4_sets y13.2 (nI m) 1 y13.1).bind fun y14 => fX4_walkerTold_58 N y14 (nI m))) = fX4_walkerTold_58 N (nq τ h3 t3) (nI m) := u2
      rw [u1, bs, if_neg (show ¬ (1 : Int32) = 0 by decide), u2', isWord_c (by decide) hN hBc hP3.1, bs, bl0]
      unfold fX4_walkerTold_58
      by_cases hwd : Wd f n b3 8 = true
      · obtain ⟨d1, d2, d3, d4⟩ := hP3.at
        obtain ⟨h4, x1, x2, x3⟩ := takes_t (s := t3) (by decide) hN hBm hP3.2.1 hP3.2.2.1 hwd
        obtain ⟨g4, y1, y2⟩ := step_n (s := s) (t := upd t3 (77 + 6 * m + 2) 0) (k := k) hN hBc d3 d1 d2
        have hP4 : PS hb f n s c3 c5 (m + 1) (nx f n b3) g4 (upd t3 (77 + 6 * m + 2) 0) h4 := hP3.nx y2 x2 x3 (hP3.is.un (Or.inr (Or.inr ⟨m, 2, h8, rfl, by omega⟩))) (fun j hj => uw (by omega))
        have hx3 := nx_r (f := f) d4
        rw [if_pos hwd, kq_w25 (j := 6 + 2) (by decide) h8 (by decide) (ix_t2 h8), bs, y1, bs, x1, bs, if_neg (show ¬ (1 : Int32) = 0 by decide)]
        dsimp only
        rw [nq_sets (k9 := 2) 2 rfl h8 (by decide), bs]
        exact (w56 hN hBc hBm (by omega) hP4).le (by omega)
      · rw [if_neg hwd, takes_f (by decide) hN hBm hP3.2.1 hP3.2.2.1 hwd, bs, if_pos rfl]
        exact (w56 hN hBc hBm (by omega) hP3).le (by omega)
    · have u2' : ((fX4_takes N 7 (nq τ h2 (adS t m (nI kk) 0))).bind fun y4 => if y4.1 = 0 then (fX4_walkerTold_58 N y4.2 (nI m)) else ((fX4_numberRead N y4.2 0 23).bind fun y13 => (fX4_sets y13.2 (nI m) 1 y13.1).bind fun y14 => fX4_walkerTold_58 N y14 (nI m))) = fX4_walkerTold_58 N (nq τ h3 t3) (nI m) := u2
      rw [u1, bs, if_pos rfl, u2', w58_w hN hW.2.1.2.2.2.2]
      exact Or.inr ⟨b3, g3, t1, t3, h3, hW, rfl, rfl⟩
  · unfold fX4_walkerTold_17
    rw [if_neg h8, if_pos (show (8 : Int32) ≤ nI m from le_n (a := 8) (by omega) (by omega)), must_f hP.2.2.1, bs, if_neg (nq_f uu)]
    exact Or.inr ⟨b, g, t, t, upd h 10 1, hP.wr (fun _ _ => rfl), rfl, rfl⟩
/-! ===== the reach ===== -/
theorem reach_l (hN : 1000 ≤ N) (hBc : By n f (κ 3)) (hBm : By n f (τ 5)) (hl : b < n) (hP : PS hb f n s c3 c5 m b g t h) (hwd : Wd f n b 11 = true) : ∃ h2 : Nat → Int32, fX4_takes N 11 (nq τ h t) = some (1, nq τ h2 t) ∧ RR hb f n κ s k τ c3 c5 (b + 1) (fX2_readReach N (kq κ g s t k)) ((fX4_numberRead N (nq τ h2 t) 0 24).bind fun y6 => if (y6.2 0 10) = 0 then ((wr y6.2 1 135 3 y6.1).bind fun x7 => some x7) else (some y6.2)) := by
  obtain ⟨a1, a2, a3, a4⟩ := hP.at
  have hx := nx_s (f := f) hl
  obtain ⟨h2, q1, q2, q3⟩ := takes_t (s := t) (by decide) hN hBm hP.2.1 hP.2.2.1 hwd
  obtain ⟨g2, r1, r2⟩ := step_n (s := s) (t := t) (k := k) hN hBc a3 a1 a2
  have hP2 : PS hb f n s c3 c5 m (nx f n b) g2 t h2 := hP.nx r2 q2 q3 hP.is (fun _ _ => rfl)
  obtain ⟨d1, d2, d3, d4⟩ := hP2.at
  have hx2 := nx_r (f := f) d4
  refine ⟨h2, q1, ?_⟩
  unfold fX2_readReach
  rw [r1, bs, isNumber_c hP2.1, bs, bl0]
  by_cases hz : tK f n (nx f n b) = 2 ∧ 0 ≤ nI (tV f n (nx f n b)) ∧ nI (tV f n (nx f n b)) ≤ 24
  · obtain ⟨h3, u1, u2, u3⟩ := num_t (s := t) hN hBm hP2.2.1 hP2.2.2.1 (by decide) (by decide) hz
    have hv : tV f n (nx f n b) ≤ 24 := (nI_leI (b := 24) (by have := tV_le (f := f) (n := n) (b := nx f n b); omega) (by omega)).mp hz.2.2
    have h310 : h3 10 = 0 := (u3 10 (by omega) (by omega)).trans hP2.2.2.1
    obtain ⟨g3, w1, w2⟩ := step_n (s := s) (t := upd t 3 (nI (tV f n (nx f n b)))) (k := k) hN hBc d3 d1 d2
    rw [if_pos hz, kq_2, hP2.1.2.2.2.2.1, kq_pf25 (i := 3) rfl, bs, w1, bs, u1, bs, if_pos (nq_t h310)]
    dsimp only
    rw [nq_w3, bs]
    exact Or.inl ⟨m, nx f n (nx f n b), g3, _, h3, by omega, hP2.nx w2 u2 u3 (hP.is.r3 hv) (fun j hj => uw (by omega)), rfl, rfl⟩
  · obtain ⟨v, u1⟩ := num_f (s := t) hN hBm hP2.2.1 hP2.2.2.1 (show (0 : Int32) ≤ 0 by decide) (show (24 : Int32) ≤ 999 by decide) hz
    rw [if_neg hz, u1, bs, if_neg (nq_f uu)]
    exact Or.inr ⟨nx f n b, g2, t, t, upd h2 10 1, hP2.wr (fun _ _ => rfl), rfl, rfl⟩
/-! ===== a print ===== -/
theorem pT_w (hN : 1000 ≤ N) (hBm : By n f (τ 5)) (hW : MW n b h) : fX4_printTold N (nq τ h t) = some (nq τ h t) := by
  obtain ⟨v1, e1⟩ := num_w (s := t) (lo := 0) (hi := 23) hN hBm hW
  obtain ⟨v2, e2⟩ := num_w (s := t) (lo := 0) (hi := t 2 - 1) hN hBm hW
  obtain ⟨v3, e3⟩ := num_w (s := t) (lo := 0) (hi := 9) hN hBm hW
  unfold fX4_printTold
  rw [e1, bs]
  dsimp only
  rw [nq_r2, bs, e2, bs]
  dsimp only
  rw [e3, bs, if_neg (nq_f hW.2.2.2.2)]
  unfold fX4_printTold_51 fX4_printTold_52
  rw [if_neg (nq_f hW.2.2.2.2)]
theorem print_l (hN : 1000 ≤ N) (hBc : By n f (κ 3)) (hBm : By n f (τ 5)) (hl : b < n) (hP : PS hb f n s c3 c5 m b g t h) : ∃ h2 : Nat → Int32, fX4_must N (nq τ h t) 1 = some (nq τ h2 t) ∧ RR hb f n κ s k τ c3 c5 (b + 1) (fX2_readPrint N (kq κ g s t k)) (fX4_printTold N (nq τ h2 t)) := by
  have hs := hP.is
  have hm := hs.1.1
  obtain ⟨a1, a2, a3, a4⟩ := hP.at
  have hx := nx_s (f := f) hl
  obtain ⟨h2, q1, q2, q3⟩ := must_t (s := t) hN hBm hP.2.1 hP.2.2.1
  obtain ⟨g2, r1, r2⟩ := step_n (s := s) (t := t) (k := k) hN hBc a3 a1 a2
  have hP2 : PS hb f n s c3 c5 m (nx f n b) g2 t h2 := hP.nx r2 q2 q3 hs (fun _ _ => rfl)
  refine ⟨h2, q1, ?_⟩
  have hx0 : b + 1 ≤ nx f n b := hx.1
  clear q1
  generalize nx f n b = b2 at r2 q2 hP2 hx0
  have t2le : t 2 - 1 ≤ 999 := by
    rw [hs.1.2]
    have : ∀ m, m ≤ 8 → nI m - 1 ≤ 999 := by decide +kernel
    exact this m hm
  obtain ⟨d1, d2, d3, d4⟩ := hP2.at
  have hx2 := nx_r (f := f) d4
  unfold fX2_readPrint fX4_printTold
  rw [r1, bs, isNumber_c hP2.1, bs, bl0]
  by_cases hz : tK f n b2 = 2 ∧ 0 ≤ nI (tV f n b2) ∧ nI (tV f n b2) ≤ 23
  · obtain ⟨c, hc, ec⟩ := cell_of hz.2
    obtain ⟨h3, u1, u2, u3⟩ := num_t (s := t) hN hBm hP2.2.1 hP2.2.2.1 (by decide) (by decide) hz
    obtain ⟨g3, w1, w2⟩ := step_n (s := s) (t := t) (k := k) hN hBc d3 d1 d2
    have hP3 : PS hb f n s c3 c5 m (nx f n b2) g3 t h3 := hP2.nx w2 u2 u3 hs (fun _ _ => rfl)
    rw [if_pos hz, kq_2, hP2.1.2.2.2.2.1, bs, w1, bs, u1, bs, bs]
    dsimp only
    rw [nq_r2, bs, ec]
    have hx3 : b + 1 ≤ nx f n b2 := by omega
    generalize nx f n b2 = b3 at w2 hP3 hx3
    obtain ⟨d1, d2, d3, d4⟩ := hP3.at
    have hx4 := nx_r (f := f) d4
    rw [kq_f25, sx_03, isNumber_c hP3.1, bs, bl0]
    by_cases hz2 : tK f n b3 = 2 ∧ 0 ≤ nI (tV f n b3) ∧ nI (tV f n b3) ≤ t 2 - 1
    · obtain ⟨v, hv, ev⟩ := iw_of hs hz2.2
      obtain ⟨h4, u1, u2, u3⟩ := num_t (s := t) hN hBm hP3.2.1 hP3.2.2.1 (by decide) t2le hz2
      obtain ⟨g4, w1, w2⟩ := step_n (s := s) (t := t) (k := k) hN hBc d3 d1 d2
      have hP4 : PS hb f n s c3 c5 m (nx f n b3) g4 t h4 := hP3.nx w2 u2 u3 hs (fun _ _ => rfl)
      rw [if_pos hz2, kq_2, hP3.1.2.2.2.2.1, w1, bs, u1, bs, bs, ev]
      dsimp only
      have hx5 : b + 1 ≤ nx f n b3 := by omega
      generalize nx f n b3 = b4 at w2 hP4 hx5
      obtain ⟨d1, d2, d3, d4⟩ := hP4.at
      have hx6 := nx_r (f := f) d4
      rw [isNumber_c hP4.1, bs, bl0]
      by_cases hz3 : tK f n b4 = 2 ∧ 0 ≤ nI (tV f n b4) ∧ nI (tV f n b4) ≤ 9
      · obtain ⟨h5, u1, u2, u3⟩ := num_t (s := t) hN hBm hP4.2.1 hP4.2.2.1 (by decide) (by decide) hz3
        obtain ⟨g5, w1, w2⟩ := step_n (s := s) (t := t) (k := k) hN hBc d3 d1 d2
        have hP5 : PS hb f n s c3 c5 m (nx f n b4) g5 t h5 := hP4.nx w2 u2 u3 hs (fun _ _ => rfl)
        rw [if_pos hz3, kq_2, hP4.1.2.2.2.2.1, w1, bs, u1, bs]
        rw [if_pos (nq_t hP5.2.2.1)]
        dsimp only
        have hx7 : b + 1 ≤ nx f n b4 := by omega
        generalize nx f n b4 = b5 at w2 hP5 hx7
        obtain ⟨d1, d2, d3, d4⟩ := hP5.at
        have hx8 := nx_r (f := f) d4
        have hv0 : 0 ≤ nI v := nI_pos' (by omega)
        rw [isWord_c (by decide) hN hBc hP5.1, bs, bl0]
        have hpt : ∀ (d o : Int32) (j : Nat), 135 ≤ j → ptS t c (nI v) d o j = t j := fun d o j hj => pt_o hc (by omega)
        by_cases hwd : Wd f n b5 8 = true
        · obtain ⟨h6, x1, x2, x3⟩ := takes_t (s := t) (by decide) hN hBm hP5.2.1 hP5.2.2.1 hwd
          obtain ⟨g6, y1, y2⟩ := step_n (s := s) (t := t) (k := k) hN hBc d3 d1 d2
          have h610 : h6 10 = 0 := (x3 10 (by omega) (by omega)).trans hP5.2.2.1
          unfold fX2_readPrint_89 fX4_printTold_52
          rw [if_pos hwd, y1, bs, bl_t hwd, if_neg (show ¬ (1 : Int32) = 0 by decide), kq_v25, put_x hc, bs, kq_p25, bs, x1, bs, if_neg (show ¬ (1 : Int32) = 0 by decide)]
          rw [if_pos (nq_t h610), if_neg (show ¬ (1 : Int32) = 0 by decide), nq_prints hc hv0, bs]
          exact Or.inl ⟨m, nx f n b5, g6, _, h6, by omega, hP5.nx y2 x2 x3 (hs.pt hc (Or.inr hv0)) (hpt _ _), rfl, rfl⟩
        · unfold fX2_readPrint_89 fX4_printTold_51 fX4_printTold_52
          rw [if_neg hwd, bl_f hwd, if_pos rfl, kq_v25, put_x hc, bs, kq_p25, bs, takes_f (by decide) hN hBm hP5.2.1 hP5.2.2.1 hwd, bs, if_pos rfl]
          rw [if_pos (nq_t hP5.2.2.1), if_pos rfl, nq_prints hc hv0, bs]
          exact Or.inl ⟨m, b5, g5, _, h5, hx7, hP5.ts (hs.pt hc (Or.inr hv0)) (hpt _ _), rfl, rfl⟩
      · obtain ⟨v4, u1⟩ := num_f (s := t) hN hBm hP4.2.1 hP4.2.2.1 (show (0 : Int32) ≤ 0 by decide) (show (9 : Int32) ≤ 999 by decide) hz3
        unfold fX4_printTold_51 fX4_printTold_52
        rw [if_neg hz3, u1, bs]
        rw [if_neg (nq_f uu), if_neg (nq_f uu)]
        exact Or.inr ⟨b4, g4, t, t, upd h4 10 1, hP4.wr (fun _ _ => rfl), rfl, rfl⟩
    · obtain ⟨v3, u1⟩ := num_f (s := t) hN hBm hP3.2.1 hP3.2.2.1 (show (0 : Int32) ≤ 0 by decide) t2le hz2
      have hW := hP3.wr (t2 := t) (fun _ _ => rfl)
      obtain ⟨v4, u4⟩ := num_w (s := t) (lo := 0) (hi := 9) hN hBm hW.2.1
      unfold fX4_printTold_51 fX4_printTold_52
      rw [if_neg hz2, u1, bs]
      dsimp only
      rw [u4, bs]
      rw [if_neg (nq_f uu), if_neg (nq_f uu)]
      exact Or.inr ⟨b3, g3, t, t, upd h3 10 1, hW, rfl, rfl⟩
  · obtain ⟨v2, u1⟩ := num_f (s := t) hN hBm hP2.2.1 hP2.2.2.1 (show (0 : Int32) ≤ 0 by decide) (show (23 : Int32) ≤ 999 by decide) hz
    have hW := hP2.wr (t2 := t) (fun _ _ => rfl)
    obtain ⟨v3, u3⟩ := num_w (s := t) (lo := 0) (hi := t 2 - 1) hN hBm hW.2.1
    obtain ⟨v4, u4⟩ := num_w (s := t) (lo := 0) (hi := 9) hN hBm hW.2.1
    unfold fX4_printTold_51 fX4_printTold_52
    rw [if_neg hz, u1, bs]
    dsimp only
    rw [nq_r2, bs, u3, bs]
    dsimp only
    rw [u4, bs]
    rw [if_neg (nq_f uu), if_neg (nq_f uu)]
    exact Or.inr ⟨b2, g2, t, t, upd h2 10 1, hW, rfl, rfl⟩
end PR
end SIMP
