section SIMM
theorem nln {a : Nat} (L : Int32) (b : Nat) (e : L = nI b) (ha : a < 1000000) (hb : b < 1000000) (h : ¬ a = b) : ¬ nI a = L := fun z => h ((nI_eq (by omega) (by omega)).mp (z.trans e))
/-! ===== tokens: where they begin and end, in plain numbers ===== -/
def kdN (v : Nat) : Nat := if 97 ≤ v ∧ v ≤ 122 then 1 else if 48 ≤ v ∧ v ≤ 57 then 2 else if v = 59 then 3 else 4
def rnp (c : Nat → Bool) (f : Nat → Nat) : Nat → Nat → Nat
  | 0, p => p
  | d + 1, p => if c (f p) then rnp c f d (p + 1) else p
theorem rnp_r (c : Nat → Bool) (f : Nat → Nat) : ∀ d p, p ≤ rnp c f d p ∧ rnp c f d p ≤ p + d
  | 0, p => ⟨Nat.le_refl _, Nat.le_refl _⟩
  | d + 1, p => by
    have h := rnp_r c f d (p + 1)
    unfold rnp
    split <;> omega
theorem rnp_a (c : Nat → Bool) (f : Nat → Nat) : ∀ d p j, p ≤ j → j < rnp c f d p → c (f j) = true
  | 0, p, j, h1, h2 => by
    have : rnp c f 0 p = p := rfl
    omega
  | d + 1, p, j, h1, h2 => by
    by_cases h : c (f p) = true
    · have e : rnp c f (d + 1) p = rnp c f d (p + 1) := if_pos h
      rw [e] at h2
      by_cases e2 : j = p
      · rw [e2]
        exact h
      · exact rnp_a c f d (p + 1) j (by omega) h2
    · have e : rnp c f (d + 1) p = p := if_neg h
      omega
def isK (kd v : Nat) : Bool := decide (kdN v = kd)
def isB9 (v : Nat) : Bool := decide (v = 32)
def en (kd : Nat) (f : Nat → Nat) (d p : Nat) : Nat := if kd = 1 ∨ kd = 2 then rnp (isK kd) f d p else p
def tB (f : Nat → Nat) (n p : Nat) : Nat := rnp isB9 f (n - p) p
def tK (f : Nat → Nat) (n b : Nat) : Nat := if b < n then kdN (f b) else 0
def tE (f : Nat → Nat) (n b : Nat) : Nat := if b < n then en (kdN (f b)) f (n - (b + 1)) (b + 1) else b
def upv (kd x v : Nat) : Nat := if kd = 2 then min 1000 (v * 10 + (x - 48)) else v
def vlN (kd : Nat) (f : Nat → Nat) : Nat → Nat → Nat → Nat
  | 0, _, v => v
  | d + 1, p, v => vlN kd f d (p + 1) (upv kd (f p) v)
def tV (f : Nat → Nat) (n b : Nat) : Nat := if b < n then vlN (kdN (f b)) f (tE f n b - b) b 0 else 0
theorem en_r (kd : Nat) (f : Nat → Nat) (d p : Nat) : p ≤ en kd f d p ∧ en kd f d p ≤ p + d := by
  have h := rnp_r (isK kd) f d p
  unfold en
  split <;> omega
theorem tB_r {f : Nat → Nat} {n p : Nat} (h : p ≤ n) : p ≤ tB f n p ∧ tB f n p ≤ n := by
  have h2 := rnp_r isB9 f (n - p) p
  unfold tB
  omega
theorem tE_r {f : Nat → Nat} {n b : Nat} (h : b ≤ n) : b ≤ tE f n b ∧ tE f n b ≤ n := by
  unfold tE
  split
  · have := en_r (kdN (f b)) f (n - (b + 1)) (b + 1)
    omega
  · omega
theorem tE_s {f : Nat → Nat} {n b : Nat} (h : b < n) : b < tE f n b := by
  unfold tE
  rw [if_pos h]
  have := en_r (kdN (f b)) f (n - (b + 1)) (b + 1)
  omega
theorem upv_le {kd x v : Nat} (h : v ≤ 1000) : upv kd x v ≤ 1000 := by
  unfold upv
  split <;> omega
theorem vlN_le (kd : Nat) (f : Nat → Nat) : ∀ d p v, v ≤ 1000 → vlN kd f d p v ≤ 1000
  | 0, _, _, h => h
  | d + 1, p, v, h => vlN_le kd f d (p + 1) _ (upv_le h)
theorem tV_le {f : Nat → Nat} {n b : Nat} : tV f n b ≤ 1000 := by
  unfold tV
  split
  · exact vlN_le _ _ _ _ _ (by omega)
  · omega
theorem kdN_le (v : Nat) : 1 ≤ kdN v ∧ kdN v ≤ 4 := by
  unfold kdN
  split
  · omega
  · split
    · omega
    · split <;> omega
/-- the class's sort of a byte -/
theorem tok_n : ∀ v, v < 256 → fX2_tokenOfByte (nI v) = some (nI (kdN v)) := by decide +kernel
/-! ===== the class's tape, its own numbers apart ===== -/
def kq (κ : St2) (g s t k : Nat → Int32) : St2 := cq (va_up κ 2 g) s t k
section KQ
variable {N n : Nat} {f : Nat → Nat} {κ : St2} {g s t k : Nat → Int32}
theorem kq_2 : kq κ g s t k 2 = g := by
  unfold kq
  rw [cq_lo (by decide), vu_s]
theorem kq_3 : kq κ g s t k 3 = κ 3 := by
  unfold kq
  rw [cq_lo (by decide), vu_o (by decide)]
theorem kq_pf {j : Nat} {v : Int32} : pf (kq κ g s t k) 2 j v = some (kq κ (upd g j v) s t k) := by
  unfold pf
  rw [kq_2]
  unfold kq
  rw [cq_up (by decide), vu_vu]
def By (n : Nat) (f : Nat → Nat) (h : Nat → Int32) : Prop := n ≤ 120 ∧ ∀ j, j < n → h j = nI (f j) ∧ f j < 256
theorem kq_rd {p : Nat} (hB : By n f (κ 3)) (hp : p < n) : rd (kq κ g s t k 3) 120 (nI p) = some (nI (f p)) := by
  have := hB.1
  rw [kq_3, rd_n (by omega) (by decide), (hB.2 p hp).1]
def TG (f : Nat → Nat) (n b : Nat) (g : Nat → Int32) : Prop := g 1 = nI n ∧ g 2 = nI (tK f n b) ∧ g 3 = nI b ∧ g 4 = nI (tE f n b) ∧ g 5 = nI (tV f n b) ∧ b ≤ n
theorem stp8 (hB : By n f (κ 3)) : ∀ (d p fuel : Nat) (g : Nat → Int32), p + d = n → d < fuel → g 1 = nI n → g 3 = nI p → ∃ g2 : Nat → Int32, g2 1 = nI n ∧ g2 3 = nI (rnp isB9 f d p) ∧ fX2_step_8 N fuel (kq κ g s t k) = fX2_step_46 N (kq κ g2 s t k) := by
  have hn := hB.1
  intro d
  induction d with
  | zero =>
    intro p fuel g hp hf h1 h3
    obtain ⟨fuel, rfl⟩ : ∃ z, fuel = z + 1 := ⟨fuel - 1, by omega⟩
    exact ⟨g, h1, h3, by rw [fX2_step_8, kq_2, h1, h3, if_pos (le_n (by omega) (by omega))]⟩
  | succ d ih =>
    intro p fuel g hp hf h1 h3
    obtain ⟨fuel, rfl⟩ : ∃ z, fuel = z + 1 := ⟨fuel - 1, by omega⟩
    by_cases h : f p = 32
    · obtain ⟨g2, q1, q2, q3⟩ := ih (p + 1) fuel (upd g 3 (nI (p + 1))) (by omega) (by omega) h1 rfl
      have e : rnp isB9 f (d + 1) p = rnp isB9 f d (p + 1) := if_pos (decide_eq_true h)
      refine ⟨g2, q1, by rw [e, q2], ?_⟩
      rw [fX2_step_8, kq_2, h1, h3, if_neg (nle_n (by omega) (by omega)), kq_rd hB (by omega), bs, h, if_pos (show nI 32 = 32 from rfl), kq_pf, bs, one_n, q3]
    · have e : rnp isB9 f (d + 1) p = p := if_neg (by simp [isB9, h])
      have hb := (hB.2 p (by omega)).2
      refine ⟨g, h1, by rw [e, h3], ?_⟩
      rw [fX2_step_8, kq_2, h1, h3, if_neg (nle_n (by omega) (by omega)), kq_rd hB (by omega), bs, if_neg (nln 32 32 rfl (by omega) (by omega) h)]
/-- a byte behind a token's: does it go on? -/
def gon (kd : Nat) (f : Nat → Nat) (n p : Nat) : Prop := (kd = 1 ∨ kd = 2) ∧ p < n ∧ kdN (f p) = kd
theorem s156 {kd p : Nat} {K : St2 → Int32 → Option St2} (hB : By n f (κ 3)) (hk : kd ≤ 4) (hp : p < n) (h1 : g 1 = nI n) (h2 : g 2 = nI kd) (h4 : g 4 = nI p) : (gon kd f n (p + 1) → fX2_step_156 N K (kq κ g s t k) = K (kq κ (upd g 4 (nI (p + 1))) s t k) 1) ∧ (¬ gon kd f n (p + 1) → fX2_step_156 N K (kq κ g s t k) = K (kq κ (upd g 4 (nI (p + 1))) s t k) 0) := by
  have hn := hB.1
  have e0 : fX2_step_156 N K (kq κ g s t k) = if nI kd = 1 then fX2_step_182 N K (kq κ (upd g 4 (nI (p + 1))) s t k) else if nI kd = 2 then fX2_step_182 N K (kq κ (upd g 4 (nI (p + 1))) s t k) else fX2_step_187 N K (kq κ (upd g 4 (nI (p + 1))) s t k) 0 := by
    unfold fX2_step_156
    rw [kq_2, kq_pf, bs, kq_2, h4, one_n, uw (j := 2) (k := 4) (by omega), h2]
  have e1 : fX2_step_182 N K (kq κ (upd g 4 (nI (p + 1))) s t k) = if nI n ≤ nI (p + 1) then K (kq κ (upd g 4 (nI (p + 1))) s t k) 0 else (rd (kq κ (upd g 4 (nI (p + 1))) s t k 3) 120 (nI (p + 1))).bind fun a6 => (fX2_tokenOfByte a6).bind fun y7 => if y7 = nI kd then K (kq κ (upd g 4 (nI (p + 1))) s t k) 1 else K (kq κ (upd g 4 (nI (p + 1))) s t k) 0 := by
    unfold fX2_step_182 fX2_step_187 fX2_step_226 fX2_step_227
    rw [if_neg (by decide), kq_2, uu, uw (j := 1) (k := 4) (by omega), h1, uw (j := 2) (k := 4) (by omega), h2]
  have e2 : fX2_step_187 N K (kq κ (upd g 4 (nI (p + 1))) s t k) 0 = K (kq κ (upd g 4 (nI (p + 1))) s t k) 0 := by
    unfold fX2_step_187 fX2_step_226 fX2_step_227
    rw [if_pos rfl]
  rw [e0, e1, e2]
  by_cases hx : kd = 1 ∨ kd = 2
  · have ex : ∀ (X Y : Option St2), (if nI kd = 1 then X else if nI kd = 2 then X else Y) = X := fun X Y => by
      rcases hx with rfl | rfl
      · exact if_pos rfl
      · rw [if_neg (by decide), if_pos (by decide)]
    rw [ex]
    by_cases hl : p + 1 < n
    · have hb := (hB.2 (p + 1) hl).2
      have hq := kdN_le (f (p + 1))
      rw [if_neg (nle_n hl (by omega)), kq_rd hB hl, bs, tok_n _ hb, bs]
      constructor
      · intro h
        rw [h.2.2, if_pos rfl]
      · intro h
        rw [if_neg (fun e => h ⟨hx, hl, (nI_eq (by omega) (by omega)).mp e⟩)]
    · rw [if_pos (le_n (by omega) (by omega))]
      exact ⟨fun h => absurd h.2.1 hl, fun _ => rfl⟩
  · rw [if_neg (nln 1 1 rfl (by omega) (by omega) (fun e => hx (Or.inl e))), if_neg (nln 2 2 rfl (by omega) (by omega) (fun e => hx (Or.inr e)))]
    exact ⟨fun h => absurd h.1 hx, fun _ => rfl⟩
theorem kd_dig {v : Nat} (h : kdN v = 2) : 48 ≤ v ∧ v ≤ 57 := by
  unfold kdN at h
  split at h
  · omega
  · split at h
    · assumption
    · split at h <;> omega
theorem upv_i {x v : Nat} (hx : 48 ≤ x ∧ x ≤ 57) (hv : v ≤ 1000) : imin 1000 (((nI v * 10) + nI x) - 48) = nI (upv 2 x v) := by
  rw [show (10 : Int32) = nI 10 from rfl, pk_mul, nI_add, show (48 : Int32) = nI 48 from rfl, pk_sub (by omega)]
  unfold upv imin
  rw [if_pos rfl]
  by_cases h : v * 10 + x - 48 < 1000
  · rw [if_pos (show nI (v * 10 + x - 48) < 1000 from nI_lt (b := 1000) h (by omega))]
    congr 1
    omega
  · rw [if_neg (show ¬ nI (v * 10 + x - 48) < 1000 from nI_nlt (b := 1000) (by omega) (by omega)), show min 1000 (v * 10 + (x - 48)) = 1000 by omega]
    rfl
theorem s103 {kd b : Nat} (hB : By n f (κ 3)) (hk : kd ≤ 4) : ∀ (d p v fuel : Nat) (g : Nat → Int32), p + d + 1 = n → d + 1 < fuel → kdN (f p) = kd → v ≤ 1000 → g 1 = nI n → g 2 = nI kd → g 3 = nI b → g 4 = nI p → g 5 = nI v → ∃ g2 : Nat → Int32, fX2_step_103 N fuel (kq κ g s t k) 1 = some (kq κ g2 s t k) ∧ g2 1 = nI n ∧ g2 2 = nI kd ∧ g2 3 = nI b ∧ g2 4 = nI (en kd f d (p + 1)) ∧ g2 5 = nI (vlN kd f (en kd f d (p + 1) - p) p v) := by
  have hn := hB.1
  intro d
  induction d with
  | zero =>
    intro p v fuel g hp hf hkd hv h1 h2 h3 h4 h5
    obtain ⟨fuel, rfl⟩ : ∃ z, fuel = z + 2 := ⟨fuel - 2, by omega⟩
    have ee : en kd f 0 (p + 1) = p + 1 := by
      have := en_r kd f 0 (p + 1)
      omega
    have ng : ¬ gon kd f n (p + 1) := fun h => absurd h.2.1 (by omega)
    have ev : vlN kd f (p + 1 - p) p v = upv kd (f p) v := by
      rw [show p + 1 - p = 0 + 1 by omega]
      rfl
    rw [ee, ev]
    by_cases e2 : kd = 2
    · subst e2
      have hdg := kd_dig hkd
      refine ⟨upd (upd g 5 (nI (upv 2 (f p) v))) 4 (nI (p + 1)), ?_, h1, h2, h3, rfl, rfl⟩
      rw [fX2_step_103, if_neg (by decide), kq_2, h1, h4, if_neg (nle_n (by omega) (by omega)), h2, if_pos (show nI 2 = 2 from rfl), kq_rd hB (by omega), bs, h5, upv_i hdg hv, kq_pf, bs, (s156 (g := upd g 5 (nI (upv 2 (f p) v))) hB hk (by omega) h1 h2 h4).2 ng, fX2_step_103, if_pos rfl]
    · have hup : upv kd (f p) v = v := if_neg e2
      rw [hup]
      refine ⟨upd g 4 (nI (p + 1)), ?_, h1, h2, h3, rfl, h5⟩
      rw [fX2_step_103, if_neg (by decide), kq_2, h1, h4, if_neg (nle_n (by omega) (by omega)), h2, if_neg (nln 2 2 rfl (by omega) (by omega) e2), (s156 hB hk (by omega) h1 h2 h4).2 ng, fX2_step_103, if_pos rfl]
  | succ d ih =>
    intro p v fuel g hp hf hkd hv h1 h2 h3 h4 h5
    obtain ⟨fuel, rfl⟩ : ∃ z, fuel = z + 2 := ⟨fuel - 2, by omega⟩
    have hbb := (hB.2 (p + 1) (by omega)).2
    by_cases hg : gon kd f n (p + 1)
    · have ee : en kd f (d + 1) (p + 1) = en kd f d (p + 2) := by
        unfold en
        rw [if_pos hg.1, if_pos hg.1]
        exact if_pos (decide_eq_true hg.2.2)
      have hr := en_r kd f d (p + 2)
      have ev : vlN kd f (en kd f d (p + 2) - p) p v = vlN kd f (en kd f d (p + 2) - (p + 1)) (p + 1) (upv kd (f p) v) := by
        rw [show en kd f d (p + 2) - p = (en kd f d (p + 2) - (p + 1)) + 1 by omega]
        rfl
      rw [ee, ev]
      by_cases e2 : kd = 2
      · subst e2
        have hdg := kd_dig hkd
        obtain ⟨g2, q1, q2⟩ := ih (p + 1) (upv 2 (f p) v) (fuel + 1) (upd (upd g 5 (nI (upv 2 (f p) v))) 4 (nI (p + 1))) (by omega) (by omega) hg.2.2 (upv_le hv) h1 h2 h3 rfl rfl
        refine ⟨g2, ?_, q2⟩
        rw [fX2_step_103, if_neg (by decide), kq_2, h1, h4, if_neg (nle_n (by omega) (by omega)), h2, if_pos (show nI 2 = 2 from rfl), kq_rd hB (by omega), bs, h5, upv_i hdg hv, kq_pf, bs, (s156 (g := upd g 5 (nI (upv 2 (f p) v))) hB hk (by omega) h1 h2 h4).1 hg, q1]
      · have hup : upv kd (f p) v = v := if_neg e2
        rw [hup]
        obtain ⟨g2, q1, q2⟩ := ih (p + 1) v (fuel + 1) (upd g 4 (nI (p + 1))) (by omega) (by omega) hg.2.2 hv h1 h2 h3 rfl h5
        refine ⟨g2, ?_, q2⟩
        rw [fX2_step_103, if_neg (by decide), kq_2, h1, h4, if_neg (nle_n (by omega) (by omega)), h2, if_neg (nln 2 2 rfl (by omega) (by omega) e2), (s156 hB hk (by omega) h1 h2 h4).1 hg, q1]
    · have ee : en kd f (d + 1) (p + 1) = p + 1 := by
        unfold en
        by_cases hx : kd = 1 ∨ kd = 2
        · rw [if_pos hx]
          exact if_neg (fun h => hg ⟨hx, by omega, of_decide_eq_true h⟩)
        · rw [if_neg hx]
      have ev : vlN kd f (p + 1 - p) p v = upv kd (f p) v := by
        rw [show p + 1 - p = 0 + 1 by omega]
        rfl
      rw [ee, ev]
      by_cases e2 : kd = 2
      · subst e2
        have hdg := kd_dig hkd
        refine ⟨upd (upd g 5 (nI (upv 2 (f p) v))) 4 (nI (p + 1)), ?_, h1, h2, h3, rfl, rfl⟩
        rw [fX2_step_103, if_neg (by decide), kq_2, h1, h4, if_neg (nle_n (by omega) (by omega)), h2, if_pos (show nI 2 = 2 from rfl), kq_rd hB (by omega), bs, h5, upv_i hdg hv, kq_pf, bs, (s156 (g := upd g 5 (nI (upv 2 (f p) v))) hB hk (by omega) h1 h2 h4).2 hg, fX2_step_103, if_pos rfl]
      · have hup : upv kd (f p) v = v := if_neg e2
        rw [hup]
        refine ⟨upd g 4 (nI (p + 1)), ?_, h1, h2, h3, rfl, h5⟩
        rw [fX2_step_103, if_neg (by decide), kq_2, h1, h4, if_neg (nle_n (by omega) (by omega)), h2, if_neg (nln 2 2 rfl (by omega) (by omega) e2), (s156 hB hk (by omega) h1 h2 h4).2 hg, fX2_step_103, if_pos rfl]
/-- the class goes on to the next token -/
theorem step_n {e : Nat} (hN : 1000 ≤ N) (hB : By n f (κ 3)) (he : e ≤ n) (h1 : g 1 = nI n) (h4 : g 4 = nI e) : ∃ g2 : Nat → Int32, fX2_step N (kq κ g s t k) = some (kq κ g2 s t k) ∧ TG f n (tB f n e) g2 := by
  have hn := hB.1
  unfold fX2_step
  rw [kq_2, kq_pf, bs, h4]
  obtain ⟨g2, q1, q2, q3⟩ := stp8 (N := N) (s := s) (t := t) (k := k) hB (n - e) e N (upd g 3 (nI e)) (by omega) (by omega) h1 rfl
  rw [q3]
  have hb := tB_r (f := f) he
  have q2' : g2 3 = nI (tB f n e) := q2
  generalize tB f n e = b at hb q2'
  unfold fX2_step_46
  rw [kq_2, kq_pf, bs, kq_pf, bs, kq_2, q2', uw (j := 1) (k := 5) (by omega), uw (j := 1) (k := 4) (by omega), q1, uw (j := 3) (k := 5) (by omega), uw (j := 3) (k := 4) (by omega), q2']
  by_cases hl : b < n
  · have hbb := (hB.2 b hl).2
    have hkd := kdN_le (f b)
    have hk0 : ¬ nI (kdN (f b)) = 0 := nI_ne0 (by omega) (by omega)
    rw [if_neg (nle_n hl (by omega)), kq_rd hB hl, bs, tok_n _ hbb, bs]
    unfold fX2_step_87 fX2_step_102
    rw [kq_pf, bs, kq_2, uu, if_neg hk0]
    obtain ⟨g3, r1, r2, r3, r4, r5, r6⟩ := s103 (N := N) (s := s) (t := t) (k := k) (kd := kdN (f b)) (b := b) hB hkd.2 (n - (b + 1)) b 0 N (upd (upd (upd g2 4 (nI b)) 5 0) 2 (nI (kdN (f b)))) (by omega) (by omega) rfl (by omega) q1 rfl q2' rfl rfl
    have te : tE f n b = en (kdN (f b)) f (n - (b + 1)) (b + 1) := if_pos hl
    refine ⟨g3, r1, r2, ?_, r4, ?_, ?_, hb.2⟩
    · rw [r3]
      unfold tK
      rw [if_pos hl]
    · rw [r5, te]
    · rw [r6, ← te]
      unfold tV
      rw [if_pos hl]
  · have eb : b = n := by omega
    subst eb
    rw [if_pos (le_n (by omega) (by omega))]
    unfold fX2_step_87 fX2_step_102
    rw [kq_pf, bs, kq_2, uu, if_pos rfl]
    obtain ⟨N, rfl⟩ : ∃ z, N = z + 1 := ⟨N - 1, by omega⟩
    refine ⟨upd (upd (upd g2 4 (nI b)) 5 0) 2 0, by rw [fX2_step_103, if_pos rfl], q1, ?_, q2', ?_, ?_, Nat.le_refl _⟩
    · unfold tK
      rw [if_neg (by omega)]
      rfl
    · unfold tE
      rw [if_neg (by omega)]
      rfl
    · unfold tV
      rw [if_neg (by omega)]
      rfl
end KQ
end SIMM
