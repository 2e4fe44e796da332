section SIMN
/-! ===== the reference's tape, its own numbers apart ===== -/
def nq (τ : St2) (h s : Nat → Int32) : St2 := mq (va_up τ 0 h) s
section NQ
variable {N n : Nat} {f : Nat → Nat} {τ : St2} {h s : Nat → Int32}
theorem nq_0 : nq τ h s 0 = h := by
  unfold nq
  rw [mq_o (by decide), vu_s]
theorem nq_5 : nq τ h s 5 = τ 5 := by
  unfold nq
  rw [mq_o (by decide), vu_o (by decide)]
theorem nq_1 : nq τ h s 1 = s := by
  unfold nq
  rw [mq_1]
theorem nq_pf {j : Nat} {v : Int32} : pf (nq τ h s) 0 j v = some (nq τ (upd h j v) s) := by
  unfold pf
  rw [nq_0]
  unfold nq
  rw [mq_upo (by decide), vu_vu]
theorem nq_pfz {j : Nat} {v : Int32} (hv : v = 0 ∨ v = 1) : pfz (nq τ h s) 0 j v = some (nq τ (upd h j v) s) := by
  unfold pfz
  rw [if_pos hv, nq_0]
  unfold nq
  rw [mq_upo (by decide), vu_vu]
theorem up_self {g : Nat → Int32} {j : Nat} {v : Int32} (e : g j = v) : upd g j v = g := by
  funext i
  unfold upd
  by_cases h : i = j
  · rw [if_pos h, h, e]
  · rw [if_neg h]
/-- all but the two places of the token -/
def Ot (h h2 : Nat → Int32) : Prop := ∀ j, j ≠ 8 → j ≠ 9 → h2 j = h j
theorem isByte_n {p lo hi : Nat} {v2 v3 : Int32} (hB : By n f (τ 5)) (h7 : h 7 = nI n) (hp : p ≤ n) (hlo : lo < 256) (hhi : hi < 256) (e2 : v2 = nI lo) (e3 : v3 = nI hi) : fX4_isByte (nq τ h s) (nI p) v2 v3 = some (bl (p < n ∧ lo ≤ f p ∧ f p ≤ hi)) := by
  have hn := hB.1
  unfold fX4_isByte
  rw [nq_0, h7]
  by_cases hl : p < n
  · have hb := (hB.2 p hl).2
    rw [if_neg (nle_n hl (by omega)), nq_5, rd_n (by omega) (by decide), bs, (hB.2 p hl).1, in_eq rfl rfl, bs, bl0, e2, e3]
    by_cases h9 : lo ≤ f p ∧ f p ≤ hi
    · rw [if_pos ⟨le_n h9.1 (by omega), le_n h9.2 (by omega)⟩, bl_t ⟨hl, h9⟩]
    · rw [if_neg (fun z => h9 ⟨(nI_leI (by omega) (by omega)).mp z.1, (nI_leI (by omega) (by omega)).mp z.2⟩), bl_f (fun z => h9 z.2)]
  · rw [if_pos (le_n (by omega) (by omega)), bl_f (fun z => hl z.1)]
theorem isB_32 {p : Nat} (hB : By n f (τ 5)) (h7 : h 7 = nI n) (hp : p ≤ n) : fX4_isByte (nq τ h s) (nI p) 32 32 = some (bl (p < n ∧ 32 ≤ f p ∧ f p ≤ 32)) := isByte_n hB h7 hp (by decide) (by decide) rfl rfl
theorem isB_L {p : Nat} (hB : By n f (τ 5)) (h7 : h 7 = nI n) (hp : p ≤ n) : fX4_isByte (nq τ h s) (nI p) 97 122 = some (bl (p < n ∧ 97 ≤ f p ∧ f p ≤ 122)) := isByte_n hB h7 hp (by decide) (by decide) rfl rfl
theorem isB_D {p : Nat} (hB : By n f (τ 5)) (h7 : h 7 = nI n) (hp : p ≤ n) : fX4_isByte (nq τ h s) (nI p) 48 57 = some (bl (p < n ∧ 48 ≤ f p ∧ f p ≤ 57)) := isByte_n hB h7 hp (by decide) (by decide) rfl rfl
theorem kd_1 {v : Nat} : kdN v = 1 ↔ 97 ≤ v ∧ v ≤ 122 := by
  unfold kdN
  split
  · exact ⟨fun _ => by assumption, fun _ => rfl⟩
  · rename_i h
    refine ⟨fun e => ?_, fun e => absurd e h⟩
    split at e
    · omega
    · split at e <;> omega
theorem kd_2 {v : Nat} : kdN v = 2 ↔ 48 ≤ v ∧ v ≤ 57 := by
  refine ⟨kd_dig, fun h => ?_⟩
  unfold kdN
  rw [if_neg (by omega), if_pos h]
theorem bl_c {p q : Prop} [Decidable p] [Decidable q] (h : p ↔ q) : bl p = bl q := by
  by_cases h1 : p
  · rw [bl_t h1, bl_t (h.mp h1)]
  · rw [bl_f h1, bl_f (fun z => h1 (h.mpr z))]
theorem nx8 (hB : By n f (τ 5)) : ∀ (d p fuel : Nat) (h : Nat → Int32), p + d = n → d < fuel → h 7 = nI n → h 8 = nI p → ∃ h2 : Nat → Int32, h2 8 = nI (rnp isB9 f d p) ∧ h2 9 = nI (rnp isB9 f d p) ∧ Ot h h2 ∧ fX4_next_8 N fuel (nq τ h s) = fX4_next_70 N (bl (rnp isB9 f d p < n ∧ kdN (f (rnp isB9 f d p)) = 1)) (bl (rnp isB9 f d p < n ∧ kdN (f (rnp isB9 f d p)) = 2)) N (nq τ h2 s) := by
  have hn := hB.1
  have fin : ∀ (p fuel : Nat) (h : Nat → Int32), p ≤ n → h 7 = nI n → h 8 = nI p → ¬ (p < n ∧ 32 ≤ f p ∧ f p ≤ 32) → ∃ h2 : Nat → Int32, h2 8 = nI p ∧ h2 9 = nI p ∧ Ot h h2 ∧ fX4_next_8 N (fuel + 1) (nq τ h s) = fX4_next_70 N (bl (p < n ∧ kdN (f p) = 1)) (bl (p < n ∧ kdN (f p) = 2)) N (nq τ h2 s) := by
    intro p fuel h hp h7 h8 hx
    refine ⟨upd h 9 (nI p), h8, rfl, fun j j8 j9 => uw j9, ?_⟩
    have h7' : upd h 9 (nI p) 7 = nI n := h7
    rw [fX4_next_8, nq_0, h8, isB_32 hB h7 hp, bs, bl0, if_neg hx, nq_pf, bs, nq_0, uw (j := 8) (k := 9) (by omega), h8, isB_L hB h7' hp, bs, isB_D hB h7' hp, bs, bl_c (and_congr_right fun _ => kd_1), bl_c (and_congr_right fun _ => kd_2)]
  intro d
  induction d with
  | zero =>
    intro p fuel h hp hf h7 h8
    obtain ⟨fuel, rfl⟩ : ∃ z, fuel = z + 1 := ⟨fuel - 1, by omega⟩
    exact fin p fuel h (by omega) h7 h8 (fun z => absurd z.1 (by omega))
  | succ d ih =>
    intro p fuel h hp hf h7 h8
    obtain ⟨fuel, rfl⟩ : ∃ z, fuel = z + 1 := ⟨fuel - 1, by omega⟩
    by_cases hc : f p = 32
    · have e : rnp isB9 f (d + 1) p = rnp isB9 f d (p + 1) := if_pos (decide_eq_true hc)
      obtain ⟨h2, q1, q2, q3, q4⟩ := ih (p + 1) fuel (upd h 8 (nI (p + 1))) (by omega) (by omega) h7 rfl
      rw [e]
      refine ⟨h2, q1, q2, fun j j8 j9 => (q3 j j8 j9).trans (uw j8), ?_⟩
      rw [fX4_next_8, nq_0, h8, isB_32 hB h7 (by omega), bs, bl0, if_pos ⟨by omega, by omega, by omega⟩, nq_pf, bs, one_n, q4]
    · have e : rnp isB9 f (d + 1) p = p := if_neg (by simp [isB9, hc])
      rw [e]
      exact fin p fuel h (by omega) h7 h8 (fun z => hc (by omega))
theorem nx121 {p : Nat} {v1 v2 : Int32} (hv : ¬ (v1 = 0 ∧ v2 = 0)) (h9 : h 9 = nI p) : ∃ h2 : Nat → Int32, h2 9 = nI p ∧ (∀ j, j ≠ 9 → h2 j = h j) ∧ fX4_next_121 N (nq τ h s) v1 v2 = some (nq τ h2 s) := by
  refine ⟨upd h 9 (nI p), rfl, fun j j9 => uw j9, ?_⟩
  unfold fX4_next_121
  rw [nq_0, h9, Int32.add_zero, nq_pf, bs]
  by_cases h1 : v1 = 0
  · rw [if_pos h1, if_neg (fun z => hv ⟨h1, z⟩)]
  · rw [if_neg h1]
theorem nx70L (hB : By n f (τ 5)) : ∀ (d p fuel : Nat) (h : Nat → Int32), p + d = n → d < fuel → h 7 = nI n → h 9 = nI p → ∃ h2 : Nat → Int32, h2 9 = nI (rnp (isK 1) f d p) ∧ (∀ j, j ≠ 9 → h2 j = h j) ∧ fX4_next_70 N 1 0 fuel (nq τ h s) = some (nq τ h2 s) := by
  have hn := hB.1
  intro d
  induction d with
  | zero =>
    intro p fuel h hp hf h7 h9
    obtain ⟨fuel, rfl⟩ : ∃ z, fuel = z + 1 := ⟨fuel - 1, by omega⟩
    obtain ⟨h2, q1, q2, q3⟩ := nx121 (N := N) (τ := τ) (s := s) (v1 := 1) (v2 := 0) (by decide) h9
    refine ⟨h2, q1, q2, ?_⟩
    rw [fX4_next_70, if_neg (by decide), nq_0, h9, isB_L hB h7 (by omega), bs, bl0, if_neg (fun z => absurd z.1 (by omega))]
    unfold fX4_next_89
    rw [if_pos rfl, q3]
  | succ d ih =>
    intro p fuel h hp hf h7 h9
    obtain ⟨fuel, rfl⟩ : ∃ z, fuel = z + 1 := ⟨fuel - 1, by omega⟩
    by_cases hc : kdN (f p) = 1
    · have e : rnp (isK 1) f (d + 1) p = rnp (isK 1) f d (p + 1) := if_pos (decide_eq_true hc)
      obtain ⟨h2, q1, q2, q3⟩ := ih (p + 1) fuel (upd h 9 (nI (p + 1))) (by omega) (by omega) h7 rfl
      rw [e]
      refine ⟨h2, q1, fun j j9 => (q2 j j9).trans (uw j9), ?_⟩
      rw [fX4_next_70, if_neg (by decide), nq_0, h9, isB_L hB h7 (by omega), bs, bl0, if_pos ⟨by omega, kd_1.mp hc⟩]
      unfold fX4_next_108
      rw [nq_0, h9, nq_pf, bs, one_n, q3]
    · have e : rnp (isK 1) f (d + 1) p = p := if_neg (by simp [isK, hc])
      obtain ⟨h2, q1, q2, q3⟩ := nx121 (N := N) (τ := τ) (s := s) (v1 := 1) (v2 := 0) (by decide) h9
      rw [e]
      refine ⟨h2, q1, q2, ?_⟩
      rw [fX4_next_70, if_neg (by decide), nq_0, h9, isB_L hB h7 (by omega), bs, bl0, if_neg (fun z => hc (kd_1.mpr z.2))]
      unfold fX4_next_89
      rw [if_pos rfl, q3]
theorem nx70D (hB : By n f (τ 5)) : ∀ (d p fuel : Nat) (h : Nat → Int32), p + d = n → d < fuel → h 7 = nI n → h 9 = nI p → ∃ h2 : Nat → Int32, h2 9 = nI (rnp (isK 2) f d p) ∧ (∀ j, j ≠ 9 → h2 j = h j) ∧ fX4_next_70 N 0 1 fuel (nq τ h s) = some (nq τ h2 s) := by
  have hn := hB.1
  intro d
  induction d with
  | zero =>
    intro p fuel h hp hf h7 h9
    obtain ⟨fuel, rfl⟩ : ∃ z, fuel = z + 1 := ⟨fuel - 1, by omega⟩
    obtain ⟨h2, q1, q2, q3⟩ := nx121 (N := N) (τ := τ) (s := s) (v1 := 0) (v2 := 1) (by decide) h9
    refine ⟨h2, q1, q2, ?_⟩
    rw [fX4_next_70, if_pos rfl]
    unfold fX4_next_89
    rw [if_neg (by decide), nq_0, h9, isB_D hB h7 (by omega), bs, bl0, if_neg (fun z => absurd z.1 (by omega)), q3]
  | succ d ih =>
    intro p fuel h hp hf h7 h9
    obtain ⟨fuel, rfl⟩ : ∃ z, fuel = z + 1 := ⟨fuel - 1, by omega⟩
    by_cases hc : kdN (f p) = 2
    · have e : rnp (isK 2) f (d + 1) p = rnp (isK 2) f d (p + 1) := if_pos (decide_eq_true hc)
      obtain ⟨h2, q1, q2, q3⟩ := ih (p + 1) fuel (upd h 9 (nI (p + 1))) (by omega) (by omega) h7 rfl
      rw [e]
      refine ⟨h2, q1, fun j j9 => (q2 j j9).trans (uw j9), ?_⟩
      rw [fX4_next_70, if_pos rfl]
      unfold fX4_next_89 fX4_next_108
      rw [if_neg (by decide), nq_0, h9, isB_D hB h7 (by omega), bs, bl0, if_pos ⟨by omega, kd_2.mp hc⟩, nq_pf, bs, one_n, q3]
    · have e : rnp (isK 2) f (d + 1) p = p := if_neg (by simp [isK, hc])
      obtain ⟨h2, q1, q2, q3⟩ := nx121 (N := N) (τ := τ) (s := s) (v1 := 0) (v2 := 1) (by decide) h9
      rw [e]
      refine ⟨h2, q1, q2, ?_⟩
      rw [fX4_next_70, if_pos rfl]
      unfold fX4_next_89
      rw [if_neg (by decide), nq_0, h9, isB_D hB h7 (by omega), bs, bl0, if_neg (fun z => hc (kd_2.mpr z.2)), q3]
/-- the reference stands on the token that begins at b -/
def MG (f : Nat → Nat) (n b : Nat) (h : Nat → Int32) : Prop := h 7 = nI n ∧ h 8 = nI b ∧ h 9 = nI (tE f n b) ∧ b ≤ n
/-- the reference goes on to the next token -/
theorem next_n {e : Nat} (hN : 1000 ≤ N) (hB : By n f (τ 5)) (he : e ≤ n) (h7 : h 7 = nI n) (h9 : h 9 = nI e) : ∃ h2 : Nat → Int32, fX4_next N (nq τ h s) = some (nq τ h2 s) ∧ MG f n (tB f n e) h2 ∧ Ot h h2 := by
  have hn := hB.1
  unfold fX4_next
  rw [nq_0, nq_pf, bs, h9]
  obtain ⟨h2, q1, q2, q3, q4⟩ := nx8 (N := N) (s := s) hB (n - e) e N (upd h 8 (nI e)) (by omega) (by omega) h7 rfl
  rw [q4]
  have hb := tB_r (f := f) he
  have q1' : h2 8 = nI (tB f n e) := q1
  have q2' : h2 9 = nI (tB f n e) := q2
  have q3' : Ot h h2 := fun j j8 j9 => (q3 j j8 j9).trans (uw j8)
  have h72 : h2 7 = nI n := (q3' 7 (by omega) (by omega)).trans h7
  show ∃ h3 : Nat → Int32, fX4_next_70 N (bl (tB f n e < n ∧ kdN (f (tB f n e)) = 1)) (bl (tB f n e < n ∧ kdN (f (tB f n e)) = 2)) N (nq τ h2 s) = some (nq τ h3 s) ∧ MG f n (tB f n e) h3 ∧ Ot h h3
  generalize tB f n e = b at hb q1' q2'
  by_cases k1 : b < n ∧ kdN (f b) = 1
  · have te : tE f n b = rnp (isK 1) f (n - b) b := by
      unfold tE en
      rw [if_pos k1.1, k1.2, if_pos (Or.inl rfl), show n - b = (n - (b + 1)) + 1 by omega]
      exact (if_pos (decide_eq_true k1.2)).symm
    obtain ⟨h3, r1, r2, r3⟩ := nx70L (N := N) (s := s) hB (n - b) b N h2 (by omega) (by omega) h72 q2'
    refine ⟨h3, ?_, ⟨(r2 7 (by omega)).trans h72, (r2 8 (by omega)).trans q1', by rw [te, r1], hb.2⟩, fun j j8 j9 => (r2 j j9).trans (q3' j j8 j9)⟩
    rw [bl_t k1, bl_f (fun z => absurd (k1.2.symm.trans z.2) (by decide)), r3]
  · by_cases k2 : b < n ∧ kdN (f b) = 2
    · have te : tE f n b = rnp (isK 2) f (n - b) b := by
        unfold tE en
        rw [if_pos k2.1, k2.2, if_pos (Or.inr rfl), show n - b = (n - (b + 1)) + 1 by omega]
        exact (if_pos (decide_eq_true k2.2)).symm
      obtain ⟨h3, r1, r2, r3⟩ := nx70D (N := N) (s := s) hB (n - b) b N h2 (by omega) (by omega) h72 q2'
      refine ⟨h3, ?_, ⟨(r2 7 (by omega)).trans h72, (r2 8 (by omega)).trans q1', by rw [te, r1], hb.2⟩, fun j j8 j9 => (r2 j j9).trans (q3' j j8 j9)⟩
      rw [bl_t k2, bl_f k1, r3]
    · obtain ⟨N, rfl⟩ : ∃ z, N = z + 1 := ⟨N - 1, by omega⟩
      have e0 : fX4_next_70 (N + 1) (bl (b < n ∧ kdN (f b) = 1)) (bl (b < n ∧ kdN (f b) = 2)) (N + 1) (nq τ h2 s) = fX4_next_121 (N + 1) (nq τ h2 s) 0 0 := by
        rw [bl_f k1, bl_f k2, fX4_next_70, if_pos rfl]
        unfold fX4_next_89
        rw [if_pos rfl]
      rw [e0]
      unfold fX4_next_121
      rw [if_pos rfl, if_pos rfl, nq_0, h72, q1', q2']
      by_cases hl : b < n
      · have te : tE f n b = b + 1 := by
          unfold tE en
          rw [if_pos hl, if_neg (fun z => z.elim (fun y => k1 ⟨hl, y⟩) (fun y => k2 ⟨hl, y⟩))]
        rw [if_neg (nle_n hl (by omega)), one_n, nq_pf, bs]
        exact ⟨_, rfl, ⟨h72, q1', by rw [te]; rfl, hb.2⟩, fun j j8 j9 => (uw j9).trans (q3' j j8 j9)⟩
      · have te : tE f n b = b := if_neg hl
        rw [if_pos (le_n (by omega) (by omega)), Int32.add_zero, nq_pf, bs]
        exact ⟨_, rfl, ⟨h72, q1', by rw [te]; rfl, hb.2⟩, fun j j8 j9 => (uw j9).trans (q3' j j8 j9)⟩
end NQ
end SIMN
