section SIMO
variable {N n b i : Nat} {f : Nat → Nat} {κ : St2} {g s t k : Nat → Int32} {τ : St2} {h : Nat → Int32}
/-! ===== words ===== -/
def wlp (f : Nat → Nat) (b i : Nat) : Nat → Nat → Bool
  | 0, _ => true
  | d + 1, j => if nI (f (b + j)) = sby i j then wlp f b i d (j + 1) else false
def Wd (f : Nat → Nat) (n b i : Nat) : Bool := decide (tE f n b - b = slen i) && wlp f b i (slen i) 0
theorem Wd_t : Wd f n b i = true ↔ tE f n b - b = slen i ∧ wlp f b i (slen i) 0 = true := by
  unfold Wd
  rw [Bool.and_eq_true, decide_eq_true_iff]
theorem w_0 : ∀ i, i < 13 → 0 < slen i ∧ 97 ≤ (sby i 0).toNatClampNeg ∧ (sby i 0).toNatClampNeg ≤ 122 ∧ sby i 0 = nI (sby i 0).toNatClampNeg := by decide +kernel
theorem Wd_k (hB : By n f h) (hb : b ≤ n) (hi : i < 13) (hw : Wd f n b i = true) : b < n ∧ tK f n b = 1 := by
  obtain ⟨h1, h2⟩ := Wd_t.mp hw
  obtain ⟨l0, l1, l2, l3⟩ := w_0 i hi
  have hl : b < n := by
    rcases Nat.lt_or_ge b n with q | q
    · exact q
    · have : tE f n b = b := if_neg (by omega)
      omega
  have hbb := (hB.2 b hl).2
  refine ⟨hl, ?_⟩
  obtain ⟨z, hz⟩ : ∃ z, slen i = z + 1 := ⟨slen i - 1, by omega⟩
  rw [hz] at h2
  have h3 : nI (f (b + 0)) = sby i 0 := by
    by_cases q : nI (f (b + 0)) = sby i 0
    · exact q
    · have e : wlp f b i (z + 1) 0 = false := if_neg q
      rw [e] at h2
      cases h2
  rw [l3, Nat.add_zero] at h3
  have h4 := (nI_eq (by omega) (by omega)).mp h3
  unfold tK
  rw [if_pos hl]
  exact kd_1.mpr (by omega)
theorem len_n : fJ0_length_8abf5 i = some (nI (slen i)) := rfl
theorem chr_n {j : Nat} (hi : i < 14) (hj : j < slen i) : fJ0_charAt_5068e i (nI j) = some (sby i j) := by
  have := slen_31 i hi
  unfold fJ0_charAt_5068e
  rw [rd_n hj (by omega)]
theorem wl_c (hi : i < 14) (hB : By n f (κ 3)) (h3 : g 3 = nI b) (hl : b + slen i ≤ n) : ∀ (d j fuel : Nat), j + d = slen i → d < fuel → fX2_isWord_28 N i (kq κ g s t k) fuel (nI j) = some (bl (wlp f b i d j = true)) := by
  have hn := hB.1
  have hs := slen_31 i hi
  intro d
  induction d with
  | zero =>
    intro j fuel hj hf
    obtain ⟨fuel, rfl⟩ : ∃ z, fuel = z + 1 := ⟨fuel - 1, by omega⟩
    rw [fX2_isWord_28, len_n, bs, if_pos (le_n (by omega) (by omega))]
    exact congrArg some (bl_t (p := wlp f b i 0 j = true) rfl).symm
  | succ d ih =>
    intro j fuel hj hf
    obtain ⟨fuel, rfl⟩ : ∃ z, fuel = z + 1 := ⟨fuel - 1, by omega⟩
    rw [fX2_isWord_28, len_n, bs, if_neg (nle_n (by omega) (by omega)), kq_2, h3, nI_add, kq_rd hB (by omega), bs, chr_n hi (by omega), bs, one_n, ih (j + 1) fuel (by omega) (by omega)]
    by_cases q : nI (f (b + j)) = sby i j
    · have e : wlp f b i (d + 1) j = wlp f b i d (j + 1) := if_pos q
      rw [if_pos q, e]
    · have e : wlp f b i (d + 1) j = false := if_neg q
      rw [if_neg q, e]
      rfl
theorem isWord_c (hi : i < 13) (hN : 1000 ≤ N) (hB : By n f (κ 3)) (hT : TG f n b g) : fX2_isWord N i (kq κ g s t k) = some (bl (Wd f n b i = true)) := by
  obtain ⟨h1, h2, h3, h4, h5, hb⟩ := hT
  have hn := hB.1
  have hr := tE_r (f := f) hb
  have hs := slen_31 i (by omega)
  unfold fX2_isWord
  rw [kq_2, h2, h4, h3, pk_sub (by omega), len_n, bs]
  by_cases hk : tK f n b = 1
  · rw [hk, if_pos (show nI 1 = 1 from rfl)]
    by_cases he : tE f n b - b = slen i
    · have e := wl_c (N := N) (s := s) (t := t) (k := k) (by omega) hB h3 (show b + slen i ≤ n by omega) (slen i) 0 N (by omega) (by omega)
      have e' : fX2_isWord_28 N i (kq κ g s t k) N 0 = _ := e
      rw [he, if_pos rfl, e']
      exact congrArg some (bl_c ⟨fun z => Wd_t.mpr ⟨he, z⟩, fun z => (Wd_t.mp z).2⟩)
    · rw [if_neg (fun z => he ((nI_eq (by omega) (by omega)).mp z)), bl_f (fun z => he (Wd_t.mp z).1)]
  · have hk4 : tK f n b ≤ 4 := by
      unfold tK
      split
      · exact (kdN_le _).2
      · omega
    rw [if_neg (nln 1 1 rfl (by omega) (by omega) hk), bl_f (fun z => hk (Wd_k hB hb hi z).2)]
theorem bz1 : bz 1 = some 1 := if_pos (Or.inr rfl)
theorem bz0 : bz 0 = some 0 := if_pos (Or.inl rfl)
theorem wl_m (hi : i < 14) (hB : By n f (τ 5)) (h8 : h 8 = nI b) (hl : b + slen i ≤ n) : ∀ (d j fuel : Nat), j + d = slen i → d + 1 < fuel → fX4_isWord_31 N i (nq τ h s) fuel 1 (nI j) = some (bl (wlp f b i d j = true)) := by
  have hn := hB.1
  have hs := slen_31 i hi
  intro d
  induction d with
  | zero =>
    intro j fuel hj hf
    obtain ⟨fuel, rfl⟩ : ∃ z, fuel = z + 1 := ⟨fuel - 1, by omega⟩
    rw [fX4_isWord_31, if_neg (by decide), len_n, bs, if_pos (le_n (by omega) (by omega)), bz1, bs]
    exact congrArg some (bl_t (p := wlp f b i 0 j = true) rfl).symm
  | succ d ih =>
    intro j fuel hj hf
    obtain ⟨fuel, rfl⟩ : ∃ z, fuel = z + 2 := ⟨fuel - 2, by omega⟩
    have hr : rd (nq τ h s 5) 120 (nI (b + j)) = some (nI (f (b + j))) := by rw [nq_5, rd_n (by omega) (by decide), (hB.2 (b + j) (by omega)).1]
    rw [fX4_isWord_31, if_neg (by decide), len_n, bs, if_neg (nle_n (by omega) (by omega)), nq_0, h8, nI_add, hr, bs, chr_n hi (by omega), bs]
    unfold fX4_isWord_67
    rw [one_n, ih (j + 1) (fuel + 1) (by omega) (by omega)]
    by_cases q : nI (f (b + j)) = sby i j
    · have e : wlp f b i (d + 1) j = wlp f b i d (j + 1) := if_pos q
      rw [if_pos q, e]
    · have e : wlp f b i (d + 1) j = false := if_neg q
      rw [if_neg q, e, fX4_isWord_31, if_pos rfl, bz0, bs]
      rfl
theorem iw27 (hN : 1000 ≤ N) : fX4_isWord_27 N i (nq τ h s) = some 0 := by
  obtain ⟨N, rfl⟩ : ∃ z, N = z + 1 := ⟨N - 1, by omega⟩
  unfold fX4_isWord_27 fX4_isWord_28
  rw [fX4_isWord_31, if_pos rfl, bz0, bs]
theorem isWord_m (hi : i < 14) (hN : 1000 ≤ N) (hB : By n f (τ 5)) (hT : MG f n b h) (h10 : h 10 = 0) : fX4_isWord N i (nq τ h s) = some (bl (Wd f n b i = true)) := by
  obtain ⟨h7, h8, h9, hb⟩ := hT
  have hn := hB.1
  have hr := tE_r (f := f) hb
  have hs := slen_31 i hi
  unfold fX4_isWord
  rw [iw27 hN, nq_0, h10, if_pos rfl, h9, h8, pk_sub (by omega), len_n, bs]
  by_cases he : tE f n b - b = slen i
  · have e := wl_m (N := N) (s := s) hi hB h8 (show b + slen i ≤ n by omega) (slen i) 0 N (by omega) (by omega)
    have e' : fX4_isWord_31 N i (nq τ h s) N 1 0 = _ := e
    unfold fX4_isWord_28
    rw [he, if_pos rfl, e']
    exact congrArg some (bl_c ⟨fun z => Wd_t.mpr ⟨he, z⟩, fun z => (Wd_t.mp z).2⟩)
  · rw [if_neg (fun z => he ((nI_eq (by omega) (by omega)).mp z)), bl_f (fun z => he (Wd_t.mp z).1)]
theorem isWord_w (hN : 1000 ≤ N) (h10 : h 10 = 1) : fX4_isWord N i (nq τ h s) = some 0 := by
  unfold fX4_isWord
  rw [nq_0, h10, if_neg (by decide), iw27 hN]
/-- the sign -/
theorem Wd_13 (hB : By n f (κ 3)) (hb : b ≤ n) : Wd f n b 13 = true ↔ tK f n b = 3 := by
  have hn := hB.1
  rw [Wd_t]
  have e1 : slen 13 = 1 := rfl
  have e2 : ∀ z : Bool, wlp f b 13 1 0 = z ↔ (if nI (f (b + 0)) = sby 13 0 then true else false) = z := fun z => Iff.rfl
  rw [e1, e2, show sby 13 0 = nI 59 from rfl, Nat.add_zero]
  by_cases hl : b < n
  · have hbb := (hB.2 b hl).2
    have ek : tK f n b = kdN (f b) := if_pos hl
    have k3 : kdN (f b) = 3 ↔ f b = 59 := by
      unfold kdN
      split
      · omega
      · split
        · omega
        · split <;> omega
    rw [ek, k3]
    by_cases h59 : f b = 59
    · have te : tE f n b = b + 1 := by
        unfold tE en
        rw [if_pos hl, k3.mpr h59, if_neg (by decide)]
      rw [h59, te, if_pos rfl]
      exact ⟨fun _ => rfl, fun _ => ⟨by omega, rfl⟩⟩
    · rw [if_neg (fun z => h59 ((nI_eq (by omega) (by omega)).mp z))]
      exact ⟨fun z => absurd z.2 (by decide), fun z => absurd z h59⟩
  · have te : tE f n b = b := if_neg hl
    have ek : tK f n b = 0 := if_neg hl
    rw [te, ek]
    exact ⟨fun z => absurd z.1 (by omega), fun z => absurd z (by decide)⟩
/-! ===== what must be, what is taken ===== -/
def nx (f : Nat → Nat) (n b : Nat) : Nat := tB f n (tE f n b)
theorem nx_r (hb : b ≤ n) : b ≤ nx f n b ∧ nx f n b ≤ n := by
  have h1 := tE_r (f := f) hb
  have h2 := tB_r (f := f) h1.2
  unfold nx
  omega
theorem nx_s (hb : b < n) : b < nx f n b ∧ nx f n b ≤ n := by
  have h0 := tE_s (f := f) hb
  have h1 := tE_r (f := f) (Nat.le_of_lt hb)
  have h2 := tB_r (f := f) h1.2
  unfold nx
  omega
theorem must_t (hN : 1000 ≤ N) (hB : By n f (τ 5)) (hT : MG f n b h) (h10 : h 10 = 0) : ∃ h2 : Nat → Int32, fX4_must N (nq τ h s) 1 = some (nq τ h2 s) ∧ MG f n (nx f n b) h2 ∧ Ot h h2 := by
  obtain ⟨h7, h8, h9, hb⟩ := hT
  obtain ⟨h2, q1, q2, q3⟩ := next_n (N := N) (s := s) hN hB (tE_r (f := f) hb).2 h7 h9
  refine ⟨h2, ?_, q2, q3⟩
  unfold fX4_must fX4_must_17
  rw [nq_0, h10, if_pos rfl, if_neg (by decide), nq_pfz (Or.inl rfl), bs, up_self h10, nq_0, h10, if_pos rfl, q1, bs]
theorem must_f (h10 : h 10 = 0) : fX4_must N (nq τ h s) 0 = some (nq τ (upd h 10 1) s) := by
  unfold fX4_must fX4_must_12 fX4_must_17
  rw [nq_0, h10, if_pos rfl, if_pos rfl, nq_pfz (Or.inr rfl), bs, nq_0, uu, if_neg (by decide)]
theorem must_w {v : Int32} (h10 : h 10 = 1) : fX4_must N (nq τ h s) v = some (nq τ h s) := by
  unfold fX4_must fX4_must_12 fX4_must_17
  rw [nq_0, h10, if_neg (by decide), nq_pfz (Or.inr rfl), bs, up_self h10, nq_0, h10, if_neg (by decide)]
theorem takes_t (hi : i < 14) (hN : 1000 ≤ N) (hB : By n f (τ 5)) (hT : MG f n b h) (h10 : h 10 = 0) (hw : Wd f n b i = true) : ∃ h2 : Nat → Int32, fX4_takes N i (nq τ h s) = some (1, nq τ h2 s) ∧ MG f n (nx f n b) h2 ∧ Ot h h2 := by
  have e := isWord_m (s := s) hi hN hB hT h10
  obtain ⟨h7, h8, h9, hb⟩ := hT
  obtain ⟨h2, q1, q2, q3⟩ := next_n (N := N) (s := s) hN hB (tE_r (f := f) hb).2 h7 h9
  refine ⟨h2, ?_, q2, q3⟩
  unfold fX4_takes
  rw [e, bs, bl_t hw, if_neg (by decide), q1, bs, bz1, bs]
theorem takes_f (hi : i < 14) (hN : 1000 ≤ N) (hB : By n f (τ 5)) (hT : MG f n b h) (h10 : h 10 = 0) (hw : ¬ Wd f n b i = true) : fX4_takes N i (nq τ h s) = some (0, nq τ h s) := by
  unfold fX4_takes
  rw [isWord_m hi hN hB hT h10, bs, bl_f hw, if_pos rfl, bz0, bs]
theorem takes_w (hN : 1000 ≤ N) (h10 : h 10 = 1) : fX4_takes N i (nq τ h s) = some (0, nq τ h s) := by
  unfold fX4_takes
  rw [isWord_w hN h10, bs, if_pos rfl, bz0, bs]
/-! ===== numbers ===== -/
theorem isNumber_c {lo hi : Int32} (hT : TG f n b g) : fX2_isNumber (kq κ g s t k) lo hi = some (bl (tK f n b = 2 ∧ lo ≤ nI (tV f n b) ∧ nI (tV f n b) ≤ hi)) := by
  obtain ⟨h1, h2, h3, h4, h5, hb⟩ := hT
  have hk4 : tK f n b ≤ 4 := by
    unfold tK
    split
    · exact (kdN_le _).2
    · omega
  unfold fX2_isNumber
  rw [kq_2, h2, h5, within_eq, bs, bl0]
  by_cases hk : tK f n b = 2
  · rw [hk, if_pos (show nI 2 = 2 from rfl)]
    by_cases hz : lo ≤ nI (tV f n b) ∧ nI (tV f n b) ≤ hi
    · rw [if_pos hz, bl_t ⟨rfl, hz⟩]
    · rw [if_neg hz, bl_f (fun z => hz z.2)]
  · rw [if_neg (nln 2 2 rfl (by omega) (by omega) hk), bl_f (fun z => hk z.1)]
def mvN (f : Nat → Nat) : Nat → Nat → Nat → Nat
  | 0, _, v => v
  | d + 1, p, v => mvN f d (p + 1) (if 999 < v then v else 10 * v + (f p - 48))
theorem mv_vl : ∀ d p v, min 1000 (mvN f d p v) = vlN 2 f d p (min 1000 v)
  | 0, _, _ => rfl
  | d + 1, p, v => by
    show min 1000 (mvN f d (p + 1) (if 999 < v then v else 10 * v + (f p - 48))) = vlN 2 f d (p + 1) (upv 2 (f p) (min 1000 v))
    rw [mv_vl d (p + 1)]
    congr 1
    unfold upv
    rw [if_pos rfl]
    split <;> omega
theorem mv_lt {m : Nat} : ∀ d p v, (∀ j, p ≤ j → j < p + d → f j < 256) → v < 20000 → mvN f d p v < 20000
  | 0, _, _, _, h => h
  | d + 1, p, v, hf, h => mv_lt (m := m) d (p + 1) _ (fun j h1 h2 => hf j (by omega) (by omega)) (by
    have := hf p (by omega) (by omega)
    split <;> omega)
theorem nr27 {e : Nat} {lo hi : Int32} (hB : By n f (τ 5)) (he : e ≤ n) (h9 : h 9 = nI e) : ∀ (d p v fuel : Nat), p + d = e → d < fuel → v < 20000 → (∀ j, p ≤ j → j < e → 48 ≤ f j) → fX4_numberRead_27 N (nq τ h s) lo hi fuel (nI v) (nI p) = fX4_numberRead_73 N (nq τ h s) lo hi (nI (mvN f d p v)) := by
  have hn := hB.1
  intro d
  induction d with
  | zero =>
    intro p v fuel hp hf hv hd
    obtain ⟨fuel, rfl⟩ : ∃ z, fuel = z + 1 := ⟨fuel - 1, by omega⟩
    rw [fX4_numberRead_27, nq_0, h9, if_pos (le_n (by omega) (by omega))]
    rfl
  | succ d ih =>
    intro p v fuel hp hf hv hd
    obtain ⟨fuel, rfl⟩ : ∃ z, fuel = z + 1 := ⟨fuel - 1, by omega⟩
    have hbb := (hB.2 p (by omega)).2
    have hdp := hd p (by omega) (by omega)
    have hr : rd (nq τ h s 5) 120 (nI p) = some (nI (f p)) := by rw [nq_5, rd_n (by omega) (by decide), (hB.2 p (by omega)).1]
    rw [fX4_numberRead_27, nq_0, h9, if_neg (nle_n (by omega) (by omega)), if_neg (nI_pos (by omega)), hr, bs]
    unfold fX4_numberRead_66
    rw [one_n]
    by_cases h99 : v ≤ 999
    · have em : mvN f (d + 1) p v = mvN f d (p + 1) (10 * v + (f p - 48)) := by
        show mvN f d (p + 1) (if 999 < v then v else 10 * v + (f p - 48)) = _
        rw [if_neg (by omega)]
      rw [if_pos (show nI v ≤ 999 from le_n (b := 999) h99 (by omega)), show (10 : Int32) = nI 10 from rfl, pk_mul, nI_add, show (48 : Int32) = nI 48 from rfl, pk_sub (by omega), show 10 * v + f p - 48 = 10 * v + (f p - 48) by omega, em]
      exact ih (p + 1) _ fuel (by omega) (by omega) (by omega) (fun j h1 h2 => hd j (by omega) h2)
    · have em : mvN f (d + 1) p v = mvN f d (p + 1) v := by
        show mvN f d (p + 1) (if 999 < v then v else 10 * v + (f p - 48)) = _
        rw [if_pos (by omega)]
      rw [if_neg (show ¬ nI v ≤ 999 from nle_n (b := 999) (by omega) (by omega)), em]
      exact ih (p + 1) _ fuel (by omega) (by omega) hv (fun j h1 h2 => hd j (by omega) h2)
theorem nr27_any {e : Nat} {lo hi : Int32} (hB : By n f (τ 5)) (he : e ≤ n) (h9 : h 9 = nI e) : ∀ (d p fuel : Nat) (v : Int32), e ≤ p + d → d < fuel → p ≤ n → ∃ v2, fX4_numberRead_27 N (nq τ h s) lo hi fuel v (nI p) = fX4_numberRead_73 N (nq τ h s) lo hi v2 := by
  have hn := hB.1
  intro d
  induction d with
  | zero =>
    intro p fuel v hp hf hpn
    obtain ⟨fuel, rfl⟩ : ∃ z, fuel = z + 1 := ⟨fuel - 1, by omega⟩
    exact ⟨v, by rw [fX4_numberRead_27, nq_0, h9, if_pos (le_n (by omega) (by omega))]⟩
  | succ d ih =>
    intro p fuel v hp hf hpn
    obtain ⟨fuel, rfl⟩ : ∃ z, fuel = z + 1 := ⟨fuel - 1, by omega⟩
    by_cases hpe : e ≤ p
    · exact ⟨v, by rw [fX4_numberRead_27, nq_0, h9, if_pos (le_n hpe (by omega))]⟩
    have hr : rd (nq τ h s 5) 120 (nI p) = some (nI (f p)) := by rw [nq_5, rd_n (by omega) (by decide), (hB.2 p (by omega)).1]
    rw [fX4_numberRead_27, nq_0, h9, if_neg (nle_n (by omega) (by omega)), hr, bs]
    unfold fX4_numberRead_66
    rw [one_n]
    by_cases h0 : v < 0
    · exact ⟨v, by rw [if_pos h0]⟩
    rw [if_neg h0]
    by_cases h99 : v ≤ 999
    · rw [if_pos h99]
      exact ih (p + 1) fuel _ (by omega) (by omega) (by omega)
    · rw [if_neg h99]
      exact ih (p + 1) fuel _ (by omega) (by omega) (by omega)
theorem r73 {lo hi v : Int32} {x : St2} : fX4_numberRead_73 N x lo hi v = (fX4_must N x (bl (lo ≤ v ∧ v ≤ hi))).bind fun y => some (v, y) := by
  unfold fX4_numberRead_73
  rw [in_eq rfl rfl, bs]
/-- the reference's number, behind its last byte -/
theorem num_r {lo hi : Int32} (hN : 1000 ≤ N) (hB : By n f (τ 5)) (hT : MG f n b h) (hlo : 0 ≤ lo) (hhi : hi ≤ 999) : ∃ v : Int32, fX4_numberRead N (nq τ h s) lo hi = fX4_numberRead_73 N (nq τ h s) lo hi v ∧ ((lo ≤ v ∧ v ≤ hi) ↔ (tK f n b = 2 ∧ lo ≤ nI (tV f n b) ∧ nI (tV f n b) ≤ hi)) ∧ ((lo ≤ v ∧ v ≤ hi) → v = nI (tV f n b)) := by
  obtain ⟨h7, h8, h9, hb⟩ := hT
  have hn := hB.1
  have hr := tE_r (f := f) hb
  unfold fX4_numberRead fX4_numberRead_20
  rw [nq_0, h8, isB_D hB h7 hb, bs, bl0, bs]
  by_cases hd : b < n ∧ 48 ≤ f b ∧ f b ≤ 57
  · have hk : kdN (f b) = 2 := kd_2.mpr hd.2
    have htk : tK f n b = 2 := by
      unfold tK
      rw [if_pos hd.1, hk]
    have hdg : ∀ j, b ≤ j → j < tE f n b → 48 ≤ f j := fun j j1 j2 => by
      by_cases e : j = b
      · rw [e]
        omega
      · have et : tE f n b = rnp (isK 2) f (n - (b + 1)) (b + 1) := by
          unfold tE en
          rw [if_pos hd.1, hk, if_pos (Or.inr rfl)]
        rw [et] at j2
        exact (kd_dig (of_decide_eq_true (rnp_a (isK 2) f _ _ j (by omega) j2))).1
    have e := nr27 (N := N) (s := s) (lo := lo) (hi := hi) hB hr.2 h9 (tE f n b - b) b 0 N (by omega) (by omega) (by omega) hdg
    have e' : fX4_numberRead_27 N (nq τ h s) lo hi N 0 (nI b) = _ := e
    have hm : min 1000 (mvN f (tE f n b - b) b 0) = tV f n b := by
      rw [mv_vl]
      unfold tV
      rw [if_pos hd.1, hk]
      rfl
    have hlt := mv_lt (m := 0) (tE f n b - b) b 0 (fun j j1 j2 => (hB.2 j (by omega)).2) (by omega)
    rw [if_pos hd, e']
    generalize mvN f (tE f n b - b) b 0 = mv at hm hlt
    refine ⟨nI mv, rfl, ?_⟩
    rw [htk]
    by_cases h99 : mv ≤ 999
    · have em : tV f n b = mv := by omega
      rw [em]
      exact ⟨⟨fun z => ⟨rfl, z⟩, fun z => z.2⟩, fun _ => rfl⟩
    · have em : tV f n b = 1000 := by omega
      rw [em]
      have n1 : ¬ nI mv ≤ hi := fun z => nle_n (a := mv) (b := 999) (by omega) (by omega) (Int32.le_trans z hhi)
      have n2 : ¬ nI 1000 ≤ hi := fun z => nle_n (a := 1000) (b := 999) (by omega) (by omega) (Int32.le_trans z hhi)
      exact ⟨⟨fun z => absurd z.2 n1, fun z => absurd z.2.2 n2⟩, fun z => absurd z.2 n1⟩
  · have nk : ¬ tK f n b = 2 := fun z => by
      unfold tK at z
      split at z
      · rename_i hl
        exact hd ⟨hl, kd_2.mp z⟩
      · omega
    have n1 : ¬ lo ≤ -1 := fun z => absurd (Int32.le_trans hlo z) (by decide)
    refine ⟨-1, ?_, ⟨fun z => absurd z.1 n1, fun z => absurd z.1 nk⟩, fun z => absurd z.1 n1⟩
    obtain ⟨N, rfl⟩ : ∃ z, N = z + 1 := ⟨N - 1, by omega⟩
    rw [if_neg hd, bs, fX4_numberRead_27, nq_0, h9]
    by_cases h1 : nI (tE f n b) ≤ nI b
    · rw [if_pos h1]
    · rw [if_neg h1, if_pos (by decide)]
theorem num_t {lo hi : Int32} (hN : 1000 ≤ N) (hB : By n f (τ 5)) (hT : MG f n b h) (h10 : h 10 = 0) (hlo : 0 ≤ lo) (hhi : hi ≤ 999) (hP : tK f n b = 2 ∧ lo ≤ nI (tV f n b) ∧ nI (tV f n b) ≤ hi) : ∃ h2 : Nat → Int32, fX4_numberRead N (nq τ h s) lo hi = some (nI (tV f n b), nq τ h2 s) ∧ MG f n (nx f n b) h2 ∧ Ot h h2 := by
  obtain ⟨v, q1, q2, q3⟩ := num_r (s := s) hN hB hT hlo hhi
  have hv := q2.mpr hP
  obtain ⟨h2, r1, r2, r3⟩ := must_t (s := s) hN hB hT h10
  refine ⟨h2, ?_, r2, r3⟩
  rw [q1, r73, bl_t hv, r1, bs, q3 hv]
theorem num_f {lo hi : Int32} (hN : 1000 ≤ N) (hB : By n f (τ 5)) (hT : MG f n b h) (h10 : h 10 = 0) (hlo : 0 ≤ lo) (hhi : hi ≤ 999) (hP : ¬ (tK f n b = 2 ∧ lo ≤ nI (tV f n b) ∧ nI (tV f n b) ≤ hi)) : ∃ v : Int32, fX4_numberRead N (nq τ h s) lo hi = some (v, nq τ (upd h 10 1) s) := by
  obtain ⟨v, q1, q2, q3⟩ := num_r (s := s) hN hB hT hlo hhi
  refine ⟨v, ?_⟩
  rw [q1, r73, bl_f (fun z => hP (q2.mp z)), must_f h10, bs]
/-- the reference has found a fault -/
def MW (n b : Nat) (h : Nat → Int32) : Prop := h 7 = nI n ∧ h 8 = nI b ∧ b ≤ n ∧ (∃ e, e ≤ n ∧ h 9 = nI e) ∧ h 10 = 1
theorem MG.w (hT : MG f n b h) : MW n b (upd h 10 1) := ⟨hT.1, hT.2.1, hT.2.2.2, ⟨_, (tE_r (f := f) hT.2.2.2).2, hT.2.2.1⟩, rfl⟩
theorem num_w {lo hi : Int32} (hN : 1000 ≤ N) (hB : By n f (τ 5)) (hT : MW n b h) : ∃ v : Int32, fX4_numberRead N (nq τ h s) lo hi = some (v, nq τ h s) := by
  obtain ⟨h7, h8, hb, ⟨e, he, h9⟩, h10⟩ := hT
  have hn := hB.1
  unfold fX4_numberRead fX4_numberRead_20
  rw [nq_0, h8, isB_D hB h7 hb, bs, bl0, bs]
  have key : ∀ v0 : Int32, ∃ v : Int32, fX4_numberRead_27 N (nq τ h s) lo hi N v0 (nI b) = some (v, nq τ h s) := fun v0 => by
    obtain ⟨v2, q⟩ := nr27_any (N := N) (s := s) (lo := lo) (hi := hi) hB he h9 120 b N v0 (by omega) (by omega) hb
    exact ⟨v2, by rw [q, r73, must_w h10, bs]⟩
  split
  · exact key 0
  · exact key (-1)
end SIMO
