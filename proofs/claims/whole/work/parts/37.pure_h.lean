/-! ===== PrintShore's cells with three Shores in them ===== -/
theorem putS_cong {κ x y : St2} {b : Nat} (h : ∀ k, k < 13 → x k = y k) : putS κ b x = putS κ b y := by
  funext k
  unfold putS
  by_cases h1 : b ≤ k ∧ k < b + 13
  · rw [if_pos h1, if_pos h1, h _ (by omega)]
  · rw [if_neg h1, if_neg h1]
theorem putS_putS {κ x y : St2} {b : Nat} : putS (putS κ b x) b y = putS κ b y := by
  funext k
  unfold putS
  by_cases h1 : b ≤ k ∧ k < b + 13
  · rw [if_pos h1, if_pos h1]
  · rw [if_neg h1, if_neg h1, if_neg h1]
theorem putS_comm {κ x y : St2} {b c : Nat} (h : b + 13 ≤ c ∨ c + 13 ≤ b) : putS (putS κ b x) c y = putS (putS κ c y) b x := by
  funext k
  unfold putS
  by_cases h1 : b ≤ k ∧ k < b + 13
  · rw [if_neg (by omega), if_pos h1, if_pos h1]
  · rw [if_neg h1, if_neg h1]
theorem vw_sx {κ : St2} {b : Nat} {s : Nat → Int32} : vw (putS κ b (sx s)) b = sx s := by
  funext k
  by_cases h : k < 13
  · exact vw_putS h
  · rw [sx_out (by omega)]
    exact if_neg h
theorem vw_oth {κ x : St2} {b c : Nat} (h : b + 13 ≤ c ∨ c + 13 ≤ b) : vw (putS κ b x) c = vw κ c := by
  funext k
  unfold vw
  by_cases h1 : k < 13
  · rw [if_pos h1, if_pos h1, putS_out (by omega)]
  · rw [if_neg h1, if_neg h1]
def cq (κ : St2) (s t k : Nat → Int32) : St2 := putS (putS (putS κ 12 (sx s)) 25 (sx t)) 38 (sx k)
section CQ
variable {κ : St2} {s t k : Nat → Int32}
theorem cq_v12 : vw (cq κ s t k) 12 = sx s := by
  unfold cq
  rw [vw_oth (by omega), vw_oth (by omega), vw_sx]
theorem cq_v25 : vw (cq κ s t k) 25 = sx t := by
  unfold cq
  rw [vw_oth (by omega), vw_sx]
theorem cq_v38 : vw (cq κ s t k) 38 = sx k := by
  unfold cq
  rw [vw_sx]
theorem cq_p12 {s2 : Nat → Int32} : putS (cq κ s t k) 12 (sx s2) = cq κ s2 t k := by
  unfold cq
  rw [putS_comm (by omega), putS_comm (κ := putS κ 12 (sx s)) (by omega), putS_putS]
theorem cq_p25 {t2 : Nat → Int32} : putS (cq κ s t k) 25 (sx t2) = cq κ s t2 k := by
  unfold cq
  rw [putS_comm (by omega), putS_putS]
theorem cq_p38 {k2 : Nat → Int32} : putS (cq κ s t k) 38 (sx k2) = cq κ s t k2 := by
  unfold cq
  rw [putS_putS]
theorem cq_lo {j : Nat} (h : j < 12) : cq κ s t k j = κ j := by
  unfold cq
  rw [putS_out (by omega), putS_out (by omega), putS_out (by omega)]
theorem vu_put {x : St2} {j b : Nat} {f : Nat → Int32} (h : j < b ∨ b + 13 ≤ j) : va_up (putS κ b x) j f = putS (va_up κ j f) b x := by
  funext a
  unfold putS va_up
  by_cases h1 : a = j
  · rw [if_pos h1, if_neg (by omega), if_pos h1]
  · rw [if_neg h1, if_neg h1]
theorem cq_up {j : Nat} {f : Nat → Int32} (h : j < 12) : va_up (cq κ s t k) j f = cq (va_up κ j f) s t k := by
  unfold cq
  rw [vu_put (by omega), vu_put (by omega), vu_put (by omega)]
theorem cq_12 {j : Nat} (h : j < 13) : cq κ s t k (12 + j) = sx s j := by
  have e := vw_at (κ := cq κ s t k) (b := 12) h
  rw [cq_v12] at e
  exact e.symm
theorem cq_25 {j : Nat} (h : j < 13) : cq κ s t k (25 + j) = sx t j := by
  have e := vw_at (κ := cq κ s t k) (b := 25) h
  rw [cq_v25] at e
  exact e.symm
theorem cq_f12 {j : Nat} : cq κ s t k 12 j = sx s 0 j := congrFun (cq_12 (j := 0) (by decide)) j
theorem cq_f25 {j : Nat} : cq κ s t k 25 j = sx t 0 j := congrFun (cq_25 (j := 0) (by decide)) j
theorem cq_u12 {j w i : Nat} {v : Int32} (hj : j < 13) (h : ix j w = some i) : va_up (cq κ s t k) (12 + j) (upd (cq κ s t k (12 + j)) w v) = cq κ (upd s i v) t k := by
  rw [cq_12 hj]
  have e : cq κ s t k = putS (cq κ s t k) 12 (sx s) := cq_p12.symm
  rw [e, ← putS_up hj, sx_up h, cq_p12]
theorem cq_u25 {j w i : Nat} {v : Int32} (hj : j < 13) (h : ix j w = some i) : va_up (cq κ s t k) (25 + j) (upd (cq κ s t k (25 + j)) w v) = cq κ s (upd t i v) k := by
  rw [cq_25 hj]
  have e : cq κ s t k = putS (cq κ s t k) 25 (sx t) := cq_p25.symm
  rw [e, ← putS_up hj, sx_up h, cq_p25]
theorem cq_w12 {j w N i : Nat} {v : Int32} (hj : j < 13) (hw : w < N) (hN : N < 1000000) (h : ix j w = some i) : wr (cq κ s t k) (12 + j) N (nI w) v = some (cq κ (upd s i v) t k) := by
  rw [wr_n hw hN, cq_u12 hj h]
theorem cq_w25 {j w N i : Nat} {v : Int32} (hj : j < 13) (hw : w < N) (hN : N < 1000000) (h : ix j w = some i) : wr (cq κ s t k) (25 + j) N (nI w) v = some (cq κ s (upd t i v) k) := by
  rw [wr_n hw hN, cq_u25 hj h]
theorem cq_pf12 {i j : Nat} {v : Int32} (h : ix 0 j = some i) : pf (cq κ s t k) 12 j v = some (cq κ (upd s i v) t k) := congrArg some (cq_u12 (j := 0) (by decide) h)
theorem cq_pf25 {i j : Nat} {v : Int32} (h : ix 0 j = some i) : pf (cq κ s t k) 25 j v = some (cq κ s (upd t i v) k) := congrArg some (cq_u25 (j := 0) (by decide) h)
theorem cq_r12 {j w N i : Nat} (hj : j < 13) (hw : w < N) (hN : N < 1000000) (h : ix j w = some i) : rd (cq κ s t k (12 + j)) N (nI w) = some (s i) := by
  rw [cq_12 hj, rx hw hN h]
theorem cq_r25 {j w N i : Nat} (hj : j < 13) (hw : w < N) (hN : N < 1000000) (h : ix j w = some i) : rd (cq κ s t k (25 + j)) N (nI w) = some (t i) := by
  rw [cq_25 hj, rx hw hN h]
end CQ
/-! ===== become ===== -/
theorem cp_lit {x : St2} {j k n : Nat} (hn : n < 1000000) : cp x j n k n 0 0 (nI n) = some (va_up x k (va_cpy (x j) (x k) 0 0 n)) := by
  have e : (nI n).toNatClampNeg = n := nI_clamp (by omega)
  have e0 : (0 : Int32).toNatClampNeg = 0 := rfl
  unfold cp
  rw [e, e0, if_pos ⟨⟨by decide, by decide, nI_pos (by omega)⟩, by omega, by omega⟩]
theorem cpy_sx {s t : Nat → Int32} {k n : Nat} (h : ∀ j, n ≤ j → ix k j = none) : va_cpy (sx s k) (sx t k) 0 0 n = sx s k := by
  funext j
  unfold va_cpy
  by_cases hj : j < n
  · rw [if_pos (by omega), show 0 + (j - 0) = j by omega]
  · rw [if_neg (by omega)]
    unfold sx
    rw [h j (by omega)]
theorem ix_np {r j : Nat} (hr : r < 3) (h : 24 ≤ j) : ix (2 + r) j = none := by
  unfold ix
  rw [if_neg (by omega), if_pos (by omega), if_neg (by omega)]
theorem ix_nt {r j : Nat} (hr : r < 6) (h : 8 ≤ j) : ix (6 + r) j = none := by
  unfold ix
  rw [if_neg (by omega), if_neg (by omega), if_pos (by omega), if_neg (by omega)]
theorem ix_ns {j : Nat} (h : 10 ≤ j) : ix 12 j = none := by
  unfold ix
  rw [if_neg (by omega), if_neg (by omega), if_neg (by omega), if_pos rfl, if_neg (by omega)]
theorem become_k {N b b2 : Nat} {κ : St2} {s t : Nat → Int32} (hN : 1000 ≤ N) (hd : b + 13 ≤ b2 ∨ b2 + 13 ≤ b) (h2 : vw κ b2 = sx s) : fX1_become N b b2 (putS κ b (sx t)) = some (putS κ b (sx s)) := by
  have src : ∀ (y : St2) (j : Nat), j < 13 → putS κ b y (b2 + j) = sx s j := fun y j hj => by
    rw [putS_out (by omega), ← h2, vw_at hj]
  have k1 := (itr_loop (ρ := St2) (fun n (y : St2) i => fX1_become_2 N b b2 n (putS κ b y) (nI i)) (fun i y => ∀ j, 2 + i ≤ j ∨ j < 2 → y j = sx t j) (fun i y => va_up y (2 + i) (sx s (2 + i))) 3 (fun y => fX1_become_34 N b b2 N (putS κ b y) 0) (fun n y i hi hp => by
      show fX1_become_2 N b b2 (n + 1) (putS κ b y) (nI i) = fX1_become_2 N b b2 n (putS κ b (va_up y (2 + i) (sx s (2 + i)))) (nI (i + 1))
      rw [fX1_become_2, show (3 : Int32) = nI 3 from rfl, if_neg (nle_n hi (by omega)), ck_n hi (by decide), bs, bs, show (24 : Int32) = nI 24 from rfl, cp_lit (by decide), bs, src y (2 + i) (by omega), putS_in (by omega), hp (2 + i) (by omega), cpy_sx (fun j hj => ix_np hi hj), ← putS_up (by omega), one_n]) (fun y i hi hp j hj => by
      unfold va_up
      rw [if_neg (by omega)]
      exact hp j (by omega)) (fun n y hp => by
      show fX1_become_2 N b b2 (n + 1) (putS κ b y) (nI 3) = _
      rw [fX1_become_2, show (3 : Int32) = nI 3 from rfl, if_pos (le_n (Nat.le_refl _) (by omega))]) 3 0 (sx t) N (by omega) (by omega) (fun j _ => rfl))
  have h1 : fX1_become N b b2 (putS κ b (sx t)) = _ := k1.1
  rw [h1]
  have hy := k1.2
  have hy2 : ∀ j, 2 ≤ j → j < 5 → itr (fun i y => va_up y (2 + i) (sx s (2 + i))) 3 0 (sx t) j = sx s j := fun j h3 h4 => by
    rcases (show j = 2 ∨ j = 3 ∨ j = 4 by omega) with rfl | rfl | rfl <;> rfl
  generalize itr (fun i y => va_up y (2 + i) (sx s (2 + i))) 3 0 (sx t) = y1 at hy hy2
  have k2 := (itr_loop (ρ := St2) (fun n (y : St2) i => fX1_become_34 N b b2 n (putS κ b y) (nI i)) (fun i y => (∀ j, 6 + i ≤ j ∨ j < 2 ∨ j = 5 → y j = sx t j) ∧ ∀ j, 2 ≤ j → j < 5 → y j = sx s j) (fun i y => va_up y (6 + i) (sx s (6 + i))) 6 (fun y => fX1_become_34 N b b2 1 (putS κ b y) (nI 6)) (fun n y i hi hp => by
      show fX1_become_34 N b b2 (n + 1) (putS κ b y) (nI i) = fX1_become_34 N b b2 n (putS κ b (va_up y (6 + i) (sx s (6 + i)))) (nI (i + 1))
      rw [fX1_become_34, show (6 : Int32) = nI 6 from rfl, if_neg (nle_n hi (by omega)), ck_n hi (by decide), bs, bs, show (8 : Int32) = nI 8 from rfl, cp_lit (by decide), bs, src y (6 + i) (by omega), putS_in (by omega), hp.1 (6 + i) (by omega), cpy_sx (fun j hj => ix_nt hi hj), ← putS_up (by omega), one_n]) (fun y i hi hp => by
      refine ⟨fun j hj => ?_, fun j h3 h4 => ?_⟩
      · unfold va_up
        rw [if_neg (by omega)]
        exact hp.1 j (by omega)
      · unfold va_up
        rw [if_neg (by omega)]
        exact hp.2 j h3 h4) (fun n y hp => by
      show fX1_become_34 N b b2 (n + 1) (putS κ b y) (nI 6) = fX1_become_34 N b b2 (0 + 1) (putS κ b y) (nI 6)
      rw [fX1_become_34, fX1_become_34, show (6 : Int32) = nI 6 from rfl, if_pos (le_n (Nat.le_refl _) (by omega)), if_pos (le_n (Nat.le_refl _) (by omega))]) 6 0 y1 N (by omega) (by omega) ⟨fun j hj => hy j (by omega), hy2⟩)
  have h3 : fX1_become_34 N b b2 N (putS κ b y1) 0 = _ := k2.1
  rw [h3]
  have hz := k2.2
  have hz2 : ∀ j, 6 ≤ j → j < 12 → itr (fun i y => va_up y (6 + i) (sx s (6 + i))) 6 0 y1 j = sx s j := fun j h3 h4 => by
    rcases (show j = 6 ∨ j = 7 ∨ j = 8 ∨ j = 9 ∨ j = 10 ∨ j = 11 by omega) with rfl | rfl | rfl | rfl | rfl | rfl <;> rfl
  generalize itr (fun i y => va_up y (6 + i) (sx s (6 + i))) 6 0 y1 = y2 at hz hz2
  have put0 : ∀ (y : St2) (i : Nat) (v : Int32), pf (putS κ b y) b i v = some (putS κ b (va_up y 0 (upd (y 0) i v))) := fun y i v => by
    unfold pf
    have e : putS κ b y b = y 0 := putS_in (k := 0) (by decide)
    rw [e]
    exact congrArg some (putS_up (k := 0) (by decide)).symm
  have src0 : ∀ (y : St2) (i : Nat), putS κ b y b2 i = sx s 0 i := fun y i => congrFun (src y 0 (by decide)) i
  show fX1_become_34 N b b2 (0 + 1) (putS κ b y2) (nI 6) = _
  rw [fX1_become_34, show (6 : Int32) = nI 6 from rfl, if_pos (le_n (Nat.le_refl _) (by omega)), show (10 : Int32) = nI 10 from rfl, cp_lit (by decide), bs, src y2 12 (by decide), putS_in (by decide), hz.1 12 (by omega), cpy_sx (fun j hj => ix_ns hj), ← putS_up (by decide), src0, put0, bs, src0, put0, bs, src0, put0, bs, src0, put0, bs, src0, put0, bs]
  refine congrArg some (putS_cong (fun k hk => ?_))
  by_cases e0 : k = 0
  · subst e0
    funext j
    have ez : ∀ j, y2 0 j = sx t 0 j := fun j => congrFun (hz.1 0 (by omega)) j
    show (if j = 7 then sx s 0 7 else if j = 6 then sx s 0 6 else if j = 5 then sx s 0 5 else if j = 4 then sx s 0 4 else if j = 3 then sx s 0 3 else y2 0 j) = sx s 0 j
    by_cases h7 : j = 7
    · rw [if_pos h7, h7]
    · rw [if_neg h7]
      by_cases h6 : j = 6
      · rw [if_pos h6, h6]
      · rw [if_neg h6]
        by_cases h5 : j = 5
        · rw [if_pos h5, h5]
        · rw [if_neg h5]
          by_cases h4 : j = 4
          · rw [if_pos h4, h4]
          · rw [if_neg h4]
            by_cases h3 : j = 3
            · rw [if_pos h3, h3]
            · rw [if_neg h3, ez]
              have hn : ix 0 j = none := by
                unfold ix
                rw [if_pos rfl, if_neg h3, if_neg h4, if_neg h5, if_neg h6, if_neg h7]
              unfold sx
              rw [hn]
  · have e1 : ∀ (y : St2) (f : Nat → Int32), va_up y 0 f k = y k := fun y f => if_neg e0
    rw [e1, e1, e1, e1, e1]
    by_cases e12 : k = 12
    · subst e12
      rfl
    · have e2 : va_up y2 12 (sx s 12) k = y2 k := if_neg e12
      rw [e2]
      by_cases ha : k = 1 ∨ k = 5
      · have hn : ∀ (u : Nat → Int32), sx u k = fun _ => 0 := fun u => by
          funext j
          unfold sx
          have : ix k j = none := by
            unfold ix
            rw [if_neg (by omega), if_neg (by omega), if_neg (by omega), if_neg (by omega)]
          rw [this]
        rw [hz.1 k (by omega), hn, hn]
      · by_cases hb : k < 5
        · exact hz.2 k (by omega) hb
        · exact hz2 k (by omega) (by omega)
theorem bec25 {N : Nat} {κ : St2} {s t k : Nat → Int32} (hN : 1000 ≤ N) : fX1_become N 25 12 (cq κ s t k) = some (cq κ s s k) := by
  have e : cq κ s t k = putS (cq κ s t k) 25 (sx t) := cq_p25.symm
  rw [e, become_k hN (by omega) cq_v12, cq_p25]
theorem bec38 {N : Nat} {κ : St2} {s t k : Nat → Int32} (hN : 1000 ≤ N) : fX1_become N 38 12 (cq κ s t k) = some (cq κ s t s) := by
  have e : cq κ s t k = putS (cq κ s t k) 38 (sx k) := cq_p38.symm
  rw [e, become_k hN (by omega) cq_v12, cq_p38]
theorem bec12 {N : Nat} {κ : St2} {s t k : Nat → Int32} (hN : 1000 ≤ N) : fX1_become N 12 25 (cq κ s t k) = some (cq κ t t k) := by
  have e : cq κ s t k = putS (cq κ s t k) 12 (sx s) := cq_p12.symm
  rw [e, become_k hN (by omega) cq_v25, cq_p12]
theorem bec1238 {N : Nat} {κ : St2} {s t k : Nat → Int32} (hN : 1000 ≤ N) : fX1_become N 12 38 (cq κ s t k) = some (cq κ k t k) := by
  have e : cq κ s t k = putS (cq κ s t k) 12 (sx s) := cq_p12.symm
  rw [e, become_k hN (by omega) cq_v38, cq_p12]
/-! ===== the reference's rows laid from one to another ===== -/
def cpR (f g : Nat → Int32) : Nat → Int32 := fun j => if j < 135 then f j else g j
theorem bec_m {N ja jb : Nat} {τ : St2} (hN : 1000 ≤ N) (hne : ja ≠ jb) : fX4_become N ja jb τ = some (va_up τ jb (cpR (τ ja) (τ jb))) := by
  have k1 := (itr_loop (ρ := St2) (fun n (y : St2) i => fX4_become_2 N ja jb n y (nI i)) (fun i y => y = va_up τ jb (fun j => if j < i then τ ja j else τ jb j)) (fun i _ => va_up τ jb (fun j => if j < i + 1 then τ ja j else τ jb j)) 135 (fun y => some y) (fun n y i hi hp => by
      show fX4_become_2 N ja jb (n + 1) y (nI i) = fX4_become_2 N ja jb n (va_up τ jb (fun j => if j < i + 1 then τ ja j else τ jb j)) (nI (i + 1))
      rw [fX4_become_2, show (135 : Int32) = nI 135 from rfl, if_neg (nle_n hi (by omega)), rd_n hi (by decide), bs, wr_n hi (by decide), bs, one_n]
      congr 1
      subst hp
      have e1 : va_up τ jb (fun j => if j < i then τ ja j else τ jb j) ja = τ ja := if_neg hne
      have e2 : va_up τ jb (fun j => if j < i then τ ja j else τ jb j) jb = fun j => if j < i then τ ja j else τ jb j := if_pos rfl
      rw [e1, e2, bx_uu]
      congr 1
      funext j
      unfold upd
      by_cases h1 : j = i
      · rw [if_pos h1, h1, if_pos (by omega)]
      · rw [if_neg h1]
        dsimp only
        by_cases h2 : j < i
        · rw [if_pos h2, if_pos (by omega)]
        · rw [if_neg h2, if_neg (by omega)]) (fun y i hi hp => rfl) (fun n y hp => by
      show fX4_become_2 N ja jb (n + 1) y (nI 135) = some y
      rw [fX4_become_2, show (135 : Int32) = nI 135 from rfl, if_pos (le_n (Nat.le_refl _) (by omega))]) 135 0 τ N (by omega) (by omega) (by
      funext a
      unfold va_up
      by_cases h : a = jb
      · rw [if_pos h, h]
        funext j
        rw [if_neg (by omega)]
      · rw [if_neg h]))
  have h := k1.1
  rw [k1.2] at h
  exact h
theorem cpR_lt {f g : Nat → Int32} {j : Nat} (h : j < 135) : cpR f g j = f j := if_pos h
/-- lends: the row is kept aside -/
theorem lends_m {N : Nat} {τ : St2} {s : Nat → Int32} (hN : 1000 ≤ N) : fX4_lends N (mq τ s) = some (mq (va_up τ 3 (cpR s (τ 3))) s) := by
  unfold fX4_lends
  rw [bec_m hN (by decide), bs, mq_1, mq_o (by decide), mq_upo (by decide)]
theorem lays_m {N : Nat} {τ : St2} {s : Nat → Int32} (hN : 1000 ≤ N) : fX4_laysBack N (mq τ s) = some (mq τ (cpR (τ 3) s)) := by
  unfold fX4_laysBack
  rw [bec_m hN (by decide), bs, mq_1, mq_o (by decide), mq_up]
