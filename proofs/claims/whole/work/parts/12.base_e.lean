theorem wq_t {w : Cond} (i : Nat) (h : tables_1[i]? = some w) (hg : goodWord w = true) : w ∈ gw := gw_in (List.mem_append_right _ (List.mem_of_getElem? h)) hg
theorem wq_p {w : Cond} (i : Nat) (h : (k2_sels lw_privs)[i]? = some w) (hg : goodWord w = true) : w ∈ gw := gw_in (List.mem_append_left _ (List.mem_of_getElem? h)) hg
theorem inX0 : ∀ w ∈ wsX00, w ∈ gw := fun w hw => by
  have h : wsX00 = [105, 107, 109].filterMap (fun i => tables_1[i]?) := by decide +kernel
  have hg : wsX00.all goodWord = true := by decide +kernel
  have h2 := List.all_eq_true.mp hg w hw
  rw [h] at hw
  obtain ⟨i, -, hi⟩ := List.mem_filterMap.mp hw
  exact wq_t i hi h2
theorem inX1 : ∀ w ∈ wsX10, w ∈ gw := fun w hw => by
  have h : wsX10 = [48, 50, 52, 54, 56, 58, 60, 62].filterMap (fun i => tables_1[i]?) := by decide +kernel
  have hg : wsX10.all goodWord = true := by decide +kernel
  have h2 := List.all_eq_true.mp hg w hw
  rw [h] at hw
  obtain ⟨i, -, hi⟩ := List.mem_filterMap.mp hw
  exact wq_t i hi h2
theorem inX2 : ∀ w ∈ wsX20, w ∈ gw := fun w hw => by
  have h : wsX20 = [79, 81, 83, 85, 87, 89].filterMap (fun i => tables_1[i]?) := by decide +kernel
  have hg : wsX20.all goodWord = true := by decide +kernel
  have h2 := List.all_eq_true.mp hg w hw
  rw [h] at hw
  obtain ⟨i, -, hi⟩ := List.mem_filterMap.mp hw
  exact wq_t i hi h2
theorem inX3 : ∀ w ∈ wsX30, w ∈ gw := fun w hw => by
  have h : wsX30 = [119, 121, 123, 125, 127, 129, 131].filterMap (fun i => tables_1[i]?) := by decide +kernel
  have hg : wsX30.all goodWord = true := by decide +kernel
  have h2 := List.all_eq_true.mp hg w hw
  rw [h] at hw
  obtain ⟨i, -, hi⟩ := List.mem_filterMap.mp hw
  exact wq_t i hi h2
theorem inX4 : ∀ w ∈ wsX40, w ∈ gw := fun w hw => by
  have h : wsX40 = [682, 684, 686, 688, 690, 692, 694, 696, 698, 700, 702, 704, 706, 708, 710].filterMap (fun i => tables_1[i]?) := by decide +kernel
  have hg : wsX40.all goodWord = true := by decide +kernel
  have h2 := List.all_eq_true.mp hg w hw
  rw [h] at hw
  obtain ⟨i, -, hi⟩ := List.mem_filterMap.mp hw
  exact wq_t i hi h2
def imax (x y : Int32) : Int32 := if x < y then y else x
def imin (x y : Int32) : Int32 := if y < x then y else x
def dv (x y : Int32) : Option Int32 := if y = 0 then none else some (x / y)
def dvL (x y : Int64) : Option Int64 := if y = 0 then none else some (x / y)
def rmL (x y : Int64) : Option Int64 := if y = 0 then none else some (x - x / y * y)
theorem ne_ti {x y : Int32} (h : ¬ x = y) : x.toInt ≠ y.toInt := fun e => h (Int32.toInt_inj.mp e)
section VROWS6
variable {E : EE} {B : BB} {l0 : Launch} {cc : ByteArray} {own : String} {ret : Option FieldType} {mL fr lo : Nat} {σ : St2} {pc : Nat} {lv : List (Nat × Value)} {st : List Value} {ρ : Type} {res : ρ} {L : St2 → St2} {x : St2} {b n : Nat}
theorem v_dup2 (C : Cx E B l0 cc own ret mL fr lo) {va vb : Value} (hd : decode cc pc = .ok (.dup2, 1)) (h1 : va.category = 1) (h2 : vb.category = 1) (k : V E B σ (pc + 1) lv (va :: vb :: va :: vb :: st)) : V E B σ pc lv (va :: vb :: st) := by
  obtain ⟨p, l, e, R, s, m, args, below, meth, c, A, Q, cells, slots, nL⟩ := E
  obtain ⟨hl0, hx, hb, hml, hnl, hr, hlk, hown, hts, hK, hD, hfr, hlo, hcc, hcs, hF⟩ := C
  subst hnl
  intro H locs ls hP hS hl
  exact lv_dup2_11 hx hb hd h1 h2 (k H locs ls hP hS hl)
theorem w_mmax (C : Cx E B l0 cc own ret mL fr lo) {index : Nat} {x y : Int32} (hw1 : Cond.methodLink own index Lib.Math.max.name ∈ gw) (hfr1 : 1 ≤ fr) (hlo1 : (st.map fun v => v.category).sum + 13 ≤ lo) (hd : decode cc pc = .ok (.invokestatic index, 3)) (k : V E B σ (pc + 3) lv (.int (imax x y) :: st)) : V E B σ pc lv (.int y :: .int x :: st) := by
  exact v_mmax C hw1 (wq_t 214 (by decide +kernel) (by decide +kernel)) (wq_t 6 (by decide +kernel) (by decide +kernel)) (wq_t 215 (by decide +kernel) (by decide +kernel)) hfr1 hlo1 hd k
theorem w_mmin (C : Cx E B l0 cc own ret mL fr lo) {index : Nat} {x y : Int32} (hw1 : Cond.methodLink own index Lib.Math.min.name ∈ gw) (hfr1 : 1 ≤ fr) (hlo1 : (st.map fun v => v.category).sum + 13 ≤ lo) (hd : decode cc pc = .ok (.invokestatic index, 3)) (k : V E B σ (pc + 3) lv (.int (imin x y) :: st)) : V E B σ pc lv (.int y :: .int x :: st) := by
  exact v_mmin C hw1 (wq_t 217 (by decide +kernel) (by decide +kernel)) (wq_t 6 (by decide +kernel) (by decide +kernel)) (wq_t 218 (by decide +kernel) (by decide +kernel)) hfr1 hlo1 hd k
theorem v_divD (C : Cx E B l0 cc own ret mL fr lo) {x y : Int32} {K9 : Int32 → Option ρ} (hd : decode cc pc = .ok (.idiv, 1)) (hf : (dv x y).bind K9 = some res) (kk : ∀ v : Int32, K9 v = some res → V E B σ (pc + 1) lv (.int v :: st)) : V E B σ pc lv (.int y :: .int x :: st) := by
  obtain ⟨v, h0, h1⟩ := bnd hf
  unfold dv at h0
  by_cases q : y = 0
  · rw [if_pos q] at h0
    cases h0
  · rw [if_neg q] at h0
    cases h0
    exact v_idiv C hd q (kk _ h1)
theorem v_divL (C : Cx E B l0 cc own ret mL fr lo) {x y : Int64} {K9 : Int64 → Option ρ} (hd : decode cc pc = .ok (.ldiv, 1)) (hf : (dvL x y).bind K9 = some res) (kk : ∀ v : Int64, K9 v = some res → V E B σ (pc + 1) lv (.long v :: st)) : V E B σ pc lv (.long y :: .long x :: st) := by
  obtain ⟨v, h0, h1⟩ := bnd hf
  unfold dvL at h0
  by_cases q : y = 0
  · rw [if_pos q] at h0
    cases h0
  · rw [if_neg q] at h0
    cases h0
    exact v_ldiv C hd q (kk _ h1)
theorem v_remL (C : Cx E B l0 cc own ret mL fr lo) {x y : Int64} {K9 : Int64 → Option ρ} (hd : decode cc pc = .ok (.lrem, 1)) (hf : (rmL x y).bind K9 = some res) (kk : ∀ v : Int64, K9 v = some res → V E B σ (pc + 1) lv (.long v :: st)) : V E B σ pc lv (.long y :: .long x :: st) := by
  obtain ⟨v, h0, h1⟩ := bnd hf
  unfold rmL at h0
  by_cases q : y = 0
  · rw [if_pos q] at h0
    cases h0
  · rw [if_neg q] at h0
    cases h0
    exact v_lrem C hd q (kk _ h1)
theorem t_ld0 (C : Cx E B l0 cc own ret mL fr lo) {j : Int32} {K9 : Int32 → Option ρ} (hd : decode cc pc = .ok (.iaload, 1)) (hf : (rd (tv 0) 7 j).bind K9 = some res) (kk : ∀ v : Int32, K9 v = some res → V E B σ (pc + 1) lv (.int v :: st)) : V E B σ pc lv (.int j :: .ref (ta B 0) :: st) := by
  obtain ⟨v, h0, h1⟩ := bnd hf
  obtain ⟨hin, rfl⟩ := rd_s h0
  exact g_tld C (sT0 B) hin hd (kk _ h1)
theorem t_ld1 (C : Cx E B l0 cc own ret mL fr lo) {j : Int32} {K9 : Int32 → Option ρ} (hd : decode cc pc = .ok (.iaload, 1)) (hf : (rd (tv 1) 6 j).bind K9 = some res) (kk : ∀ v : Int32, K9 v = some res → V E B σ (pc + 1) lv (.int v :: st)) : V E B σ pc lv (.int j :: .ref (ta B 1) :: st) := by
  obtain ⟨v, h0, h1⟩ := bnd hf
  obtain ⟨hin, rfl⟩ := rd_s h0
  exact g_tld C (sT1 B) hin hd (kk _ h1)
theorem t_ld2 (C : Cx E B l0 cc own ret mL fr lo) {j : Int32} {K9 : Int32 → Option ρ} (hd : decode cc pc = .ok (.iaload, 1)) (hf : (rd (tv 2) 6 j).bind K9 = some res) (kk : ∀ v : Int32, K9 v = some res → V E B σ (pc + 1) lv (.int v :: st)) : V E B σ pc lv (.int j :: .ref (ta B 2) :: st) := by
  obtain ⟨v, h0, h1⟩ := bnd hf
  obtain ⟨hin, rfl⟩ := rd_s h0
  exact g_tld C (sT2 B) hin hd (kk _ h1)
theorem sh_getR (C : Cx E B l0 cc own ret mL fr lo) {i j index : Nat} (hb : Sb b) (hi : i < 8) (hq : (flS b)[i]? = some (.inl j)) (hw : Cond.fieldLink own index (TX1 i).1 (TX1 i).2.1 (TX1 i).2.2.1 ∈ gw) (hd : decode cc pc = .ok (.getfield index, 3)) (k : V E B σ (pc + 3) lv (.ref (ad B j) :: st)) : V E B σ pc lv (.ref (ad B b) :: st) := by
  exact g_getR C (by have := hb.le; omega) (tb_o hb) rfl inX1 hi hq hw hd k
theorem sh_getI (C : Cx E B l0 cc own ret mL fr lo) {i index : Nat} (hb : Sb b) (hL : Ln b 13 L) (hi : i < 8) (hq : (flS b)[i]? = some (.inr i)) (hw : Cond.fieldLink own index (TX1 i).1 (TX1 i).2.1 (TX1 i).2.2.1 ∈ gw) (hd : decode cc pc = .ok (.getfield index, 3)) (k : V E B (L x) (pc + 3) lv (.int (x 0 i) :: st)) : V E B (L x) pc lv (.ref (ad B b) :: st) := by
  exact s_getI C hL (k := 0) (by decide) (tb_o hb) rfl inX1 hi hq hw hd k
theorem shC_getI (C : Cx E B l0 cc own ret mL fr lo) {i index : Nat} (hb : Sb b) (hL : LnC L) (hi : i < 8) (hq : (flS b)[i]? = some (.inr i)) (hw : Cond.fieldLink own index (TX1 i).1 (TX1 i).2.1 (TX1 i).2.2.1 ∈ gw) (hd : decode cc pc = .ok (.getfield index, 3)) (k : V E B (L x) (pc + 3) lv (.int (x b i) :: st)) : V E B (L x) pc lv (.ref (ad B b) :: st) := by
  exact c_getI C hL (k := b) (by have := hb.le; omega) (tb_o hb) rfl inX1 hi hq hw hd k
theorem sh_putI (C : Cx E B l0 cc own ret mL fr lo) {i index : Nat} {v : Int32} {K9 : St2 → Option ρ} (hb : Sb b) (hL : Ln b 13 L) (hi : i < 8) (hq : (flS b)[i]? = some (.inr i)) (hw : Cond.fieldLink own index (TX1 i).1 (TX1 i).2.1 (TX1 i).2.2.1 ∈ gw) (hfin : (TX1 i).2.2.2 = false) (hpd : parseFieldDescriptor (TX1 i).2.2.1 = some .int) (hd : decode cc pc = .ok (.putfield index, 3)) (hf : (pf x 0 i v).bind K9 = some res) (kk : ∀ x1 : St2, K9 x1 = some res → V E B (L x1) (pc + 3) lv st) : V E B (L x) pc lv (.int v :: .ref (ad B b) :: st) := by
  exact s_putI C hL (k := 0) (by decide) (tb_o hb) rfl inX1 tyX1 tyX1_ok nmX1 hi hq hw hfin hpd hd hf kk
theorem shC_putI (C : Cx E B l0 cc own ret mL fr lo) {i index : Nat} {v : Int32} {K9 : St2 → Option ρ} (hb : Sb b) (hL : LnC L) (hi : i < 8) (hq : (flS b)[i]? = some (.inr i)) (hw : Cond.fieldLink own index (TX1 i).1 (TX1 i).2.1 (TX1 i).2.2.1 ∈ gw) (hfin : (TX1 i).2.2.2 = false) (hpd : parseFieldDescriptor (TX1 i).2.2.1 = some .int) (hd : decode cc pc = .ok (.putfield index, 3)) (hf : (pf x b i v).bind K9 = some res) (kk : ∀ x1 : St2, K9 x1 = some res → V E B (L x1) (pc + 3) lv st) : V E B (L x) pc lv (.int v :: .ref (ad B b) :: st) := by
  exact c_putI C hL (k := b) (by have := hb.le; omega) (tb_o hb) rfl inX1 tyX1 tyX1_ok nmX1 hi hq hw hfin hpd hd hf kk
end VROWS6
