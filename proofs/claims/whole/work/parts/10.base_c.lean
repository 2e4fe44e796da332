theorem bz_s {v r : Int32} (h : (if v = 0 ∨ v = 1 then some v else none) = some r) : (v = 0 ∨ v = 1) ∧ r = v := by
  by_cases q : v = 0 ∨ v = 1
  · rw [if_pos q] at h
    exact ⟨q, (Option.some.inj h).symm⟩
  · rw [if_neg q] at h
    cases h
/-- a truth value -/
def bz (v : Int32) : Option Int32 := if v = 0 ∨ v = 1 then some v else none
theorem bz_n {v : Int32} (h : v = 0 ∨ v = 1) : narrow .boolean (.int v) = .int v := by rcases h with rfl | rfl <;> rfl
theorem bz_f {v : Int32} (h : v = 0 ∨ v = 1) : fits .boolean (.int v) = true := by rcases h with rfl | rfl <;> rfl
def flS (b : Nat) : List (Nat ⊕ Nat) := [.inl (b + 1), .inl (b + 5), .inl (b + 12), .inr 3, .inr 4, .inr 5, .inr 6, .inr 7]
theorem tb_o {b : Nat} (hb : Sb b) : tb b = .inr (.inr (1, flS b)) := tb_sh hb (k := 0) (by decide)
theorem tb_po {b : Nat} (hb : Sb b) : tb (b + 1) = .inr (.inl (3, b + 2)) := tb_sh hb (k := 1) (by decide)
theorem tb_to {b : Nat} (hb : Sb b) : tb (b + 5) = .inr (.inl (6, b + 6)) := tb_sh hb (k := 5) (by decide)
theorem tb_sp {b : Nat} (hb : Sb b) : tb (b + 12) = .inl 10 := tb_sh hb (k := 12) (by decide)
theorem tb_pr {b : Nat} (hb : Sb b) {r : Nat} (hr : r < 3) : tb (b + (2 + r)) = .inl 24 := by
  rw [tb_sh hb (k := 2 + r) (by omega)]
  match r, hr with
  | 0, _ => rfl
  | 1, _ => rfl
  | 2, _ => rfl
theorem tb_tr {b : Nat} (hb : Sb b) {r : Nat} (hr : r < 6) : tb (b + (6 + r)) = .inl 8 := by
  rw [tb_sh hb (k := 6 + r) (by omega)]
  match r, hr with
  | 0, _ => rfl
  | 1, _ => rfl
  | 2, _ => rfl
  | 3, _ => rfl
  | 4, _ => rfl
  | 5, _ => rfl
theorem tb_nr {r : Nat} (hr : r < 4) : tb (6 + r) = .inl 40 := by
  match r, hr with
  | 0, _ => rfl
  | 1, _ => rfl
  | 2, _ => rfl
  | 3, _ => rfl
section VROWS3
variable {E : EE} {B : BB} {l0 : Launch} {cc : ByteArray} {own : String} {ret : Option FieldType} {mL fr lo : Nat} {σ : St2} {pc : Nat} {lv : List (Nat × Value)} {st : List Value} {ρ : Type} {res : ρ} {L : St2 → St2} {x : St2} {b n : Nat}
theorem g_getR (C : Cx E B l0 cc own ret mL fr lo) {K i ci index : Nat} {fl : List (Nat ⊕ Nat)} {Cn : String} {T : u_T} {N : Nat} {j : Nat} (hK9 : K < 61) (ht : tb K = .inr (.inr (ci, fl))) (hc : vwCl[ci]? = some (Cn, T, N)) (hin : ∀ w ∈ u_ws Cn T N, w ∈ gw) (hi : i < N) (hq : fl[i]? = some (.inl j)) (hw : Cond.fieldLink own index (T i).1 (T i).2.1 (T i).2.2.1 ∈ gw) (hd : decode cc pc = .ok (.getfield index, 3)) (k : V E B σ (pc + 3) lv (.ref (ad B j) :: st)) : V E B σ pc lv (.ref (ad B K) :: st) := by
  obtain ⟨p, l, e, R, s, m, args, below, meth, c, A, Q, cells, slots, nL⟩ := E
  obtain ⟨hl0, hx, hb, hml, hnl, hr, hlk, hown, hts, hK, hD, hfr, hlo, hcc, hcs, hF⟩ := C
  subst hnl
  intro H locs ls hP hS hl
  have he := wW_at (B := B) (σ := σ) hK9
  rw [ht] at he
  exact va_get (D := B.1) (ci := ci) (v := .ref (ad B j)) hx hb hts hin hown hK hP K he hc i hi (hts _ hw) (fun _ h9 => h9) (by rw [List.getElem?_map, hq]; rfl) hd (k H locs ls hP hS hl)
theorem g_getI (C : Cx E B l0 cc own ret mL fr lo) {K i ci index : Nat} {fl : List (Nat ⊕ Nat)} {Cn : String} {T : u_T} {N : Nat} (hK9 : K < 61) (ht : tb K = .inr (.inr (ci, fl))) (hc : vwCl[ci]? = some (Cn, T, N)) (hin : ∀ w ∈ u_ws Cn T N, w ∈ gw) (hi : i < N) (hq : fl[i]? = some (.inr i)) (hw : Cond.fieldLink own index (T i).1 (T i).2.1 (T i).2.2.1 ∈ gw) (hd : decode cc pc = .ok (.getfield index, 3)) (k : V E B σ (pc + 3) lv (.int (σ K i) :: st)) : V E B σ pc lv (.ref (ad B K) :: st) := by
  obtain ⟨p, l, e, R, s, m, args, below, meth, c, A, Q, cells, slots, nL⟩ := E
  obtain ⟨hl0, hx, hb, hml, hnl, hr, hlk, hown, hts, hK, hD, hfr, hlo, hcc, hcs, hF⟩ := C
  subst hnl
  intro H locs ls hP hS hl
  have he := wW_at (B := B) (σ := σ) hK9
  rw [ht] at he
  exact va_get (D := B.1) (ci := ci) (v := .int (σ K i)) hx hb hts hin hown hK hP K he hc i hi (hts _ hw) (fun _ h9 => h9) (by rw [List.getElem?_map, hq]; rfl) hd (k H locs ls hP hS hl)
theorem g_putI (C : Cx E B l0 cc own ret mL fr lo) {K i ci index : Nat} {fl : List (Nat ⊕ Nat)} {Cn : String} {T : u_T} {N : Nat} {v : Int32} (hK9 : K < 61) (ht : tb K = .inr (.inr (ci, fl))) (hc : vwCl[ci]? = some (Cn, T, N)) (hin : ∀ w ∈ u_ws Cn T N, w ∈ gw) (ty0 : Nat → FieldType) (hty : ∀ k, k < N → parseFieldDescriptor (T k).2.2.1 = some (ty0 k)) (hnm : ∀ a, a < N → ∀ b, b < N → a ≠ b → (T a).2.1 ≠ (T b).2.1) (hi : i < N) (hq : fl[i]? = some (.inr i)) (hw : Cond.fieldLink own index (T i).1 (T i).2.1 (T i).2.2.1 ∈ gw) (hfin : (T i).2.2.2 = false) {ty : FieldType} (hpd : parseFieldDescriptor (T i).2.2.1 = some ty) (hn9 : narrow ty (.int v) = .int v) (hf9 : fits ty (.int v) = true) (hd : decode cc pc = .ok (.putfield index, 3)) (k : V E B (va_up σ K (upd (σ K) i v)) (pc + 3) lv st) : V E B σ pc lv (.int v :: .ref (ad B K) :: st) := by
  obtain ⟨p, l, e, R, s, m, args, below, meth, c, A, Q, cells, slots, nL⟩ := E
  obtain ⟨hl0, hx, hb, hml, hnl, hr, hlk, hown, hts, hK, hD, hfr, hlo, hcc, hcs, hF⟩ := C
  subst hnl
  intro H locs ls hP hS hl
  have he := wW_at (B := B) (σ := σ) hK9
  rw [ht] at he
  have hle : i < (fl.map (celF B (σ K))).length := by rw [List.length_map]; exact (List.getElem?_eq_some_iff.mp hq).1
  refine va_put (D := B.1) (ci := ci) (v := .int v) (ty := ty) hx hb hts hin ty0 hty hnm hown hK hP (hD σ) hS K he hc i hi (hts _ hw) (fun _ h9 => h9) hfin hpd hn9 hf9 hle hd (fun H1 locs1 hP1 hD1 hS1 => k H1 locs1 ls ?_ hS1 hl)
  rw [← wW_set hK9, ht]
  show va_P B.1 vwCl ((wW B σ).set K (ad B K, .inr (ci, fl.map (celF B (upd (σ K) i v))))) H1
  rw [← fl_set (fun h9 => tb_lab ht h9) hq]
  exact hP1
theorem g_ald (C : Cx E B l0 cc own ret mL fr lo) {K N : Nat} {i : Int32} (hK9 : K < 61) (ht : tb K = .inl N) (hin : inb i N) (hd : decode cc pc = .ok (.iaload, 1)) (k : V E B σ (pc + 1) lv (.int (σ K i.toNatClampNeg) :: st)) : V E B σ pc lv (.int i :: .ref (ad B K) :: st) := by
  obtain ⟨p, l, e, R, s, m, args, below, meth, c, A, Q, cells, slots, nL⟩ := E
  obtain ⟨hl0, hx, hb, hml, hnl, hr, hlk, hown, hts, hK, hD, hfr, hlo, hcc, hcs, hF⟩ := C
  subst hnl
  intro H locs ls hP hS hl
  have he := wW_at (B := B) (σ := σ) hK9
  rw [ht] at he
  exact va_iald hx hb hK hP K 0 he rfl (inb_vp hin) hd (k H locs ls hP hS hl)
theorem g_ast (C : Cx E B l0 cc own ret mL fr lo) {K N : Nat} {i v : Int32} (hK9 : K < 61) (ht : tb K = .inl N) (hin : inb i N) (hd : decode cc pc = .ok (.iastore, 1)) (k : V E B (va_up σ K (upd (σ K) i.toNatClampNeg v)) (pc + 1) lv st) : V E B σ pc lv (.int v :: .int i :: .ref (ad B K) :: st) := by
  obtain ⟨p, l, e, R, s, m, args, below, meth, c, A, Q, cells, slots, nL⟩ := E
  obtain ⟨hl0, hx, hb, hml, hnl, hr, hlk, hown, hts, hK, hD, hfr, hlo, hcc, hcs, hF⟩ := C
  subst hnl
  intro H locs ls hP hS hl
  have he := wW_at (B := B) (σ := σ) hK9
  rw [ht] at he
  refine va_iast hx hb hK hP (hD σ) hS K 0 he rfl (inb_vp hin) hd (fun H1 locs1 hP1 hD1 hS1 => k H1 locs1 ls ?_ hS1 hl)
  rw [← wW_set hK9, ht]
  exact hP1
theorem g_aald (C : Cx E B l0 cc own ret mL fr lo) {K N j : Nat} {i : Int32} (hK9 : K < 61) (ht : tb K = .inr (.inl (N, j))) (hin : inb i N) (hd : decode cc pc = .ok (.aaload, 1)) (k : V E B σ (pc + 1) lv (.ref (ad B (j + i.toNatClampNeg)) :: st)) : V E B σ pc lv (.int i :: .ref (ad B K) :: st) := by
  obtain ⟨p, l, e, R, s, m, args, below, meth, c, A, Q, cells, slots, nL⟩ := E
  obtain ⟨hl0, hx, hb, hml, hnl, hr, hlk, hown, hts, hK, hD, hfr, hlo, hcc, hcs, hF⟩ := C
  subst hnl
  intro H locs ls hP hS hl
  have he := wW_at (B := B) (σ := σ) hK9
  rw [ht] at he
  exact W.aald (v := .ref (ad B (j + i.toNatClampNeg))) (ty := .array .int) hx hb (hP K _ he) ((hK.2 1 (B.2.2.1, .array .int) rfl).1 N (fun q => va_rf (some (ad B (j + q))))) rfl (fun q => by cases q) (by show ¬ (i < 0 ∨ (arrV _ _ _).slots.size ≤ _); rw [arrV_size]; exact inb_vp hin) (by show (arrV _ _ _).slots[_]? = _; rw [arrV_read _ _ hin.2]; rfl) rfl rfl hd (k H locs ls hP hS hl)
theorem g_copy (C : Cx E B l0 cc own ret mL fr lo) {K0 K1 N0 N1 index : Nat} {sp dp n9 : Int32} (hK0 : K0 < 61) (ht0 : tb K0 = .inl N0) (hK1 : K1 < 61) (ht1 : tb K1 = .inl N1) (hw1 : Cond.methodLink own index arraycopyName ∈ gw) (hw2 : Cond.native arraycopyName ∈ gw) (hw3 : Cond.static arraycopyName ∈ gw) (hw4 : Cond.initialized "java/lang/System" ∈ gw) (h1 : ¬ sp < 0) (h2 : ¬ dp < 0) (h3 : ¬ n9 < 0) (h4 : sp.toNatClampNeg + n9.toNatClampNeg ≤ N0) (h5 : dp.toNatClampNeg + n9.toNatClampNeg ≤ N1) (hfr1 : 1 ≤ fr) (hlo1 : (st.map fun v => v.category).sum + (nativeFrameWords "java/lang/System" "arraycopy" 5 + 11) ≤ lo) (hd : decode cc pc = .ok (.invokestatic index, 3)) (k : V E B (va_up σ K1 (va_cpy (σ K0) (σ K1) sp.toNatClampNeg dp.toNatClampNeg n9.toNatClampNeg)) (pc + 3) lv st) : V E B σ pc lv (.int n9 :: .int dp :: .ref (ad B K1) :: .int sp :: .ref (ad B K0) :: st) := by
  obtain ⟨p, l, e, R, s, m, args, below, meth, c, A, Q, cells, slots, nL⟩ := E
  obtain ⟨hl0, hx, hb, hml, hnl, hr, hlk, hown, hts, hK, hD, hfr, hlo, hcc, hcs, hF⟩ := C
  subst hnl
  intro H locs ls hP hS hl
  have he0 := wW_at (B := B) (σ := σ) hK0
  have he1 := wW_at (B := B) (σ := σ) hK1
  rw [ht0] at he0
  rw [ht1] at he1
  refine va_copyi hx hb (hml.trans hl.1.symm) hown (hts _ hw1) (hts _ hw2) (hts _ hw3) (hts _ hw4) hK hP (hD σ) hS K0 K1 0 0 he0 he1 rfl rfl rfl h1 h2 h3 h4 h5 (fun _ _ => rfl) (Nat.le_trans hfr1 hfr) (Nat.le_trans hlo1 hlo) hd (fun H1 locs1 hP1 hD1 hS1 => k H1 locs1 ls ?_ hS1 hl)
  rw [← wW_set hK1, ht1]
  exact hP1
theorem g_gets (C : Cx E B l0 cc own ret mL fr lo) {nm : String} {i index : Nat} (hZ : ∀ (A : Nat → Prop) (U : State) (H : Heap), SF B A U H → va_Z "PrintShore" nm "[I" (.ref (ta B i)) A U H) (hw : Cond.fieldLink own index "PrintShore" nm "[I" ∈ gw) (hd : decode cc pc = .ok (.getstatic index, 3)) (k : V E B σ (pc + 3) lv (.ref (ta B i) :: st)) : V E B σ pc lv st := by
  obtain ⟨p, l, e, R, s, m, args, below, meth, c, A, Q, cells, slots, nL⟩ := E
  obtain ⟨hl0, hx, hb, hml, hnl, hr, hlk, hown, hts, hK, hD, hfr, hlo, hcc, hcs, hF⟩ := C
  subst hnl
  intro H locs ls hP hS hl
  exact va_gets hx hb (hZ _ _ _ hF) hS hown (hts _ hw) (fun _ h9 => h9) hd (k H locs ls hP hS hl)
theorem g_getsN (C : Cx E B l0 cc own ret mL fr lo) {nm host : String} {i index : Nat} (hZ : ∀ (A : Nat → Prop) (U : State) (H : Heap), SF B A U H → va_Z "PrintShore" nm "[I" (.ref (ta B i)) A U H) (hw : Cond.fieldLinkNest own index "PrintShore" nm "[I" host ∈ nfL) (hd : decode cc pc = .ok (.getstatic index, 3)) (k : V E B σ (pc + 3) lv (.ref (ta B i) :: st)) : V E B σ pc lv st := by
  obtain ⟨p, l, e, R, s, m, args, below, meth, c, A, Q, cells, slots, nL⟩ := E
  obtain ⟨hl0, hx, hb, hml, hnl, hr, hlk, hown, hts, hK, hD, hfr, hlo, hcc, hcs, hF⟩ := C
  subst hnl
  intro H locs ls hP hS hl
  exact va_getsN hx hb (hZ _ _ _ hF) hS hown (va_Nw.use rfl (hF.2.2.2.2.2 _ hw)) (fun _ h9 => h9) hd (k H locs ls hP hS hl)
theorem g_tld (C : Cx E B l0 cc own ret mL fr lo) {i N : Nat} {j : Int32} (hT : ∀ (A : Nat → Prop) (U : State) (H : Heap), SF B A U H → va_T .int (ta B i) N (fun q => .int (tv i q)) A U H) (hin : inb j N) (hd : decode cc pc = .ok (.iaload, 1)) (k : V E B σ (pc + 1) lv (.int (tv i j.toNatClampNeg) :: st)) : V E B σ pc lv (.int j :: .ref (ta B i) :: st) := by
  obtain ⟨p, l, e, R, s, m, args, below, meth, c, A, Q, cells, slots, nL⟩ := E
  obtain ⟨hl0, hx, hb, hml, hnl, hr, hlk, hown, hts, hK, hD, hfr, hlo, hcc, hcs, hF⟩ := C
  subst hnl
  intro H locs ls hP hS hl
  exact va_ti hx hb (hT _ _ _ hF) hS (inb_vp hin) rfl hd (k H locs ls hP hS hl)
theorem sz0 (B : BB) (A : Nat → Prop) (U : State) (H : Heap) (h : SF B A U H) : va_Z "PrintShore" "ABOVE" "[I" (.ref (ta B 0)) A U H := h.1.1.1
theorem sz1 (B : BB) (A : Nat → Prop) (U : State) (H : Heap) (h : SF B A U H) : va_Z "PrintShore" "TRAIT_LEAST" "[I" (.ref (ta B 1)) A U H := h.1.2.1.1
theorem sz2 (B : BB) (A : Nat → Prop) (U : State) (H : Heap) (h : SF B A U H) : va_Z "PrintShore" "TRAIT_MOST" "[I" (.ref (ta B 2)) A U H := h.1.2.2.1
theorem sT0 (B : BB) (A : Nat → Prop) (U : State) (H : Heap) (h : SF B A U H) : va_T .int (ta B 0) 7 (fun q => .int (tv 0 q)) A U H := h.1.1.2
theorem sT1 (B : BB) (A : Nat → Prop) (U : State) (H : Heap) (h : SF B A U H) : va_T .int (ta B 1) 6 (fun q => .int (tv 1 q)) A U H := h.1.2.1.2
theorem sT2 (B : BB) (A : Nat → Prop) (U : State) (H : Heap) (h : SF B A U H) : va_T .int (ta B 2) 6 (fun q => .int (tv 2 q)) A U H := h.1.2.2.2
theorem s_getI (C : Cx E B l0 cc own ret mL fr lo) {i ci index : Nat} {fl : List (Nat ⊕ Nat)} {Cn : String} {T : u_T} {N : Nat} (hL : Ln b n L) {k : Nat} (hk : k < n) (ht : tb (b + k) = .inr (.inr (ci, fl))) (hc : vwCl[ci]? = some (Cn, T, N)) (hin : ∀ w ∈ u_ws Cn T N, w ∈ gw) (hi : i < N) (hq : fl[i]? = some (.inr i)) (hw : Cond.fieldLink own index (T i).1 (T i).2.1 (T i).2.2.1 ∈ gw) (hd : decode cc pc = .ok (.getfield index, 3)) (kk : V E B (L x) (pc + 3) lv (.int (x k i) :: st)) : V E B (L x) pc lv (.ref (ad B (b + k)) :: st) := by
  exact g_getI C (by have := hL.1; omega) ht hc hin hi hq hw hd (by rw [hL.2.1 _ _ hk]; exact kk)
theorem s_putI (C : Cx E B l0 cc own ret mL fr lo) {i ci index : Nat} {fl : List (Nat ⊕ Nat)} {Cn : String} {T : u_T} {N : Nat} {v : Int32} {K9 : St2 → Option ρ} (hL : Ln b n L) {k : Nat} (hk : k < n) (ht : tb (b + k) = .inr (.inr (ci, fl))) (hc : vwCl[ci]? = some (Cn, T, N)) (hin : ∀ w ∈ u_ws Cn T N, w ∈ gw) (ty0 : Nat → FieldType) (hty : ∀ k, k < N → parseFieldDescriptor (T k).2.2.1 = some (ty0 k)) (hnm : ∀ a, a < N → ∀ b, b < N → a ≠ b → (T a).2.1 ≠ (T b).2.1) (hi : i < N) (hq : fl[i]? = some (.inr i)) (hw : Cond.fieldLink own index (T i).1 (T i).2.1 (T i).2.2.1 ∈ gw) (hfin : (T i).2.2.2 = false) (hpd : parseFieldDescriptor (T i).2.2.1 = some .int) (hd : decode cc pc = .ok (.putfield index, 3)) (hf : (pf x k i v).bind K9 = some res) (kk : ∀ x1 : St2, K9 x1 = some res → V E B (L x1) (pc + 3) lv st) : V E B (L x) pc lv (.int v :: .ref (ad B (b + k)) :: st) := by
  have h1 : (some (va_up x k (upd (x k) i v))).bind K9 = some res := hf
  have h2 := kk _ h1
  rw [hL.2.2 _ _ _ hk] at h2
  exact g_putI C (by have := hL.1; omega) ht hc hin ty0 hty hnm hi hq hw hfin hpd rfl rfl hd (by rw [hL.2.1 _ _ hk]; exact h2)
def pfz (x : St2) (k i : Nat) (v : Int32) : Option St2 := if v = 0 ∨ v = 1 then some (va_up x k (upd (x k) i v)) else none
theorem pfz_s {x x1 : St2} {k i : Nat} {v : Int32} (h : pfz x k i v = some x1) : (v = 0 ∨ v = 1) ∧ x1 = va_up x k (upd (x k) i v) := by
  unfold pfz at h
  by_cases q : v = 0 ∨ v = 1
  · rw [if_pos q] at h
    exact ⟨q, (Option.some.inj h).symm⟩
  · rw [if_neg q] at h
    cases h
theorem s_putZ (C : Cx E B l0 cc own ret mL fr lo) {i ci index : Nat} {fl : List (Nat ⊕ Nat)} {Cn : String} {T : u_T} {N : Nat} {v : Int32} {K9 : St2 → Option ρ} (hL : Ln b n L) {k : Nat} (hk : k < n) (ht : tb (b + k) = .inr (.inr (ci, fl))) (hc : vwCl[ci]? = some (Cn, T, N)) (hin : ∀ w ∈ u_ws Cn T N, w ∈ gw) (ty0 : Nat → FieldType) (hty : ∀ k, k < N → parseFieldDescriptor (T k).2.2.1 = some (ty0 k)) (hnm : ∀ a, a < N → ∀ b, b < N → a ≠ b → (T a).2.1 ≠ (T b).2.1) (hi : i < N) (hq : fl[i]? = some (.inr i)) (hw : Cond.fieldLink own index (T i).1 (T i).2.1 (T i).2.2.1 ∈ gw) (hfin : (T i).2.2.2 = false) (hpd : parseFieldDescriptor (T i).2.2.1 = some .boolean) (hd : decode cc pc = .ok (.putfield index, 3)) (hf : (pfz x k i v).bind K9 = some res) (kk : ∀ x1 : St2, K9 x1 = some res → V E B (L x1) (pc + 3) lv st) : V E B (L x) pc lv (.int v :: .ref (ad B (b + k)) :: st) := by
  obtain ⟨x1, h0, h1⟩ := bnd hf
  obtain ⟨hz, rfl⟩ := pfz_s h0
  have h2 := kk _ h1
  rw [hL.2.2 _ _ _ hk] at h2
  exact g_putI C (by have := hL.1; omega) ht hc hin ty0 hty hnm hi hq hw hfin hpd (bz_n hz) (bz_f hz) hd (by rw [hL.2.1 _ _ hk]; exact h2)
theorem s_ald (C : Cx E B l0 cc own ret mL fr lo) {N : Nat} {i : Int32} {K9 : Int32 → Option ρ} (hL : Ln b n L) {k : Nat} (hk : k < n) (ht : tb (b + k) = .inl N) (hd : decode cc pc = .ok (.iaload, 1)) (hf : (rd (x k) N i).bind K9 = some res) (kk : ∀ v : Int32, K9 v = some res → V E B (L x) (pc + 1) lv (.int v :: st)) : V E B (L x) pc lv (.int i :: .ref (ad B (b + k)) :: st) := by
  obtain ⟨v, h0, h1⟩ := bnd hf
  obtain ⟨hin, rfl⟩ := rd_s h0
  exact g_ald C (by have := hL.1; omega) ht hin hd (by rw [hL.2.1 _ _ hk]; exact kk _ h1)
theorem s_ast (C : Cx E B l0 cc own ret mL fr lo) {N : Nat} {i v : Int32} {K9 : St2 → Option ρ} (hL : Ln b n L) {k : Nat} (hk : k < n) (ht : tb (b + k) = .inl N) (hd : decode cc pc = .ok (.iastore, 1)) (hf : (wr x k N i v).bind K9 = some res) (kk : ∀ x1 : St2, K9 x1 = some res → V E B (L x1) (pc + 1) lv st) : V E B (L x) pc lv (.int v :: .int i :: .ref (ad B (b + k)) :: st) := by
  obtain ⟨x1, h0, h1⟩ := bnd hf
  obtain ⟨hin, rfl⟩ := wr_s h0
  have h2 := kk _ h1
  rw [hL.2.2 _ _ _ hk] at h2
  exact g_ast C (by have := hL.1; omega) ht hin hd (by rw [hL.2.1 _ _ hk]; exact h2)
theorem c_getI (C : Cx E B l0 cc own ret mL fr lo) {i ci index : Nat} {fl : List (Nat ⊕ Nat)} {Cn : String} {T : u_T} {N : Nat} (hL : LnC L) {k : Nat} (hk : k < 51) (ht : tb k = .inr (.inr (ci, fl))) (hc : vwCl[ci]? = some (Cn, T, N)) (hin : ∀ w ∈ u_ws Cn T N, w ∈ gw) (hi : i < N) (hq : fl[i]? = some (.inr i)) (hw : Cond.fieldLink own index (T i).1 (T i).2.1 (T i).2.2.1 ∈ gw) (hd : decode cc pc = .ok (.getfield index, 3)) (kk : V E B (L x) (pc + 3) lv (.int (x k i) :: st)) : V E B (L x) pc lv (.ref (ad B k) :: st) := by
  exact g_getI C (by omega) ht hc hin hi hq hw hd (by rw [hL.1 _ _ hk]; exact kk)
theorem c_putI (C : Cx E B l0 cc own ret mL fr lo) {i ci index : Nat} {fl : List (Nat ⊕ Nat)} {Cn : String} {T : u_T} {N : Nat} {v : Int32} {K9 : St2 → Option ρ} (hL : LnC L) {k : Nat} (hk : k < 51) (ht : tb k = .inr (.inr (ci, fl))) (hc : vwCl[ci]? = some (Cn, T, N)) (hin : ∀ w ∈ u_ws Cn T N, w ∈ gw) (ty0 : Nat → FieldType) (hty : ∀ k, k < N → parseFieldDescriptor (T k).2.2.1 = some (ty0 k)) (hnm : ∀ a, a < N → ∀ b, b < N → a ≠ b → (T a).2.1 ≠ (T b).2.1) (hi : i < N) (hq : fl[i]? = some (.inr i)) (hw : Cond.fieldLink own index (T i).1 (T i).2.1 (T i).2.2.1 ∈ gw) (hfin : (T i).2.2.2 = false) (hpd : parseFieldDescriptor (T i).2.2.1 = some .int) (hd : decode cc pc = .ok (.putfield index, 3)) (hf : (pf x k i v).bind K9 = some res) (kk : ∀ x1 : St2, K9 x1 = some res → V E B (L x1) (pc + 3) lv st) : V E B (L x) pc lv (.int v :: .ref (ad B k) :: st) := by
  have h1 : (some (va_up x k (upd (x k) i v))).bind K9 = some res := hf
  have h2 := kk _ h1
  rw [hL.2 _ _ _ hk] at h2
  exact g_putI C (by omega) ht hc hin ty0 hty hnm hi hq hw hfin hpd rfl rfl hd (by rw [hL.1 _ _ hk]; exact h2)
theorem c_putZ (C : Cx E B l0 cc own ret mL fr lo) {i ci index : Nat} {fl : List (Nat ⊕ Nat)} {Cn : String} {T : u_T} {N : Nat} {v : Int32} {K9 : St2 → Option ρ} (hL : LnC L) {k : Nat} (hk : k < 51) (ht : tb k = .inr (.inr (ci, fl))) (hc : vwCl[ci]? = some (Cn, T, N)) (hin : ∀ w ∈ u_ws Cn T N, w ∈ gw) (ty0 : Nat → FieldType) (hty : ∀ k, k < N → parseFieldDescriptor (T k).2.2.1 = some (ty0 k)) (hnm : ∀ a, a < N → ∀ b, b < N → a ≠ b → (T a).2.1 ≠ (T b).2.1) (hi : i < N) (hq : fl[i]? = some (.inr i)) (hw : Cond.fieldLink own index (T i).1 (T i).2.1 (T i).2.2.1 ∈ gw) (hfin : (T i).2.2.2 = false) (hpd : parseFieldDescriptor (T i).2.2.1 = some .boolean) (hd : decode cc pc = .ok (.putfield index, 3)) (hf : (pfz x k i v).bind K9 = some res) (kk : ∀ x1 : St2, K9 x1 = some res → V E B (L x1) (pc + 3) lv st) : V E B (L x) pc lv (.int v :: .ref (ad B k) :: st) := by
  obtain ⟨x1, h0, h1⟩ := bnd hf
  obtain ⟨hz, rfl⟩ := pfz_s h0
  have h2 := kk _ h1
  rw [hL.2 _ _ _ hk] at h2
  exact g_putI C (by omega) ht hc hin ty0 hty hnm hi hq hw hfin hpd (bz_n hz) (bz_f hz) hd (by rw [hL.1 _ _ hk]; exact h2)
theorem c_ald (C : Cx E B l0 cc own ret mL fr lo) {N : Nat} {i : Int32} {K9 : Int32 → Option ρ} (hL : LnC L) {k : Nat} (hk : k < 51) (ht : tb k = .inl N) (hd : decode cc pc = .ok (.iaload, 1)) (hf : (rd (x k) N i).bind K9 = some res) (kk : ∀ v : Int32, K9 v = some res → V E B (L x) (pc + 1) lv (.int v :: st)) : V E B (L x) pc lv (.int i :: .ref (ad B k) :: st) := by
  obtain ⟨v, h0, h1⟩ := bnd hf
  obtain ⟨hin, rfl⟩ := rd_s h0
  exact g_ald C (by omega) ht hin hd (by rw [hL.1 _ _ hk]; exact kk _ h1)
theorem c_ast (C : Cx E B l0 cc own ret mL fr lo) {N : Nat} {i v : Int32} {K9 : St2 → Option ρ} (hL : LnC L) {k : Nat} (hk : k < 51) (ht : tb k = .inl N) (hd : decode cc pc = .ok (.iastore, 1)) (hf : (wr x k N i v).bind K9 = some res) (kk : ∀ x1 : St2, K9 x1 = some res → V E B (L x1) (pc + 1) lv st) : V E B (L x) pc lv (.int v :: .int i :: .ref (ad B k) :: st) := by
  obtain ⟨x1, h0, h1⟩ := bnd hf
  obtain ⟨hin, rfl⟩ := wr_s h0
  have h2 := kk _ h1
  rw [hL.2 _ _ _ hk] at h2
  exact g_ast C (by omega) ht hin hd (by rw [hL.1 _ _ hk]; exact h2)
theorem c_copy (C : Cx E B l0 cc own ret mL fr lo) {j k N0 N1 index : Nat} {sp dp n9 : Int32} {K9 : St2 → Option ρ} (hL : LnC L) (hj : j < 51) (hk : k < 51) (ht0 : tb j = .inl N0) (ht1 : tb k = .inl N1) (hw1 : Cond.methodLink own index arraycopyName ∈ gw) (hw2 : Cond.native arraycopyName ∈ gw) (hw3 : Cond.static arraycopyName ∈ gw) (hw4 : Cond.initialized "java/lang/System" ∈ gw) (hfr1 : 1 ≤ fr) (hlo1 : (st.map fun v => v.category).sum + (nativeFrameWords "java/lang/System" "arraycopy" 5 + 11) ≤ lo) (hd : decode cc pc = .ok (.invokestatic index, 3)) (hf : (cp x j N0 k N1 sp dp n9).bind K9 = some res) (kk : ∀ x1 : St2, K9 x1 = some res → V E B (L x1) (pc + 3) lv st) : V E B (L x) pc lv (.int n9 :: .int dp :: .ref (ad B k) :: .int sp :: .ref (ad B j) :: st) := by
  obtain ⟨x1, h0, h1⟩ := bnd hf
  unfold cp at h0
  by_cases q : (¬ sp < 0 ∧ ¬ dp < 0 ∧ ¬ n9 < 0) ∧ sp.toNatClampNeg + n9.toNatClampNeg ≤ N0 ∧ dp.toNatClampNeg + n9.toNatClampNeg ≤ N1
  · rw [if_pos q] at h0
    cases h0
    have h2 := kk _ h1
    rw [hL.2 _ _ _ hk] at h2
    exact g_copy C (by omega) ht0 (by omega) ht1 hw1 hw2 hw3 hw4 q.1.1 q.1.2.1 q.1.2.2 q.2.1 q.2.2 hfr1 hlo1 hd (by rw [hL.1 _ _ hj, hL.1 _ _ hk]; exact h2)
  · rw [if_neg q] at h0
    cases h0
theorem g_rowD (C : Cx E B l0 cc own ret mL fr lo) {K N j : Nat} {i : Int32} {K9 : Nat → Option ρ} (hK9 : K < 61) (ht : tb K = .inr (.inl (N, j))) (hd : decode cc pc = .ok (.aaload, 1)) (hf : (ck i N).bind K9 = some res) (kk : ∀ r : Nat, r < N → K9 r = some res → V E B σ (pc + 1) lv (.ref (ad B (j + r)) :: st)) : V E B σ pc lv (.int i :: .ref (ad B K) :: st) := by
  obtain ⟨r, h0, h1⟩ := bnd hf
  obtain ⟨hin, rfl⟩ := ck_s h0
  exact g_aald C hK9 ht hin hd (kk _ hin.2 h1)
theorem g_rowS (C : Cx E B l0 cc own ret mL fr lo) {K N j : Nat} {i : Int32} (r : Nat) (hK9 : K < 61) (ht : tb K = .inr (.inl (N, j))) (hr : i = nI r) (hlt : r < N) (hN : N < 100) (hd : decode cc pc = .ok (.aaload, 1)) (kk : V E B σ (pc + 1) lv (.ref (ad B (j + r)) :: st)) : V E B σ pc lv (.int i :: .ref (ad B K) :: st) := by
  have hcl : (nI r).toNatClampNeg = r := nI_clamp (by omega)
  subst hr
  exact g_aald C hK9 ht ⟨nI_pos (by omega), by rw [hcl]; exact hlt⟩ hd (by rw [hcl]; exact kk)
theorem sh_prD (C : Cx E B l0 cc own ret mL fr lo) {i : Int32} {K9 : Nat → Option ρ} (hb : Sb b) (hd : decode cc pc = .ok (.aaload, 1)) (hf : (ck i 3).bind K9 = some res) (kk : ∀ r : Nat, r < 3 → K9 r = some res → V E B σ (pc + 1) lv (.ref (ad B (b + (2 + r))) :: st)) : V E B σ pc lv (.int i :: .ref (ad B (b + 1)) :: st) := by
  exact g_rowD C (by have := hb.le; omega) (tb_po hb) hd hf (fun r hr h => by rw [Nat.add_assoc]; exact kk r hr h)
theorem sh_prS (C : Cx E B l0 cc own ret mL fr lo) {i : Int32} (r : Nat) (hb : Sb b) (hr : i = nI r) (hlt : r < 3) (hd : decode cc pc = .ok (.aaload, 1)) (kk : V E B σ (pc + 1) lv (.ref (ad B (b + (2 + r))) :: st)) : V E B σ pc lv (.int i :: .ref (ad B (b + 1)) :: st) := by
  exact g_rowS C r (by have := hb.le; omega) (tb_po hb) hr hlt (by decide) hd (by rw [Nat.add_assoc]; exact kk)
theorem sh_trD (C : Cx E B l0 cc own ret mL fr lo) {i : Int32} {K9 : Nat → Option ρ} (hb : Sb b) (hd : decode cc pc = .ok (.aaload, 1)) (hf : (ck i 6).bind K9 = some res) (kk : ∀ r : Nat, r < 6 → K9 r = some res → V E B σ (pc + 1) lv (.ref (ad B (b + (6 + r))) :: st)) : V E B σ pc lv (.int i :: .ref (ad B (b + 5)) :: st) := by
  exact g_rowD C (by have := hb.le; omega) (tb_to hb) hd hf (fun r hr h => by rw [Nat.add_assoc]; exact kk r hr h)
theorem sh_trS (C : Cx E B l0 cc own ret mL fr lo) {i : Int32} (r : Nat) (hb : Sb b) (hr : i = nI r) (hlt : r < 6) (hd : decode cc pc = .ok (.aaload, 1)) (kk : V E B σ (pc + 1) lv (.ref (ad B (b + (6 + r))) :: st)) : V E B σ pc lv (.int i :: .ref (ad B (b + 5)) :: st) := by
  exact g_rowS C r (by have := hb.le; omega) (tb_to hb) hr hlt (by decide) hd (by rw [Nat.add_assoc]; exact kk)
end VROWS3
