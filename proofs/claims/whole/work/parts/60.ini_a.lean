section INIA
/-! ===== constructors: what they know of the rows' classes, what they leave ===== -/
def KK (D : va_G) (cI cII : ClassId) (U : State) : Prop := va_K D vwCl [(cI, .int), (cII, .array .int)] U ∧ va_AOA .int U
theorem aoa_moved {u U : State} (h : u.vm.Alike U.vm) (hk : va_AOA .int u) : va_AOA .int U := Jvm.Stand.arrayOver_alikeB (args := #[]) (first := u) (o := none) (idx := []) (args' := #[]) (first' := U) (o' := none) (idx' := []) h hk
theorem KK.moved {D : va_G} {cI cII : ClassId} {u U : State} (h : u.vm.Alike U.vm) (hk : KK D cI cII u) : KK D cI cII U := ⟨va_K.moved h hk.1, aoa_moved h hk.2⟩
theorem ki {D : va_G} {cI cII cA : ClassId} {s : State} (h : va_K D vwCl ([(cI, .int), (cII, .array .int)] ++ [(cA, .int)]) s) : cA = cI := by
  have h1 : s.vm.findClass ("[" ++ FieldType.int.toString) = some cA := (h.2 2 (cA, .int) rfl).2
  have h2 : s.vm.findClass ("[" ++ FieldType.int.toString) = some cI := (h.2 0 (cI, .int) rfl).2
  exact Option.some.inj (h1.symm.trans h2)
theorem kii {D : va_G} {cI cII cA : ClassId} {s : State} (h : va_K D vwCl ([(cI, .int), (cII, .array .int)] ++ [(cA, .array .int)]) s) : cA = cII := by
  have h1 : s.vm.findClass ("[" ++ (FieldType.array .int).toString) = some cA := (h.2 2 (cA, .array .int) rfl).2
  have h2 : s.vm.findClass ("[" ++ (FieldType.array .int).toString) = some cII := (h.2 1 (cII, .array .int) rfl).2
  exact Option.some.inj (h1.symm.trans h2)
theorem KK.cy {D : va_G} {cI cII : ClassId} {s : State} (h : KK D cI cII s) : s.vm.findClass (FieldType.array .int).toString = some cI := (h.1.2 0 (cI, .int) rfl).2
theorem arrV_ext {c : ClassId} {n : Nat} {f g : Nat → Value} (e : ∀ j, j < n → f j = g j) : arrV c n f = arrV c n g := by
  unfold arrV
  have : (fun j : Fin n => f j.val) = fun j : Fin n => g j.val := funext fun j => e j.1 j.2
  rw [this]
theorem at_i {D : va_G} {H : Heap} {q n : Nat} {c : ClassId} {f g : Nat → Int32} (h : va_at D vwCl (q, .inl (c, n, .inl f)) H) (e : ∀ j, j < n → f j = g j) : va_at D vwCl (q, .inl (c, n, .inl g)) H := by
  have h1 : H[q]? = some (vp_cell c (n, .inl f)) := h
  show H[q]? = some (vp_cell c (n, .inl g))
  rw [h1, vp_cell_i, vp_cell_i, arrV_ext (fun j hj => by rw [e j hj])]
theorem at_q {D : va_G} {H : Heap} {q n : Nat} {c : ClassId} {f g : Nat → Option Nat} (h : va_at D vwCl (q, .inl (c, n, .inr (.inr (.inr (.inr f))))) H) (e : ∀ j, j < n → f j = g j) : va_at D vwCl (q, .inl (c, n, .inr (.inr (.inr (.inr g))))) H := by
  have h1 : H[q]? = some (vp_cell c (n, .inr (.inr (.inr (.inr f))))) := h
  show H[q]? = some (vp_cell c (n, .inr (.inr (.inr (.inr g)))))
  rw [h1, vp_cell_q, vp_cell_q, arrV_ext (fun j hj => by rw [e j hj])]
theorem D_of {A : Nat → Prop} {ws ws' : va_W} (hD : va_D A ws) (is : List Nat) (hn : va_nd is = true) (hs : is.map (fun i => (ws[i]?).map (fun q => q.1)) = ws'.map (fun q => some q.1)) : va_D A ws' := by
  have at' : ∀ (k : Nat) (q : Nat × va_E), ws'[k]? = some q → ∃ (i : Nat) (x : Nat × va_E), is[k]? = some i ∧ ws[i]? = some x ∧ x.1 = q.1 := by
    intro k q hq
    have h1 : (is.map (fun i => (ws[i]?).map (fun q => q.1)))[k]? = some (some q.1) := by rw [hs, List.getElem?_map, hq]; rfl
    rw [List.getElem?_map] at h1
    cases hi : is[k]? with
    | none => rw [hi] at h1; cases h1
    | some i =>
      rw [hi] at h1
      have h2 : (ws[i]?).map (fun q => q.1) = some q.1 := Option.some.inj h1
      cases hx : ws[i]? with
      | none => rw [hx] at h2; cases h2
      | some x =>
        rw [hx] at h2
        exact ⟨i, x, rfl, hx, Option.some.inj h2⟩
  refine ⟨fun i j p q hi hj e => ?_, fun k q hq => ?_⟩
  · obtain ⟨a, x, a1, a2, a3⟩ := at' i p hi
    obtain ⟨b, y, b1, b2, b3⟩ := at' j q hj
    have : a = b := hD.1 a b x y a2 b2 (by rw [a3, b3, e])
    subst this
    exact va_nd_inj is hn i j a a1 b1
  · obtain ⟨a, x, a1, a2, a3⟩ := at' k q hq
    rw [← a3]
    exact hD.2 a x a2
theorem D_one {A : Nat → Prop} {a : Nat} {e : va_E} (h : A a) : va_D A [(a, e)] := by
  refine ⟨fun i j p q hi hj _ => ?_, fun k q hq => ?_⟩
  · have h1 := (List.getElem?_eq_some_iff.mp hi).1
    have h2 := (List.getElem?_eq_some_iff.mp hj).1
    simp at h1 h2
    omega
  · have h1 := (List.getElem?_eq_some_iff.mp hq).1
    simp at h1
    subst h1
    cases hq
    exact h
def zf : Nat → Nat := fun _ => 0
/-- the bundle of a constructor: its own cells' addresses alone -/
def bq (D : va_G) (cI cII : ClassId) (q : Nat → Nat) : BB := (D, cI, cII, q, zf, zf, zf)
def wT (B : BB) (σ : St2) (l : List TB) : va_W := (List.range l.length).map (fun k => (ad B k, celT B (σ k) (l.getD k (.inl 0))))
theorem wT_of {D : va_G} {B : BB} {σ : St2} {l : List TB} {H : Heap} (h : ∀ k, k < l.length → va_at D vwCl (ad B k, celT B (σ k) (l.getD k (.inl 0))) H) : va_P D vwCl (wT B σ l) H := by
  intro k q hq
  have hk : k < l.length := by
    have := (List.getElem?_eq_some_iff.mp hq).1
    unfold wT at this
    simpa using this
  unfold wT at hq
  rw [List.getElem?_map, List.getElem?_range hk] at hq
  cases hq
  exact h k hk
/-- the contract of a constructor -/
def InitC (l : Launch) (y : MethodName) (cc : ByteArray) (mL fr mc ms lo ci : Nat) (fs : List Value) (tbs : List TB) (σ : St2) (X : State → Prop) : Prop := ∀ (D : va_G) (cI cII : ClassId) (h0 sz : Nat), Met l y (Cond.code y cc mL none :: gw) { frames := fr, cells := mc, slots := ms, locals := lo } (va_Pc [.ref h0] (fun U => U.heap.size = sz ∧ va_P D vwCl [(h0, .inr (ci, fs))] U.heap ∧ KK D cI cII U ∧ X U)) (va_Qv (fun q : Nat → Nat => q 0 = h0) (fun q t => va_P D vwCl (wT (bq D cI cII q) σ tbs) t.heap ∧ va_D (va_A [(h0, .inr (ci, fs))] sz) (wT (bq D cI cII q) σ tbs)) (va_A [(h0, .inr (ci, fs))] sz)) mc ms (va_A [(h0, .inr (ci, fs))] sz)
section MNAX
variable {p : Program} {l : Launch} {e : Env} {R : Room} {s : State} {m : MethodId} {args : Array Value} {below : List Frame} {meth : Method} {c : Code} {H : Heap} {locs : List Loc} {cells slots : Nat} {Q : State → Prop}
variable {cc : ByteArray} {pc : Nat} {ls : Array Slot} {rest : List Value} {D : va_G} {A : Nat → Prop} {H0 : Heap}
theorem va_mnaX {X : va_W} (hexec : p.tables.exec = Jvm.exec) (hb : c.code = cc) {own : String} {index : Nat} {cI cII : ClassId} (hown : s.vm.findClass own = some m.cls) (hclink : (Cond.classLink own index "[[I").before args s = true) (harr : (Cond.arrayClass .int).before args s = true) (hK : KK D cI cII s) (hP : va_P D vwCl X H) (hD : va_D A X) (hS : va_S A H0 H locs) (hA : ∀ q, H0.size ≤ q → A q) {n k : Int32} (N' K' : Nat) (hn : ¬ n < 0) (hk : ¬ k < 0) (hN : n.toNatClampNeg = N') (hM : k.toNatClampNeg = K') (hb1 : N' < 1000) (hb2 : K' < 1000) (hcells : cells + (1 + N') ≤ R.cells) (hslots : slots + (N' + N' * K') ≤ R.slots) (hdg : decode cc pc = .ok (.multianewarray index 2, 4))
    (kk : ∀ (q : Nat) (r : Nat → Nat) (H1 : Heap), va_P D vwCl ((X ++ [(q, .inl (cII, N', .inr (.inr (.inr (.inr (fun i => if i < N' then some (r i) else none))))))]) ++ (List.range N').map (fun i => (r i, .inl (cI, K', .inl (fun _ => 0))))) H1 → va_D A ((X ++ [(q, .inl (cII, N', .inr (.inr (.inr (.inr (fun i => if i < N' then some (r i) else none))))))]) ++ (List.range N').map (fun i => (r i, .inl (cI, K', .inl (fun _ => 0))))) → va_S A H0 H1 locs →
      W p l e R s m args below meth c H1 locs (cells + 1 + N') (slots + N' + N' * K') Q (F0 m (pc + 4) ls (.ref q :: rest))) : W p l e R s m args below meth c H locs cells slots Q (F0 m pc ls (.int k :: .int n :: rest)) := by
  refine va_mna (X := X) (L := []) (f := fun _ => .inr (0, [])) (ty := .int) (z := (K', .inl (fun _ => 0))) hexec hb hown hclink hK.2 harr hK.cy hK.1 (by rw [show va_pl [] (fun _ => (.inr (0, []) : va_E)) = [] from rfl, List.append_nil]; exact hP) (by rw [show va_pl [] (fun _ => (.inr (0, []) : va_E)) = [] from rfl, List.append_nil]; exact hD) hS hA hn hk hN hM (by omega) (by show K' * 4 ≤ 536870912; omega) (by omega) rfl rfl hcells hslots (fun c9 => arrV_new c9 K' (.int 0)) hdg (fun q r cA H1 _ _ hK1 hP1 hD1 hS1 => ?_)
  have ec := kii hK1
  subst ec
  rw [← vr_rows (fun _ _ => List.not_mem_nil), List.map_map] at hP1 hD1
  exact kk q r H1 hP1 hD1 hS1
theorem va_newX {X : va_W} (hexec : p.tables.exec = Jvm.exec) (hb : c.code = cc) {cI cII : ClassId} (harr : (Cond.arrayClass .int).before args s = true) (hK : KK D cI cII s) (hP : va_P D vwCl X H) (hD : va_D A X) (hS : va_S A H0 H locs) (hA : ∀ q, H0.size ≤ q → A q) {n : Int32} (N' : Nat) (hn : ¬ n < 0) (hN : n.toNatClampNeg = N') (hb1 : N' < 1000) (hcells : cells + 1 ≤ R.cells) (hslots : slots + N' ≤ R.slots) (hdg : decode cc pc = .ok (.newarray .int, 2))
    (kk : ∀ (q : Nat) (H1 : Heap), va_P D vwCl (X ++ [(q, .inl (cI, N', .inl (fun _ => 0)))]) H1 → va_D A (X ++ [(q, .inl (cI, N', .inl (fun _ => 0)))]) → va_S A H0 H1 locs →
      W p l e R s m args below meth c H1 locs (cells + 1) (slots + N') Q (F0 m (pc + 2) ls (.ref q :: rest))) : W p l e R s m args below meth c H locs cells slots Q (F0 m pc ls (.int n :: rest)) := by
  refine va_newa (atype := .int) (ty := .int) (a0 := (N', .inl (fun _ => 0))) hexec hb harr rfl hK.1 hP hD hS hA (fun cA => rfl) hn hN (by show N' * 4 ≤ 536870912; omega) hcells hslots hdg (fun q cA H1 hK1 hP1 hD1 hS1 => ?_)
  have ec := ki hK1
  subst ec
  exact kk q H1 hP1 hD1 hS1
end MNAX
def tbT : List TB := [.inr (.inr (2, [.inl 1, .inr 1, .inr 2, .inr 3, .inr 4, .inr 5])), .inl 120]
def tbE : List TB := [.inr (.inr (0, [.inl 1, .inl 6, .inl 7])), .inr (.inl (4, 2)), .inl 40, .inl 40, .inl 40, .inl 40, .inl 4, .inl 4]
def tbM : List TB := [.inr (.inr (4, [.inl 1, .inl 2, .inl 3, .inr 3, .inl 4, .inr 5, .inl 5, .inr 7, .inr 8, .inr 9, .inr 10, .inl 6, .inl 7, .inl 8, .inl 9])), .inl 135, .inl 135, .inl 135, .inl 7, .inl 120, .inl 4, .inl 4, .inl 160, .inl 40]
/-- the reference's first row -/
def s00 : Nat → Int32 := fun j => if j = 1 then 1 else if j = 3 then 8 else if 5 ≤ j ∧ j < 29 then -1 else if 125 ≤ j ∧ j < 135 then -1 else 0
def z00 : St2 := fun _ _ => 0
end INIA
