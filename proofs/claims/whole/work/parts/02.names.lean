/-! ===== BEGIN words of one list among another's, by their places ===== -/
theorem goodIn_r {big : List Cond} (ws : List Cond) (ps : List Nat) (hp : ws = ps.filterMap (fun i => big[i]?)) (h : ws.all goodWord = true) : GoodIn big ws := by
  intro w hw
  have h1 := List.all_eq_true.mp h w hw
  rw [hp] at hw
  obtain ⟨i, -, hi⟩ := List.mem_filterMap.mp hw
  have hm : w ∈ big := by first | exact List.mem_of_getElem? hi | exact List.getElem?_mem hi
  exact ⟨hm, good_of_word h1⟩
theorem goodIn_app {big a b : List Cond} (ha : GoodIn big a) (hb : GoodIn big b) : GoodIn big (a ++ b) := fun w h => (List.mem_append.mp h).elim (ha w) (hb w)
theorem goodIn_ca {big a b : List Cond} {c : Cond} (ha : GoodIn big (c :: a)) (hb : GoodIn big b) : GoodIn big (c :: (a ++ b)) := fun w h => (List.mem_cons.mp h).elim (fun e => ha w (List.mem_cons.mpr (Or.inl e))) (fun h => (List.mem_append.mp h).elim (fun h => ha w (List.mem_cons.mpr (Or.inr h))) (hb w))
theorem goodIn_sub {big ws : List Cond} (hm : ∀ w ∈ ws, w ∈ big) (h : ws.all goodWord = true) : GoodIn big ws := fun w hw => ⟨hm w hw, good_of_word (List.all_eq_true.mp h w hw)⟩
/-! ===== END ===== -/

def va_AOA (t : FieldType) (U : State) : Prop := (Cond.arrayOver (.array t)).before #[] U = true
theorem va_AOA.use {t : FieldType} {A : Array Value} {U : State} (h : va_AOA t U) : (Cond.arrayOver (.array t)).before A U = true := h
/-! ===== BEGIN new T[n][m]: the outer array a place, the inner ones among the pooled ===== -/
/-- f, but v at every address of l -/
def vr_up {α : Type} (f : Nat → α) (l : List Nat) (v : α) : Nat → α := fun a => if a ∈ l then v else f a
theorem vr_up_in {α : Type} {f : Nat → α} {l : List Nat} {v : α} {a : Nat} (h : a ∈ l) : vr_up f l v a = v := if_pos h
theorem vr_up_ne {α : Type} {f : Nat → α} {l : List Nat} {v : α} {a : Nat} (h : a ∉ l) : vr_up f l v a = f a := if_neg h
theorem vr_rows {L l : List Nat} {f : Nat → va_E} {e : va_E} (h : ∀ a, a ∈ l → a ∉ L) : va_pl L f ++ l.map (fun a => (a, e)) = va_pl (L ++ l) (vr_up f l e) := by
  unfold va_pl
  rw [List.map_append]
  congr 1
  · apply List.map_congr_left
    intro a ha
    rw [vr_up_ne (fun q => h a q ha)]
  · apply List.map_congr_left
    intro a ha
    rw [vr_up_in ha]
theorem vr_lay {X rows : va_W} {x : Nat × va_E} {pl : va_W} {D : va_G} {cl : List vw_C} {H : Heap} (hP : va_P D cl (((X ++ pl) ++ [x]) ++ rows) H) : va_P D cl ((X ++ [x]) ++ (pl ++ rows)) H := by
  rw [List.append_assoc (X ++ pl)] at hP
  have h := va_P.swap hP
  rw [← List.append_assoc X] at h
  have h2 := va_P.swap h
  rw [List.append_assoc (X ++ [x])] at h2
  exact h2
theorem vr_layD {X rows : va_W} {x : Nat × va_E} {pl : va_W} {A : Nat → Prop} (hD : va_D A (((X ++ pl) ++ [x]) ++ rows)) : va_D A ((X ++ [x]) ++ (pl ++ rows)) := by
  rw [List.append_assoc (X ++ pl)] at hD
  have h := va_D.swap hD
  rw [← List.append_assoc X] at h
  have h2 := va_D.swap h
  rw [List.append_assoc (X ++ [x])] at h2
  exact h2
theorem vr_outer (c : ClassId) (N h0 : Nat) : ∀ i : Nat, Jvm.Free.Multi.outerC c N h0 i = arrV c N (fun j => va_rf (if j < i then some (h0 + 1 + j) else none))
  | 0 => by
    show ({ cls := c, slots := Array.replicate N .null, vm := .none } : Cell) = _
    rw [arrV_new]
    refine congrArg (arrV c N) (funext fun j => ?_)
    simp [va_rf]
  | i + 1 => by
    show (Jvm.Free.Multi.outerC c N h0 i).setSlot i (.ref (h0 + 1 + i)) = _
    rw [vr_outer c N h0 i, arrV_store]
    refine congrArg (arrV c N) (funext fun j => ?_)
    by_cases e : j = i
    · subst e
      simp [updV, va_rf]
    · by_cases h : j < i
      · simp [updV, e, h, Nat.lt_succ_of_lt h]
      · simp [updV, e, h, show ¬ j < i + 1 by omega]
section VGM
variable {p : Program} {l : Launch} {e : Env} {R : Room} {s : State} {m : MethodId} {args : Array Value} {below : List Frame} {meth : Method} {c : Code} {H : Heap} {locs : List Loc} {cells slots : Nat} {Q : State → Prop}
variable {cc : ByteArray} {pc : Nat} {ls : Array Slot} {rest : List Value} {D : va_G} {cl : List vw_C} {A : Nat → Prop} {a : Nat} {tys : List (ClassId × FieldType)} {ws : va_W} {H0 : Heap}
theorem va_mna {X : va_W} {L : List Nat} {f : Nat → va_E} {cc : ByteArray} (hexec : p.tables.exec = Jvm.exec) (hb : c.code = cc) {own : String} {index : Nat} {ty : FieldType} {cy : ClassId} (hown : s.vm.findClass own = some m.cls) (hclink : (Cond.classLink own index ("[" ++ (FieldType.array ty).toString)).before args s = true) (hover : va_AOA ty s) (harr : (Cond.arrayClass ty).before args s = true) (hcy : s.vm.findClass (FieldType.array ty).toString = some cy)
    (hK : va_K D cl tys s) (hP : va_P D cl (X ++ va_pl L f) H) (hD : va_D A (X ++ va_pl L f)) (hS : va_S A H0 H locs) (hA : ∀ q, H0.size ≤ q → A q) {n k : Int32} {N' K' : Nat} {z : vp_A} (hn : ¬ n < 0) (hk : ¬ k < 0) (hN : n.toNatClampNeg = N') (hM : k.toNatClampNeg = K')
    (hb1 : N' * 4 ≤ 536870912) (hb2 : K' * componentBytes ty ≤ 536870912) (hb3 : K' ≤ 536870912) (hdf : fits ty (defaultValue ty) = true) (hdd : (defaultValue ty).isDefault = true) (hcells : cells + (1 + N') ≤ R.cells) (hslots : slots + (N' + N' * K') ≤ R.slots) (hz : ∀ c : ClassId, Jvm.Free.Multi.innerC c K' (defaultValue ty) = vp_cell c z) (hdg : decode cc pc = .ok (.multianewarray index 2, 4))
    (kk : ∀ (q : Nat) (r : Nat → Nat) (cA : ClassId) (H1 : Heap), (∀ i j : Nat, i < N' → j < N' → r i = r j → i = j) → (∀ i : Nat, i < N' → r i ∉ L) → va_K D cl (tys ++ [(cA, .array ty)]) s →
      va_P D cl ((X ++ [(q, .inl (cA, N', .inr (.inr (.inr (.inr (fun i => if i < N' then some (r i) else none))))))]) ++ va_pl (L ++ (List.range N').map r) (vr_up f ((List.range N').map r) (.inl (cy, z)))) H1 → va_D A ((X ++ [(q, .inl (cA, N', .inr (.inr (.inr (.inr (fun i => if i < N' then some (r i) else none))))))]) ++ va_pl (L ++ (List.range N').map r) (vr_up f ((List.range N').map r) (.inl (cy, z)))) → va_S A H0 H1 locs →
      W p l e R s m args below meth c H1 locs (cells + 1 + N') (slots + N' + N' * K') Q (F0 m (pc + 4) ls (.ref q :: rest))) : W p l e R s m args below meth c H locs cells slots Q (F0 m pc ls (.int k :: .int n :: rest)) := by
  subst hN
  subst hM
  intro T hT Xs
  obtain ⟨vm₁, cA, comp, -, fA, fC, hO, -, X', step⟩ := Xs.multianewarray2F hexec hown hclink (va_AOA.use hover) harr (g := F0 m pc ls (.int k :: .int n :: rest)) rfl (by rw [hb]; exact hdg) rfl hn hk hb1 hb2 hb3 hdf hdd hcells hslots
  have ec : some cy = some comp := hcy.symm.trans fC
  cases ec
  generalize hF : Jvm.Free.Multi.fill (T.setVm vm₁) cA cy n.toNatClampNeg k.toNatClampNeg (defaultValue ty) n.toNatClampNeg = F at X' step
  have hTh : (T.setVm vm₁).heap = H := hT
  obtain ⟨f1, f2, -, -⟩ := Jvm.Free.Multi.fill_facts (T.setVm vm₁) cA cy n.toNatClampNeg k.toNatClampNeg (defaultValue ty) n.toNatClampNeg
  rw [hF, hTh] at f1 f2
  have hold : ∀ x : Nat, x < H.size → F.heap[x]? = H[x]? := fun x hx => by
    have := Jvm.Free.Multi.fill_old (T.setVm vm₁) cA cy n.toNatClampNeg k.toNatClampNeg (defaultValue ty) (a := x) (by rw [hTh]; exact hx) n.toNatClampNeg
    rw [hF, hTh] at this
    exact this
  have hrow : ∀ j : Nat, j < n.toNatClampNeg → F.heap[H.size + 1 + j]? = some (vp_cell cy z) := fun j hj => by
    have := Jvm.Free.Multi.fill_inner (T.setVm vm₁) cA cy n.toNatClampNeg k.toNatClampNeg (defaultValue ty) n.toNatClampNeg j hj
    rw [hF, hTh, hz] at this
    exact this
  have hout : Jvm.Free.Multi.outerC cA n.toNatClampNeg H.size n.toNatClampNeg = vp_cell cA (n.toNatClampNeg, .inr (.inr (.inr (.inr (fun i => if i < n.toNatClampNeg then some (H.size + 1 + i) else none))))) := by
    rw [vp_cell_q]
    exact vr_outer cA n.toNatClampNeg H.size n.toNatClampNeg
  rw [hout] at f2
  have hlt : ∀ a, a ∈ L → a < H.size := fun a ha => by
    obtain ⟨k9, hk9⟩ := va_pl_get (X := X) (f := f) ha
    exact (hP k9 _ hk9).lt
  have hnl : ∀ i : Nat, i < n.toNatClampNeg → H.size + 1 + i ∉ L := fun i _ h => by
    have := hlt _ h
    omega
  have hnm : ∀ a, a ∈ (List.range n.toNatClampNeg).map (fun i => H.size + 1 + i) → a ∉ L := fun a ha h => by
    obtain ⟨i, -, rfl⟩ := List.mem_map.mp ha
    have := hlt _ h
    omega
  have hP0 : va_P D cl (X ++ va_pl L f) F.heap := hP.kept (fun k9 x hx => hold x.1 ((hP k9 x hx).lt))
  have hP1 : va_P D cl ((X ++ va_pl L f) ++ [(H.size, .inl (cA, n.toNatClampNeg, .inr (.inr (.inr (.inr (fun i => if i < n.toNatClampNeg then some (H.size + 1 + i) else none))))))]) F.heap := hP0.app (fun k9 x hx => by
    have h0 : k9 < 1 := (List.getElem?_eq_some_iff.mp hx).1
    rw [show k9 = 0 by omega] at hx
    cases hx
    exact f2)
  have hP2 : va_P D cl (((X ++ va_pl L f) ++ [(H.size, .inl (cA, n.toNatClampNeg, .inr (.inr (.inr (.inr (fun i => if i < n.toNatClampNeg then some (H.size + 1 + i) else none))))))]) ++ ((List.range n.toNatClampNeg).map (fun i => H.size + 1 + i)).map (fun a => (a, .inl (cy, z)))) F.heap := hP1.app (fun k9 x hx => by
    obtain ⟨a, ha, rfl⟩ := List.mem_map.mp (List.mem_of_getElem? hx)
    obtain ⟨i, hi, rfl⟩ := List.mem_map.mp ha
    exact hrow i (List.mem_range.mp hi))
  have hD2 : va_D A (((X ++ va_pl L f) ++ [(H.size, .inl (cA, n.toNatClampNeg, .inr (.inr (.inr (.inr (fun i => if i < n.toNatClampNeg then some (H.size + 1 + i) else none))))))]) ++ ((List.range n.toNatClampNeg).map (fun i => H.size + 1 + i)).map (fun a => (a, .inl (cy, z)))) := by
    have hD1 := hD.push (e := .inl (cA, n.toNatClampNeg, .inr (.inr (.inr (.inr (fun i => if i < n.toNatClampNeg then some (H.size + 1 + i) else none)))))) hP rfl (hA _ hS.1)
    generalize hW1 : (X ++ va_pl L f) ++ [(H.size, .inl (cA, n.toNatClampNeg, .inr (.inr (.inr (.inr (fun i => if i < n.toNatClampNeg then some (H.size + 1 + i) else none))))))] = W1 at hD1 hP1 ⊢
    have hle : ∀ (k9 : Nat) (x : Nat × va_E), W1[k9]? = some x → x.1 ≤ H.size := fun k9 x hx => by
      rw [← hW1] at hx
      by_cases hl : k9 < (X ++ va_pl L f).length
      · rw [List.getElem?_append_left hl] at hx
        exact Nat.le_of_lt ((hP k9 x hx).lt)
      · rw [List.getElem?_append_right (by omega)] at hx
        have h0 : k9 - (X ++ va_pl L f).length < 1 := (List.getElem?_eq_some_iff.mp hx).1
        rw [show k9 - (X ++ va_pl L f).length = 0 by omega] at hx
        cases hx
        exact Nat.le_refl _
    have hr : ∀ (k9 : Nat) (x : Nat × va_E), (((List.range n.toNatClampNeg).map (fun i => H.size + 1 + i)).map (fun a => ((a, .inl (cy, z)) : Nat × va_E)))[k9]? = some x → x.1 = H.size + 1 + k9 := fun k9 x hx => by
      rw [List.getElem?_map, List.getElem?_map] at hx
      by_cases h9 : k9 < n.toNatClampNeg
      · rw [List.getElem?_range h9] at hx
        cases hx
        rfl
      · have hn0 : (List.range n.toNatClampNeg)[k9]? = none := List.getElem?_eq_none (by rw [List.length_range]; omega)
        rw [hn0] at hx
        cases hx
    refine ⟨fun i j x y hi hj hxy => ?_, fun k9 x hx => ?_⟩
    · by_cases h1 : i < W1.length <;> by_cases h2 : j < W1.length
      · rw [List.getElem?_append_left h1] at hi
        rw [List.getElem?_append_left h2] at hj
        exact hD1.1 i j x y hi hj hxy
      · rw [List.getElem?_append_left h1] at hi
        rw [List.getElem?_append_right (by omega)] at hj
        have := hle _ _ hi
        have := hr _ _ hj
        omega
      · rw [List.getElem?_append_right (by omega)] at hi
        rw [List.getElem?_append_left h2] at hj
        have := hle _ _ hj
        have := hr _ _ hi
        omega
      · rw [List.getElem?_append_right (by omega)] at hi hj
        have := hr _ _ hi
        have := hr _ _ hj
        omega
    · by_cases h1 : k9 < W1.length
      · rw [List.getElem?_append_left h1] at hx
        exact hD1.2 k9 x hx
      · rw [List.getElem?_append_right (by omega)] at hx
        have := hr _ _ hx
        exact hA _ (by have := hS.1; omega)
  have hAr : ArrOfT s cA (.array ty) := fun N9 z9 => by
    obtain ⟨-, k9, hk9, cm9, hkk9⟩ := (hO 0 0 0).1
    exact ⟨(fun q hq => by cases hq), k9, hk9, cm9, hkk9⟩
  have hK2 : va_K D cl (tys ++ [(cA, .array ty)]) s := ⟨hK.1, fun k9 x hx => by
    by_cases hl : k9 < tys.length
    · rw [List.getElem?_append_left hl] at hx
      exact hK.2 k9 x hx
    · rw [List.getElem?_append_right (by omega)] at hx
      have h0 : k9 - tys.length < 1 := (List.getElem?_eq_some_iff.mp hx).1
      rw [show k9 - tys.length = 0 by omega] at hx
      cases hx
      exact ⟨hAr, fA⟩⟩
  obtain ⟨t, a1, b1⟩ := kk H.size (fun i => H.size + 1 + i) cA F.heap (fun i j _ _ h => by have h9 : H.size + 1 + i = H.size + 1 + j := h; omega) hnl hK2 (by rw [← vr_rows hnm]; exact vr_lay hP2) (by rw [← vr_rows hnm]; exact vr_layD hD2) ⟨by rw [f1]; have := hS.1; omega, fun x h1 h2 => (hold x (Nat.lt_of_lt_of_le h1 hS.1)).trans (hS.2.1 x h1 h2), hS.2.2⟩ F rfl X'
  refine ⟨t, step t ?_, b1⟩
  have e : T.heap.size = H.size := by rw [hT]
  rw [e]
  exact a1
end VGM
/-! ===== END ===== -/

/-! ===== BEGIN printed: names, fields, word lists, decode rows ===== -/
def RX0 : String := "PrintShore$Sheets"
def TX0 : u_T := fun k => match k with
  | 0 => ("PrintShore$Sheets", "numbers", "[[I", true)
  | 1 => ("PrintShore$Sheets", "widths", "[I", true)
  | _ => ("PrintShore$Sheets", "sizes", "[I", true)
def tyX0 : Nat → FieldType := fun k => match k with
  | 0 => .array (.array .int)
  | 1 => .array .int
  | _ => .array .int
abbrev wsX00 : List Cond := u_ws RX0 TX0 3
theorem nmX0 : ∀ a, a < 3 → ∀ b, b < 3 → a ≠ b → (TX0 a).2.1 ≠ (TX0 b).2.1 := by decide +kernel
theorem tyX0_ok : ∀ k, k < 3 → parseFieldDescriptor (TX0 k).2.2.1 = some (tyX0 k) := by decide +kernel
abbrev cX0_init : ByteArray := prog_2_method_1_code
def yX0_init : MethodName := ⟨RX0, "<init>", "()V"⟩
abbrev cX0_isSheet : ByteArray := prog_2_method_2_code
def yX0_isSheet : MethodName := ⟨RX0, "isSheet", "(I)Z"⟩
abbrev cX0_isWidth : ByteArray := prog_2_method_3_code
def yX0_isWidth : MethodName := ⟨RX0, "isWidth", "(I)Z"⟩
abbrev cX0_isMissing : ByteArray := prog_2_method_4_code
def yX0_isMissing : MethodName := ⟨RX0, "isMissing", "(I)Z"⟩
abbrev cX0_findingOf : ByteArray := prog_2_method_5_code
def yX0_findingOf : MethodName := ⟨RX0, "findingOf", "(I)I"⟩
abbrev cX0_lay : ByteArray := prog_2_method_6_code
def yX0_lay : MethodName := ⟨RX0, "lay", "(III)I"⟩
abbrev cX0_put : ByteArray := prog_2_method_7_code
def yX0_put : MethodName := ⟨RX0, "put", "(III)V"⟩
abbrev cX0_hasPart : ByteArray := prog_2_method_8_code
def yX0_hasPart : MethodName := ⟨RX0, "hasPart", "(III)Z"⟩
def RX1 : String := "PrintShore$Shore"
def TX1 : u_T := fun k => match k with
  | 0 => ("PrintShore$Shore", "prints", "[[I", true)
  | 1 => ("PrintShore$Shore", "traits", "[[I", true)
  | 2 => ("PrintShore$Shore", "spots", "[I", true)
  | 3 => ("PrintShore$Shore", "walkers", "I", false)
  | 4 => ("PrintShore$Shore", "reach", "I", false)
  | 5 => ("PrintShore$Shore", "quoted", "I", false)
  | 6 => ("PrintShore$Shore", "hour", "I", false)
  | _ => ("PrintShore$Shore", "z", "I", false)
def tyX1 : Nat → FieldType := fun k => match k with
  | 0 => .array (.array .int)
  | 1 => .array (.array .int)
  | 2 => .array .int
  | 3 => .int
  | 4 => .int
  | 5 => .int
  | 6 => .int
  | _ => .int
abbrev wsX10 : List Cond := u_ws RX1 TX1 8
theorem nmX1 : ∀ a, a < 8 → ∀ b, b < 8 → a ≠ b → (TX1 a).2.1 ≠ (TX1 b).2.1 := by decide +kernel
theorem tyX1_ok : ∀ k, k < 8 → parseFieldDescriptor (TX1 k).2.2.1 = some (tyX1 k) := by decide +kernel
abbrev cX1_init : ByteArray := prog_3_method_1_code
def yX1_init : MethodName := ⟨RX1, "<init>", "()V"⟩
abbrev cX1_become : ByteArray := prog_3_method_2_code
def yX1_become : MethodName := ⟨RX1, "become", "(LPrintShore$Shore;)V"⟩
abbrev cX1_isWalker : ByteArray := prog_3_method_3_code
def yX1_isWalker : MethodName := ⟨RX1, "isWalker", "(I)Z"⟩
abbrev cX1_isWalkerOrNobody : ByteArray := prog_3_method_4_code
def yX1_isWalkerOrNobody : MethodName := ⟨RX1, "isWalkerOrNobody", "(I)Z"⟩
abbrev cX1_hasRoom : ByteArray := prog_3_method_5_code
def yX1_hasRoom : MethodName := ⟨RX1, "hasRoom", "()Z"⟩
abbrev cX1_add : ByteArray := prog_3_method_6_code
def yX1_add : MethodName := ⟨RX1, "add", "(II)I"⟩
abbrev cX1_put : ByteArray := prog_3_method_7_code
def yX1_put : MethodName := ⟨RX1, "put", "(IIII)V"⟩
abbrev cX1_clear : ByteArray := prog_3_method_8_code
def yX1_clear : MethodName := ⟨RX1, "clear", "(I)V"⟩
abbrev cX1_strides : ByteArray := prog_3_method_9_code
def yX1_strides : MethodName := ⟨RX1, "strides", "(I)I"⟩
abbrev cX1_presses : ByteArray := prog_3_method_10_code
def yX1_presses : MethodName := ⟨RX1, "presses", "(I)I"⟩
abbrev cX1_looks : ByteArray := prog_3_method_11_code
def yX1_looks : MethodName := ⟨RX1, "looks", "(I)I"⟩
abbrev cX1_passHours : ByteArray := prog_3_method_12_code
def yX1_passHours : MethodName := ⟨RX1, "passHours", "(II)V"⟩
abbrev cX1_passHour : ByteArray := prog_3_method_13_code
def yX1_passHour : MethodName := ⟨RX1, "passHour", "(I)V"⟩
abbrev cX1_goOn : ByteArray := prog_3_method_14_code
def yX1_goOn : MethodName := ⟨RX1, "goOn", "(I)V"⟩
abbrev cX1_comeTide : ByteArray := prog_3_method_15_code
def yX1_comeTide : MethodName := ⟨RX1, "comeTide", "()I"⟩
abbrev cX1_passDrawnHour : ByteArray := prog_3_method_16_code
def yX1_passDrawnHour : MethodName := ⟨RX1, "passDrawnHour", "()V"⟩
abbrev cX1_draw : ByteArray := prog_3_method_17_code
def yX1_draw : MethodName := ⟨RX1, "draw", "()I"⟩
abbrev cX1_walkersAt : ByteArray := prog_3_method_18_code
def yX1_walkersAt : MethodName := ⟨RX1, "walkersAt", "(I)I"⟩
abbrev cX1_workSet : ByteArray := prog_3_method_19_code
def yX1_workSet : MethodName := ⟨RX1, "workSet", "(I)I"⟩
abbrev cX1_workSize : ByteArray := prog_3_method_20_code
def yX1_workSize : MethodName := ⟨RX1, "workSize", "(I)I"⟩
abbrev cX1_longestLine : ByteArray := prog_3_method_21_code
def yX1_longestLine : MethodName := ⟨RX1, "longestLine", "(I)I"⟩
abbrev cX1_printSet : ByteArray := prog_3_method_22_code
def yX1_printSet : MethodName := ⟨RX1, "printSet", "()I"⟩
abbrev cX1_printCount : ByteArray := prog_3_method_23_code
def yX1_printCount : MethodName := ⟨RX1, "printCount", "()I"⟩
abbrev cX1_depthSum : ByteArray := prog_3_method_24_code
def yX1_depthSum : MethodName := ⟨RX1, "depthSum", "()I"⟩
abbrev cX1_greatestAuthor : ByteArray := prog_3_method_25_code
def yX1_greatestAuthor : MethodName := ⟨RX1, "greatestAuthor", "()I"⟩
abbrev cX1_stepSum : ByteArray := prog_3_method_26_code
def yX1_stepSum : MethodName := ⟨RX1, "stepSum", "()I"⟩
abbrev cX1_heldCount : ByteArray := prog_3_method_27_code
def yX1_heldCount : MethodName := ⟨RX1, "heldCount", "()I"⟩
def RX2 : String := "PrintShore$Tape"
def TX2 : u_T := fun k => match k with
  | 0 => ("PrintShore$Tape", "bytes", "[I", true)
  | 1 => ("PrintShore$Tape", "size", "I", false)
  | 2 => ("PrintShore$Tape", "token", "I", false)
  | 3 => ("PrintShore$Tape", "begin", "I", false)
  | 4 => ("PrintShore$Tape", "end", "I", false)
  | _ => ("PrintShore$Tape", "value", "I", false)
def tyX2 : Nat → FieldType := fun k => match k with
  | 0 => .array .int
  | 1 => .int
  | 2 => .int
  | 3 => .int
  | 4 => .int
  | _ => .int
abbrev wsX20 : List Cond := u_ws RX2 TX2 6
theorem nmX2 : ∀ a, a < 6 → ∀ b, b < 6 → a ≠ b → (TX2 a).2.1 ≠ (TX2 b).2.1 := by decide +kernel
theorem tyX2_ok : ∀ k, k < 6 → parseFieldDescriptor (TX2 k).2.2.1 = some (tyX2 k) := by decide +kernel
abbrev cX2_init : ByteArray := prog_4_method_1_code
def yX2_init : MethodName := ⟨RX2, "<init>", "()V"⟩
abbrev cX2_hasRoom : ByteArray := prog_4_method_2_code
def yX2_hasRoom : MethodName := ⟨RX2, "hasRoom", "(I)Z"⟩
abbrev cX2_append : ByteArray := prog_4_method_3_code
def yX2_append : MethodName := ⟨RX2, "append", "(I)V"⟩
abbrev cX2_readText : ByteArray := prog_4_method_4_code
def yX2_readText : MethodName := ⟨RX2, "readText", "(LPrintShore$Shore;)I"⟩
abbrev cX2_readItem : ByteArray := prog_4_method_5_code
def yX2_readItem : MethodName := ⟨RX2, "readItem", "(LPrintShore$Shore;)Z"⟩
abbrev cX2_readWalker : ByteArray := prog_4_method_6_code
def yX2_readWalker : MethodName := ⟨RX2, "readWalker", "(LPrintShore$Shore;I)Z"⟩
abbrev cX2_readTrait : ByteArray := prog_4_method_7_code
def yX2_readTrait : MethodName := ⟨RX2, "readTrait", "(LPrintShore$Shore;ILjava/lang/String;I)Z"⟩
abbrev cX2_readReach : ByteArray := prog_4_method_8_code
def yX2_readReach : MethodName := ⟨RX2, "readReach", "(LPrintShore$Shore;)Z"⟩
abbrev cX2_readPrint : ByteArray := prog_4_method_9_code
def yX2_readPrint : MethodName := ⟨RX2, "readPrint", "(LPrintShore$Shore;)Z"⟩
abbrev cX2_isNumber : ByteArray := prog_4_method_10_code
def yX2_isNumber : MethodName := ⟨RX2, "isNumber", "(II)Z"⟩
abbrev cX2_isWord : ByteArray := prog_4_method_11_code
def yX2_isWord : MethodName := ⟨RX2, "isWord", "(Ljava/lang/String;)Z"⟩
abbrev cX2_kindOfWord : ByteArray := prog_4_method_12_code
def yX2_kindOfWord : MethodName := ⟨RX2, "kindOfWord", "()I"⟩
abbrev cX2_wordOfKind : ByteArray := prog_4_method_13_code
def yX2_wordOfKind : MethodName := ⟨RX2, "wordOfKind", "(I)Ljava/lang/String;"⟩
abbrev cX2_step : ByteArray := prog_4_method_14_code
def yX2_step : MethodName := ⟨RX2, "step", "()V"⟩
abbrev cX2_tokenOfByte : ByteArray := prog_4_method_15_code
def yX2_tokenOfByte : MethodName := ⟨RX2, "tokenOfByte", "(I)I"⟩
def RX3 : String := "PrintShore"
def TX3 : u_T := fun k => match k with
  | 0 => ("PrintShore", "shore", "LPrintShore$Shore;", true)
  | 1 => ("PrintShore", "trial", "LPrintShore$Shore;", true)
  | 2 => ("PrintShore", "kept", "LPrintShore$Shore;", true)
  | 3 => ("PrintShore", "isKept", "Z", false)
  | 4 => ("PrintShore", "tape", "LPrintShore$Tape;", true)
  | 5 => ("PrintShore", "sheets", "LPrintShore$Sheets;", true)
  | _ => ("PrintShore", "findings", "[I", true)
def tyX3 : Nat → FieldType := fun k => match k with
  | 0 => .object "PrintShore$Shore"
  | 1 => .object "PrintShore$Shore"
  | 2 => .object "PrintShore$Shore"
  | 3 => .boolean
  | 4 => .object "PrintShore$Tape"
  | 5 => .object "PrintShore$Sheets"
  | _ => .array .int
abbrev wsX30 : List Cond := u_ws RX3 TX3 7
theorem nmX3 : ∀ a, a < 7 → ∀ b, b < 7 → a ≠ b → (TX3 a).2.1 ≠ (TX3 b).2.1 := by decide +kernel
theorem tyX3_ok : ∀ k, k < 7 → parseFieldDescriptor (TX3 k).2.2.1 = some (tyX3 k) := by decide +kernel
abbrev cX3_init : ByteArray := prog_1_method_1_code
def yX3_init : MethodName := ⟨RX3, "<init>", "()V"⟩
abbrev cX3_cell : ByteArray := prog_1_method_2_code
def yX3_cell : MethodName := ⟨RX3, "cell", "(II)I"⟩
abbrev cX3_print : ByteArray := prog_1_method_3_code
def yX3_print : MethodName := ⟨RX3, "print", "(III)I"⟩
abbrev cX3_reach : ByteArray := prog_1_method_4_code
def yX3_reach : MethodName := ⟨RX3, "reach", "(I)I"⟩
abbrev cX3_tide : ByteArray := prog_1_method_5_code
def yX3_tide : MethodName := ⟨RX3, "tide", "()I"⟩
abbrev cX3_walker : ByteArray := prog_1_method_6_code
def yX3_walker : MethodName := ⟨RX3, "walker", "(II)I"⟩
abbrev cX3_of : ByteArray := prog_1_method_7_code
def yX3_of : MethodName := ⟨RX3, "of", "(II)I"⟩
abbrev cX3_change : ByteArray := prog_1_method_8_code
def yX3_change : MethodName := ⟨RX3, "change", "(III)I"⟩
abbrev cX3_go : ByteArray := prog_1_method_9_code
def yX3_go : MethodName := ⟨RX3, "go", "(I)I"⟩
abbrev cX3_now : ByteArray := prog_1_method_10_code
def yX3_now : MethodName := ⟨RX3, "now", "(I)I"⟩
abbrev cX3_line : ByteArray := prog_1_method_11_code
def yX3_line : MethodName := ⟨RX3, "line", "(I)I"⟩
abbrev cX3_ahead : ByteArray := prog_1_method_12_code
def yX3_ahead : MethodName := ⟨RX3, "ahead", "(III)I"⟩
abbrev cX3_work : ByteArray := prog_1_method_13_code
def yX3_work : MethodName := ⟨RX3, "work", "(II)I"⟩
abbrev cX3_when : ByteArray := prog_1_method_14_code
def yX3_when : MethodName := ⟨RX3, "when", "(II)I"⟩
abbrev cX3_gone : ByteArray := prog_1_method_15_code
def yX3_gone : MethodName := ⟨RX3, "gone", "(I)I"⟩
abbrev cX3_meet : ByteArray := prog_1_method_16_code
def yX3_meet : MethodName := ⟨RX3, "meet", "(II)I"⟩
abbrev cX3_strideFor : ByteArray := prog_1_method_17_code
def yX3_strideFor : MethodName := ⟨RX3, "strideFor", "(II)I"⟩
abbrev cX3_start : ByteArray := prog_1_method_18_code
def yX3_start : MethodName := ⟨RX3, "start", "(II)I"⟩
abbrev cX3_kindFor : ByteArray := prog_1_method_19_code
def yX3_kindFor : MethodName := ⟨RX3, "kindFor", "(II)I"⟩
abbrev cX3_reachFor : ByteArray := prog_1_method_20_code
def yX3_reachFor : MethodName := ⟨RX3, "reachFor", "(II)I"⟩
abbrev cX3_weightFor : ByteArray := prog_1_method_21_code
def yX3_weightFor : MethodName := ⟨RX3, "weightFor", "(III)I"⟩
abbrev cX3_away : ByteArray := prog_1_method_22_code
def yX3_away : MethodName := ⟨RX3, "away", "(II)I"⟩
abbrev cX3_censor : ByteArray := prog_1_method_23_code
def yX3_censor : MethodName := ⟨RX3, "censor", "(I)I"⟩
abbrev cX3_fits : ByteArray := prog_1_method_24_code
def yX3_fits : MethodName := ⟨RX3, "fits", "(III)I"⟩
abbrev cX3_strode : ByteArray := prog_1_method_25_code
def yX3_strode : MethodName := ⟨RX3, "strode", "(III)I"⟩
abbrev cX3_kinds : ByteArray := prog_1_method_26_code
def yX3_kinds : MethodName := ⟨RX3, "kinds", "(III)I"⟩
abbrev cX3_tides : ByteArray := prog_1_method_27_code
def yX3_tides : MethodName := ⟨RX3, "tides", "(I)I"⟩
abbrev cX3_odds : ByteArray := prog_1_method_28_code
def yX3_odds : MethodName := ⟨RX3, "odds", "(III)J"⟩
abbrev cX3_seed : ByteArray := prog_1_method_29_code
def yX3_seed : MethodName := ⟨RX3, "seed", "(I)I"⟩
abbrev cX3_feed : ByteArray := prog_1_method_30_code
def yX3_feed : MethodName := ⟨RX3, "feed", "(II)I"⟩
abbrev cX3_wipe : ByteArray := prog_1_method_31_code
def yX3_wipe : MethodName := ⟨RX3, "wipe", "()I"⟩
abbrev cX3_text : ByteArray := prog_1_method_32_code
def yX3_text : MethodName := ⟨RX3, "text", "()I"⟩
abbrev cX3_hold : ByteArray := prog_1_method_33_code
def yX3_hold : MethodName := ⟨RX3, "hold", "(II)I"⟩
abbrev cX3_as : ByteArray := prog_1_method_34_code
def yX3_as : MethodName := ⟨RX3, "as", "(II)I"⟩
abbrev cX3_sheet : ByteArray := prog_1_method_35_code
def yX3_sheet : MethodName := ⟨RX3, "sheet", "(III)I"⟩
abbrev cX3_write : ByteArray := prog_1_method_36_code
def yX3_write : MethodName := ⟨RX3, "write", "(III)I"⟩
abbrev cX3_copy : ByteArray := prog_1_method_37_code
def yX3_copy : MethodName := ⟨RX3, "copy", "(IIIII)I"⟩
abbrev cX3_load : ByteArray := prog_1_method_38_code
def yX3_load : MethodName := ⟨RX3, "load", "(I)I"⟩
abbrev cX3_judge : ByteArray := prog_1_method_39_code
def yX3_judge : MethodName := ⟨RX3, "judge", "(I)I"⟩
abbrev cX3_image : ByteArray := prog_1_method_40_code
def yX3_image : MethodName := ⟨RX3, "image", "()I"⟩
abbrev cX3_undo : ByteArray := prog_1_method_41_code
def yX3_undo : MethodName := ⟨RX3, "undo", "()I"⟩
abbrev cX3_tear : ByteArray := prog_1_method_42_code
def yX3_tear : MethodName := ⟨RX3, "tear", "()I"⟩
abbrev cX3_count : ByteArray := prog_1_method_43_code
def yX3_count : MethodName := ⟨RX3, "count", "(I)I"⟩
abbrev cX3_status : ByteArray := prog_1_method_44_code
def yX3_status : MethodName := ⟨RX3, "status", "(I)I"⟩
abbrev cX3_tell : ByteArray := prog_1_method_45_code
def yX3_tell : MethodName := ⟨RX3, "tell", "(I)I"⟩
abbrev cX3_within : ByteArray := prog_1_method_46_code
def yX3_within : MethodName := ⟨RX3, "within", "(III)Z"⟩
abbrev cX3_isCell : ByteArray := prog_1_method_47_code
def yX3_isCell : MethodName := ⟨RX3, "isCell", "(I)Z"⟩
abbrev cX3_isUnder : ByteArray := prog_1_method_48_code
def yX3_isUnder : MethodName := ⟨RX3, "isUnder", "(II)Z"⟩
abbrev cX3_power : ByteArray := prog_1_method_49_code
def yX3_power : MethodName := ⟨RX3, "power", "(JI)J"⟩
abbrev cX3_hoursUntilWhose : ByteArray := prog_1_method_50_code
def yX3_hoursUntilWhose : MethodName := ⟨RX3, "hoursUntilWhose", "(II)I"⟩
abbrev cX3_tryTrait : ByteArray := prog_1_method_51_code
def yX3_tryTrait : MethodName := ⟨RX3, "tryTrait", "(IIII)V"⟩
abbrev cX3_traitForMostWork : ByteArray := prog_1_method_52_code
def yX3_traitForMostWork : MethodName := ⟨RX3, "traitForMostWork", "(III)I"⟩
abbrev cX3_staysWithout : ByteArray := prog_1_method_53_code
def yX3_staysWithout : MethodName := ⟨RX3, "staysWithout", "(III)Z"⟩
abbrev cX3_guessFinding : ByteArray := prog_1_method_54_code
def yX3_guessFinding : MethodName := ⟨RX3, "guessFinding", "(III)I"⟩
abbrev cX3_fittingSet : ByteArray := prog_1_method_55_code
def yX3_fittingSet : MethodName := ⟨RX3, "fittingSet", "(IIII)I"⟩
abbrev cX3_trialIsAsTold : ByteArray := prog_1_method_56_code
def yX3_trialIsAsTold : MethodName := ⟨RX3, "trialIsAsTold", "(II)Z"⟩
def RX4 : String := "PrintShoreModel"
def TX4 : u_T := fun k => match k with
  | 0 => ("PrintShoreModel", "s", "[I", true)
  | 1 => ("PrintShoreModel", "kept", "[I", true)
  | 2 => ("PrintShoreModel", "aside", "[I", true)
  | 3 => ("PrintShoreModel", "isKept", "Z", false)
  | 4 => ("PrintShoreModel", "found", "[I", true)
  | 5 => ("PrintShoreModel", "away", "I", false)
  | 6 => ("PrintShoreModel", "tape", "[I", true)
  | 7 => ("PrintShoreModel", "taped", "I", false)
  | 8 => ("PrintShoreModel", "from", "I", false)
  | 9 => ("PrintShoreModel", "to", "I", false)
  | 10 => ("PrintShoreModel", "isWrong", "Z", false)
  | 11 => ("PrintShoreModel", "bitsOf", "[I", true)
  | 12 => ("PrintShoreModel", "sizeOf", "[I", true)
  | 13 => ("PrintShoreModel", "number", "[I", true)
  | _ => ("PrintShoreModel", "moved", "[I", true)
def tyX4 : Nat → FieldType := fun k => match k with
  | 0 => .array .int
  | 1 => .array .int
  | 2 => .array .int
  | 3 => .boolean
  | 4 => .array .int
  | 5 => .int
  | 6 => .array .int
  | 7 => .int
  | 8 => .int
  | 9 => .int
  | 10 => .boolean
  | 11 => .array .int
  | 12 => .array .int
  | 13 => .array .int
  | _ => .array .int
abbrev wsX40 : List Cond := u_ws RX4 TX4 15
theorem nmX4 : ∀ a, a < 15 → ∀ b, b < 15 → a ≠ b → (TX4 a).2.1 ≠ (TX4 b).2.1 := by decide +kernel
theorem tyX4_ok : ∀ k, k < 15 → parseFieldDescriptor (TX4 k).2.2.1 = some (tyX4 k) := by decide +kernel
abbrev cX4_init : ByteArray := prog_6_method_1_code
def yX4_init : MethodName := ⟨RX4, "<init>", "()V"⟩
abbrev cX4_finds : ByteArray := prog_6_method_2_code
def yX4_finds : MethodName := ⟨RX4, "finds", "(I)I"⟩
abbrev cX4_in : ByteArray := prog_6_method_3_code
def yX4_in : MethodName := ⟨RX4, "in", "(JJJ)Z"⟩
abbrev cX4_become : ByteArray := prog_6_method_4_code
def yX4_become : MethodName := ⟨RX4, "become", "([I[I)V"⟩
abbrev cX4_lends : ByteArray := prog_6_method_5_code
def yX4_lends : MethodName := ⟨RX4, "lends", "()V"⟩
abbrev cX4_laysBack : ByteArray := prog_6_method_6_code
def yX4_laysBack : MethodName := ⟨RX4, "laysBack", "()V"⟩
abbrev cX4_isWalker : ByteArray := prog_6_method_7_code
def yX4_isWalker : MethodName := ⟨RX4, "isWalker", "(I)Z"⟩
abbrev cX4_isCell : ByteArray := prog_6_method_8_code
def yX4_isCell : MethodName := ⟨RX4, "isCell", "(I)Z"⟩
abbrev cX4_its : ByteArray := prog_6_method_9_code
def yX4_its : MethodName := ⟨RX4, "its", "(II)I"⟩
abbrev cX4_sets : ByteArray := prog_6_method_10_code
def yX4_sets : MethodName := ⟨RX4, "sets", "(III)V"⟩
abbrev cX4_becomes : ByteArray := prog_6_method_11_code
def yX4_becomes : MethodName := ⟨RX4, "becomes", "(II)I"⟩
abbrev cX4_ones : ByteArray := prog_6_method_12_code
def yX4_ones : MethodName := ⟨RX4, "ones", "(I)I"⟩
abbrev cX4_aboveOf : ByteArray := prog_6_method_13_code
def yX4_aboveOf : MethodName := ⟨RX4, "aboveOf", "(I)I"⟩
abbrev cX4_isUnder : ByteArray := prog_6_method_14_code
def yX4_isUnder : MethodName := ⟨RX4, "isUnder", "(II)Z"⟩
abbrev cX4_isKind : ByteArray := prog_6_method_15_code
def yX4_isKind : MethodName := ⟨RX4, "isKind", "(I)Z"⟩
abbrev cX4_strides : ByteArray := prog_6_method_16_code
def yX4_strides : MethodName := ⟨RX4, "strides", "(I)I"⟩
abbrev cX4_presses : ByteArray := prog_6_method_17_code
def yX4_presses : MethodName := ⟨RX4, "presses", "(I)I"⟩
abbrev cX4_looks : ByteArray := prog_6_method_18_code
def yX4_looks : MethodName := ⟨RX4, "looks", "(I)I"⟩
abbrev cX4_workOf : ByteArray := prog_6_method_19_code
def yX4_workOf : MethodName := ⟨RX4, "workOf", "(I)I"⟩
abbrev cX4_adds : ByteArray := prog_6_method_20_code
def yX4_adds : MethodName := ⟨RX4, "adds", "(II)I"⟩
abbrev cX4_walkersAt : ByteArray := prog_6_method_21_code
def yX4_walkersAt : MethodName := ⟨RX4, "walkersAt", "(I)I"⟩
abbrev cX4_cell : ByteArray := prog_6_method_22_code
def yX4_cell : MethodName := ⟨RX4, "cell", "(II)I"⟩
abbrev cX4_prints : ByteArray := prog_6_method_23_code
def yX4_prints : MethodName := ⟨RX4, "prints", "(IIII)V"⟩
abbrev cX4_print : ByteArray := prog_6_method_24_code
def yX4_print : MethodName := ⟨RX4, "print", "(III)I"⟩
abbrev cX4_reach : ByteArray := prog_6_method_25_code
def yX4_reach : MethodName := ⟨RX4, "reach", "(I)I"⟩
abbrev cX4_theTide : ByteArray := prog_6_method_26_code
def yX4_theTide : MethodName := ⟨RX4, "theTide", "()I"⟩
abbrev cX4_tide : ByteArray := prog_6_method_27_code
def yX4_tide : MethodName := ⟨RX4, "tide", "()I"⟩
abbrev cX4_walker : ByteArray := prog_6_method_28_code
def yX4_walker : MethodName := ⟨RX4, "walker", "(II)I"⟩
abbrev cX4_of : ByteArray := prog_6_method_29_code
def yX4_of : MethodName := ⟨RX4, "of", "(II)I"⟩
abbrev cX4_mayBe : ByteArray := prog_6_method_30_code
def yX4_mayBe : MethodName := ⟨RX4, "mayBe", "(II)Z"⟩
abbrev cX4_change : ByteArray := prog_6_method_31_code
def yX4_change : MethodName := ⟨RX4, "change", "(III)I"⟩
abbrev cX4_goes : ByteArray := prog_6_method_32_code
def yX4_goes : MethodName := ⟨RX4, "goes", "(I)V"⟩
abbrev cX4_anHour : ByteArray := prog_6_method_33_code
def yX4_anHour : MethodName := ⟨RX4, "anHour", "()V"⟩
abbrev cX4_hours : ByteArray := prog_6_method_34_code
def yX4_hours : MethodName := ⟨RX4, "hours", "(I)V"⟩
abbrev cX4_printed : ByteArray := prog_6_method_35_code
def yX4_printed : MethodName := ⟨RX4, "printed", "()I"⟩
abbrev cX4_go : ByteArray := prog_6_method_36_code
def yX4_go : MethodName := ⟨RX4, "go", "(I)I"⟩
abbrev cX4_depths : ByteArray := prog_6_method_37_code
def yX4_depths : MethodName := ⟨RX4, "depths", "()I"⟩
abbrev cX4_greatest : ByteArray := prog_6_method_38_code
def yX4_greatest : MethodName := ⟨RX4, "greatest", "()I"⟩
abbrev cX4_allSteps : ByteArray := prog_6_method_39_code
def yX4_allSteps : MethodName := ⟨RX4, "allSteps", "()I"⟩
abbrev cX4_now : ByteArray := prog_6_method_40_code
def yX4_now : MethodName := ⟨RX4, "now", "(I)I"⟩
abbrev cX4_line : ByteArray := prog_6_method_41_code
def yX4_line : MethodName := ⟨RX4, "line", "(I)I"⟩
abbrev cX4_isAhead : ByteArray := prog_6_method_42_code
def yX4_isAhead : MethodName := ⟨RX4, "isAhead", "(I)Z"⟩
abbrev cX4_isSoon : ByteArray := prog_6_method_43_code
def yX4_isSoon : MethodName := ⟨RX4, "isSoon", "(I)Z"⟩
abbrev cX4_orNone : ByteArray := prog_6_method_44_code
def yX4_orNone : MethodName := ⟨RX4, "orNone", "(II)I"⟩
abbrev cX4_ahead : ByteArray := prog_6_method_45_code
def yX4_ahead : MethodName := ⟨RX4, "ahead", "(III)I"⟩
abbrev cX4_workIn : ByteArray := prog_6_method_46_code
def yX4_workIn : MethodName := ⟨RX4, "workIn", "(II)I"⟩
abbrev cX4_work : ByteArray := prog_6_method_47_code
def yX4_work : MethodName := ⟨RX4, "work", "(II)I"⟩
abbrev cX4_when : ByteArray := prog_6_method_48_code
def yX4_when : MethodName := ⟨RX4, "when", "(II)I"⟩
abbrev cX4_gone : ByteArray := prog_6_method_49_code
def yX4_gone : MethodName := ⟨RX4, "gone", "(I)I"⟩
abbrev cX4_meet : ByteArray := prog_6_method_50_code
def yX4_meet : MethodName := ⟨RX4, "meet", "(II)I"⟩
abbrev cX4_bestBy : ByteArray := prog_6_method_51_code
def yX4_bestBy : MethodName := ⟨RX4, "bestBy", "(IIIII)I"⟩
abbrev cX4_isAsked : ByteArray := prog_6_method_52_code
def yX4_isAsked : MethodName := ⟨RX4, "isAsked", "(II)Z"⟩
abbrev cX4_strideFor : ByteArray := prog_6_method_53_code
def yX4_strideFor : MethodName := ⟨RX4, "strideFor", "(II)I"⟩
abbrev cX4_start : ByteArray := prog_6_method_54_code
def yX4_start : MethodName := ⟨RX4, "start", "(II)I"⟩
abbrev cX4_kindFor : ByteArray := prog_6_method_55_code
def yX4_kindFor : MethodName := ⟨RX4, "kindFor", "(II)I"⟩
abbrev cX4_whoseIn : ByteArray := prog_6_method_56_code
def yX4_whoseIn : MethodName := ⟨RX4, "whoseIn", "(II)I"⟩
abbrev cX4_reachFor : ByteArray := prog_6_method_57_code
def yX4_reachFor : MethodName := ⟨RX4, "reachFor", "(II)I"⟩
abbrev cX4_weightFor : ByteArray := prog_6_method_58_code
def yX4_weightFor : MethodName := ⟨RX4, "weightFor", "(III)I"⟩
abbrev cX4_away : ByteArray := prog_6_method_59_code
def yX4_away : MethodName := ⟨RX4, "away", "(II)I"⟩
abbrev cX4_censor : ByteArray := prog_6_method_60_code
def yX4_censor : MethodName := ⟨RX4, "censor", "(I)I"⟩
abbrev cX4_isSo : ByteArray := prog_6_method_61_code
def yX4_isSo : MethodName := ⟨RX4, "isSo", "(III)Z"⟩
abbrev cX4_lacksAsked : ByteArray := prog_6_method_62_code
def yX4_lacksAsked : MethodName := ⟨RX4, "lacksAsked", "(III)I"⟩
abbrev cX4_thoseBy : ByteArray := prog_6_method_63_code
def yX4_thoseBy : MethodName := ⟨RX4, "thoseBy", "(IIIIII)I"⟩
abbrev cX4_fits : ByteArray := prog_6_method_64_code
def yX4_fits : MethodName := ⟨RX4, "fits", "(III)I"⟩
abbrev cX4_strode : ByteArray := prog_6_method_65_code
def yX4_strode : MethodName := ⟨RX4, "strode", "(III)I"⟩
abbrev cX4_kinds : ByteArray := prog_6_method_66_code
def yX4_kinds : MethodName := ⟨RX4, "kinds", "(III)I"⟩
abbrev cX4_draw : ByteArray := prog_6_method_67_code
def yX4_draw : MethodName := ⟨RX4, "draw", "()I"⟩
abbrev cX4_tides : ByteArray := prog_6_method_68_code
def yX4_tides : MethodName := ⟨RX4, "tides", "(I)I"⟩
abbrev cX4_odds : ByteArray := prog_6_method_69_code
def yX4_odds : MethodName := ⟨RX4, "odds", "(III)J"⟩
abbrev cX4_seed : ByteArray := prog_6_method_70_code
def yX4_seed : MethodName := ⟨RX4, "seed", "(I)I"⟩
abbrev cX4_feed : ByteArray := prog_6_method_71_code
def yX4_feed : MethodName := ⟨RX4, "feed", "(II)I"⟩
abbrev cX4_wipe : ByteArray := prog_6_method_72_code
def yX4_wipe : MethodName := ⟨RX4, "wipe", "()I"⟩
abbrev cX4_isByte : ByteArray := prog_6_method_73_code
def yX4_isByte : MethodName := ⟨RX4, "isByte", "(III)Z"⟩
abbrev cX4_next : ByteArray := prog_6_method_74_code
def yX4_next : MethodName := ⟨RX4, "next", "()V"⟩
abbrev cX4_isWord : ByteArray := prog_6_method_75_code
def yX4_isWord : MethodName := ⟨RX4, "isWord", "(Ljava/lang/String;)Z"⟩
abbrev cX4_must : ByteArray := prog_6_method_76_code
def yX4_must : MethodName := ⟨RX4, "must", "(Z)V"⟩
abbrev cX4_takes : ByteArray := prog_6_method_77_code
def yX4_takes : MethodName := ⟨RX4, "takes", "(Ljava/lang/String;)Z"⟩
abbrev cX4_numberRead : ByteArray := prog_6_method_78_code
def yX4_numberRead : MethodName := ⟨RX4, "numberRead", "(II)I"⟩
abbrev cX4_kindHere : ByteArray := prog_6_method_79_code
def yX4_kindHere : MethodName := ⟨RX4, "kindHere", "()I"⟩
abbrev cX4_walkerTold : ByteArray := prog_6_method_80_code
def yX4_walkerTold : MethodName := ⟨RX4, "walkerTold", "(I)V"⟩
abbrev cX4_printTold : ByteArray := prog_6_method_81_code
def yX4_printTold : MethodName := ⟨RX4, "printTold", "()V"⟩
abbrev cX4_item : ByteArray := prog_6_method_82_code
def yX4_item : MethodName := ⟨RX4, "item", "()V"⟩
abbrev cX4_text : ByteArray := prog_6_method_83_code
def yX4_text : MethodName := ⟨RX4, "text", "()I"⟩
abbrev cX4_isSpot : ByteArray := prog_6_method_84_code
def yX4_isSpot : MethodName := ⟨RX4, "isSpot", "(I)Z"⟩
abbrev cX4_hold : ByteArray := prog_6_method_85_code
def yX4_hold : MethodName := ⟨RX4, "hold", "(II)I"⟩
abbrev cX4_as : ByteArray := prog_6_method_86_code
def yX4_as : MethodName := ⟨RX4, "as", "(II)I"⟩
abbrev cX4_isSheet : ByteArray := prog_6_method_87_code
def yX4_isSheet : MethodName := ⟨RX4, "isSheet", "(I)Z"⟩
abbrev cX4_sheet : ByteArray := prog_6_method_88_code
def yX4_sheet : MethodName := ⟨RX4, "sheet", "(III)I"⟩
abbrev cX4_lacks : ByteArray := prog_6_method_89_code
def yX4_lacks : MethodName := ⟨RX4, "lacks", "(I)I"⟩
abbrev cX4_write : ByteArray := prog_6_method_90_code
def yX4_write : MethodName := ⟨RX4, "write", "(III)I"⟩
abbrev cX4_copy : ByteArray := prog_6_method_91_code
def yX4_copy : MethodName := ⟨RX4, "copy", "(IIIII)I"⟩
abbrev cX4_load : ByteArray := prog_6_method_92_code
def yX4_load : MethodName := ⟨RX4, "load", "(I)I"⟩
abbrev cX4_judge : ByteArray := prog_6_method_93_code
def yX4_judge : MethodName := ⟨RX4, "judge", "(I)I"⟩
abbrev cX4_image : ByteArray := prog_6_method_94_code
def yX4_image : MethodName := ⟨RX4, "image", "()I"⟩
abbrev cX4_undo : ByteArray := prog_6_method_95_code
def yX4_undo : MethodName := ⟨RX4, "undo", "()I"⟩
abbrev cX4_tear : ByteArray := prog_6_method_96_code
def yX4_tear : MethodName := ⟨RX4, "tear", "()I"⟩
abbrev cX4_held : ByteArray := prog_6_method_97_code
def yX4_held : MethodName := ⟨RX4, "held", "()I"⟩
abbrev cX4_count : ByteArray := prog_6_method_98_code
def yX4_count : MethodName := ⟨RX4, "count", "(I)I"⟩
abbrev cX4_status : ByteArray := prog_6_method_99_code
def yX4_status : MethodName := ⟨RX4, "status", "(I)I"⟩
def RJ6 : String := "java/lang/Integer"
def TJ6 : u_T := fun k => match k with
  | _ => ("", "", "", false)
def tyJ6 : Nat → FieldType := fun k => match k with
  | _ => .int
abbrev wsJ60 : List Cond := u_ws RJ6 TJ6 0
theorem nmJ6 : ∀ a, a < 0 → ∀ b, b < 0 → a ≠ b → (TJ6 a).2.1 ≠ (TJ6 b).2.1 := by decide +kernel
theorem tyJ6_ok : ∀ k, k < 0 → parseFieldDescriptor (TJ6 k).2.2.1 = some (tyJ6 k) := by decide +kernel
abbrev cJ6_numberOfTrailingZeros_0f7a4 : ByteArray := prog_7_method_48_code
def yJ6_numberOfTrailingZeros_0f7a4 : MethodName := ⟨RJ6, "numberOfTrailingZeros", "(I)I"⟩
abbrev cJ6_bitCount_0f7a4 : ByteArray := prog_7_method_49_code
def yJ6_bitCount_0f7a4 : MethodName := ⟨RJ6, "bitCount", "(I)I"⟩
def RJ9 : String := "java/lang/Math"
def TJ9 : u_T := fun k => match k with
  | _ => ("", "", "", false)
def tyJ9 : Nat → FieldType := fun k => match k with
  | _ => .int
abbrev wsJ90 : List Cond := u_ws RJ9 TJ9 0
theorem nmJ9 : ∀ a, a < 0 → ∀ b, b < 0 → a ≠ b → (TJ9 a).2.1 ≠ (TJ9 b).2.1 := by decide +kernel
theorem tyJ9_ok : ∀ k, k < 0 → parseFieldDescriptor (TJ9 k).2.2.1 = some (tyJ9 k) := by decide +kernel
abbrev cJ9_max_7cf53 : ByteArray := prog_8_method_65_code
def yJ9_max_7cf53 : MethodName := ⟨RJ9, "max", "(II)I"⟩
abbrev cJ9_min_7cf53 : ByteArray := prog_8_method_69_code
def yJ9_min_7cf53 : MethodName := ⟨RJ9, "min", "(II)I"⟩
def RJ0 : String := "java/lang/String"
def TJ0 : u_T := fun k => match k with
  | _ => ("", "", "", false)
def tyJ0 : Nat → FieldType := fun k => match k with
  | _ => .int
abbrev wsJ00 : List Cond := u_ws RJ0 TJ0 0
theorem nmJ0 : ∀ a, a < 0 → ∀ b, b < 0 → a ≠ b → (TJ0 a).2.1 ≠ (TJ0 b).2.1 := by decide +kernel
theorem tyJ0_ok : ∀ k, k < 0 → parseFieldDescriptor (TJ0 k).2.2.1 = some (tyJ0 k) := by decide +kernel
abbrev cJ0_length_8abf5 : ByteArray := prog_9_method_54_code
def yJ0_length_8abf5 : MethodName := ⟨RJ0, "length", "()I"⟩
abbrev cJ0_charAt_5068e : ByteArray := prog_9_method_56_code
def yJ0_charAt_5068e : MethodName := ⟨RJ0, "charAt", "(I)C"⟩
abbrev cJ0_coder_7d493 : ByteArray := prog_9_method_152_code
def yJ0_coder_7d493 : MethodName := ⟨RJ0, "coder", "()B"⟩
abbrev cJ0_isLatin1_aae02 : ByteArray := prog_9_method_154_code
def yJ0_isLatin1_aae02 : MethodName := ⟨RJ0, "isLatin1", "()Z"⟩
abbrev cJ0_checkIndex_df160 : ByteArray := prog_9_method_155_code
def yJ0_checkIndex_df160 : MethodName := ⟨RJ0, "checkIndex", "(II)V"⟩
def RJ1 : String := "java/lang/StringLatin1"
def TJ1 : u_T := fun k => match k with
  | _ => ("", "", "", false)
def tyJ1 : Nat → FieldType := fun k => match k with
  | _ => .int
abbrev wsJ10 : List Cond := u_ws RJ1 TJ1 0
theorem nmJ1 : ∀ a, a < 0 → ∀ b, b < 0 → a ≠ b → (TJ1 a).2.1 ≠ (TJ1 b).2.1 := by decide +kernel
theorem tyJ1_ok : ∀ k, k < 0 → parseFieldDescriptor (TJ1 k).2.2.1 = some (tyJ1 k) := by decide +kernel
abbrev cJ1_charAt_3b067 : ByteArray := prog_10_method_2_code
def yJ1_charAt_3b067 : MethodName := ⟨RJ1, "charAt", "([BI)C"⟩
def RJ2 : String := "java/lang/StringUTF16"
def TJ2 : u_T := fun k => match k with
  | _ => ("", "", "", false)
def tyJ2 : Nat → FieldType := fun k => match k with
  | _ => .int
abbrev wsJ20 : List Cond := u_ws RJ2 TJ2 0
theorem nmJ2 : ∀ a, a < 0 → ∀ b, b < 0 → a ≠ b → (TJ2 a).2.1 ≠ (TJ2 b).2.1 := by decide +kernel
theorem tyJ2_ok : ∀ k, k < 0 → parseFieldDescriptor (TJ2 k).2.2.1 = some (tyJ2 k) := by decide +kernel
abbrev cJ2_getChar_3b067 : ByteArray := prog_11_method_5_code
def yJ2_getChar_3b067 : MethodName := ⟨RJ2, "getChar", "([BI)C"⟩
abbrev cJ2_length_9d52b : ByteArray := prog_11_method_6_code
def yJ2_length_9d52b : MethodName := ⟨RJ2, "length", "([B)I"⟩
abbrev cJ2_charAt_3b067 : ByteArray := prog_11_method_83_code
def yJ2_charAt_3b067 : MethodName := ⟨RJ2, "charAt", "([BI)C"⟩
abbrev cJ2_checkIndex_2214a : ByteArray := prog_11_method_91_code
def yJ2_checkIndex_2214a : MethodName := ⟨RJ2, "checkIndex", "(I[B)V"⟩
def RJ10 : String := "java/lang/System"
def TJ10 : u_T := fun k => match k with
  | _ => ("", "", "", false)
def tyJ10 : Nat → FieldType := fun k => match k with
  | _ => .int
abbrev wsJ100 : List Cond := u_ws RJ10 TJ10 0
theorem nmJ10 : ∀ a, a < 0 → ∀ b, b < 0 → a ≠ b → (TJ10 a).2.1 ≠ (TJ10 b).2.1 := by decide +kernel
theorem tyJ10_ok : ∀ k, k < 0 → parseFieldDescriptor (TJ10 k).2.2.1 = some (tyJ10 k) := by decide +kernel
def RJ3 : String := "jdk/internal/util/Preconditions"
def TJ3 : u_T := fun k => match k with
  | _ => ("", "", "", false)
def tyJ3 : Nat → FieldType := fun k => match k with
  | _ => .int
abbrev wsJ30 : List Cond := u_ws RJ3 TJ3 0
theorem nmJ3 : ∀ a, a < 0 → ∀ b, b < 0 → a ≠ b → (TJ3 a).2.1 ≠ (TJ3 b).2.1 := by decide +kernel
theorem tyJ3_ok : ∀ k, k < 0 → parseFieldDescriptor (TJ3 k).2.2.1 = some (tyJ3 k) := by decide +kernel
abbrev cJ3_checkIndex_8e157 : ByteArray := prog_13_method_11_code
def yJ3_checkIndex_8e157 : MethodName := ⟨RJ3, "checkIndex", "(IILjava/util/function/BiFunction;)I"⟩
def RL : String := "PrintShoreLaw"
abbrev cL_law : ByteArray := code
def yL_law : MethodName := ⟨RL, "law", "([I)Z"⟩
abbrev vwCl : List vw_C := [(RX0, TX0, 3), (RX1, TX1, 8), (RX2, TX2, 6), (RX3, TX3, 7), (RX4, TX4, 15)]
