section INIT9
set_option maxHeartbeats 4000000 in
set_option maxRecDepth 100000 in
theorem c_X2_init (l : Launch) : InitC l yX2_init cX2_init 1 1 1 120 12 2 [.null, .int 0, .int 0, .int 0, .int 0, .int 0] tbT z00 (fun _ => True) := by
  intro D cI cII h0 sz
  refine Met.ofW (cc := cX2_init) (maxL := 1) (ret := none) (by decide) rfl ?_
  intro p e s m args below meth c s₁ B hml hv
  obtain ⟨rfl, hsz, hP, hK, hX⟩ := hv
  have hx := B.exec
  have hb := B.bytes
  have hr := B.returns
  have hts0 := atoms_spec (ws := Cond.code yX2_init cX2_init 1 none :: gw) B.pre
  have hts : ∀ w ∈ gw, w.before #[Value.ref h0] s = true := fun w hw => hts0 w (List.mem_cons_of_mem _ hw)
  have hown : s.vm.findClass RX2 = some m.cls := findClass_of_methodNamed B.named
  have hlocks := B.notSynchronized
  have hin : meth.name = "<init>" := (name_of_methodNamed B.named B.method).1
  subst hsz
  have hD : va_D (va_A [(h0, .inr (2, [.null, .int 0, .int 0, .int 0, .int 0, .int 0]))] s.heap.size) [(h0, .inr (2, [.null, .int 0, .int 0, .int 0, .int 0, .int 0]))] := D_one (Or.inl ⟨0, _, rfl⟩)
  generalize hAe : va_A [(h0, .inr (2, [.null, .int 0, .int 0, .int 0, .int 0, .int 0]))] s.heap.size = A at hD ⊢
  have hA : ∀ q : Nat, s.heap.size ≤ q → A q := fun q h => by rw [← hAe]; exact Or.inr h
  have hS : va_S A s.heap s.heap [] := va_S.rf
  have hP : va_P D vwCl [(h0, .inr (2, [.null, .int 0, .int 0, .int 0, .int 0, .int 0]))] s.heap := hP
  have hl := lv_entry ([.ref h0]) (n := 1) (Nat.le_of_ble_eq_true rfl)
  rw [lg_entry_eq]
  generalize (lg_sl ([.ref h0]) ++ List.replicate (1 - (lg_sl ([.ref h0])).length) Slot.unset).toArray = ls at hl ⊢
  have hl : lv_has ls 1 [(0, .ref h0)] := hl
  refine lv_aload_n hx hb dX2_init_0 rfl (lv_at hl 0 rfl) ?_
  refine W.objInit hx hb hown (hts _ (wq_t 71 (by decide +kernel) (by decide +kernel))) (hts _ (wq_t 19 (by decide +kernel) (by decide +kernel))) (hts (.code objectInit ⟨#[0xb1]⟩ 1 none) (wq_t 20 (by decide +kernel) (by decide +kernel))) rfl (by rw [hml]; exact hl.1) rfl dX2_init_1 (Nat.le_of_ble_eq_true rfl) (Nat.le_of_ble_eq_true rfl) ?_
  refine W.eq (g2 := F0 m 4 ls []) rfl ?_
  refine lv_aload_n hx hb dX2_init_4 rfl (lv_at hl 0 rfl) ?_
  refine lv_bipush (v := 120) hx hb dX2_init_5 (by decide) ?_
  refine va_newX hx hb (hts _ (wq_t 65 (by decide +kernel) (by decide +kernel))) hK hP hD hS hA 120 (by decide) rfl (by decide) (Nat.le_of_ble_eq_true rfl) (Nat.le_of_ble_eq_true rfl) dX2_init_7 (fun q1 H hP hD hS => ?_)
  have hP : va_P D vwCl [(h0, .inr (2, [.null, .int 0, .int 0, .int 0, .int 0, .int 0])), (q1, .inl (cI, 120, .inl (fun _ => 0)))] H := hP
  have hD : va_D A [(h0, .inr (2, [.null, .int 0, .int 0, .int 0, .int 0, .int 0])), (q1, .inl (cI, 120, .inl (fun _ => 0)))] := hD
  refine va_putF (D := D) (ci := 2) (v := .ref q1) (ty := .array .int) (C := RX2) (T := TX2) (N := 6) hx hb hts inX2 tyX2 tyX2_ok nmX2 hown hK.1 hP hD hS 0 rfl rfl 0 (by decide) (hts _ wd_72) (fun _ h9 => h9) rfl hin rfl (by decide +kernel) rfl rfl (Nat.le_of_ble_eq_true rfl) dX2_init_9 (fun H locs hP hD hS => ?_)
  have hP : va_P D vwCl [(h0, .inr (2, [.ref q1, .int 0, .int 0, .int 0, .int 0, .int 0])), (q1, .inl (cI, 120, .inl (fun _ => 0)))] H := hP
  have hD : va_D A [(h0, .inr (2, [.ref q1, .int 0, .int 0, .int 0, .int 0, .int 0])), (q1, .inl (cI, 120, .inl (fun _ => 0)))] := hD
  refine W.widen (k := 1) (n := 120) (Nat.le_of_ble_eq_true rfl) (Nat.le_of_ble_eq_true rfl) ?_
  exact W.vret hx hb hr (fun t ht hW => ⟨⟨(fun k9 : Nat => [h0, q1].getD k9 0), rfl, rfl, by rw [ht]; exact wT_of (fun k hk => by
    match k, hk with
    | 0, _ => exact hP 0 _ rfl
    | 1, _ => exact hP 1 _ rfl
    | k + 2, hk => exact absurd (show k + 2 < 2 from hk) (by omega)), D_of hD [0, 1] (by decide) rfl⟩, hS.F ht⟩) hS.2.2 dX2_init_12
set_option maxHeartbeats 4000000 in
set_option maxRecDepth 100000 in
theorem c_X0_init (l : Launch) : InitC l yX0_init cX0_init 1 1 7 172 12 0 [.null, .null, .null] tbE z00 (fun _ => True) := by
  intro D cI cII h0 sz
  refine Met.ofW (cc := cX0_init) (maxL := 1) (ret := none) (by decide) rfl ?_
  intro p e s m args below meth c s₁ B hml hv
  obtain ⟨rfl, hsz, hP, hK, hX⟩ := hv
  have hx := B.exec
  have hb := B.bytes
  have hr := B.returns
  have hts0 := atoms_spec (ws := Cond.code yX0_init cX0_init 1 none :: gw) B.pre
  have hts : ∀ w ∈ gw, w.before #[Value.ref h0] s = true := fun w hw => hts0 w (List.mem_cons_of_mem _ hw)
  have hown : s.vm.findClass RX0 = some m.cls := findClass_of_methodNamed B.named
  have hlocks := B.notSynchronized
  have hin : meth.name = "<init>" := (name_of_methodNamed B.named B.method).1
  subst hsz
  have hD : va_D (va_A [(h0, .inr (0, [.null, .null, .null]))] s.heap.size) [(h0, .inr (0, [.null, .null, .null]))] := D_one (Or.inl ⟨0, _, rfl⟩)
  generalize hAe : va_A [(h0, .inr (0, [.null, .null, .null]))] s.heap.size = A at hD ⊢
  have hA : ∀ q : Nat, s.heap.size ≤ q → A q := fun q h => by rw [← hAe]; exact Or.inr h
  have hS : va_S A s.heap s.heap [] := va_S.rf
  have hP : va_P D vwCl [(h0, .inr (0, [.null, .null, .null]))] s.heap := hP
  have hl := lv_entry ([.ref h0]) (n := 1) (Nat.le_of_ble_eq_true rfl)
  rw [lg_entry_eq]
  generalize (lg_sl ([.ref h0]) ++ List.replicate (1 - (lg_sl ([.ref h0])).length) Slot.unset).toArray = ls at hl ⊢
  have hl : lv_has ls 1 [(0, .ref h0)] := hl
  refine lv_aload_n hx hb dX0_init_0 rfl (lv_at hl 0 rfl) ?_
  refine W.objInit hx hb hown (hts _ (wq_t 97 (by decide +kernel) (by decide +kernel))) (hts _ (wq_t 19 (by decide +kernel) (by decide +kernel))) (hts (.code objectInit ⟨#[0xb1]⟩ 1 none) (wq_t 20 (by decide +kernel) (by decide +kernel))) rfl (by rw [hml]; exact hl.1) rfl dX0_init_1 (Nat.le_of_ble_eq_true rfl) (Nat.le_of_ble_eq_true rfl) ?_
  refine W.eq (g2 := F0 m 4 ls []) rfl ?_
  refine lv_aload_n hx hb dX0_init_4 rfl (lv_at hl 0 rfl) ?_
  refine lv_iconst (v := 4) hx hb dX0_init_5 (by decide) ?_
  refine lv_bipush (v := 40) hx hb dX0_init_6 (by decide) ?_
  refine va_mnaX hx hb hown (hts _ (wq_t 98 (by decide +kernel) (by decide +kernel))) (hts _ (wq_t 65 (by decide +kernel) (by decide +kernel))) hK hP hD hS hA 4 40 (by decide) (by decide) rfl rfl (by decide) (by decide) (Nat.le_of_ble_eq_true rfl) (Nat.le_of_ble_eq_true rfl) dX0_init_8 (fun q1 r1 H hP hD hS => ?_)
  have hP : va_P D vwCl [(h0, .inr (0, [.null, .null, .null])), (q1, .inl (cII, 4, .inr (.inr (.inr (.inr (fun i => if i < 4 then some (r1 i) else none)))))), (r1 0, .inl (cI, 40, .inl (fun _ => 0))), (r1 1, .inl (cI, 40, .inl (fun _ => 0))), (r1 2, .inl (cI, 40, .inl (fun _ => 0))), (r1 3, .inl (cI, 40, .inl (fun _ => 0)))] H := hP
  have hD : va_D A [(h0, .inr (0, [.null, .null, .null])), (q1, .inl (cII, 4, .inr (.inr (.inr (.inr (fun i => if i < 4 then some (r1 i) else none)))))), (r1 0, .inl (cI, 40, .inl (fun _ => 0))), (r1 1, .inl (cI, 40, .inl (fun _ => 0))), (r1 2, .inl (cI, 40, .inl (fun _ => 0))), (r1 3, .inl (cI, 40, .inl (fun _ => 0)))] := hD
  refine va_putF (D := D) (ci := 0) (v := .ref q1) (ty := .array (.array .int)) (C := RX0) (T := TX0) (N := 3) hx hb hts inX0 tyX0 tyX0_ok nmX0 hown hK.1 hP hD hS 0 rfl rfl 0 (by decide) (hts _ wd_99) (fun _ h9 => h9) rfl hin rfl (by decide +kernel) rfl rfl (Nat.le_of_ble_eq_true rfl) dX0_init_12 (fun H locs hP hD hS => ?_)
  have hP : va_P D vwCl [(h0, .inr (0, [.ref q1, .null, .null])), (q1, .inl (cII, 4, .inr (.inr (.inr (.inr (fun i => if i < 4 then some (r1 i) else none)))))), (r1 0, .inl (cI, 40, .inl (fun _ => 0))), (r1 1, .inl (cI, 40, .inl (fun _ => 0))), (r1 2, .inl (cI, 40, .inl (fun _ => 0))), (r1 3, .inl (cI, 40, .inl (fun _ => 0)))] H := hP
  have hD : va_D A [(h0, .inr (0, [.ref q1, .null, .null])), (q1, .inl (cII, 4, .inr (.inr (.inr (.inr (fun i => if i < 4 then some (r1 i) else none)))))), (r1 0, .inl (cI, 40, .inl (fun _ => 0))), (r1 1, .inl (cI, 40, .inl (fun _ => 0))), (r1 2, .inl (cI, 40, .inl (fun _ => 0))), (r1 3, .inl (cI, 40, .inl (fun _ => 0)))] := hD
  refine lv_aload_n hx hb dX0_init_15 rfl (lv_at hl 0 rfl) ?_
  refine lv_iconst (v := 4) hx hb dX0_init_16 (by decide) ?_
  refine va_newX hx hb (hts _ (wq_t 65 (by decide +kernel) (by decide +kernel))) hK hP hD hS hA 4 (by decide) rfl (by decide) (Nat.le_of_ble_eq_true rfl) (Nat.le_of_ble_eq_true rfl) dX0_init_17 (fun q2 H hP hD hS => ?_)
  have hP : va_P D vwCl [(h0, .inr (0, [.ref q1, .null, .null])), (q1, .inl (cII, 4, .inr (.inr (.inr (.inr (fun i => if i < 4 then some (r1 i) else none)))))), (r1 0, .inl (cI, 40, .inl (fun _ => 0))), (r1 1, .inl (cI, 40, .inl (fun _ => 0))), (r1 2, .inl (cI, 40, .inl (fun _ => 0))), (r1 3, .inl (cI, 40, .inl (fun _ => 0))), (q2, .inl (cI, 4, .inl (fun _ => 0)))] H := hP
  have hD : va_D A [(h0, .inr (0, [.ref q1, .null, .null])), (q1, .inl (cII, 4, .inr (.inr (.inr (.inr (fun i => if i < 4 then some (r1 i) else none)))))), (r1 0, .inl (cI, 40, .inl (fun _ => 0))), (r1 1, .inl (cI, 40, .inl (fun _ => 0))), (r1 2, .inl (cI, 40, .inl (fun _ => 0))), (r1 3, .inl (cI, 40, .inl (fun _ => 0))), (q2, .inl (cI, 4, .inl (fun _ => 0)))] := hD
  refine va_putF (D := D) (ci := 0) (v := .ref q2) (ty := .array .int) (C := RX0) (T := TX0) (N := 3) hx hb hts inX0 tyX0 tyX0_ok nmX0 hown hK.1 hP hD hS 0 rfl rfl 1 (by decide) (hts _ wd_101) (fun _ h9 => h9) rfl hin rfl (by decide +kernel) rfl rfl (Nat.le_of_ble_eq_true rfl) dX0_init_19 (fun H locs hP hD hS => ?_)
  have hP : va_P D vwCl [(h0, .inr (0, [.ref q1, .ref q2, .null])), (q1, .inl (cII, 4, .inr (.inr (.inr (.inr (fun i => if i < 4 then some (r1 i) else none)))))), (r1 0, .inl (cI, 40, .inl (fun _ => 0))), (r1 1, .inl (cI, 40, .inl (fun _ => 0))), (r1 2, .inl (cI, 40, .inl (fun _ => 0))), (r1 3, .inl (cI, 40, .inl (fun _ => 0))), (q2, .inl (cI, 4, .inl (fun _ => 0)))] H := hP
  have hD : va_D A [(h0, .inr (0, [.ref q1, .ref q2, .null])), (q1, .inl (cII, 4, .inr (.inr (.inr (.inr (fun i => if i < 4 then some (r1 i) else none)))))), (r1 0, .inl (cI, 40, .inl (fun _ => 0))), (r1 1, .inl (cI, 40, .inl (fun _ => 0))), (r1 2, .inl (cI, 40, .inl (fun _ => 0))), (r1 3, .inl (cI, 40, .inl (fun _ => 0))), (q2, .inl (cI, 4, .inl (fun _ => 0)))] := hD
  refine lv_aload_n hx hb dX0_init_22 rfl (lv_at hl 0 rfl) ?_
  refine lv_iconst (v := 4) hx hb dX0_init_23 (by decide) ?_
  refine va_newX hx hb (hts _ (wq_t 65 (by decide +kernel) (by decide +kernel))) hK hP hD hS hA 4 (by decide) rfl (by decide) (Nat.le_of_ble_eq_true rfl) (Nat.le_of_ble_eq_true rfl) dX0_init_24 (fun q3 H hP hD hS => ?_)
  have hP : va_P D vwCl [(h0, .inr (0, [.ref q1, .ref q2, .null])), (q1, .inl (cII, 4, .inr (.inr (.inr (.inr (fun i => if i < 4 then some (r1 i) else none)))))), (r1 0, .inl (cI, 40, .inl (fun _ => 0))), (r1 1, .inl (cI, 40, .inl (fun _ => 0))), (r1 2, .inl (cI, 40, .inl (fun _ => 0))), (r1 3, .inl (cI, 40, .inl (fun _ => 0))), (q2, .inl (cI, 4, .inl (fun _ => 0))), (q3, .inl (cI, 4, .inl (fun _ => 0)))] H := hP
  have hD : va_D A [(h0, .inr (0, [.ref q1, .ref q2, .null])), (q1, .inl (cII, 4, .inr (.inr (.inr (.inr (fun i => if i < 4 then some (r1 i) else none)))))), (r1 0, .inl (cI, 40, .inl (fun _ => 0))), (r1 1, .inl (cI, 40, .inl (fun _ => 0))), (r1 2, .inl (cI, 40, .inl (fun _ => 0))), (r1 3, .inl (cI, 40, .inl (fun _ => 0))), (q2, .inl (cI, 4, .inl (fun _ => 0))), (q3, .inl (cI, 4, .inl (fun _ => 0)))] := hD
  refine va_putF (D := D) (ci := 0) (v := .ref q3) (ty := .array .int) (C := RX0) (T := TX0) (N := 3) hx hb hts inX0 tyX0 tyX0_ok nmX0 hown hK.1 hP hD hS 0 rfl rfl 2 (by decide) (hts _ wd_103) (fun _ h9 => h9) rfl hin rfl (by decide +kernel) rfl rfl (Nat.le_of_ble_eq_true rfl) dX0_init_26 (fun H locs hP hD hS => ?_)
  have hP : va_P D vwCl [(h0, .inr (0, [.ref q1, .ref q2, .ref q3])), (q1, .inl (cII, 4, .inr (.inr (.inr (.inr (fun i => if i < 4 then some (r1 i) else none)))))), (r1 0, .inl (cI, 40, .inl (fun _ => 0))), (r1 1, .inl (cI, 40, .inl (fun _ => 0))), (r1 2, .inl (cI, 40, .inl (fun _ => 0))), (r1 3, .inl (cI, 40, .inl (fun _ => 0))), (q2, .inl (cI, 4, .inl (fun _ => 0))), (q3, .inl (cI, 4, .inl (fun _ => 0)))] H := hP
  have hD : va_D A [(h0, .inr (0, [.ref q1, .ref q2, .ref q3])), (q1, .inl (cII, 4, .inr (.inr (.inr (.inr (fun i => if i < 4 then some (r1 i) else none)))))), (r1 0, .inl (cI, 40, .inl (fun _ => 0))), (r1 1, .inl (cI, 40, .inl (fun _ => 0))), (r1 2, .inl (cI, 40, .inl (fun _ => 0))), (r1 3, .inl (cI, 40, .inl (fun _ => 0))), (q2, .inl (cI, 4, .inl (fun _ => 0))), (q3, .inl (cI, 4, .inl (fun _ => 0)))] := hD
  refine W.widen (k := 7) (n := 172) (Nat.le_of_ble_eq_true rfl) (Nat.le_of_ble_eq_true rfl) ?_
  exact W.vret hx hb hr (fun t ht hW => ⟨⟨(fun k9 : Nat => [h0, q1, r1 0, r1 1, r1 2, r1 3, q2, q3].getD k9 0), rfl, rfl, by rw [ht]; exact wT_of (fun k hk => by
    match k, hk with
    | 0, _ => exact hP 0 _ rfl
    | 1, _ => exact at_q (hP 1 _ rfl) (fun j hj => by
      match j, hj with
      | 0, _ => rfl
      | 1, _ => rfl
      | 2, _ => rfl
      | 3, _ => rfl
      | j + 4, hj => exact absurd hj (by omega))
    | 2, _ => exact hP 2 _ rfl
    | 3, _ => exact hP 3 _ rfl
    | 4, _ => exact hP 4 _ rfl
    | 5, _ => exact hP 5 _ rfl
    | 6, _ => exact hP 6 _ rfl
    | 7, _ => exact hP 7 _ rfl
    | k + 8, hk => exact absurd (show k + 8 < 8 from hk) (by omega)), D_of hD [0, 1, 2, 3, 4, 5, 6, 7] (by decide) rfl⟩, hS.F ht⟩) hS.2.2 dX0_init_29
end INIT9
