section INIM
set_option maxHeartbeats 4000000 in
set_option maxRecDepth 100000 in
theorem c_X4_init (l : Launch) : InitC l yX4_init cX4_init 2 1 9 740 12 4 [.null, .null, .null, .int 0, .null, .int 0, .null, .int 0, .int 0, .int 0, .int 0, .null, .null, .null, .null] tbM (mq z00 s00) (fun _ => True) := by
  intro D cI cII h0 sz
  refine Met.ofW (cc := cX4_init) (maxL := 2) (ret := none) (by decide) rfl ?_
  intro p e s m args below meth c s₁ B hml hv
  obtain ⟨rfl, hsz, hP, hK, hX⟩ := hv
  have hx := B.exec
  have hb := B.bytes
  have hr := B.returns
  have hts0 := atoms_spec (ws := Cond.code yX4_init cX4_init 2 none :: gw) B.pre
  have hts : ∀ w ∈ gw, w.before #[Value.ref h0] s = true := fun w hw => hts0 w (List.mem_cons_of_mem _ hw)
  have hown : s.vm.findClass RX4 = some m.cls := findClass_of_methodNamed B.named
  have hlocks := B.notSynchronized
  have hin : meth.name = "<init>" := (name_of_methodNamed B.named B.method).1
  subst hsz
  have hD : va_D (va_A [(h0, .inr (4, [.null, .null, .null, .int 0, .null, .int 0, .null, .int 0, .int 0, .int 0, .int 0, .null, .null, .null, .null]))] s.heap.size) [(h0, .inr (4, [.null, .null, .null, .int 0, .null, .int 0, .null, .int 0, .int 0, .int 0, .int 0, .null, .null, .null, .null]))] := D_one (Or.inl ⟨0, _, rfl⟩)
  generalize hAe : va_A [(h0, .inr (4, [.null, .null, .null, .int 0, .null, .int 0, .null, .int 0, .int 0, .int 0, .int 0, .null, .null, .null, .null]))] s.heap.size = A at hD ⊢
  have hA : ∀ q : Nat, s.heap.size ≤ q → A q := fun q h => by rw [← hAe]; exact Or.inr h
  have hS : va_S A s.heap s.heap [] := va_S.rf
  have hP : va_P D vwCl [(h0, .inr (4, [.null, .null, .null, .int 0, .null, .int 0, .null, .int 0, .int 0, .int 0, .int 0, .null, .null, .null, .null]))] s.heap := hP
  have hl := lv_entry ([.ref h0]) (n := 2) (Nat.le_of_ble_eq_true rfl)
  rw [lg_entry_eq]
  generalize (lg_sl ([.ref h0]) ++ List.replicate (2 - (lg_sl ([.ref h0])).length) Slot.unset).toArray = ls at hl ⊢
  have hl : lv_has ls 2 [(0, .ref h0)] := hl
  refine lv_aload_n hx hb dX4_init_0 rfl (lv_at hl 0 rfl) ?_
  refine W.objInit hx hb hown (hts _ (wq_t 666 (by decide +kernel) (by decide +kernel))) (hts _ (wq_t 19 (by decide +kernel) (by decide +kernel))) (hts (.code objectInit ⟨#[0xb1]⟩ 1 none) (wq_t 20 (by decide +kernel) (by decide +kernel))) rfl (by rw [hml]; exact hl.1) rfl dX4_init_1 (Nat.le_of_ble_eq_true rfl) (Nat.le_of_ble_eq_true rfl) ?_
  refine W.eq (g2 := F0 m 4 ls []) rfl ?_
  refine lv_aload_n hx hb dX4_init_4 rfl (lv_at hl 0 rfl) ?_
  refine lv_sipush (v := 135) hx hb dX4_init_5 (by decide) ?_
  refine va_newX hx hb (hts _ (wq_t 65 (by decide +kernel) (by decide +kernel))) hK hP hD hS hA 135 (by decide) rfl (by decide) (Nat.le_of_ble_eq_true rfl) (Nat.le_of_ble_eq_true rfl) dX4_init_8 (fun q1 H hP hD hS => ?_)
  have hP : va_P D vwCl [(h0, .inr (4, [.null, .null, .null, .int 0, .null, .int 0, .null, .int 0, .int 0, .int 0, .int 0, .null, .null, .null, .null])), (q1, .inl (cI, 135, .inl (fun _ => 0)))] H := hP
  have hD : va_D A [(h0, .inr (4, [.null, .null, .null, .int 0, .null, .int 0, .null, .int 0, .int 0, .int 0, .int 0, .null, .null, .null, .null])), (q1, .inl (cI, 135, .inl (fun _ => 0)))] := hD
  refine va_putF (D := D) (ci := 4) (v := .ref q1) (ty := .array .int) (C := RX4) (T := TX4) (N := 15) hx hb hts inX4 tyX4 tyX4_ok nmX4 hown hK.1 hP hD hS 0 rfl rfl 0 (by decide) (hts _ wd_667) (fun _ h9 => h9) rfl hin rfl (by decide +kernel) rfl rfl (Nat.le_of_ble_eq_true rfl) dX4_init_10 (fun H locs hP hD hS => ?_)
  have hP : va_P D vwCl [(h0, .inr (4, [.ref q1, .null, .null, .int 0, .null, .int 0, .null, .int 0, .int 0, .int 0, .int 0, .null, .null, .null, .null])), (q1, .inl (cI, 135, .inl (fun _ => 0)))] H := hP
  have hD : va_D A [(h0, .inr (4, [.ref q1, .null, .null, .int 0, .null, .int 0, .null, .int 0, .int 0, .int 0, .int 0, .null, .null, .null, .null])), (q1, .inl (cI, 135, .inl (fun _ => 0)))] := hD
  refine lv_aload_n hx hb dX4_init_13 rfl (lv_at hl 0 rfl) ?_
  refine lv_sipush (v := 135) hx hb dX4_init_14 (by decide) ?_
  refine va_newX hx hb (hts _ (wq_t 65 (by decide +kernel) (by decide +kernel))) hK hP hD hS hA 135 (by decide) rfl (by decide) (Nat.le_of_ble_eq_true rfl) (Nat.le_of_ble_eq_true rfl) dX4_init_17 (fun q2 H hP hD hS => ?_)
  have hP : va_P D vwCl [(h0, .inr (4, [.ref q1, .null, .null, .int 0, .null, .int 0, .null, .int 0, .int 0, .int 0, .int 0, .null, .null, .null, .null])), (q1, .inl (cI, 135, .inl (fun _ => 0))), (q2, .inl (cI, 135, .inl (fun _ => 0)))] H := hP
  have hD : va_D A [(h0, .inr (4, [.ref q1, .null, .null, .int 0, .null, .int 0, .null, .int 0, .int 0, .int 0, .int 0, .null, .null, .null, .null])), (q1, .inl (cI, 135, .inl (fun _ => 0))), (q2, .inl (cI, 135, .inl (fun _ => 0)))] := hD
  refine va_putF (D := D) (ci := 4) (v := .ref q2) (ty := .array .int) (C := RX4) (T := TX4) (N := 15) hx hb hts inX4 tyX4 tyX4_ok nmX4 hown hK.1 hP hD hS 0 rfl rfl 1 (by decide) (hts _ wd_668) (fun _ h9 => h9) rfl hin rfl (by decide +kernel) rfl rfl (Nat.le_of_ble_eq_true rfl) dX4_init_19 (fun H locs hP hD hS => ?_)
  have hP : va_P D vwCl [(h0, .inr (4, [.ref q1, .ref q2, .null, .int 0, .null, .int 0, .null, .int 0, .int 0, .int 0, .int 0, .null, .null, .null, .null])), (q1, .inl (cI, 135, .inl (fun _ => 0))), (q2, .inl (cI, 135, .inl (fun _ => 0)))] H := hP
  have hD : va_D A [(h0, .inr (4, [.ref q1, .ref q2, .null, .int 0, .null, .int 0, .null, .int 0, .int 0, .int 0, .int 0, .null, .null, .null, .null])), (q1, .inl (cI, 135, .inl (fun _ => 0))), (q2, .inl (cI, 135, .inl (fun _ => 0)))] := hD
  refine lv_aload_n hx hb dX4_init_22 rfl (lv_at hl 0 rfl) ?_
  refine lv_sipush (v := 135) hx hb dX4_init_23 (by decide) ?_
  refine va_newX hx hb (hts _ (wq_t 65 (by decide +kernel) (by decide +kernel))) hK hP hD hS hA 135 (by decide) rfl (by decide) (Nat.le_of_ble_eq_true rfl) (Nat.le_of_ble_eq_true rfl) dX4_init_26 (fun q3 H hP hD hS => ?_)
  have hP : va_P D vwCl [(h0, .inr (4, [.ref q1, .ref q2, .null, .int 0, .null, .int 0, .null, .int 0, .int 0, .int 0, .int 0, .null, .null, .null, .null])), (q1, .inl (cI, 135, .inl (fun _ => 0))), (q2, .inl (cI, 135, .inl (fun _ => 0))), (q3, .inl (cI, 135, .inl (fun _ => 0)))] H := hP
  have hD : va_D A [(h0, .inr (4, [.ref q1, .ref q2, .null, .int 0, .null, .int 0, .null, .int 0, .int 0, .int 0, .int 0, .null, .null, .null, .null])), (q1, .inl (cI, 135, .inl (fun _ => 0))), (q2, .inl (cI, 135, .inl (fun _ => 0))), (q3, .inl (cI, 135, .inl (fun _ => 0)))] := hD
  refine va_putF (D := D) (ci := 4) (v := .ref q3) (ty := .array .int) (C := RX4) (T := TX4) (N := 15) hx hb hts inX4 tyX4 tyX4_ok nmX4 hown hK.1 hP hD hS 0 rfl rfl 2 (by decide) (hts _ wd_669) (fun _ h9 => h9) rfl hin rfl (by decide +kernel) rfl rfl (Nat.le_of_ble_eq_true rfl) dX4_init_28 (fun H locs hP hD hS => ?_)
  have hP : va_P D vwCl [(h0, .inr (4, [.ref q1, .ref q2, .ref q3, .int 0, .null, .int 0, .null, .int 0, .int 0, .int 0, .int 0, .null, .null, .null, .null])), (q1, .inl (cI, 135, .inl (fun _ => 0))), (q2, .inl (cI, 135, .inl (fun _ => 0))), (q3, .inl (cI, 135, .inl (fun _ => 0)))] H := hP
  have hD : va_D A [(h0, .inr (4, [.ref q1, .ref q2, .ref q3, .int 0, .null, .int 0, .null, .int 0, .int 0, .int 0, .int 0, .null, .null, .null, .null])), (q1, .inl (cI, 135, .inl (fun _ => 0))), (q2, .inl (cI, 135, .inl (fun _ => 0))), (q3, .inl (cI, 135, .inl (fun _ => 0)))] := hD
  refine lv_aload_n hx hb dX4_init_31 rfl (lv_at hl 0 rfl) ?_
  refine lv_bipush (v := 7) hx hb dX4_init_32 (by decide) ?_
  refine va_newX hx hb (hts _ (wq_t 65 (by decide +kernel) (by decide +kernel))) hK hP hD hS hA 7 (by decide) rfl (by decide) (Nat.le_of_ble_eq_true rfl) (Nat.le_of_ble_eq_true rfl) dX4_init_34 (fun q4 H hP hD hS => ?_)
  have hP : va_P D vwCl [(h0, .inr (4, [.ref q1, .ref q2, .ref q3, .int 0, .null, .int 0, .null, .int 0, .int 0, .int 0, .int 0, .null, .null, .null, .null])), (q1, .inl (cI, 135, .inl (fun _ => 0))), (q2, .inl (cI, 135, .inl (fun _ => 0))), (q3, .inl (cI, 135, .inl (fun _ => 0))), (q4, .inl (cI, 7, .inl (fun _ => 0)))] H := hP
  have hD : va_D A [(h0, .inr (4, [.ref q1, .ref q2, .ref q3, .int 0, .null, .int 0, .null, .int 0, .int 0, .int 0, .int 0, .null, .null, .null, .null])), (q1, .inl (cI, 135, .inl (fun _ => 0))), (q2, .inl (cI, 135, .inl (fun _ => 0))), (q3, .inl (cI, 135, .inl (fun _ => 0))), (q4, .inl (cI, 7, .inl (fun _ => 0)))] := hD
  refine va_putF (D := D) (ci := 4) (v := .ref q4) (ty := .array .int) (C := RX4) (T := TX4) (N := 15) hx hb hts inX4 tyX4 tyX4_ok nmX4 hown hK.1 hP hD hS 0 rfl rfl 4 (by decide) (hts _ wd_671) (fun _ h9 => h9) rfl hin rfl (by decide +kernel) rfl rfl (Nat.le_of_ble_eq_true rfl) dX4_init_36 (fun H locs hP hD hS => ?_)
  have hP : va_P D vwCl [(h0, .inr (4, [.ref q1, .ref q2, .ref q3, .int 0, .ref q4, .int 0, .null, .int 0, .int 0, .int 0, .int 0, .null, .null, .null, .null])), (q1, .inl (cI, 135, .inl (fun _ => 0))), (q2, .inl (cI, 135, .inl (fun _ => 0))), (q3, .inl (cI, 135, .inl (fun _ => 0))), (q4, .inl (cI, 7, .inl (fun _ => 0)))] H := hP
  have hD : va_D A [(h0, .inr (4, [.ref q1, .ref q2, .ref q3, .int 0, .ref q4, .int 0, .null, .int 0, .int 0, .int 0, .int 0, .null, .null, .null, .null])), (q1, .inl (cI, 135, .inl (fun _ => 0))), (q2, .inl (cI, 135, .inl (fun _ => 0))), (q3, .inl (cI, 135, .inl (fun _ => 0))), (q4, .inl (cI, 7, .inl (fun _ => 0)))] := hD
  refine lv_aload_n hx hb dX4_init_39 rfl (lv_at hl 0 rfl) ?_
  refine lv_bipush (v := 120) hx hb dX4_init_40 (by decide) ?_
  refine va_newX hx hb (hts _ (wq_t 65 (by decide +kernel) (by decide +kernel))) hK hP hD hS hA 120 (by decide) rfl (by decide) (Nat.le_of_ble_eq_true rfl) (Nat.le_of_ble_eq_true rfl) dX4_init_42 (fun q5 H hP hD hS => ?_)
  have hP : va_P D vwCl [(h0, .inr (4, [.ref q1, .ref q2, .ref q3, .int 0, .ref q4, .int 0, .null, .int 0, .int 0, .int 0, .int 0, .null, .null, .null, .null])), (q1, .inl (cI, 135, .inl (fun _ => 0))), (q2, .inl (cI, 135, .inl (fun _ => 0))), (q3, .inl (cI, 135, .inl (fun _ => 0))), (q4, .inl (cI, 7, .inl (fun _ => 0))), (q5, .inl (cI, 120, .inl (fun _ => 0)))] H := hP
  have hD : va_D A [(h0, .inr (4, [.ref q1, .ref q2, .ref q3, .int 0, .ref q4, .int 0, .null, .int 0, .int 0, .int 0, .int 0, .null, .null, .null, .null])), (q1, .inl (cI, 135, .inl (fun _ => 0))), (q2, .inl (cI, 135, .inl (fun _ => 0))), (q3, .inl (cI, 135, .inl (fun _ => 0))), (q4, .inl (cI, 7, .inl (fun _ => 0))), (q5, .inl (cI, 120, .inl (fun _ => 0)))] := hD
  refine va_putF (D := D) (ci := 4) (v := .ref q5) (ty := .array .int) (C := RX4) (T := TX4) (N := 15) hx hb hts inX4 tyX4 tyX4_ok nmX4 hown hK.1 hP hD hS 0 rfl rfl 6 (by decide) (hts _ wd_673) (fun _ h9 => h9) rfl hin rfl (by decide +kernel) rfl rfl (Nat.le_of_ble_eq_true rfl) dX4_init_44 (fun H locs hP hD hS => ?_)
  have hP : va_P D vwCl [(h0, .inr (4, [.ref q1, .ref q2, .ref q3, .int 0, .ref q4, .int 0, .ref q5, .int 0, .int 0, .int 0, .int 0, .null, .null, .null, .null])), (q1, .inl (cI, 135, .inl (fun _ => 0))), (q2, .inl (cI, 135, .inl (fun _ => 0))), (q3, .inl (cI, 135, .inl (fun _ => 0))), (q4, .inl (cI, 7, .inl (fun _ => 0))), (q5, .inl (cI, 120, .inl (fun _ => 0)))] H := hP
  have hD : va_D A [(h0, .inr (4, [.ref q1, .ref q2, .ref q3, .int 0, .ref q4, .int 0, .ref q5, .int 0, .int 0, .int 0, .int 0, .null, .null, .null, .null])), (q1, .inl (cI, 135, .inl (fun _ => 0))), (q2, .inl (cI, 135, .inl (fun _ => 0))), (q3, .inl (cI, 135, .inl (fun _ => 0))), (q4, .inl (cI, 7, .inl (fun _ => 0))), (q5, .inl (cI, 120, .inl (fun _ => 0)))] := hD
  refine lv_aload_n hx hb dX4_init_47 rfl (lv_at hl 0 rfl) ?_
  refine lv_iconst (v := 4) hx hb dX4_init_48 (by decide) ?_
  refine va_newX hx hb (hts _ (wq_t 65 (by decide +kernel) (by decide +kernel))) hK hP hD hS hA 4 (by decide) rfl (by decide) (Nat.le_of_ble_eq_true rfl) (Nat.le_of_ble_eq_true rfl) dX4_init_49 (fun q6 H hP hD hS => ?_)
  have hP : va_P D vwCl [(h0, .inr (4, [.ref q1, .ref q2, .ref q3, .int 0, .ref q4, .int 0, .ref q5, .int 0, .int 0, .int 0, .int 0, .null, .null, .null, .null])), (q1, .inl (cI, 135, .inl (fun _ => 0))), (q2, .inl (cI, 135, .inl (fun _ => 0))), (q3, .inl (cI, 135, .inl (fun _ => 0))), (q4, .inl (cI, 7, .inl (fun _ => 0))), (q5, .inl (cI, 120, .inl (fun _ => 0))), (q6, .inl (cI, 4, .inl (fun _ => 0)))] H := hP
  have hD : va_D A [(h0, .inr (4, [.ref q1, .ref q2, .ref q3, .int 0, .ref q4, .int 0, .ref q5, .int 0, .int 0, .int 0, .int 0, .null, .null, .null, .null])), (q1, .inl (cI, 135, .inl (fun _ => 0))), (q2, .inl (cI, 135, .inl (fun _ => 0))), (q3, .inl (cI, 135, .inl (fun _ => 0))), (q4, .inl (cI, 7, .inl (fun _ => 0))), (q5, .inl (cI, 120, .inl (fun _ => 0))), (q6, .inl (cI, 4, .inl (fun _ => 0)))] := hD
  refine va_putF (D := D) (ci := 4) (v := .ref q6) (ty := .array .int) (C := RX4) (T := TX4) (N := 15) hx hb hts inX4 tyX4 tyX4_ok nmX4 hown hK.1 hP hD hS 0 rfl rfl 11 (by decide) (hts _ wd_678) (fun _ h9 => h9) rfl hin rfl (by decide +kernel) rfl rfl (Nat.le_of_ble_eq_true rfl) dX4_init_51 (fun H locs hP hD hS => ?_)
  have hP : va_P D vwCl [(h0, .inr (4, [.ref q1, .ref q2, .ref q3, .int 0, .ref q4, .int 0, .ref q5, .int 0, .int 0, .int 0, .int 0, .ref q6, .null, .null, .null])), (q1, .inl (cI, 135, .inl (fun _ => 0))), (q2, .inl (cI, 135, .inl (fun _ => 0))), (q3, .inl (cI, 135, .inl (fun _ => 0))), (q4, .inl (cI, 7, .inl (fun _ => 0))), (q5, .inl (cI, 120, .inl (fun _ => 0))), (q6, .inl (cI, 4, .inl (fun _ => 0)))] H := hP
  have hD : va_D A [(h0, .inr (4, [.ref q1, .ref q2, .ref q3, .int 0, .ref q4, .int 0, .ref q5, .int 0, .int 0, .int 0, .int 0, .ref q6, .null, .null, .null])), (q1, .inl (cI, 135, .inl (fun _ => 0))), (q2, .inl (cI, 135, .inl (fun _ => 0))), (q3, .inl (cI, 135, .inl (fun _ => 0))), (q4, .inl (cI, 7, .inl (fun _ => 0))), (q5, .inl (cI, 120, .inl (fun _ => 0))), (q6, .inl (cI, 4, .inl (fun _ => 0)))] := hD
  refine lv_aload_n hx hb dX4_init_54 rfl (lv_at hl 0 rfl) ?_
  refine lv_iconst (v := 4) hx hb dX4_init_55 (by decide) ?_
  refine va_newX hx hb (hts _ (wq_t 65 (by decide +kernel) (by decide +kernel))) hK hP hD hS hA 4 (by decide) rfl (by decide) (Nat.le_of_ble_eq_true rfl) (Nat.le_of_ble_eq_true rfl) dX4_init_56 (fun q7 H hP hD hS => ?_)
  have hP : va_P D vwCl [(h0, .inr (4, [.ref q1, .ref q2, .ref q3, .int 0, .ref q4, .int 0, .ref q5, .int 0, .int 0, .int 0, .int 0, .ref q6, .null, .null, .null])), (q1, .inl (cI, 135, .inl (fun _ => 0))), (q2, .inl (cI, 135, .inl (fun _ => 0))), (q3, .inl (cI, 135, .inl (fun _ => 0))), (q4, .inl (cI, 7, .inl (fun _ => 0))), (q5, .inl (cI, 120, .inl (fun _ => 0))), (q6, .inl (cI, 4, .inl (fun _ => 0))), (q7, .inl (cI, 4, .inl (fun _ => 0)))] H := hP
  have hD : va_D A [(h0, .inr (4, [.ref q1, .ref q2, .ref q3, .int 0, .ref q4, .int 0, .ref q5, .int 0, .int 0, .int 0, .int 0, .ref q6, .null, .null, .null])), (q1, .inl (cI, 135, .inl (fun _ => 0))), (q2, .inl (cI, 135, .inl (fun _ => 0))), (q3, .inl (cI, 135, .inl (fun _ => 0))), (q4, .inl (cI, 7, .inl (fun _ => 0))), (q5, .inl (cI, 120, .inl (fun _ => 0))), (q6, .inl (cI, 4, .inl (fun _ => 0))), (q7, .inl (cI, 4, .inl (fun _ => 0)))] := hD
  refine va_putF (D := D) (ci := 4) (v := .ref q7) (ty := .array .int) (C := RX4) (T := TX4) (N := 15) hx hb hts inX4 tyX4 tyX4_ok nmX4 hown hK.1 hP hD hS 0 rfl rfl 12 (by decide) (hts _ wd_679) (fun _ h9 => h9) rfl hin rfl (by decide +kernel) rfl rfl (Nat.le_of_ble_eq_true rfl) dX4_init_58 (fun H locs hP hD hS => ?_)
  have hP : va_P D vwCl [(h0, .inr (4, [.ref q1, .ref q2, .ref q3, .int 0, .ref q4, .int 0, .ref q5, .int 0, .int 0, .int 0, .int 0, .ref q6, .ref q7, .null, .null])), (q1, .inl (cI, 135, .inl (fun _ => 0))), (q2, .inl (cI, 135, .inl (fun _ => 0))), (q3, .inl (cI, 135, .inl (fun _ => 0))), (q4, .inl (cI, 7, .inl (fun _ => 0))), (q5, .inl (cI, 120, .inl (fun _ => 0))), (q6, .inl (cI, 4, .inl (fun _ => 0))), (q7, .inl (cI, 4, .inl (fun _ => 0)))] H := hP
  have hD : va_D A [(h0, .inr (4, [.ref q1, .ref q2, .ref q3, .int 0, .ref q4, .int 0, .ref q5, .int 0, .int 0, .int 0, .int 0, .ref q6, .ref q7, .null, .null])), (q1, .inl (cI, 135, .inl (fun _ => 0))), (q2, .inl (cI, 135, .inl (fun _ => 0))), (q3, .inl (cI, 135, .inl (fun _ => 0))), (q4, .inl (cI, 7, .inl (fun _ => 0))), (q5, .inl (cI, 120, .inl (fun _ => 0))), (q6, .inl (cI, 4, .inl (fun _ => 0))), (q7, .inl (cI, 4, .inl (fun _ => 0)))] := hD
  refine lv_aload_n hx hb dX4_init_61 rfl (lv_at hl 0 rfl) ?_
  refine lv_sipush (v := 160) hx hb dX4_init_62 (by decide) ?_
  refine va_newX hx hb (hts _ (wq_t 65 (by decide +kernel) (by decide +kernel))) hK hP hD hS hA 160 (by decide) rfl (by decide) (Nat.le_of_ble_eq_true rfl) (Nat.le_of_ble_eq_true rfl) dX4_init_65 (fun q8 H hP hD hS => ?_)
  have hP : va_P D vwCl [(h0, .inr (4, [.ref q1, .ref q2, .ref q3, .int 0, .ref q4, .int 0, .ref q5, .int 0, .int 0, .int 0, .int 0, .ref q6, .ref q7, .null, .null])), (q1, .inl (cI, 135, .inl (fun _ => 0))), (q2, .inl (cI, 135, .inl (fun _ => 0))), (q3, .inl (cI, 135, .inl (fun _ => 0))), (q4, .inl (cI, 7, .inl (fun _ => 0))), (q5, .inl (cI, 120, .inl (fun _ => 0))), (q6, .inl (cI, 4, .inl (fun _ => 0))), (q7, .inl (cI, 4, .inl (fun _ => 0))), (q8, .inl (cI, 160, .inl (fun _ => 0)))] H := hP
  have hD : va_D A [(h0, .inr (4, [.ref q1, .ref q2, .ref q3, .int 0, .ref q4, .int 0, .ref q5, .int 0, .int 0, .int 0, .int 0, .ref q6, .ref q7, .null, .null])), (q1, .inl (cI, 135, .inl (fun _ => 0))), (q2, .inl (cI, 135, .inl (fun _ => 0))), (q3, .inl (cI, 135, .inl (fun _ => 0))), (q4, .inl (cI, 7, .inl (fun _ => 0))), (q5, .inl (cI, 120, .inl (fun _ => 0))), (q6, .inl (cI, 4, .inl (fun _ => 0))), (q7, .inl (cI, 4, .inl (fun _ => 0))), (q8, .inl (cI, 160, .inl (fun _ => 0)))] := hD
  refine va_putF (D := D) (ci := 4) (v := .ref q8) (ty := .array .int) (C := RX4) (T := TX4) (N := 15) hx hb hts inX4 tyX4 tyX4_ok nmX4 hown hK.1 hP hD hS 0 rfl rfl 13 (by decide) (hts _ wd_680) (fun _ h9 => h9) rfl hin rfl (by decide +kernel) rfl rfl (Nat.le_of_ble_eq_true rfl) dX4_init_67 (fun H locs hP hD hS => ?_)
  have hP : va_P D vwCl [(h0, .inr (4, [.ref q1, .ref q2, .ref q3, .int 0, .ref q4, .int 0, .ref q5, .int 0, .int 0, .int 0, .int 0, .ref q6, .ref q7, .ref q8, .null])), (q1, .inl (cI, 135, .inl (fun _ => 0))), (q2, .inl (cI, 135, .inl (fun _ => 0))), (q3, .inl (cI, 135, .inl (fun _ => 0))), (q4, .inl (cI, 7, .inl (fun _ => 0))), (q5, .inl (cI, 120, .inl (fun _ => 0))), (q6, .inl (cI, 4, .inl (fun _ => 0))), (q7, .inl (cI, 4, .inl (fun _ => 0))), (q8, .inl (cI, 160, .inl (fun _ => 0)))] H := hP
  have hD : va_D A [(h0, .inr (4, [.ref q1, .ref q2, .ref q3, .int 0, .ref q4, .int 0, .ref q5, .int 0, .int 0, .int 0, .int 0, .ref q6, .ref q7, .ref q8, .null])), (q1, .inl (cI, 135, .inl (fun _ => 0))), (q2, .inl (cI, 135, .inl (fun _ => 0))), (q3, .inl (cI, 135, .inl (fun _ => 0))), (q4, .inl (cI, 7, .inl (fun _ => 0))), (q5, .inl (cI, 120, .inl (fun _ => 0))), (q6, .inl (cI, 4, .inl (fun _ => 0))), (q7, .inl (cI, 4, .inl (fun _ => 0))), (q8, .inl (cI, 160, .inl (fun _ => 0)))] := hD
  refine lv_aload_n hx hb dX4_init_70 rfl (lv_at hl 0 rfl) ?_
  refine lv_bipush (v := 40) hx hb dX4_init_71 (by decide) ?_
  refine va_newX hx hb (hts _ (wq_t 65 (by decide +kernel) (by decide +kernel))) hK hP hD hS hA 40 (by decide) rfl (by decide) (Nat.le_of_ble_eq_true rfl) (Nat.le_of_ble_eq_true rfl) dX4_init_73 (fun q9 H hP hD hS => ?_)
  have hP : va_P D vwCl [(h0, .inr (4, [.ref q1, .ref q2, .ref q3, .int 0, .ref q4, .int 0, .ref q5, .int 0, .int 0, .int 0, .int 0, .ref q6, .ref q7, .ref q8, .null])), (q1, .inl (cI, 135, .inl (fun _ => 0))), (q2, .inl (cI, 135, .inl (fun _ => 0))), (q3, .inl (cI, 135, .inl (fun _ => 0))), (q4, .inl (cI, 7, .inl (fun _ => 0))), (q5, .inl (cI, 120, .inl (fun _ => 0))), (q6, .inl (cI, 4, .inl (fun _ => 0))), (q7, .inl (cI, 4, .inl (fun _ => 0))), (q8, .inl (cI, 160, .inl (fun _ => 0))), (q9, .inl (cI, 40, .inl (fun _ => 0)))] H := hP
  have hD : va_D A [(h0, .inr (4, [.ref q1, .ref q2, .ref q3, .int 0, .ref q4, .int 0, .ref q5, .int 0, .int 0, .int 0, .int 0, .ref q6, .ref q7, .ref q8, .null])), (q1, .inl (cI, 135, .inl (fun _ => 0))), (q2, .inl (cI, 135, .inl (fun _ => 0))), (q3, .inl (cI, 135, .inl (fun _ => 0))), (q4, .inl (cI, 7, .inl (fun _ => 0))), (q5, .inl (cI, 120, .inl (fun _ => 0))), (q6, .inl (cI, 4, .inl (fun _ => 0))), (q7, .inl (cI, 4, .inl (fun _ => 0))), (q8, .inl (cI, 160, .inl (fun _ => 0))), (q9, .inl (cI, 40, .inl (fun _ => 0)))] := hD
  refine va_putF (D := D) (ci := 4) (v := .ref q9) (ty := .array .int) (C := RX4) (T := TX4) (N := 15) hx hb hts inX4 tyX4 tyX4_ok nmX4 hown hK.1 hP hD hS 0 rfl rfl 14 (by decide) (hts _ wd_681) (fun _ h9 => h9) rfl hin rfl (by decide +kernel) rfl rfl (Nat.le_of_ble_eq_true rfl) dX4_init_75 (fun H locs hP hD hS => ?_)
  have hP : va_P D vwCl [(h0, .inr (4, [.ref q1, .ref q2, .ref q3, .int 0, .ref q4, .int 0, .ref q5, .int 0, .int 0, .int 0, .int 0, .ref q6, .ref q7, .ref q8, .ref q9])), (q1, .inl (cI, 135, .inl (fun _ => 0))), (q2, .inl (cI, 135, .inl (fun _ => 0))), (q3, .inl (cI, 135, .inl (fun _ => 0))), (q4, .inl (cI, 7, .inl (fun _ => 0))), (q5, .inl (cI, 120, .inl (fun _ => 0))), (q6, .inl (cI, 4, .inl (fun _ => 0))), (q7, .inl (cI, 4, .inl (fun _ => 0))), (q8, .inl (cI, 160, .inl (fun _ => 0))), (q9, .inl (cI, 40, .inl (fun _ => 0)))] H := hP
  have hD : va_D A [(h0, .inr (4, [.ref q1, .ref q2, .ref q3, .int 0, .ref q4, .int 0, .ref q5, .int 0, .int 0, .int 0, .int 0, .ref q6, .ref q7, .ref q8, .ref q9])), (q1, .inl (cI, 135, .inl (fun _ => 0))), (q2, .inl (cI, 135, .inl (fun _ => 0))), (q3, .inl (cI, 135, .inl (fun _ => 0))), (q4, .inl (cI, 7, .inl (fun _ => 0))), (q5, .inl (cI, 120, .inl (fun _ => 0))), (q6, .inl (cI, 4, .inl (fun _ => 0))), (q7, .inl (cI, 4, .inl (fun _ => 0))), (q8, .inl (cI, 160, .inl (fun _ => 0))), (q9, .inl (cI, 40, .inl (fun _ => 0)))] := hD
  refine lv_aload_n hx hb dX4_init_78 rfl (lv_at hl 0 rfl) ?_
  refine va_get (D := D) (ci := 4) (v := .ref q1) (C := RX4) (T := TX4) (N := 15) hx hb hts inX4 hown hK.1 hP 0 rfl rfl 0 (by decide) (hts _ wd_667) (fun _ h9 => h9) rfl dX4_init_79 ?_
  refine lv_iconst (v := 1) hx hb dX4_init_82 (by decide) ?_
  refine lv_iconst (v := 1) hx hb dX4_init_83 (by decide) ?_
  refine va_iast hx hb hK.1 hP hD hS 1 0 rfl rfl (inb_vp (show inb (1 : Int32) 135 by decide)) dX4_init_84 (fun H locs hP hD hS => ?_)
  have hP : va_P D vwCl [(h0, .inr (4, [.ref q1, .ref q2, .ref q3, .int 0, .ref q4, .int 0, .ref q5, .int 0, .int 0, .int 0, .int 0, .ref q6, .ref q7, .ref q8, .ref q9])), (q1, .inl (cI, 135, .inl (upd (fun _ => 0) 1 1))), (q2, .inl (cI, 135, .inl (fun _ => 0))), (q3, .inl (cI, 135, .inl (fun _ => 0))), (q4, .inl (cI, 7, .inl (fun _ => 0))), (q5, .inl (cI, 120, .inl (fun _ => 0))), (q6, .inl (cI, 4, .inl (fun _ => 0))), (q7, .inl (cI, 4, .inl (fun _ => 0))), (q8, .inl (cI, 160, .inl (fun _ => 0))), (q9, .inl (cI, 40, .inl (fun _ => 0)))] H := hP
  have hD : va_D A [(h0, .inr (4, [.ref q1, .ref q2, .ref q3, .int 0, .ref q4, .int 0, .ref q5, .int 0, .int 0, .int 0, .int 0, .ref q6, .ref q7, .ref q8, .ref q9])), (q1, .inl (cI, 135, .inl (upd (fun _ => 0) 1 1))), (q2, .inl (cI, 135, .inl (fun _ => 0))), (q3, .inl (cI, 135, .inl (fun _ => 0))), (q4, .inl (cI, 7, .inl (fun _ => 0))), (q5, .inl (cI, 120, .inl (fun _ => 0))), (q6, .inl (cI, 4, .inl (fun _ => 0))), (q7, .inl (cI, 4, .inl (fun _ => 0))), (q8, .inl (cI, 160, .inl (fun _ => 0))), (q9, .inl (cI, 40, .inl (fun _ => 0)))] := hD
  refine lv_aload_n hx hb dX4_init_85 rfl (lv_at hl 0 rfl) ?_
  refine va_get (D := D) (ci := 4) (v := .ref q1) (C := RX4) (T := TX4) (N := 15) hx hb hts inX4 hown hK.1 hP 0 rfl rfl 0 (by decide) (hts _ wd_667) (fun _ h9 => h9) rfl dX4_init_86 ?_
  refine lv_iconst (v := 3) hx hb dX4_init_89 (by decide) ?_
  refine lv_bipush (v := 8) hx hb dX4_init_90 (by decide) ?_
  refine va_iast hx hb hK.1 hP hD hS 1 0 rfl rfl (inb_vp (show inb (3 : Int32) 135 by decide)) dX4_init_92 (fun H locs hP hD hS => ?_)
  have hP : va_P D vwCl [(h0, .inr (4, [.ref q1, .ref q2, .ref q3, .int 0, .ref q4, .int 0, .ref q5, .int 0, .int 0, .int 0, .int 0, .ref q6, .ref q7, .ref q8, .ref q9])), (q1, .inl (cI, 135, .inl (upd (upd (fun _ => 0) 1 1) 3 8))), (q2, .inl (cI, 135, .inl (fun _ => 0))), (q3, .inl (cI, 135, .inl (fun _ => 0))), (q4, .inl (cI, 7, .inl (fun _ => 0))), (q5, .inl (cI, 120, .inl (fun _ => 0))), (q6, .inl (cI, 4, .inl (fun _ => 0))), (q7, .inl (cI, 4, .inl (fun _ => 0))), (q8, .inl (cI, 160, .inl (fun _ => 0))), (q9, .inl (cI, 40, .inl (fun _ => 0)))] H := hP
  have hD : va_D A [(h0, .inr (4, [.ref q1, .ref q2, .ref q3, .int 0, .ref q4, .int 0, .ref q5, .int 0, .int 0, .int 0, .int 0, .ref q6, .ref q7, .ref q8, .ref q9])), (q1, .inl (cI, 135, .inl (upd (upd (fun _ => 0) 1 1) 3 8))), (q2, .inl (cI, 135, .inl (fun _ => 0))), (q3, .inl (cI, 135, .inl (fun _ => 0))), (q4, .inl (cI, 7, .inl (fun _ => 0))), (q5, .inl (cI, 120, .inl (fun _ => 0))), (q6, .inl (cI, 4, .inl (fun _ => 0))), (q7, .inl (cI, 4, .inl (fun _ => 0))), (q8, .inl (cI, 160, .inl (fun _ => 0))), (q9, .inl (cI, 40, .inl (fun _ => 0)))] := hD
  refine W.widen (k := 9) (n := 740) (Nat.le_of_ble_eq_true rfl) (Nat.le_of_ble_eq_true rfl) ?_
  have lp2 : ∀ (d i : Nat) (f : Nat → Int32) (H : Heap) (locs : List Loc) (ls : Array Slot), i + d = 10 → (∀ j, j < 135 → f j = if j = 1 then 1 else if j = 3 then 8 else if 5 ≤ j ∧ j < 29 then -1 else if 125 ≤ j ∧ j < 125 + i then -1 else 0) → va_P D vwCl [(h0, .inr (4, [.ref q1, .ref q2, .ref q3, .int 0, .ref q4, .int 0, .ref q5, .int 0, .int 0, .int 0, .int 0, .ref q6, .ref q7, .ref q8, .ref q9])), (q1, .inl (cI, 135, .inl f)), (q2, .inl (cI, 135, .inl (fun _ => 0))), (q3, .inl (cI, 135, .inl (fun _ => 0))), (q4, .inl (cI, 7, .inl (fun _ => 0))), (q5, .inl (cI, 120, .inl (fun _ => 0))), (q6, .inl (cI, 4, .inl (fun _ => 0))), (q7, .inl (cI, 4, .inl (fun _ => 0))), (q8, .inl (cI, 160, .inl (fun _ => 0))), (q9, .inl (cI, 40, .inl (fun _ => 0)))] H → va_D A [(h0, .inr (4, [.ref q1, .ref q2, .ref q3, .int 0, .ref q4, .int 0, .ref q5, .int 0, .int 0, .int 0, .int 0, .ref q6, .ref q7, .ref q8, .ref q9])), (q1, .inl (cI, 135, .inl f)), (q2, .inl (cI, 135, .inl (fun _ => 0))), (q3, .inl (cI, 135, .inl (fun _ => 0))), (q4, .inl (cI, 7, .inl (fun _ => 0))), (q5, .inl (cI, 120, .inl (fun _ => 0))), (q6, .inl (cI, 4, .inl (fun _ => 0))), (q7, .inl (cI, 4, .inl (fun _ => 0))), (q8, .inl (cI, 160, .inl (fun _ => 0))), (q9, .inl (cI, 40, .inl (fun _ => 0)))] → va_S A s.heap H locs → lv_has ls 2 [(1, .int (nI i)), (0, .ref h0)] → W p l e { frames := 1, cells := 9, slots := 740, locals := 12 } s m #[Value.ref h0] below meth c H locs 9 740 (MQ below (va_Qv (fun q : Nat → Nat => q 0 = h0) (fun q t => va_P D vwCl (wT (bq D cI cII q) (mq z00 s00) tbM) t.heap ∧ va_D A (wT (bq D cI cII q) (mq z00 s00) tbM)) A) #[Value.ref h0] s 9 740 A) (F0 m 118 ls []) := by
    intro d
    induction d with
    | zero =>
      intro i f H locs ls hi hf hP hD hS hl
      have ei : i = 10 := by omega
      subst ei
      refine lv_iload_n hx hb dX4_init_118 rfl (lv_at hl 0 rfl) ?_
      refine lv_bipush (v := 10) hx hb dX4_init_119 (by decide) ?_
      refine lv_icmp_ge (tgt := 140) hx hb dX4_init_121 (by decide) (fun _ => ?_) (fun c9 => absurd (Int32.le_refl _) c9)
      exact W.vret hx hb hr (fun t ht hW => ⟨⟨(fun k9 : Nat => [h0, q1, q2, q3, q4, q5, q6, q7, q8, q9].getD k9 0), rfl, rfl, by rw [ht]; exact wT_of (fun k hk => by
        match k, hk with
        | 0, _ => exact hP 0 _ rfl
        | 1, _ => exact at_i (g := s00) (hP 1 _ rfl) (fun j hj => (hf j hj).trans rfl)
        | 2, _ => exact hP 2 _ rfl
        | 3, _ => exact hP 3 _ rfl
        | 4, _ => exact hP 4 _ rfl
        | 5, _ => exact hP 5 _ rfl
        | 6, _ => exact hP 6 _ rfl
        | 7, _ => exact hP 7 _ rfl
        | 8, _ => exact hP 8 _ rfl
        | 9, _ => exact hP 9 _ rfl
        | k + 10, hk => exact absurd (show k + 10 < 10 from hk) (by omega)), D_of hD [0, 1, 2, 3, 4, 5, 6, 7, 8, 9] (by decide) rfl⟩, hS.F ht⟩) hS.2.2 dX4_init_140
    | succ d ih =>
      intro i f H locs ls hi hf hP hD hS hl
      refine lv_iload_n hx hb dX4_init_118 rfl (lv_at hl 0 rfl) ?_
      refine lv_bipush (v := 10) hx hb dX4_init_119 (by decide) ?_
      refine lv_icmp_ge (tgt := 140) hx hb dX4_init_121 (by decide) (fun c9 => absurd c9 (nle_n (a := 10) (by omega) (by omega))) (fun _ => ?_)
      refine lv_aload_n hx hb dX4_init_124 rfl (lv_at hl 1 rfl) ?_
      refine va_get (D := D) (ci := 4) (v := .ref q1) (C := RX4) (T := TX4) (N := 15) hx hb hts inX4 hown hK.1 hP 0 rfl rfl 0 (by decide) (hts _ wd_667) (fun _ h9 => h9) rfl dX4_init_125 ?_
      refine lv_bipush (v := 125) hx hb dX4_init_128 (by decide) ?_
      refine lv_iload_n hx hb dX4_init_130 rfl (lv_at hl 0 rfl) ?_
      refine lv_iadd hx hb dX4_init_131 ?_
      rw [show (125 : Int32) + nI i = nI (125 + i) from nI_add 125 i]
      refine lv_iconst (v := -1) hx hb dX4_init_132 (by decide) ?_
      refine va_iast hx hb hK.1 hP hD hS 1 0 rfl rfl (inb_vp (inb_n (by omega) (by decide))) dX4_init_133 (fun H locs hP hD hS => ?_)
      rw [nI_clamp (by omega)] at hP hD
      have hP : va_P D vwCl [(h0, .inr (4, [.ref q1, .ref q2, .ref q3, .int 0, .ref q4, .int 0, .ref q5, .int 0, .int 0, .int 0, .int 0, .ref q6, .ref q7, .ref q8, .ref q9])), (q1, .inl (cI, 135, .inl (upd f (125 + i) (-1)))), (q2, .inl (cI, 135, .inl (fun _ => 0))), (q3, .inl (cI, 135, .inl (fun _ => 0))), (q4, .inl (cI, 7, .inl (fun _ => 0))), (q5, .inl (cI, 120, .inl (fun _ => 0))), (q6, .inl (cI, 4, .inl (fun _ => 0))), (q7, .inl (cI, 4, .inl (fun _ => 0))), (q8, .inl (cI, 160, .inl (fun _ => 0))), (q9, .inl (cI, 40, .inl (fun _ => 0)))] H := hP
      have hD : va_D A [(h0, .inr (4, [.ref q1, .ref q2, .ref q3, .int 0, .ref q4, .int 0, .ref q5, .int 0, .int 0, .int 0, .int 0, .ref q6, .ref q7, .ref q8, .ref q9])), (q1, .inl (cI, 135, .inl (upd f (125 + i) (-1)))), (q2, .inl (cI, 135, .inl (fun _ => 0))), (q3, .inl (cI, 135, .inl (fun _ => 0))), (q4, .inl (cI, 7, .inl (fun _ => 0))), (q5, .inl (cI, 120, .inl (fun _ => 0))), (q6, .inl (cI, 4, .inl (fun _ => 0))), (q7, .inl (cI, 4, .inl (fun _ => 0))), (q8, .inl (cI, 160, .inl (fun _ => 0))), (q9, .inl (cI, 40, .inl (fun _ => 0)))] := hD
      refine lv_iinc (v := nI (i + 1)) (lv' := [(1, .int (nI (i + 1))), (0, .ref h0)]) hx hb dX4_init_134 hl (k := 0) rfl (nI_add i 1) (by decide) rfl (fun ls hl => ?_)
      refine lv_goto (tgt := 118) hx hb dX4_init_137 (by decide) ?_
      exact ih (i + 1) _ H locs ls (by omega) (fun j hj => by
        by_cases e9 : j = 125 + i
        · subst e9
          rw [uu, if_neg (by omega), if_neg (by omega), if_neg (by omega), if_pos (by omega)]
        · rw [uw e9, hf j hj]
          have e8 : (if 125 ≤ j ∧ j < 125 + i then (-1 : Int32) else 0) = if 125 ≤ j ∧ j < 125 + (i + 1) then -1 else 0 := by
            by_cases c8 : 125 ≤ j ∧ j < 125 + i
            · rw [if_pos c8, if_pos (by omega)]
            · rw [if_neg c8, if_neg (by omega)]
          rw [e8]) hP hD hS hl
  have lp1 : ∀ (d i : Nat) (f : Nat → Int32) (H : Heap) (locs : List Loc) (ls : Array Slot), i + d = 24 → (∀ j, j < 135 → f j = if j = 1 then 1 else if j = 3 then 8 else if 5 ≤ j ∧ j < 5 + i then -1 else 0) → va_P D vwCl [(h0, .inr (4, [.ref q1, .ref q2, .ref q3, .int 0, .ref q4, .int 0, .ref q5, .int 0, .int 0, .int 0, .int 0, .ref q6, .ref q7, .ref q8, .ref q9])), (q1, .inl (cI, 135, .inl f)), (q2, .inl (cI, 135, .inl (fun _ => 0))), (q3, .inl (cI, 135, .inl (fun _ => 0))), (q4, .inl (cI, 7, .inl (fun _ => 0))), (q5, .inl (cI, 120, .inl (fun _ => 0))), (q6, .inl (cI, 4, .inl (fun _ => 0))), (q7, .inl (cI, 4, .inl (fun _ => 0))), (q8, .inl (cI, 160, .inl (fun _ => 0))), (q9, .inl (cI, 40, .inl (fun _ => 0)))] H → va_D A [(h0, .inr (4, [.ref q1, .ref q2, .ref q3, .int 0, .ref q4, .int 0, .ref q5, .int 0, .int 0, .int 0, .int 0, .ref q6, .ref q7, .ref q8, .ref q9])), (q1, .inl (cI, 135, .inl f)), (q2, .inl (cI, 135, .inl (fun _ => 0))), (q3, .inl (cI, 135, .inl (fun _ => 0))), (q4, .inl (cI, 7, .inl (fun _ => 0))), (q5, .inl (cI, 120, .inl (fun _ => 0))), (q6, .inl (cI, 4, .inl (fun _ => 0))), (q7, .inl (cI, 4, .inl (fun _ => 0))), (q8, .inl (cI, 160, .inl (fun _ => 0))), (q9, .inl (cI, 40, .inl (fun _ => 0)))] → va_S A s.heap H locs → lv_has ls 2 [(1, .int (nI i)), (0, .ref h0)] → W p l e { frames := 1, cells := 9, slots := 740, locals := 12 } s m #[Value.ref h0] below meth c H locs 9 740 (MQ below (va_Qv (fun q : Nat → Nat => q 0 = h0) (fun q t => va_P D vwCl (wT (bq D cI cII q) (mq z00 s00) tbM) t.heap ∧ va_D A (wT (bq D cI cII q) (mq z00 s00) tbM)) A) #[Value.ref h0] s 9 740 A) (F0 m 95 ls []) := by
    intro d
    induction d with
    | zero =>
      intro i f H locs ls hi hf hP hD hS hl
      have ei : i = 24 := by omega
      subst ei
      refine lv_iload_n hx hb dX4_init_95 rfl (lv_at hl 0 rfl) ?_
      refine lv_bipush (v := 24) hx hb dX4_init_96 (by decide) ?_
      refine lv_icmp_ge (tgt := 116) hx hb dX4_init_98 (by decide) (fun _ => ?_) (fun c9 => absurd (Int32.le_refl _) c9)
      refine lv_iconst (v := 0) hx hb dX4_init_116 (by decide) ?_
      refine lv_istore_n (lv' := [(1, .int (nI 0)), (0, .ref h0)]) hx hb dX4_init_117 rfl hl (by decide) rfl (fun ls hl => ?_)
      exact lp2 10 0 f H locs ls (by omega) (fun j hj => by
        rw [hf j hj, if_neg (c := 125 ≤ j ∧ j < 125 + 0) (by omega)]) hP hD hS hl
    | succ d ih =>
      intro i f H locs ls hi hf hP hD hS hl
      refine lv_iload_n hx hb dX4_init_95 rfl (lv_at hl 0 rfl) ?_
      refine lv_bipush (v := 24) hx hb dX4_init_96 (by decide) ?_
      refine lv_icmp_ge (tgt := 116) hx hb dX4_init_98 (by decide) (fun c9 => absurd c9 (nle_n (a := 24) (by omega) (by omega))) (fun _ => ?_)
      refine lv_aload_n hx hb dX4_init_101 rfl (lv_at hl 1 rfl) ?_
      refine va_get (D := D) (ci := 4) (v := .ref q1) (C := RX4) (T := TX4) (N := 15) hx hb hts inX4 hown hK.1 hP 0 rfl rfl 0 (by decide) (hts _ wd_667) (fun _ h9 => h9) rfl dX4_init_102 ?_
      refine lv_iconst (v := 5) hx hb dX4_init_105 (by decide) ?_
      refine lv_iload_n hx hb dX4_init_106 rfl (lv_at hl 0 rfl) ?_
      refine lv_iadd hx hb dX4_init_107 ?_
      rw [show (5 : Int32) + nI i = nI (5 + i) from nI_add 5 i]
      refine lv_iconst (v := -1) hx hb dX4_init_108 (by decide) ?_
      refine va_iast hx hb hK.1 hP hD hS 1 0 rfl rfl (inb_vp (inb_n (by omega) (by decide))) dX4_init_109 (fun H locs hP hD hS => ?_)
      rw [nI_clamp (by omega)] at hP hD
      have hP : va_P D vwCl [(h0, .inr (4, [.ref q1, .ref q2, .ref q3, .int 0, .ref q4, .int 0, .ref q5, .int 0, .int 0, .int 0, .int 0, .ref q6, .ref q7, .ref q8, .ref q9])), (q1, .inl (cI, 135, .inl (upd f (5 + i) (-1)))), (q2, .inl (cI, 135, .inl (fun _ => 0))), (q3, .inl (cI, 135, .inl (fun _ => 0))), (q4, .inl (cI, 7, .inl (fun _ => 0))), (q5, .inl (cI, 120, .inl (fun _ => 0))), (q6, .inl (cI, 4, .inl (fun _ => 0))), (q7, .inl (cI, 4, .inl (fun _ => 0))), (q8, .inl (cI, 160, .inl (fun _ => 0))), (q9, .inl (cI, 40, .inl (fun _ => 0)))] H := hP
      have hD : va_D A [(h0, .inr (4, [.ref q1, .ref q2, .ref q3, .int 0, .ref q4, .int 0, .ref q5, .int 0, .int 0, .int 0, .int 0, .ref q6, .ref q7, .ref q8, .ref q9])), (q1, .inl (cI, 135, .inl (upd f (5 + i) (-1)))), (q2, .inl (cI, 135, .inl (fun _ => 0))), (q3, .inl (cI, 135, .inl (fun _ => 0))), (q4, .inl (cI, 7, .inl (fun _ => 0))), (q5, .inl (cI, 120, .inl (fun _ => 0))), (q6, .inl (cI, 4, .inl (fun _ => 0))), (q7, .inl (cI, 4, .inl (fun _ => 0))), (q8, .inl (cI, 160, .inl (fun _ => 0))), (q9, .inl (cI, 40, .inl (fun _ => 0)))] := hD
      refine lv_iinc (v := nI (i + 1)) (lv' := [(1, .int (nI (i + 1))), (0, .ref h0)]) hx hb dX4_init_110 hl (k := 0) rfl (nI_add i 1) (by decide) rfl (fun ls hl => ?_)
      refine lv_goto (tgt := 95) hx hb dX4_init_113 (by decide) ?_
      exact ih (i + 1) _ H locs ls (by omega) (fun j hj => by
        by_cases e9 : j = 5 + i
        · subst e9
          rw [uu, if_neg (by omega), if_neg (by omega), if_pos (by omega)]
        · rw [uw e9, hf j hj]
          have e8 : (if 5 ≤ j ∧ j < 5 + i then (-1 : Int32) else 0) = if 5 ≤ j ∧ j < 5 + (i + 1) then -1 else 0 := by
            by_cases c8 : 5 ≤ j ∧ j < 5 + i
            · rw [if_pos c8, if_pos (by omega)]
            · rw [if_neg c8, if_neg (by omega)]
          rw [e8]) hP hD hS hl
  refine lv_iconst (v := 0) hx hb dX4_init_93 (by decide) ?_
  refine lv_istore_n (lv' := [(1, .int (nI 0)), (0, .ref h0)]) hx hb dX4_init_94 rfl hl (by decide) rfl (fun ls hl => ?_)
  exact lp1 24 0 _ H _ ls (by omega) (fun j hj => by
    rw [if_neg (c := 5 ≤ j ∧ j < 5 + 0) (by omega)]
    by_cases e3 : j = 3
    · subst e3
      rfl
    · rw [uw e3, if_neg (c := j = 3) e3]
      by_cases e1 : j = 1
      · subst e1
        rfl
      · rw [uw e1, if_neg e1]) hP hD hS hl
end INIM
