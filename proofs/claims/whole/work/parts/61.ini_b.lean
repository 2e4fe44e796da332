section INIS
theorem s00_p {j : Nat} (h : j < 24) : sx s00 2 j = -1 := by
  rw [sx_at (ix_p0 h)]
  unfold s00
  rw [if_neg (by omega), if_neg (by omega), if_pos (by omega)]
theorem s00_0 {j : Nat} (h : 29 ≤ j ∧ j < 125) : s00 j = 0 := by
  unfold s00
  rw [if_neg (by omega), if_neg (by omega), if_neg (by omega), if_neg (by omega)]
theorem s00_d {j : Nat} (h : j < 24) : sx s00 3 j = 0 := by
  rw [sx_at (ix_p1 h), s00_0 (by omega)]
theorem s00_w {j : Nat} (h : j < 24) : sx s00 4 j = 0 := by
  rw [sx_at (ix_p2 h), s00_0 (by omega)]
theorem s00_t {r j : Nat} (hr : r < 6) (h : j < 8) : sx s00 (6 + r) j = 0 := by
  rw [sx_at (ix_t hr h), s00_0 (by omega)]
theorem s00_s {j : Nat} (h : j < 10) : sx s00 12 j = -1 := by
  rw [sx_at (ix_sp h)]
  unfold s00
  rw [if_neg (by omega), if_neg (by omega), if_neg (by omega), if_pos (by omega)]
set_option maxHeartbeats 4000000 in
set_option maxRecDepth 100000 in
theorem c_X1_init (l : Launch) : InitC l yX1_init cX1_init 2 1 12 139 12 1 [.null, .null, .null, .int 0, .int 0, .int 0, .int 0, .int 0] (tbSh 0) (sx s00) (fun _ => True) := by
  intro D cI cII h0 sz
  refine Met.ofW (cc := cX1_init) (maxL := 2) (ret := none) (by decide) rfl ?_
  intro p e s m args below meth c s₁ B hml hv
  obtain ⟨rfl, hsz, hP, hK, hX⟩ := hv
  have hx := B.exec
  have hb := B.bytes
  have hr := B.returns
  have hts0 := atoms_spec (ws := Cond.code yX1_init cX1_init 2 none :: gw) B.pre
  have hts : ∀ w ∈ gw, w.before #[Value.ref h0] s = true := fun w hw => hts0 w (List.mem_cons_of_mem _ hw)
  have hown : s.vm.findClass RX1 = some m.cls := findClass_of_methodNamed B.named
  have hlocks := B.notSynchronized
  have hin : meth.name = "<init>" := (name_of_methodNamed B.named B.method).1
  subst hsz
  have hD : va_D (va_A [(h0, .inr (1, [.null, .null, .null, .int 0, .int 0, .int 0, .int 0, .int 0]))] s.heap.size) [(h0, .inr (1, [.null, .null, .null, .int 0, .int 0, .int 0, .int 0, .int 0]))] := D_one (Or.inl ⟨0, _, rfl⟩)
  generalize hAe : va_A [(h0, .inr (1, [.null, .null, .null, .int 0, .int 0, .int 0, .int 0, .int 0]))] s.heap.size = A at hD ⊢
  have hA : ∀ q : Nat, s.heap.size ≤ q → A q := fun q h => by rw [← hAe]; exact Or.inr h
  have hS : va_S A s.heap s.heap [] := va_S.rf
  have hP : va_P D vwCl [(h0, .inr (1, [.null, .null, .null, .int 0, .int 0, .int 0, .int 0, .int 0]))] s.heap := hP
  have hl := lv_entry ([.ref h0]) (n := 2) (Nat.le_of_ble_eq_true rfl)
  rw [lg_entry_eq]
  generalize (lg_sl ([.ref h0]) ++ List.replicate (2 - (lg_sl ([.ref h0])).length) Slot.unset).toArray = ls at hl ⊢
  have hl : lv_has ls 2 [(0, .ref h0)] := hl
  refine lv_aload_n hx hb dX1_init_0 rfl (lv_at hl 0 rfl) ?_
  refine W.objInit hx hb hown (hts _ (wq_t 26 (by decide +kernel) (by decide +kernel))) (hts _ (wq_t 19 (by decide +kernel) (by decide +kernel))) (hts (.code objectInit ⟨#[0xb1]⟩ 1 none) (wq_t 20 (by decide +kernel) (by decide +kernel))) rfl (by rw [hml]; exact hl.1) rfl dX1_init_1 (Nat.le_of_ble_eq_true rfl) (Nat.le_of_ble_eq_true rfl) ?_
  refine W.eq (g2 := F0 m 4 ls []) rfl ?_
  refine lv_aload_n hx hb dX1_init_4 rfl (lv_at hl 0 rfl) ?_
  refine lv_iconst (v := 3) hx hb dX1_init_5 (by decide) ?_
  refine lv_bipush (v := 24) hx hb dX1_init_6 (by decide) ?_
  refine va_mnaX hx hb hown (hts _ (wq_t 27 (by decide +kernel) (by decide +kernel))) (hts _ (wq_t 65 (by decide +kernel) (by decide +kernel))) hK hP hD hS hA 3 24 (by decide) (by decide) rfl rfl (by decide) (by decide) (Nat.le_of_ble_eq_true rfl) (Nat.le_of_ble_eq_true rfl) dX1_init_8 (fun q1 r1 H hP hD hS => ?_)
  have hP : va_P D vwCl [(h0, .inr (1, [.null, .null, .null, .int 0, .int 0, .int 0, .int 0, .int 0])), (q1, .inl (cII, 3, .inr (.inr (.inr (.inr (fun i => if i < 3 then some (r1 i) else none)))))), (r1 0, .inl (cI, 24, .inl (fun _ => 0))), (r1 1, .inl (cI, 24, .inl (fun _ => 0))), (r1 2, .inl (cI, 24, .inl (fun _ => 0)))] H := hP
  have hD : va_D A [(h0, .inr (1, [.null, .null, .null, .int 0, .int 0, .int 0, .int 0, .int 0])), (q1, .inl (cII, 3, .inr (.inr (.inr (.inr (fun i => if i < 3 then some (r1 i) else none)))))), (r1 0, .inl (cI, 24, .inl (fun _ => 0))), (r1 1, .inl (cI, 24, .inl (fun _ => 0))), (r1 2, .inl (cI, 24, .inl (fun _ => 0)))] := hD
  refine va_putF (D := D) (ci := 1) (v := .ref q1) (ty := .array (.array .int)) (C := RX1) (T := TX1) (N := 8) hx hb hts inX1 tyX1 tyX1_ok nmX1 hown hK.1 hP hD hS 0 rfl rfl 0 (by decide) (hts _ wd_29) (fun _ h9 => h9) rfl hin rfl (by decide +kernel) rfl rfl (Nat.le_of_ble_eq_true rfl) dX1_init_12 (fun H locs hP hD hS => ?_)
  have hP : va_P D vwCl [(h0, .inr (1, [.ref q1, .null, .null, .int 0, .int 0, .int 0, .int 0, .int 0])), (q1, .inl (cII, 3, .inr (.inr (.inr (.inr (fun i => if i < 3 then some (r1 i) else none)))))), (r1 0, .inl (cI, 24, .inl (fun _ => 0))), (r1 1, .inl (cI, 24, .inl (fun _ => 0))), (r1 2, .inl (cI, 24, .inl (fun _ => 0)))] H := hP
  have hD : va_D A [(h0, .inr (1, [.ref q1, .null, .null, .int 0, .int 0, .int 0, .int 0, .int 0])), (q1, .inl (cII, 3, .inr (.inr (.inr (.inr (fun i => if i < 3 then some (r1 i) else none)))))), (r1 0, .inl (cI, 24, .inl (fun _ => 0))), (r1 1, .inl (cI, 24, .inl (fun _ => 0))), (r1 2, .inl (cI, 24, .inl (fun _ => 0)))] := hD
  refine lv_aload_n hx hb dX1_init_15 rfl (lv_at hl 0 rfl) ?_
  refine lv_bipush (v := 6) hx hb dX1_init_16 (by decide) ?_
  refine lv_bipush (v := 8) hx hb dX1_init_18 (by decide) ?_
  refine va_mnaX hx hb hown (hts _ (wq_t 27 (by decide +kernel) (by decide +kernel))) (hts _ (wq_t 65 (by decide +kernel) (by decide +kernel))) hK hP hD hS hA 6 8 (by decide) (by decide) rfl rfl (by decide) (by decide) (Nat.le_of_ble_eq_true rfl) (Nat.le_of_ble_eq_true rfl) dX1_init_20 (fun q2 r2 H hP hD hS => ?_)
  have hP : va_P D vwCl [(h0, .inr (1, [.ref q1, .null, .null, .int 0, .int 0, .int 0, .int 0, .int 0])), (q1, .inl (cII, 3, .inr (.inr (.inr (.inr (fun i => if i < 3 then some (r1 i) else none)))))), (r1 0, .inl (cI, 24, .inl (fun _ => 0))), (r1 1, .inl (cI, 24, .inl (fun _ => 0))), (r1 2, .inl (cI, 24, .inl (fun _ => 0))), (q2, .inl (cII, 6, .inr (.inr (.inr (.inr (fun i => if i < 6 then some (r2 i) else none)))))), (r2 0, .inl (cI, 8, .inl (fun _ => 0))), (r2 1, .inl (cI, 8, .inl (fun _ => 0))), (r2 2, .inl (cI, 8, .inl (fun _ => 0))), (r2 3, .inl (cI, 8, .inl (fun _ => 0))), (r2 4, .inl (cI, 8, .inl (fun _ => 0))), (r2 5, .inl (cI, 8, .inl (fun _ => 0)))] H := hP
  have hD : va_D A [(h0, .inr (1, [.ref q1, .null, .null, .int 0, .int 0, .int 0, .int 0, .int 0])), (q1, .inl (cII, 3, .inr (.inr (.inr (.inr (fun i => if i < 3 then some (r1 i) else none)))))), (r1 0, .inl (cI, 24, .inl (fun _ => 0))), (r1 1, .inl (cI, 24, .inl (fun _ => 0))), (r1 2, .inl (cI, 24, .inl (fun _ => 0))), (q2, .inl (cII, 6, .inr (.inr (.inr (.inr (fun i => if i < 6 then some (r2 i) else none)))))), (r2 0, .inl (cI, 8, .inl (fun _ => 0))), (r2 1, .inl (cI, 8, .inl (fun _ => 0))), (r2 2, .inl (cI, 8, .inl (fun _ => 0))), (r2 3, .inl (cI, 8, .inl (fun _ => 0))), (r2 4, .inl (cI, 8, .inl (fun _ => 0))), (r2 5, .inl (cI, 8, .inl (fun _ => 0)))] := hD
  refine va_putF (D := D) (ci := 1) (v := .ref q2) (ty := .array (.array .int)) (C := RX1) (T := TX1) (N := 8) hx hb hts inX1 tyX1 tyX1_ok nmX1 hown hK.1 hP hD hS 0 rfl rfl 1 (by decide) (hts _ wd_31) (fun _ h9 => h9) rfl hin rfl (by decide +kernel) rfl rfl (Nat.le_of_ble_eq_true rfl) dX1_init_24 (fun H locs hP hD hS => ?_)
  have hP : va_P D vwCl [(h0, .inr (1, [.ref q1, .ref q2, .null, .int 0, .int 0, .int 0, .int 0, .int 0])), (q1, .inl (cII, 3, .inr (.inr (.inr (.inr (fun i => if i < 3 then some (r1 i) else none)))))), (r1 0, .inl (cI, 24, .inl (fun _ => 0))), (r1 1, .inl (cI, 24, .inl (fun _ => 0))), (r1 2, .inl (cI, 24, .inl (fun _ => 0))), (q2, .inl (cII, 6, .inr (.inr (.inr (.inr (fun i => if i < 6 then some (r2 i) else none)))))), (r2 0, .inl (cI, 8, .inl (fun _ => 0))), (r2 1, .inl (cI, 8, .inl (fun _ => 0))), (r2 2, .inl (cI, 8, .inl (fun _ => 0))), (r2 3, .inl (cI, 8, .inl (fun _ => 0))), (r2 4, .inl (cI, 8, .inl (fun _ => 0))), (r2 5, .inl (cI, 8, .inl (fun _ => 0)))] H := hP
  have hD : va_D A [(h0, .inr (1, [.ref q1, .ref q2, .null, .int 0, .int 0, .int 0, .int 0, .int 0])), (q1, .inl (cII, 3, .inr (.inr (.inr (.inr (fun i => if i < 3 then some (r1 i) else none)))))), (r1 0, .inl (cI, 24, .inl (fun _ => 0))), (r1 1, .inl (cI, 24, .inl (fun _ => 0))), (r1 2, .inl (cI, 24, .inl (fun _ => 0))), (q2, .inl (cII, 6, .inr (.inr (.inr (.inr (fun i => if i < 6 then some (r2 i) else none)))))), (r2 0, .inl (cI, 8, .inl (fun _ => 0))), (r2 1, .inl (cI, 8, .inl (fun _ => 0))), (r2 2, .inl (cI, 8, .inl (fun _ => 0))), (r2 3, .inl (cI, 8, .inl (fun _ => 0))), (r2 4, .inl (cI, 8, .inl (fun _ => 0))), (r2 5, .inl (cI, 8, .inl (fun _ => 0)))] := hD
  refine lv_aload_n hx hb dX1_init_27 rfl (lv_at hl 0 rfl) ?_
  refine lv_bipush (v := 10) hx hb dX1_init_28 (by decide) ?_
  refine va_newX hx hb (hts _ (wq_t 65 (by decide +kernel) (by decide +kernel))) hK hP hD hS hA 10 (by decide) rfl (by decide) (Nat.le_of_ble_eq_true rfl) (Nat.le_of_ble_eq_true rfl) dX1_init_30 (fun q3 H hP hD hS => ?_)
  have hP : va_P D vwCl [(h0, .inr (1, [.ref q1, .ref q2, .null, .int 0, .int 0, .int 0, .int 0, .int 0])), (q1, .inl (cII, 3, .inr (.inr (.inr (.inr (fun i => if i < 3 then some (r1 i) else none)))))), (r1 0, .inl (cI, 24, .inl (fun _ => 0))), (r1 1, .inl (cI, 24, .inl (fun _ => 0))), (r1 2, .inl (cI, 24, .inl (fun _ => 0))), (q2, .inl (cII, 6, .inr (.inr (.inr (.inr (fun i => if i < 6 then some (r2 i) else none)))))), (r2 0, .inl (cI, 8, .inl (fun _ => 0))), (r2 1, .inl (cI, 8, .inl (fun _ => 0))), (r2 2, .inl (cI, 8, .inl (fun _ => 0))), (r2 3, .inl (cI, 8, .inl (fun _ => 0))), (r2 4, .inl (cI, 8, .inl (fun _ => 0))), (r2 5, .inl (cI, 8, .inl (fun _ => 0))), (q3, .inl (cI, 10, .inl (fun _ => 0)))] H := hP
  have hD : va_D A [(h0, .inr (1, [.ref q1, .ref q2, .null, .int 0, .int 0, .int 0, .int 0, .int 0])), (q1, .inl (cII, 3, .inr (.inr (.inr (.inr (fun i => if i < 3 then some (r1 i) else none)))))), (r1 0, .inl (cI, 24, .inl (fun _ => 0))), (r1 1, .inl (cI, 24, .inl (fun _ => 0))), (r1 2, .inl (cI, 24, .inl (fun _ => 0))), (q2, .inl (cII, 6, .inr (.inr (.inr (.inr (fun i => if i < 6 then some (r2 i) else none)))))), (r2 0, .inl (cI, 8, .inl (fun _ => 0))), (r2 1, .inl (cI, 8, .inl (fun _ => 0))), (r2 2, .inl (cI, 8, .inl (fun _ => 0))), (r2 3, .inl (cI, 8, .inl (fun _ => 0))), (r2 4, .inl (cI, 8, .inl (fun _ => 0))), (r2 5, .inl (cI, 8, .inl (fun _ => 0))), (q3, .inl (cI, 10, .inl (fun _ => 0)))] := hD
  refine va_putF (D := D) (ci := 1) (v := .ref q3) (ty := .array .int) (C := RX1) (T := TX1) (N := 8) hx hb hts inX1 tyX1 tyX1_ok nmX1 hown hK.1 hP hD hS 0 rfl rfl 2 (by decide) (hts _ wd_34) (fun _ h9 => h9) rfl hin rfl (by decide +kernel) rfl rfl (Nat.le_of_ble_eq_true rfl) dX1_init_32 (fun H locs hP hD hS => ?_)
  have hP : va_P D vwCl [(h0, .inr (1, [.ref q1, .ref q2, .ref q3, .int 0, .int 0, .int 0, .int 0, .int 0])), (q1, .inl (cII, 3, .inr (.inr (.inr (.inr (fun i => if i < 3 then some (r1 i) else none)))))), (r1 0, .inl (cI, 24, .inl (fun _ => 0))), (r1 1, .inl (cI, 24, .inl (fun _ => 0))), (r1 2, .inl (cI, 24, .inl (fun _ => 0))), (q2, .inl (cII, 6, .inr (.inr (.inr (.inr (fun i => if i < 6 then some (r2 i) else none)))))), (r2 0, .inl (cI, 8, .inl (fun _ => 0))), (r2 1, .inl (cI, 8, .inl (fun _ => 0))), (r2 2, .inl (cI, 8, .inl (fun _ => 0))), (r2 3, .inl (cI, 8, .inl (fun _ => 0))), (r2 4, .inl (cI, 8, .inl (fun _ => 0))), (r2 5, .inl (cI, 8, .inl (fun _ => 0))), (q3, .inl (cI, 10, .inl (fun _ => 0)))] H := hP
  have hD : va_D A [(h0, .inr (1, [.ref q1, .ref q2, .ref q3, .int 0, .int 0, .int 0, .int 0, .int 0])), (q1, .inl (cII, 3, .inr (.inr (.inr (.inr (fun i => if i < 3 then some (r1 i) else none)))))), (r1 0, .inl (cI, 24, .inl (fun _ => 0))), (r1 1, .inl (cI, 24, .inl (fun _ => 0))), (r1 2, .inl (cI, 24, .inl (fun _ => 0))), (q2, .inl (cII, 6, .inr (.inr (.inr (.inr (fun i => if i < 6 then some (r2 i) else none)))))), (r2 0, .inl (cI, 8, .inl (fun _ => 0))), (r2 1, .inl (cI, 8, .inl (fun _ => 0))), (r2 2, .inl (cI, 8, .inl (fun _ => 0))), (r2 3, .inl (cI, 8, .inl (fun _ => 0))), (r2 4, .inl (cI, 8, .inl (fun _ => 0))), (r2 5, .inl (cI, 8, .inl (fun _ => 0))), (q3, .inl (cI, 10, .inl (fun _ => 0)))] := hD
  refine lv_aload_n hx hb dX1_init_35 rfl (lv_at hl 0 rfl) ?_
  refine lv_bipush (v := 8) hx hb dX1_init_36 (by decide) ?_
  refine va_put (D := D) (ci := 1) (v := .int 8) (ty := .int) (C := RX1) (T := TX1) (N := 8) hx hb hts inX1 tyX1 tyX1_ok nmX1 hown hK.1 hP hD hS 0 rfl rfl 4 (by decide) (hts _ wd_39) (fun _ h9 => h9) rfl (by decide +kernel) rfl rfl (Nat.le_of_ble_eq_true rfl) dX1_init_38 (fun H locs hP hD hS => ?_)
  have hP : va_P D vwCl [(h0, .inr (1, [.ref q1, .ref q2, .ref q3, .int 0, .int 8, .int 0, .int 0, .int 0])), (q1, .inl (cII, 3, .inr (.inr (.inr (.inr (fun i => if i < 3 then some (r1 i) else none)))))), (r1 0, .inl (cI, 24, .inl (fun _ => 0))), (r1 1, .inl (cI, 24, .inl (fun _ => 0))), (r1 2, .inl (cI, 24, .inl (fun _ => 0))), (q2, .inl (cII, 6, .inr (.inr (.inr (.inr (fun i => if i < 6 then some (r2 i) else none)))))), (r2 0, .inl (cI, 8, .inl (fun _ => 0))), (r2 1, .inl (cI, 8, .inl (fun _ => 0))), (r2 2, .inl (cI, 8, .inl (fun _ => 0))), (r2 3, .inl (cI, 8, .inl (fun _ => 0))), (r2 4, .inl (cI, 8, .inl (fun _ => 0))), (r2 5, .inl (cI, 8, .inl (fun _ => 0))), (q3, .inl (cI, 10, .inl (fun _ => 0)))] H := hP
  have hD : va_D A [(h0, .inr (1, [.ref q1, .ref q2, .ref q3, .int 0, .int 8, .int 0, .int 0, .int 0])), (q1, .inl (cII, 3, .inr (.inr (.inr (.inr (fun i => if i < 3 then some (r1 i) else none)))))), (r1 0, .inl (cI, 24, .inl (fun _ => 0))), (r1 1, .inl (cI, 24, .inl (fun _ => 0))), (r1 2, .inl (cI, 24, .inl (fun _ => 0))), (q2, .inl (cII, 6, .inr (.inr (.inr (.inr (fun i => if i < 6 then some (r2 i) else none)))))), (r2 0, .inl (cI, 8, .inl (fun _ => 0))), (r2 1, .inl (cI, 8, .inl (fun _ => 0))), (r2 2, .inl (cI, 8, .inl (fun _ => 0))), (r2 3, .inl (cI, 8, .inl (fun _ => 0))), (r2 4, .inl (cI, 8, .inl (fun _ => 0))), (r2 5, .inl (cI, 8, .inl (fun _ => 0))), (q3, .inl (cI, 10, .inl (fun _ => 0)))] := hD
  refine lv_aload_n hx hb dX1_init_41 rfl (lv_at hl 0 rfl) ?_
  refine lv_iconst (v := 1) hx hb dX1_init_42 (by decide) ?_
  refine va_put (D := D) (ci := 1) (v := .int 1) (ty := .int) (C := RX1) (T := TX1) (N := 8) hx hb hts inX1 tyX1 tyX1_ok nmX1 hown hK.1 hP hD hS 0 rfl rfl 7 (by decide) (hts _ wd_46) (fun _ h9 => h9) rfl (by decide +kernel) rfl rfl (Nat.le_of_ble_eq_true rfl) dX1_init_43 (fun H locs hP hD hS => ?_)
  have hP : va_P D vwCl [(h0, .inr (1, [.ref q1, .ref q2, .ref q3, .int 0, .int 8, .int 0, .int 0, .int 1])), (q1, .inl (cII, 3, .inr (.inr (.inr (.inr (fun i => if i < 3 then some (r1 i) else none)))))), (r1 0, .inl (cI, 24, .inl (fun _ => 0))), (r1 1, .inl (cI, 24, .inl (fun _ => 0))), (r1 2, .inl (cI, 24, .inl (fun _ => 0))), (q2, .inl (cII, 6, .inr (.inr (.inr (.inr (fun i => if i < 6 then some (r2 i) else none)))))), (r2 0, .inl (cI, 8, .inl (fun _ => 0))), (r2 1, .inl (cI, 8, .inl (fun _ => 0))), (r2 2, .inl (cI, 8, .inl (fun _ => 0))), (r2 3, .inl (cI, 8, .inl (fun _ => 0))), (r2 4, .inl (cI, 8, .inl (fun _ => 0))), (r2 5, .inl (cI, 8, .inl (fun _ => 0))), (q3, .inl (cI, 10, .inl (fun _ => 0)))] H := hP
  have hD : va_D A [(h0, .inr (1, [.ref q1, .ref q2, .ref q3, .int 0, .int 8, .int 0, .int 0, .int 1])), (q1, .inl (cII, 3, .inr (.inr (.inr (.inr (fun i => if i < 3 then some (r1 i) else none)))))), (r1 0, .inl (cI, 24, .inl (fun _ => 0))), (r1 1, .inl (cI, 24, .inl (fun _ => 0))), (r1 2, .inl (cI, 24, .inl (fun _ => 0))), (q2, .inl (cII, 6, .inr (.inr (.inr (.inr (fun i => if i < 6 then some (r2 i) else none)))))), (r2 0, .inl (cI, 8, .inl (fun _ => 0))), (r2 1, .inl (cI, 8, .inl (fun _ => 0))), (r2 2, .inl (cI, 8, .inl (fun _ => 0))), (r2 3, .inl (cI, 8, .inl (fun _ => 0))), (r2 4, .inl (cI, 8, .inl (fun _ => 0))), (r2 5, .inl (cI, 8, .inl (fun _ => 0))), (q3, .inl (cI, 10, .inl (fun _ => 0)))] := hD
  refine W.widen (k := 12) (n := 139) (Nat.le_of_ble_eq_true rfl) (Nat.le_of_ble_eq_true rfl) ?_
  have lp2 : ∀ (d i : Nat) (f0 f9 : Nat → Int32) (H : Heap) (locs : List Loc) (ls : Array Slot), i + d = 10 → (∀ j, j < 24 → f0 j = -1) → (∀ j, j < i → f9 j = -1) → va_P D vwCl [(h0, .inr (1, [.ref q1, .ref q2, .ref q3, .int 0, .int 8, .int 0, .int 0, .int 1])), (q1, .inl (cII, 3, .inr (.inr (.inr (.inr (fun i => if i < 3 then some (r1 i) else none)))))), (r1 0, .inl (cI, 24, .inl f0)), (r1 1, .inl (cI, 24, .inl (fun _ => 0))), (r1 2, .inl (cI, 24, .inl (fun _ => 0))), (q2, .inl (cII, 6, .inr (.inr (.inr (.inr (fun i => if i < 6 then some (r2 i) else none)))))), (r2 0, .inl (cI, 8, .inl (fun _ => 0))), (r2 1, .inl (cI, 8, .inl (fun _ => 0))), (r2 2, .inl (cI, 8, .inl (fun _ => 0))), (r2 3, .inl (cI, 8, .inl (fun _ => 0))), (r2 4, .inl (cI, 8, .inl (fun _ => 0))), (r2 5, .inl (cI, 8, .inl (fun _ => 0))), (q3, .inl (cI, 10, .inl f9))] H → va_D A [(h0, .inr (1, [.ref q1, .ref q2, .ref q3, .int 0, .int 8, .int 0, .int 0, .int 1])), (q1, .inl (cII, 3, .inr (.inr (.inr (.inr (fun i => if i < 3 then some (r1 i) else none)))))), (r1 0, .inl (cI, 24, .inl f0)), (r1 1, .inl (cI, 24, .inl (fun _ => 0))), (r1 2, .inl (cI, 24, .inl (fun _ => 0))), (q2, .inl (cII, 6, .inr (.inr (.inr (.inr (fun i => if i < 6 then some (r2 i) else none)))))), (r2 0, .inl (cI, 8, .inl (fun _ => 0))), (r2 1, .inl (cI, 8, .inl (fun _ => 0))), (r2 2, .inl (cI, 8, .inl (fun _ => 0))), (r2 3, .inl (cI, 8, .inl (fun _ => 0))), (r2 4, .inl (cI, 8, .inl (fun _ => 0))), (r2 5, .inl (cI, 8, .inl (fun _ => 0))), (q3, .inl (cI, 10, .inl f9))] → va_S A s.heap H locs → lv_has ls 2 [(1, .int (nI i)), (0, .ref h0)] → W p l e { frames := 1, cells := 12, slots := 139, locals := 12 } s m #[Value.ref h0] below meth c H locs 12 139 (MQ below (va_Qv (fun q : Nat → Nat => q 0 = h0) (fun q t => va_P D vwCl (wT (bq D cI cII q) (sx s00) (tbSh 0)) t.heap ∧ va_D A (wT (bq D cI cII q) (sx s00) (tbSh 0))) A) #[Value.ref h0] s 12 139 A) (F0 m 71 ls []) := by
    intro d
    induction d with
    | zero =>
      intro i f0 f9 H locs ls hi hf0 hf9 hP hD hS hl
      have ei : i = 10 := by omega
      subst ei
      refine lv_iload_n hx hb dX1_init_71 rfl (lv_at hl 0 rfl) ?_
      refine lv_bipush (v := 10) hx hb dX1_init_72 (by decide) ?_
      refine lv_icmp_ge (tgt := 90) hx hb dX1_init_74 (by decide) (fun _ => ?_) (fun c9 => absurd (Int32.le_refl _) c9)
      exact W.vret hx hb hr (fun t ht hW => ⟨⟨(fun k9 : Nat => [h0, q1, r1 0, r1 1, r1 2, q2, r2 0, r2 1, r2 2, r2 3, r2 4, r2 5, q3].getD k9 0), rfl, rfl, by rw [ht]; exact wT_of (fun k hk => by
        match k, hk with
        | 0, _ => exact hP 0 _ rfl
        | 1, _ => exact at_q (hP 1 _ rfl) (fun j hj => by
          match j, hj with
          | 0, _ => rfl
          | 1, _ => rfl
          | 2, _ => rfl
          | j + 3, hj => exact absurd hj (by omega))
        | 2, _ => exact at_i (hP 2 _ rfl) (fun j hj => (hf0 j hj).trans (s00_p hj).symm)
        | 3, _ => exact at_i (hP 3 _ rfl) (fun j hj => (s00_d hj).symm)
        | 4, _ => exact at_i (hP 4 _ rfl) (fun j hj => (s00_w hj).symm)
        | 5, _ => exact at_q (hP 5 _ rfl) (fun j hj => by
          match j, hj with
          | 0, _ => rfl
          | 1, _ => rfl
          | 2, _ => rfl
          | 3, _ => rfl
          | 4, _ => rfl
          | 5, _ => rfl
          | j + 6, hj => exact absurd hj (by omega))
        | 6, _ => exact at_i (hP 6 _ rfl) (fun j hj => (s00_t (r := 0) (by decide) hj).symm)
        | 7, _ => exact at_i (hP 7 _ rfl) (fun j hj => (s00_t (r := 1) (by decide) hj).symm)
        | 8, _ => exact at_i (hP 8 _ rfl) (fun j hj => (s00_t (r := 2) (by decide) hj).symm)
        | 9, _ => exact at_i (hP 9 _ rfl) (fun j hj => (s00_t (r := 3) (by decide) hj).symm)
        | 10, _ => exact at_i (hP 10 _ rfl) (fun j hj => (s00_t (r := 4) (by decide) hj).symm)
        | 11, _ => exact at_i (hP 11 _ rfl) (fun j hj => (s00_t (r := 5) (by decide) hj).symm)
        | 12, _ => exact at_i (hP 12 _ rfl) (fun j hj => (hf9 j hj).trans (s00_s hj).symm)
        | k + 13, hk => exact absurd (show k + 13 < 13 from hk) (by omega)), D_of hD [0, 1, 2, 3, 4, 5, 6, 7, 8, 9, 10, 11, 12] (by decide) rfl⟩, hS.F ht⟩) hS.2.2 dX1_init_90
    | succ d ih =>
      intro i f0 f9 H locs ls hi hf0 hf9 hP hD hS hl
      refine lv_iload_n hx hb dX1_init_71 rfl (lv_at hl 0 rfl) ?_
      refine lv_bipush (v := 10) hx hb dX1_init_72 (by decide) ?_
      refine lv_icmp_ge (tgt := 90) hx hb dX1_init_74 (by decide) (fun c9 => absurd c9 (nle_n (a := 10) (by omega) (by omega))) (fun _ => ?_)
      refine lv_aload_n hx hb dX1_init_77 rfl (lv_at hl 1 rfl) ?_
      refine va_get (D := D) (ci := 1) (v := .ref q3) (C := RX1) (T := TX1) (N := 8) hx hb hts inX1 hown hK.1 hP 0 rfl rfl 2 (by decide) (hts _ wd_34) (fun _ h9 => h9) rfl dX1_init_78 ?_
      refine lv_iload_n hx hb dX1_init_81 rfl (lv_at hl 0 rfl) ?_
      refine lv_iconst (v := -1) hx hb dX1_init_82 (by decide) ?_
      refine va_iast hx hb hK.1 hP hD hS 12 0 rfl rfl (inb_vp (inb_n (by omega) (by decide))) dX1_init_83 (fun H locs hP hD hS => ?_)
      rw [nI_clamp (by omega)] at hP hD
      have hP : va_P D vwCl [(h0, .inr (1, [.ref q1, .ref q2, .ref q3, .int 0, .int 8, .int 0, .int 0, .int 1])), (q1, .inl (cII, 3, .inr (.inr (.inr (.inr (fun i => if i < 3 then some (r1 i) else none)))))), (r1 0, .inl (cI, 24, .inl f0)), (r1 1, .inl (cI, 24, .inl (fun _ => 0))), (r1 2, .inl (cI, 24, .inl (fun _ => 0))), (q2, .inl (cII, 6, .inr (.inr (.inr (.inr (fun i => if i < 6 then some (r2 i) else none)))))), (r2 0, .inl (cI, 8, .inl (fun _ => 0))), (r2 1, .inl (cI, 8, .inl (fun _ => 0))), (r2 2, .inl (cI, 8, .inl (fun _ => 0))), (r2 3, .inl (cI, 8, .inl (fun _ => 0))), (r2 4, .inl (cI, 8, .inl (fun _ => 0))), (r2 5, .inl (cI, 8, .inl (fun _ => 0))), (q3, .inl (cI, 10, .inl (upd f9 i (-1))))] H := hP
      have hD : va_D A [(h0, .inr (1, [.ref q1, .ref q2, .ref q3, .int 0, .int 8, .int 0, .int 0, .int 1])), (q1, .inl (cII, 3, .inr (.inr (.inr (.inr (fun i => if i < 3 then some (r1 i) else none)))))), (r1 0, .inl (cI, 24, .inl f0)), (r1 1, .inl (cI, 24, .inl (fun _ => 0))), (r1 2, .inl (cI, 24, .inl (fun _ => 0))), (q2, .inl (cII, 6, .inr (.inr (.inr (.inr (fun i => if i < 6 then some (r2 i) else none)))))), (r2 0, .inl (cI, 8, .inl (fun _ => 0))), (r2 1, .inl (cI, 8, .inl (fun _ => 0))), (r2 2, .inl (cI, 8, .inl (fun _ => 0))), (r2 3, .inl (cI, 8, .inl (fun _ => 0))), (r2 4, .inl (cI, 8, .inl (fun _ => 0))), (r2 5, .inl (cI, 8, .inl (fun _ => 0))), (q3, .inl (cI, 10, .inl (upd f9 i (-1))))] := hD
      refine lv_iinc (v := nI (i + 1)) (lv' := [(1, .int (nI (i + 1))), (0, .ref h0)]) hx hb dX1_init_84 hl (k := 0) rfl (nI_add i 1) (by decide) rfl (fun ls hl => ?_)
      refine lv_goto (tgt := 71) hx hb dX1_init_87 (by decide) ?_
      exact ih (i + 1) f0 _ H locs ls (by omega) hf0 (fun j hj => by
        by_cases e9 : j = i
        · subst e9
          exact uu
        · exact (uw e9).trans (hf9 j (by omega))) hP hD hS hl
  have lp1 : ∀ (d i : Nat) (f0 : Nat → Int32) (H : Heap) (locs : List Loc) (ls : Array Slot), i + d = 24 → (∀ j, j < i → f0 j = -1) → va_P D vwCl [(h0, .inr (1, [.ref q1, .ref q2, .ref q3, .int 0, .int 8, .int 0, .int 0, .int 1])), (q1, .inl (cII, 3, .inr (.inr (.inr (.inr (fun i => if i < 3 then some (r1 i) else none)))))), (r1 0, .inl (cI, 24, .inl f0)), (r1 1, .inl (cI, 24, .inl (fun _ => 0))), (r1 2, .inl (cI, 24, .inl (fun _ => 0))), (q2, .inl (cII, 6, .inr (.inr (.inr (.inr (fun i => if i < 6 then some (r2 i) else none)))))), (r2 0, .inl (cI, 8, .inl (fun _ => 0))), (r2 1, .inl (cI, 8, .inl (fun _ => 0))), (r2 2, .inl (cI, 8, .inl (fun _ => 0))), (r2 3, .inl (cI, 8, .inl (fun _ => 0))), (r2 4, .inl (cI, 8, .inl (fun _ => 0))), (r2 5, .inl (cI, 8, .inl (fun _ => 0))), (q3, .inl (cI, 10, .inl (fun _ => 0)))] H → va_D A [(h0, .inr (1, [.ref q1, .ref q2, .ref q3, .int 0, .int 8, .int 0, .int 0, .int 1])), (q1, .inl (cII, 3, .inr (.inr (.inr (.inr (fun i => if i < 3 then some (r1 i) else none)))))), (r1 0, .inl (cI, 24, .inl f0)), (r1 1, .inl (cI, 24, .inl (fun _ => 0))), (r1 2, .inl (cI, 24, .inl (fun _ => 0))), (q2, .inl (cII, 6, .inr (.inr (.inr (.inr (fun i => if i < 6 then some (r2 i) else none)))))), (r2 0, .inl (cI, 8, .inl (fun _ => 0))), (r2 1, .inl (cI, 8, .inl (fun _ => 0))), (r2 2, .inl (cI, 8, .inl (fun _ => 0))), (r2 3, .inl (cI, 8, .inl (fun _ => 0))), (r2 4, .inl (cI, 8, .inl (fun _ => 0))), (r2 5, .inl (cI, 8, .inl (fun _ => 0))), (q3, .inl (cI, 10, .inl (fun _ => 0)))] → va_S A s.heap H locs → lv_has ls 2 [(1, .int (nI i)), (0, .ref h0)] → W p l e { frames := 1, cells := 12, slots := 139, locals := 12 } s m #[Value.ref h0] below meth c H locs 12 139 (MQ below (va_Qv (fun q : Nat → Nat => q 0 = h0) (fun q t => va_P D vwCl (wT (bq D cI cII q) (sx s00) (tbSh 0)) t.heap ∧ va_D A (wT (bq D cI cII q) (sx s00) (tbSh 0))) A) #[Value.ref h0] s 12 139 A) (F0 m 48 ls []) := by
    intro d
    induction d with
    | zero =>
      intro i f0 H locs ls hi hf0 hP hD hS hl
      have ei : i = 24 := by omega
      subst ei
      refine lv_iload_n hx hb dX1_init_48 rfl (lv_at hl 0 rfl) ?_
      refine lv_bipush (v := 24) hx hb dX1_init_49 (by decide) ?_
      refine lv_icmp_ge (tgt := 69) hx hb dX1_init_51 (by decide) (fun _ => ?_) (fun c9 => absurd (Int32.le_refl _) c9)
      refine lv_iconst (v := 0) hx hb dX1_init_69 (by decide) ?_
      refine lv_istore_n (lv' := [(1, .int (nI 0)), (0, .ref h0)]) hx hb dX1_init_70 rfl hl (by decide) rfl (fun ls hl => ?_)
      exact lp2 10 0 f0 (fun _ => 0) H locs ls (by omega) hf0 (fun j hj => absurd hj (by omega)) hP hD hS hl
    | succ d ih =>
      intro i f0 H locs ls hi hf0 hP hD hS hl
      refine lv_iload_n hx hb dX1_init_48 rfl (lv_at hl 0 rfl) ?_
      refine lv_bipush (v := 24) hx hb dX1_init_49 (by decide) ?_
      refine lv_icmp_ge (tgt := 69) hx hb dX1_init_51 (by decide) (fun c9 => absurd c9 (nle_n (a := 24) (by omega) (by omega))) (fun _ => ?_)
      refine lv_aload_n hx hb dX1_init_54 rfl (lv_at hl 1 rfl) ?_
      refine va_get (D := D) (ci := 1) (v := .ref q1) (C := RX1) (T := TX1) (N := 8) hx hb hts inX1 hown hK.1 hP 0 rfl rfl 0 (by decide) (hts _ wd_29) (fun _ h9 => h9) rfl dX1_init_55 ?_
      refine lv_iconst (v := 0) hx hb dX1_init_58 (by decide) ?_
      refine W.aald (v := .ref (r1 0)) (ty := .array .int) hx hb (hP 1 _ rfl) ((hK.1.2 1 (cII, .array .int) rfl).1 3 (fun j => va_rf (if j < 3 then some (r1 j) else none))) rfl (fun q => by cases q) (by show ¬ ((0 : Int32) < 0 ∨ (arrV _ _ _).slots.size ≤ _); rw [arrV_size]; exact (show ¬ ((0 : Int32) < 0 ∨ 3 ≤ (0 : Int32).toNatClampNeg) by decide)) (by show (arrV _ _ _).slots[_]? = _; rw [arrV_read _ _ (show (0 : Int32).toNatClampNeg < 3 by decide)]; rfl) rfl rfl dX1_init_59 ?_
      refine W.eq (g2 := F0 m 60 ls [.ref (r1 0)]) rfl ?_
      refine lv_iload_n hx hb dX1_init_60 rfl (lv_at hl 0 rfl) ?_
      refine lv_iconst (v := -1) hx hb dX1_init_61 (by decide) ?_
      refine va_iast hx hb hK.1 hP hD hS 2 0 rfl rfl (inb_vp (inb_n (by omega) (by decide))) dX1_init_62 (fun H locs hP hD hS => ?_)
      rw [nI_clamp (by omega)] at hP hD
      have hP : va_P D vwCl [(h0, .inr (1, [.ref q1, .ref q2, .ref q3, .int 0, .int 8, .int 0, .int 0, .int 1])), (q1, .inl (cII, 3, .inr (.inr (.inr (.inr (fun i => if i < 3 then some (r1 i) else none)))))), (r1 0, .inl (cI, 24, .inl (upd f0 i (-1)))), (r1 1, .inl (cI, 24, .inl (fun _ => 0))), (r1 2, .inl (cI, 24, .inl (fun _ => 0))), (q2, .inl (cII, 6, .inr (.inr (.inr (.inr (fun i => if i < 6 then some (r2 i) else none)))))), (r2 0, .inl (cI, 8, .inl (fun _ => 0))), (r2 1, .inl (cI, 8, .inl (fun _ => 0))), (r2 2, .inl (cI, 8, .inl (fun _ => 0))), (r2 3, .inl (cI, 8, .inl (fun _ => 0))), (r2 4, .inl (cI, 8, .inl (fun _ => 0))), (r2 5, .inl (cI, 8, .inl (fun _ => 0))), (q3, .inl (cI, 10, .inl (fun _ => 0)))] H := hP
      have hD : va_D A [(h0, .inr (1, [.ref q1, .ref q2, .ref q3, .int 0, .int 8, .int 0, .int 0, .int 1])), (q1, .inl (cII, 3, .inr (.inr (.inr (.inr (fun i => if i < 3 then some (r1 i) else none)))))), (r1 0, .inl (cI, 24, .inl (upd f0 i (-1)))), (r1 1, .inl (cI, 24, .inl (fun _ => 0))), (r1 2, .inl (cI, 24, .inl (fun _ => 0))), (q2, .inl (cII, 6, .inr (.inr (.inr (.inr (fun i => if i < 6 then some (r2 i) else none)))))), (r2 0, .inl (cI, 8, .inl (fun _ => 0))), (r2 1, .inl (cI, 8, .inl (fun _ => 0))), (r2 2, .inl (cI, 8, .inl (fun _ => 0))), (r2 3, .inl (cI, 8, .inl (fun _ => 0))), (r2 4, .inl (cI, 8, .inl (fun _ => 0))), (r2 5, .inl (cI, 8, .inl (fun _ => 0))), (q3, .inl (cI, 10, .inl (fun _ => 0)))] := hD
      refine lv_iinc (v := nI (i + 1)) (lv' := [(1, .int (nI (i + 1))), (0, .ref h0)]) hx hb dX1_init_63 hl (k := 0) rfl (nI_add i 1) (by decide) rfl (fun ls hl => ?_)
      refine lv_goto (tgt := 48) hx hb dX1_init_66 (by decide) ?_
      exact ih (i + 1) _ H locs ls (by omega) (fun j hj => by
        by_cases e9 : j = i
        · subst e9
          exact uu
        · exact (uw e9).trans (hf0 j (by omega))) hP hD hS hl
  refine lv_iconst (v := 0) hx hb dX1_init_46 (by decide) ?_
  refine lv_istore_n (lv' := [(1, .int (nI 0)), (0, .ref h0)]) hx hb dX1_init_47 rfl hl (by decide) rfl (fun ls hl => ?_)
  exact lp1 24 0 (fun _ => 0) H _ ls (by omega) (fun j hj => absurd hj (by omega)) hP hD hS hl
end INIS
