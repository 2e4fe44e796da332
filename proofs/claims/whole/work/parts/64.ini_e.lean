section INIP
def tbP : List TB := tbL.take 51
set_option maxHeartbeats 4000000 in
set_option maxRecDepth 100000 in
theorem c_X3_init (l : Launch) : InitC l yX3_init cX3_init 1 2 50 749 33 3 [.null, .null, .null, .int 0, .null, .null, .null] tbP (cq z00 s00 s00 s00) (fun U => va_Nw (.methodLinkNest RX3 24 yX2_init "PrintShore") U ∧ va_Nw (.methodLinkNest RX3 31 yX0_init "PrintShore") U) := by
  intro D cI cII h0 sz
  refine Met.ofW (cc := cX3_init) (maxL := 1) (ret := none) (by decide) rfl ?_
  intro p e s m args below meth c s₁ B hml hv
  obtain ⟨rfl, hsz, hP, hK, hX⟩ := hv
  have hx := B.exec
  have hb := B.bytes
  have hr := B.returns
  have hts0 := atoms_spec (ws := Cond.code yX3_init cX3_init 1 none :: gw) B.pre
  have hts : ∀ w ∈ gw, w.before #[Value.ref h0] s = true := fun w hw => hts0 w (List.mem_cons_of_mem _ hw)
  have hown : s.vm.findClass RX3 = some m.cls := findClass_of_methodNamed B.named
  have hlocks := B.notSynchronized
  have hin : meth.name = "<init>" := (name_of_methodNamed B.named B.method).1
  subst hsz
  have hD : va_D (va_A [(h0, .inr (3, [.null, .null, .null, .int 0, .null, .null, .null]))] s.heap.size) [(h0, .inr (3, [.null, .null, .null, .int 0, .null, .null, .null]))] := D_one (Or.inl ⟨0, _, rfl⟩)
  generalize hAe : va_A [(h0, .inr (3, [.null, .null, .null, .int 0, .null, .null, .null]))] s.heap.size = A at hD ⊢
  have hA : ∀ q : Nat, s.heap.size ≤ q → A q := fun q h => by rw [← hAe]; exact Or.inr h
  have hS : va_S A s.heap s.heap [] := va_S.rf
  have hP : va_P D vwCl [(h0, .inr (3, [.null, .null, .null, .int 0, .null, .null, .null]))] s.heap := hP
  have hl := lv_entry ([.ref h0]) (n := 1) (Nat.le_of_ble_eq_true rfl)
  rw [lg_entry_eq]
  generalize (lg_sl ([.ref h0]) ++ List.replicate (1 - (lg_sl ([.ref h0])).length) Slot.unset).toArray = ls at hl ⊢
  have hl : lv_has ls 1 [(0, .ref h0)] := hl
  refine lv_aload_n hx hb dX3_init_0 rfl (lv_at hl 0 rfl) ?_
  refine W.objInit hx hb hown (hts _ (wq_t 18 (by decide +kernel) (by decide +kernel))) (hts _ (wq_t 19 (by decide +kernel) (by decide +kernel))) (hts (.code objectInit ⟨#[0xb1]⟩ 1 none) (wq_t 20 (by decide +kernel) (by decide +kernel))) rfl (by rw [hml]; exact hl.1) rfl dX3_init_1 (Nat.le_of_ble_eq_true rfl) (Nat.le_of_ble_eq_true rfl) ?_
  refine W.eq (g2 := F0 m 4 ls []) rfl ?_
  refine lv_aload_n hx hb dX3_init_4 rfl (lv_at hl 0 rfl) ?_
  refine va_new (ci := 1) (fs := [.null, .null, .null, .int 0, .int 0, .int 0, .int 0, .int 0]) (C := RX1) (T := TX1) (N := 8) hx hb hts inX1 tyX1 tyX1_ok hown (hts _ (wq_t 21 (by decide +kernel) (by decide +kernel))) (hts _ (wq_t 22 (by decide +kernel) (by decide +kernel))) (hts _ (wq_t 2 (by decide +kernel) (by decide +kernel))) hK.1 hP hD hS hA rfl (fun j hj => by rcases (show j = 0 ∨ j = 1 ∨ j = 2 ∨ j = 3 ∨ j = 4 ∨ j = 5 ∨ j = 6 ∨ j = 7 by omega) with rfl | rfl | rfl | rfl | rfl | rfl | rfl | rfl <;> rfl) (Nat.le_of_ble_eq_true rfl) (Nat.le_of_ble_eq_true rfl) dX3_init_5 (fun n1 H hP hD hS => ?_)
  have hP : va_P D vwCl ([(h0, .inr (3, [.null, .null, .null, .int 0, .null, .null, .null]))] ++ [(n1, .inr (1, [.null, .null, .null, .int 0, .int 0, .int 0, .int 0, .int 0]))]) H := hP
  have hD : va_D A ([(h0, .inr (3, [.null, .null, .null, .int 0, .null, .null, .null]))] ++ [(n1, .inr (1, [.null, .null, .null, .int 0, .int 0, .int 0, .int 0, .int 0]))]) := hD
  refine lv_dup hx hb dX3_init_8 rfl ?_
  have hPc := hP.sub (ws' := [(n1, .inr (1, [.null, .null, .null, .int 0, .int 0, .int 0, .int 0, .int 0]))]) [1] rfl
  have hFc := va_free (wc := [(n1, .inr (1, [.null, .null, .null, .int 0, .int 0, .int 0, .int 0, .int 0]))]) hD hS hA [1] rfl
  refine va_callv (va_runI (As := []) (rest := [.ref n1, .ref h0]) ⟨hx, hb, hml, hown, hts⟩ (c_X1_init l D cI cII n1 H.size) (cwI 0 hts (good_gw (show Cond.code yX1_init cX1_init 2 none ∈ gw from wq_t 25 (by decide +kernel) (by decide +kernel))) rfl rfl rfl (hts _ (wq_t 2 (by decide +kernel) (by decide +kernel))) (hts _ (wq_t 23 (by decide +kernel) (by decide +kernel))) (hts _ (wq_t 24 (by decide +kernel) (by decide +kernel))) rfl (by decide +kernel) ⟨(Nat.le_of_ble_eq_true rfl), (Nat.le_of_ble_eq_true rfl)⟩) ⟨fun a U g mk q => by obtain ⟨q0, q1, qP, qK, qX⟩ := q; exact ⟨q0, q1, qP, qK.moved (u := U) (U := U.calling g mk a) (Vm.Alike.refl U.vm), qX⟩, fun U hU hW => ⟨rfl, by rw [hU], by rw [hU]; exact hPc, hK.moved hW.alike, trivial⟩⟩ rfl rfl hl.1 rfl (lv_room (Nat.le_of_ble_eq_true rfl)) dX3_init_9 ⟨(Nat.le_of_ble_eq_true rfl), (Nat.le_of_ble_eq_true rfl)⟩) hS (fun q _ h => hFc q h) hFc (fun u1 t H1 locs ht hvm hw hB hz1 hk1 hS => ?_)
  obtain ⟨hP1, hD1⟩ := hB
  rw [ht] at hP1
  obtain ⟨hP5, hD5⟩ := va_join (wr := ([(h0, .inr (3, [.null, .null, .null, .int 0, .null, .null, .null]))])) (w1 := wT (bq D cI cII u1) (sx s00) (tbSh 0)) hP hD [1] [0] rfl rfl (by decide) (by decide) hk1 hFc hP1 hD1
  generalize H1 = H at hP5 hS ⊢
  have hw : u1 0 = n1 := hw
  subst hw
  have hP : va_P D vwCl ([(h0, .inr (3, [.null, .null, .null, .int 0, .null, .null, .null]))] ++ wT (bq D cI cII u1) (sx s00) (tbSh 0)) H := hP5
  have hD : va_D A ([(h0, .inr (3, [.null, .null, .null, .int 0, .null, .null, .null]))] ++ wT (bq D cI cII u1) (sx s00) (tbSh 0)) := hD5
  refine va_putF (D := D) (ci := 3) (v := .ref (u1 0)) (ty := .object "PrintShore$Shore") (C := RX3) (T := TX3) (N := 7) hx hb hts inX3 tyX3 tyX3_ok nmX3 hown hK.1 hP hD hS 0 rfl rfl 0 (by decide) (hts _ wd_112) (fun _ h9 => h9) rfl hin rfl (by decide +kernel) rfl rfl (Nat.le_of_ble_eq_true rfl) dX3_init_12 (fun H locs hP hD hS => ?_)
  have hP : va_P D vwCl ([(h0, .inr (3, [.ref (u1 0), .null, .null, .int 0, .null, .null, .null]))] ++ wT (bq D cI cII u1) (sx s00) (tbSh 0)) H := hP
  have hD : va_D A ([(h0, .inr (3, [.ref (u1 0), .null, .null, .int 0, .null, .null, .null]))] ++ wT (bq D cI cII u1) (sx s00) (tbSh 0)) := hD
  refine lv_aload_n hx hb dX3_init_15 rfl (lv_at hl 0 rfl) ?_
  refine va_new (ci := 1) (fs := [.null, .null, .null, .int 0, .int 0, .int 0, .int 0, .int 0]) (C := RX1) (T := TX1) (N := 8) hx hb hts inX1 tyX1 tyX1_ok hown (hts _ (wq_t 21 (by decide +kernel) (by decide +kernel))) (hts _ (wq_t 22 (by decide +kernel) (by decide +kernel))) (hts _ (wq_t 2 (by decide +kernel) (by decide +kernel))) hK.1 hP hD hS hA rfl (fun j hj => by rcases (show j = 0 ∨ j = 1 ∨ j = 2 ∨ j = 3 ∨ j = 4 ∨ j = 5 ∨ j = 6 ∨ j = 7 by omega) with rfl | rfl | rfl | rfl | rfl | rfl | rfl | rfl <;> rfl) (Nat.le_of_ble_eq_true rfl) (Nat.le_of_ble_eq_true rfl) dX3_init_16 (fun n2 H hP hD hS => ?_)
  have hP : va_P D vwCl ([(h0, .inr (3, [.ref (u1 0), .null, .null, .int 0, .null, .null, .null]))] ++ wT (bq D cI cII u1) (sx s00) (tbSh 0) ++ [(n2, .inr (1, [.null, .null, .null, .int 0, .int 0, .int 0, .int 0, .int 0]))]) H := hP
  have hD : va_D A ([(h0, .inr (3, [.ref (u1 0), .null, .null, .int 0, .null, .null, .null]))] ++ wT (bq D cI cII u1) (sx s00) (tbSh 0) ++ [(n2, .inr (1, [.null, .null, .null, .int 0, .int 0, .int 0, .int 0, .int 0]))]) := hD
  refine lv_dup hx hb dX3_init_19 rfl ?_
  have hPc := hP.sub (ws' := [(n2, .inr (1, [.null, .null, .null, .int 0, .int 0, .int 0, .int 0, .int 0]))]) [14] rfl
  have hFc := va_free (wc := [(n2, .inr (1, [.null, .null, .null, .int 0, .int 0, .int 0, .int 0, .int 0]))]) hD hS hA [14] rfl
  refine va_callv (va_runI (As := []) (rest := [.ref n2, .ref h0]) ⟨hx, hb, hml, hown, hts⟩ (c_X1_init l D cI cII n2 H.size) (cwI 0 hts (good_gw (show Cond.code yX1_init cX1_init 2 none ∈ gw from wq_t 25 (by decide +kernel) (by decide +kernel))) rfl rfl rfl (hts _ (wq_t 2 (by decide +kernel) (by decide +kernel))) (hts _ (wq_t 23 (by decide +kernel) (by decide +kernel))) (hts _ (wq_t 24 (by decide +kernel) (by decide +kernel))) rfl (by decide +kernel) ⟨(Nat.le_of_ble_eq_true rfl), (Nat.le_of_ble_eq_true rfl)⟩) ⟨fun a U g mk q => by obtain ⟨q0, q1, qP, qK, qX⟩ := q; exact ⟨q0, q1, qP, qK.moved (u := U) (U := U.calling g mk a) (Vm.Alike.refl U.vm), qX⟩, fun U hU hW => ⟨rfl, by rw [hU], by rw [hU]; exact hPc, hK.moved hW.alike, trivial⟩⟩ rfl rfl hl.1 rfl (lv_room (Nat.le_of_ble_eq_true rfl)) dX3_init_20 ⟨(Nat.le_of_ble_eq_true rfl), (Nat.le_of_ble_eq_true rfl)⟩) hS (fun q _ h => hFc q h) hFc (fun u2 t H1 locs ht hvm hw hB hz1 hk1 hS => ?_)
  obtain ⟨hP1, hD1⟩ := hB
  rw [ht] at hP1
  obtain ⟨hP5, hD5⟩ := va_join (wr := ([(h0, .inr (3, [.ref (u1 0), .null, .null, .int 0, .null, .null, .null]))] ++ wT (bq D cI cII u1) (sx s00) (tbSh 0))) (w1 := wT (bq D cI cII u2) (sx s00) (tbSh 0)) hP hD [14] [0, 1, 2, 3, 4, 5, 6, 7, 8, 9, 10, 11, 12, 13] rfl rfl (by decide) (by decide) hk1 hFc hP1 hD1
  generalize H1 = H at hP5 hS ⊢
  have hw : u2 0 = n2 := hw
  subst hw
  have hP : va_P D vwCl ([(h0, .inr (3, [.ref (u1 0), .null, .null, .int 0, .null, .null, .null]))] ++ wT (bq D cI cII u1) (sx s00) (tbSh 0) ++ wT (bq D cI cII u2) (sx s00) (tbSh 0)) H := hP5
  have hD : va_D A ([(h0, .inr (3, [.ref (u1 0), .null, .null, .int 0, .null, .null, .null]))] ++ wT (bq D cI cII u1) (sx s00) (tbSh 0) ++ wT (bq D cI cII u2) (sx s00) (tbSh 0)) := hD5
  refine va_putF (D := D) (ci := 3) (v := .ref (u2 0)) (ty := .object "PrintShore$Shore") (C := RX3) (T := TX3) (N := 7) hx hb hts inX3 tyX3 tyX3_ok nmX3 hown hK.1 hP hD hS 0 rfl rfl 1 (by decide) (hts _ wd_113) (fun _ h9 => h9) rfl hin rfl (by decide +kernel) rfl rfl (Nat.le_of_ble_eq_true rfl) dX3_init_23 (fun H locs hP hD hS => ?_)
  have hP : va_P D vwCl ([(h0, .inr (3, [.ref (u1 0), .ref (u2 0), .null, .int 0, .null, .null, .null]))] ++ wT (bq D cI cII u1) (sx s00) (tbSh 0) ++ wT (bq D cI cII u2) (sx s00) (tbSh 0)) H := hP
  have hD : va_D A ([(h0, .inr (3, [.ref (u1 0), .ref (u2 0), .null, .int 0, .null, .null, .null]))] ++ wT (bq D cI cII u1) (sx s00) (tbSh 0) ++ wT (bq D cI cII u2) (sx s00) (tbSh 0)) := hD
  refine lv_aload_n hx hb dX3_init_26 rfl (lv_at hl 0 rfl) ?_
  refine va_new (ci := 1) (fs := [.null, .null, .null, .int 0, .int 0, .int 0, .int 0, .int 0]) (C := RX1) (T := TX1) (N := 8) hx hb hts inX1 tyX1 tyX1_ok hown (hts _ (wq_t 21 (by decide +kernel) (by decide +kernel))) (hts _ (wq_t 22 (by decide +kernel) (by decide +kernel))) (hts _ (wq_t 2 (by decide +kernel) (by decide +kernel))) hK.1 hP hD hS hA rfl (fun j hj => by rcases (show j = 0 ∨ j = 1 ∨ j = 2 ∨ j = 3 ∨ j = 4 ∨ j = 5 ∨ j = 6 ∨ j = 7 by omega) with rfl | rfl | rfl | rfl | rfl | rfl | rfl | rfl <;> rfl) (Nat.le_of_ble_eq_true rfl) (Nat.le_of_ble_eq_true rfl) dX3_init_27 (fun n3 H hP hD hS => ?_)
  have hP : va_P D vwCl ([(h0, .inr (3, [.ref (u1 0), .ref (u2 0), .null, .int 0, .null, .null, .null]))] ++ wT (bq D cI cII u1) (sx s00) (tbSh 0) ++ wT (bq D cI cII u2) (sx s00) (tbSh 0) ++ [(n3, .inr (1, [.null, .null, .null, .int 0, .int 0, .int 0, .int 0, .int 0]))]) H := hP
  have hD : va_D A ([(h0, .inr (3, [.ref (u1 0), .ref (u2 0), .null, .int 0, .null, .null, .null]))] ++ wT (bq D cI cII u1) (sx s00) (tbSh 0) ++ wT (bq D cI cII u2) (sx s00) (tbSh 0) ++ [(n3, .inr (1, [.null, .null, .null, .int 0, .int 0, .int 0, .int 0, .int 0]))]) := hD
  refine lv_dup hx hb dX3_init_30 rfl ?_
  have hPc := hP.sub (ws' := [(n3, .inr (1, [.null, .null, .null, .int 0, .int 0, .int 0, .int 0, .int 0]))]) [27] rfl
  have hFc := va_free (wc := [(n3, .inr (1, [.null, .null, .null, .int 0, .int 0, .int 0, .int 0, .int 0]))]) hD hS hA [27] rfl
  refine va_callv (va_runI (As := []) (rest := [.ref n3, .ref h0]) ⟨hx, hb, hml, hown, hts⟩ (c_X1_init l D cI cII n3 H.size) (cwI 0 hts (good_gw (show Cond.code yX1_init cX1_init 2 none ∈ gw from wq_t 25 (by decide +kernel) (by decide +kernel))) rfl rfl rfl (hts _ (wq_t 2 (by decide +kernel) (by decide +kernel))) (hts _ (wq_t 23 (by decide +kernel) (by decide +kernel))) (hts _ (wq_t 24 (by decide +kernel) (by decide +kernel))) rfl (by decide +kernel) ⟨(Nat.le_of_ble_eq_true rfl), (Nat.le_of_ble_eq_true rfl)⟩) ⟨fun a U g mk q => by obtain ⟨q0, q1, qP, qK, qX⟩ := q; exact ⟨q0, q1, qP, qK.moved (u := U) (U := U.calling g mk a) (Vm.Alike.refl U.vm), qX⟩, fun U hU hW => ⟨rfl, by rw [hU], by rw [hU]; exact hPc, hK.moved hW.alike, trivial⟩⟩ rfl rfl hl.1 rfl (lv_room (Nat.le_of_ble_eq_true rfl)) dX3_init_31 ⟨(Nat.le_of_ble_eq_true rfl), (Nat.le_of_ble_eq_true rfl)⟩) hS (fun q _ h => hFc q h) hFc (fun u3 t H1 locs ht hvm hw hB hz1 hk1 hS => ?_)
  obtain ⟨hP1, hD1⟩ := hB
  rw [ht] at hP1
  obtain ⟨hP5, hD5⟩ := va_join (wr := ([(h0, .inr (3, [.ref (u1 0), .ref (u2 0), .null, .int 0, .null, .null, .null]))] ++ wT (bq D cI cII u1) (sx s00) (tbSh 0) ++ wT (bq D cI cII u2) (sx s00) (tbSh 0))) (w1 := wT (bq D cI cII u3) (sx s00) (tbSh 0)) hP hD [27] [0, 1, 2, 3, 4, 5, 6, 7, 8, 9, 10, 11, 12, 13, 14, 15, 16, 17, 18, 19, 20, 21, 22, 23, 24, 25, 26] rfl rfl (by decide) (by decide) hk1 hFc hP1 hD1
  generalize H1 = H at hP5 hS ⊢
  have hw : u3 0 = n3 := hw
  subst hw
  have hP : va_P D vwCl ([(h0, .inr (3, [.ref (u1 0), .ref (u2 0), .null, .int 0, .null, .null, .null]))] ++ wT (bq D cI cII u1) (sx s00) (tbSh 0) ++ wT (bq D cI cII u2) (sx s00) (tbSh 0) ++ wT (bq D cI cII u3) (sx s00) (tbSh 0)) H := hP5
  have hD : va_D A ([(h0, .inr (3, [.ref (u1 0), .ref (u2 0), .null, .int 0, .null, .null, .null]))] ++ wT (bq D cI cII u1) (sx s00) (tbSh 0) ++ wT (bq D cI cII u2) (sx s00) (tbSh 0) ++ wT (bq D cI cII u3) (sx s00) (tbSh 0)) := hD5
  refine va_putF (D := D) (ci := 3) (v := .ref (u3 0)) (ty := .object "PrintShore$Shore") (C := RX3) (T := TX3) (N := 7) hx hb hts inX3 tyX3 tyX3_ok nmX3 hown hK.1 hP hD hS 0 rfl rfl 2 (by decide) (hts _ wd_114) (fun _ h9 => h9) rfl hin rfl (by decide +kernel) rfl rfl (Nat.le_of_ble_eq_true rfl) dX3_init_34 (fun H locs hP hD hS => ?_)
  have hP : va_P D vwCl ([(h0, .inr (3, [.ref (u1 0), .ref (u2 0), .ref (u3 0), .int 0, .null, .null, .null]))] ++ wT (bq D cI cII u1) (sx s00) (tbSh 0) ++ wT (bq D cI cII u2) (sx s00) (tbSh 0) ++ wT (bq D cI cII u3) (sx s00) (tbSh 0)) H := hP
  have hD : va_D A ([(h0, .inr (3, [.ref (u1 0), .ref (u2 0), .ref (u3 0), .int 0, .null, .null, .null]))] ++ wT (bq D cI cII u1) (sx s00) (tbSh 0) ++ wT (bq D cI cII u2) (sx s00) (tbSh 0) ++ wT (bq D cI cII u3) (sx s00) (tbSh 0)) := hD
  refine lv_aload_n hx hb dX3_init_37 rfl (lv_at hl 0 rfl) ?_
  refine va_new (ci := 2) (fs := [.null, .int 0, .int 0, .int 0, .int 0, .int 0]) (C := RX2) (T := TX2) (N := 6) hx hb hts inX2 tyX2 tyX2_ok hown (hts _ (wq_t 66 (by decide +kernel) (by decide +kernel))) (hts _ (wq_t 67 (by decide +kernel) (by decide +kernel))) (hts _ (wq_t 3 (by decide +kernel) (by decide +kernel))) hK.1 hP hD hS hA rfl (fun j hj => by rcases (show j = 0 ∨ j = 1 ∨ j = 2 ∨ j = 3 ∨ j = 4 ∨ j = 5 by omega) with rfl | rfl | rfl | rfl | rfl | rfl <;> rfl) (Nat.le_of_ble_eq_true rfl) (Nat.le_of_ble_eq_true rfl) dX3_init_38 (fun n4 H hP hD hS => ?_)
  have hP : va_P D vwCl ([(h0, .inr (3, [.ref (u1 0), .ref (u2 0), .ref (u3 0), .int 0, .null, .null, .null]))] ++ wT (bq D cI cII u1) (sx s00) (tbSh 0) ++ wT (bq D cI cII u2) (sx s00) (tbSh 0) ++ wT (bq D cI cII u3) (sx s00) (tbSh 0) ++ [(n4, .inr (2, [.null, .int 0, .int 0, .int 0, .int 0, .int 0]))]) H := hP
  have hD : va_D A ([(h0, .inr (3, [.ref (u1 0), .ref (u2 0), .ref (u3 0), .int 0, .null, .null, .null]))] ++ wT (bq D cI cII u1) (sx s00) (tbSh 0) ++ wT (bq D cI cII u2) (sx s00) (tbSh 0) ++ wT (bq D cI cII u3) (sx s00) (tbSh 0) ++ [(n4, .inr (2, [.null, .int 0, .int 0, .int 0, .int 0, .int 0]))]) := hD
  refine lv_dup hx hb dX3_init_41 rfl ?_
  have hPc := hP.sub (ws' := [(n4, .inr (2, [.null, .int 0, .int 0, .int 0, .int 0, .int 0]))]) [40] rfl
  have hFc := va_free (wc := [(n4, .inr (2, [.null, .int 0, .int 0, .int 0, .int 0, .int 0]))]) hD hS hA [40] rfl
  refine va_callv (va_runIN (As := []) (rest := [.ref n4, .ref h0]) ⟨hx, hb, hml, hown, hts⟩ (c_X2_init l D cI cII n4 H.size) ⟨va_cnB 0 hts (good_gw (show Cond.code yX2_init cX2_init 1 none ∈ gw from wq_t 70 (by decide +kernel) (by decide +kernel))) rfl rfl rfl hX.1 (hts _ (wq_t 3 (by decide +kernel) (by decide +kernel))) (by decide +kernel) ⟨(Nat.le_of_ble_eq_true rfl), (Nat.le_of_ble_eq_true rfl)⟩, rfl, hts _ (wq_t 69 (by decide +kernel) (by decide +kernel))⟩ ⟨fun a U g mk q => by obtain ⟨q0, q1, qP, qK, qX⟩ := q; exact ⟨q0, q1, qP, qK.moved (u := U) (U := U.calling g mk a) (Vm.Alike.refl U.vm), qX⟩, fun U hU hW => ⟨rfl, by rw [hU], by rw [hU]; exact hPc, hK.moved hW.alike, trivial⟩⟩ rfl rfl hl.1 rfl (lv_room (Nat.le_of_ble_eq_true rfl)) dX3_init_42 ⟨(Nat.le_of_ble_eq_true rfl), (Nat.le_of_ble_eq_true rfl)⟩) hS (fun q _ h => hFc q h) hFc (fun u4 t H1 locs ht hvm hw hB hz1 hk1 hS => ?_)
  obtain ⟨hP1, hD1⟩ := hB
  rw [ht] at hP1
  obtain ⟨hP5, hD5⟩ := va_join (wr := ([(h0, .inr (3, [.ref (u1 0), .ref (u2 0), .ref (u3 0), .int 0, .null, .null, .null]))] ++ wT (bq D cI cII u1) (sx s00) (tbSh 0) ++ wT (bq D cI cII u2) (sx s00) (tbSh 0) ++ wT (bq D cI cII u3) (sx s00) (tbSh 0))) (w1 := wT (bq D cI cII u4) z00 tbT) hP hD [40] [0, 1, 2, 3, 4, 5, 6, 7, 8, 9, 10, 11, 12, 13, 14, 15, 16, 17, 18, 19, 20, 21, 22, 23, 24, 25, 26, 27, 28, 29, 30, 31, 32, 33, 34, 35, 36, 37, 38, 39] rfl rfl (by decide) (by decide) hk1 hFc hP1 hD1
  generalize H1 = H at hP5 hS ⊢
  have hw : u4 0 = n4 := hw
  subst hw
  have hP : va_P D vwCl ([(h0, .inr (3, [.ref (u1 0), .ref (u2 0), .ref (u3 0), .int 0, .null, .null, .null]))] ++ wT (bq D cI cII u1) (sx s00) (tbSh 0) ++ wT (bq D cI cII u2) (sx s00) (tbSh 0) ++ wT (bq D cI cII u3) (sx s00) (tbSh 0) ++ wT (bq D cI cII u4) z00 tbT) H := hP5
  have hD : va_D A ([(h0, .inr (3, [.ref (u1 0), .ref (u2 0), .ref (u3 0), .int 0, .null, .null, .null]))] ++ wT (bq D cI cII u1) (sx s00) (tbSh 0) ++ wT (bq D cI cII u2) (sx s00) (tbSh 0) ++ wT (bq D cI cII u3) (sx s00) (tbSh 0) ++ wT (bq D cI cII u4) z00 tbT) := hD5
  refine va_putF (D := D) (ci := 3) (v := .ref (u4 0)) (ty := .object "PrintShore$Tape") (C := RX3) (T := TX3) (N := 7) hx hb hts inX3 tyX3 tyX3_ok nmX3 hown hK.1 hP hD hS 0 rfl rfl 4 (by decide) (hts _ wd_116) (fun _ h9 => h9) rfl hin rfl (by decide +kernel) rfl rfl (Nat.le_of_ble_eq_true rfl) dX3_init_45 (fun H locs hP hD hS => ?_)
  have hP : va_P D vwCl ([(h0, .inr (3, [.ref (u1 0), .ref (u2 0), .ref (u3 0), .int 0, .ref (u4 0), .null, .null]))] ++ wT (bq D cI cII u1) (sx s00) (tbSh 0) ++ wT (bq D cI cII u2) (sx s00) (tbSh 0) ++ wT (bq D cI cII u3) (sx s00) (tbSh 0) ++ wT (bq D cI cII u4) z00 tbT) H := hP
  have hD : va_D A ([(h0, .inr (3, [.ref (u1 0), .ref (u2 0), .ref (u3 0), .int 0, .ref (u4 0), .null, .null]))] ++ wT (bq D cI cII u1) (sx s00) (tbSh 0) ++ wT (bq D cI cII u2) (sx s00) (tbSh 0) ++ wT (bq D cI cII u3) (sx s00) (tbSh 0) ++ wT (bq D cI cII u4) z00 tbT) := hD
  refine lv_aload_n hx hb dX3_init_48 rfl (lv_at hl 0 rfl) ?_
  refine va_new (ci := 0) (fs := [.null, .null, .null]) (C := RX0) (T := TX0) (N := 3) hx hb hts inX0 tyX0 tyX0_ok hown (hts _ (wq_t 92 (by decide +kernel) (by decide +kernel))) (hts _ (wq_t 93 (by decide +kernel) (by decide +kernel))) (hts _ (wq_t 4 (by decide +kernel) (by decide +kernel))) hK.1 hP hD hS hA rfl (fun j hj => by rcases (show j = 0 ∨ j = 1 ∨ j = 2 by omega) with rfl | rfl | rfl <;> rfl) (Nat.le_of_ble_eq_true rfl) (Nat.le_of_ble_eq_true rfl) dX3_init_49 (fun n5 H hP hD hS => ?_)
  have hP : va_P D vwCl ([(h0, .inr (3, [.ref (u1 0), .ref (u2 0), .ref (u3 0), .int 0, .ref (u4 0), .null, .null]))] ++ wT (bq D cI cII u1) (sx s00) (tbSh 0) ++ wT (bq D cI cII u2) (sx s00) (tbSh 0) ++ wT (bq D cI cII u3) (sx s00) (tbSh 0) ++ wT (bq D cI cII u4) z00 tbT ++ [(n5, .inr (0, [.null, .null, .null]))]) H := hP
  have hD : va_D A ([(h0, .inr (3, [.ref (u1 0), .ref (u2 0), .ref (u3 0), .int 0, .ref (u4 0), .null, .null]))] ++ wT (bq D cI cII u1) (sx s00) (tbSh 0) ++ wT (bq D cI cII u2) (sx s00) (tbSh 0) ++ wT (bq D cI cII u3) (sx s00) (tbSh 0) ++ wT (bq D cI cII u4) z00 tbT ++ [(n5, .inr (0, [.null, .null, .null]))]) := hD
  refine lv_dup hx hb dX3_init_52 rfl ?_
  have hPc := hP.sub (ws' := [(n5, .inr (0, [.null, .null, .null]))]) [42] rfl
  have hFc := va_free (wc := [(n5, .inr (0, [.null, .null, .null]))]) hD hS hA [42] rfl
  refine va_callv (va_runIN (As := []) (rest := [.ref n5, .ref h0]) ⟨hx, hb, hml, hown, hts⟩ (c_X0_init l D cI cII n5 H.size) ⟨va_cnB 0 hts (good_gw (show Cond.code yX0_init cX0_init 1 none ∈ gw from wq_t 96 (by decide +kernel) (by decide +kernel))) rfl rfl rfl hX.2 (hts _ (wq_t 4 (by decide +kernel) (by decide +kernel))) (by decide +kernel) ⟨(Nat.le_of_ble_eq_true rfl), (Nat.le_of_ble_eq_true rfl)⟩, rfl, hts _ (wq_t 95 (by decide +kernel) (by decide +kernel))⟩ ⟨fun a U g mk q => by obtain ⟨q0, q1, qP, qK, qX⟩ := q; exact ⟨q0, q1, qP, qK.moved (u := U) (U := U.calling g mk a) (Vm.Alike.refl U.vm), qX⟩, fun U hU hW => ⟨rfl, by rw [hU], by rw [hU]; exact hPc, hK.moved hW.alike, trivial⟩⟩ rfl rfl hl.1 rfl (lv_room (Nat.le_of_ble_eq_true rfl)) dX3_init_53 ⟨(Nat.le_of_ble_eq_true rfl), (Nat.le_of_ble_eq_true rfl)⟩) hS (fun q _ h => hFc q h) hFc (fun u5 t H1 locs ht hvm hw hB hz1 hk1 hS => ?_)
  obtain ⟨hP1, hD1⟩ := hB
  rw [ht] at hP1
  obtain ⟨hP5, hD5⟩ := va_join (wr := ([(h0, .inr (3, [.ref (u1 0), .ref (u2 0), .ref (u3 0), .int 0, .ref (u4 0), .null, .null]))] ++ wT (bq D cI cII u1) (sx s00) (tbSh 0) ++ wT (bq D cI cII u2) (sx s00) (tbSh 0) ++ wT (bq D cI cII u3) (sx s00) (tbSh 0) ++ wT (bq D cI cII u4) z00 tbT)) (w1 := wT (bq D cI cII u5) z00 tbE) hP hD [42] [0, 1, 2, 3, 4, 5, 6, 7, 8, 9, 10, 11, 12, 13, 14, 15, 16, 17, 18, 19, 20, 21, 22, 23, 24, 25, 26, 27, 28, 29, 30, 31, 32, 33, 34, 35, 36, 37, 38, 39, 40, 41] rfl rfl (by decide) (by decide) hk1 hFc hP1 hD1
  generalize H1 = H at hP5 hS ⊢
  have hw : u5 0 = n5 := hw
  subst hw
  have hP : va_P D vwCl ([(h0, .inr (3, [.ref (u1 0), .ref (u2 0), .ref (u3 0), .int 0, .ref (u4 0), .null, .null]))] ++ wT (bq D cI cII u1) (sx s00) (tbSh 0) ++ wT (bq D cI cII u2) (sx s00) (tbSh 0) ++ wT (bq D cI cII u3) (sx s00) (tbSh 0) ++ wT (bq D cI cII u4) z00 tbT ++ wT (bq D cI cII u5) z00 tbE) H := hP5
  have hD : va_D A ([(h0, .inr (3, [.ref (u1 0), .ref (u2 0), .ref (u3 0), .int 0, .ref (u4 0), .null, .null]))] ++ wT (bq D cI cII u1) (sx s00) (tbSh 0) ++ wT (bq D cI cII u2) (sx s00) (tbSh 0) ++ wT (bq D cI cII u3) (sx s00) (tbSh 0) ++ wT (bq D cI cII u4) z00 tbT ++ wT (bq D cI cII u5) z00 tbE) := hD5
  refine va_putF (D := D) (ci := 3) (v := .ref (u5 0)) (ty := .object "PrintShore$Sheets") (C := RX3) (T := TX3) (N := 7) hx hb hts inX3 tyX3 tyX3_ok nmX3 hown hK.1 hP hD hS 0 rfl rfl 5 (by decide) (hts _ wd_117) (fun _ h9 => h9) rfl hin rfl (by decide +kernel) rfl rfl (Nat.le_of_ble_eq_true rfl) dX3_init_56 (fun H locs hP hD hS => ?_)
  have hP : va_P D vwCl ([(h0, .inr (3, [.ref (u1 0), .ref (u2 0), .ref (u3 0), .int 0, .ref (u4 0), .ref (u5 0), .null]))] ++ wT (bq D cI cII u1) (sx s00) (tbSh 0) ++ wT (bq D cI cII u2) (sx s00) (tbSh 0) ++ wT (bq D cI cII u3) (sx s00) (tbSh 0) ++ wT (bq D cI cII u4) z00 tbT ++ wT (bq D cI cII u5) z00 tbE) H := hP
  have hD : va_D A ([(h0, .inr (3, [.ref (u1 0), .ref (u2 0), .ref (u3 0), .int 0, .ref (u4 0), .ref (u5 0), .null]))] ++ wT (bq D cI cII u1) (sx s00) (tbSh 0) ++ wT (bq D cI cII u2) (sx s00) (tbSh 0) ++ wT (bq D cI cII u3) (sx s00) (tbSh 0) ++ wT (bq D cI cII u4) z00 tbT ++ wT (bq D cI cII u5) z00 tbE) := hD
  refine lv_aload_n hx hb dX3_init_59 rfl (lv_at hl 0 rfl) ?_
  refine lv_bipush (v := 7) hx hb dX3_init_60 (by decide) ?_
  refine va_newX hx hb (hts _ (wq_t 65 (by decide +kernel) (by decide +kernel))) hK hP hD hS hA 7 (by decide) rfl (by decide) (Nat.le_of_ble_eq_true rfl) (Nat.le_of_ble_eq_true rfl) dX3_init_62 (fun f9 H hP hD hS => ?_)
  have hP : va_P D vwCl ([(h0, .inr (3, [.ref (u1 0), .ref (u2 0), .ref (u3 0), .int 0, .ref (u4 0), .ref (u5 0), .null]))] ++ wT (bq D cI cII u1) (sx s00) (tbSh 0) ++ wT (bq D cI cII u2) (sx s00) (tbSh 0) ++ wT (bq D cI cII u3) (sx s00) (tbSh 0) ++ wT (bq D cI cII u4) z00 tbT ++ wT (bq D cI cII u5) z00 tbE ++ [(f9, .inl (cI, 7, .inl (fun _ => 0)))]) H := hP
  have hD : va_D A ([(h0, .inr (3, [.ref (u1 0), .ref (u2 0), .ref (u3 0), .int 0, .ref (u4 0), .ref (u5 0), .null]))] ++ wT (bq D cI cII u1) (sx s00) (tbSh 0) ++ wT (bq D cI cII u2) (sx s00) (tbSh 0) ++ wT (bq D cI cII u3) (sx s00) (tbSh 0) ++ wT (bq D cI cII u4) z00 tbT ++ wT (bq D cI cII u5) z00 tbE ++ [(f9, .inl (cI, 7, .inl (fun _ => 0)))]) := hD
  refine va_putF (D := D) (ci := 3) (v := .ref f9) (ty := .array .int) (C := RX3) (T := TX3) (N := 7) hx hb hts inX3 tyX3 tyX3_ok nmX3 hown hK.1 hP hD hS 0 rfl rfl 6 (by decide) (hts _ wd_118) (fun _ h9 => h9) rfl hin rfl (by decide +kernel) rfl rfl (Nat.le_of_ble_eq_true rfl) dX3_init_64 (fun H locs hP hD hS => ?_)
  have hP : va_P D vwCl ([(h0, .inr (3, [.ref (u1 0), .ref (u2 0), .ref (u3 0), .int 0, .ref (u4 0), .ref (u5 0), .ref f9]))] ++ wT (bq D cI cII u1) (sx s00) (tbSh 0) ++ wT (bq D cI cII u2) (sx s00) (tbSh 0) ++ wT (bq D cI cII u3) (sx s00) (tbSh 0) ++ wT (bq D cI cII u4) z00 tbT ++ wT (bq D cI cII u5) z00 tbE ++ [(f9, .inl (cI, 7, .inl (fun _ => 0)))]) H := hP
  have hD : va_D A ([(h0, .inr (3, [.ref (u1 0), .ref (u2 0), .ref (u3 0), .int 0, .ref (u4 0), .ref (u5 0), .ref f9]))] ++ wT (bq D cI cII u1) (sx s00) (tbSh 0) ++ wT (bq D cI cII u2) (sx s00) (tbSh 0) ++ wT (bq D cI cII u3) (sx s00) (tbSh 0) ++ wT (bq D cI cII u4) z00 tbT ++ wT (bq D cI cII u5) z00 tbE ++ [(f9, .inl (cI, 7, .inl (fun _ => 0)))]) := hD
  refine W.widen (k := 50) (n := 749) (Nat.le_of_ble_eq_true rfl) (Nat.le_of_ble_eq_true rfl) ?_
  exact W.vret hx hb hr (fun t ht hW => ⟨⟨(fun k9 : Nat => [h0, f9, u4 0, u4 1, u5 0, u5 1, u5 2, u5 3, u5 4, u5 5, u5 6, u5 7, u1 0, u1 1, u1 2, u1 3, u1 4, u1 5, u1 6, u1 7, u1 8, u1 9, u1 10, u1 11, u1 12, u2 0, u2 1, u2 2, u2 3, u2 4, u2 5, u2 6, u2 7, u2 8, u2 9, u2 10, u2 11, u2 12, u3 0, u3 1, u3 2, u3 3, u3 4, u3 5, u3 6, u3 7, u3 8, u3 9, u3 10, u3 11, u3 12].getD k9 0), rfl, rfl, by rw [ht]; exact wT_of (fun k hk => by
    match k, hk with
    | 0, _ => exact hP 0 _ rfl
    | 1, _ => exact hP 50 _ rfl
    | 2, _ => exact hP 40 _ rfl
    | 3, _ => exact hP 41 _ rfl
    | 4, _ => exact hP 42 _ rfl
    | 5, _ => exact at_q (show va_at D vwCl (u5 1, .inl (cII, 4, .inr (.inr (.inr (.inr (fun i => some (u5 (2 + i)))))))) H from hP 43 _ rfl) (fun j hj => by
      match j, hj with
      | 0, _ => rfl
      | 1, _ => rfl
      | 2, _ => rfl
      | 3, _ => rfl
      | j + 4, hj => exact absurd hj (by omega))
    | 6, _ => exact hP 44 _ rfl
    | 7, _ => exact hP 45 _ rfl
    | 8, _ => exact hP 46 _ rfl
    | 9, _ => exact hP 47 _ rfl
    | 10, _ => exact hP 48 _ rfl
    | 11, _ => exact hP 49 _ rfl
    | 12, _ => exact hP 1 _ rfl
    | 13, _ => exact at_q (show va_at D vwCl (u1 1, .inl (cII, 3, .inr (.inr (.inr (.inr (fun i => some (u1 (2 + i)))))))) H from hP 2 _ rfl) (fun j hj => by
      match j, hj with
      | 0, _ => rfl
      | 1, _ => rfl
      | 2, _ => rfl
      | j + 3, hj => exact absurd hj (by omega))
    | 14, _ => exact hP 3 _ rfl
    | 15, _ => exact hP 4 _ rfl
    | 16, _ => exact hP 5 _ rfl
    | 17, _ => exact at_q (show va_at D vwCl (u1 5, .inl (cII, 6, .inr (.inr (.inr (.inr (fun i => some (u1 (6 + i)))))))) H from hP 6 _ rfl) (fun j hj => by
      match j, hj with
      | 0, _ => rfl
      | 1, _ => rfl
      | 2, _ => rfl
      | 3, _ => rfl
      | 4, _ => rfl
      | 5, _ => rfl
      | j + 6, hj => exact absurd hj (by omega))
    | 18, _ => exact hP 7 _ rfl
    | 19, _ => exact hP 8 _ rfl
    | 20, _ => exact hP 9 _ rfl
    | 21, _ => exact hP 10 _ rfl
    | 22, _ => exact hP 11 _ rfl
    | 23, _ => exact hP 12 _ rfl
    | 24, _ => exact hP 13 _ rfl
    | 25, _ => exact hP 14 _ rfl
    | 26, _ => exact at_q (show va_at D vwCl (u2 1, .inl (cII, 3, .inr (.inr (.inr (.inr (fun i => some (u2 (2 + i)))))))) H from hP 15 _ rfl) (fun j hj => by
      match j, hj with
      | 0, _ => rfl
      | 1, _ => rfl
      | 2, _ => rfl
      | j + 3, hj => exact absurd hj (by omega))
    | 27, _ => exact hP 16 _ rfl
    | 28, _ => exact hP 17 _ rfl
    | 29, _ => exact hP 18 _ rfl
    | 30, _ => exact at_q (show va_at D vwCl (u2 5, .inl (cII, 6, .inr (.inr (.inr (.inr (fun i => some (u2 (6 + i)))))))) H from hP 19 _ rfl) (fun j hj => by
      match j, hj with
      | 0, _ => rfl
      | 1, _ => rfl
      | 2, _ => rfl
      | 3, _ => rfl
      | 4, _ => rfl
      | 5, _ => rfl
      | j + 6, hj => exact absurd hj (by omega))
    | 31, _ => exact hP 20 _ rfl
    | 32, _ => exact hP 21 _ rfl
    | 33, _ => exact hP 22 _ rfl
    | 34, _ => exact hP 23 _ rfl
    | 35, _ => exact hP 24 _ rfl
    | 36, _ => exact hP 25 _ rfl
    | 37, _ => exact hP 26 _ rfl
    | 38, _ => exact hP 27 _ rfl
    | 39, _ => exact at_q (show va_at D vwCl (u3 1, .inl (cII, 3, .inr (.inr (.inr (.inr (fun i => some (u3 (2 + i)))))))) H from hP 28 _ rfl) (fun j hj => by
      match j, hj with
      | 0, _ => rfl
      | 1, _ => rfl
      | 2, _ => rfl
      | j + 3, hj => exact absurd hj (by omega))
    | 40, _ => exact hP 29 _ rfl
    | 41, _ => exact hP 30 _ rfl
    | 42, _ => exact hP 31 _ rfl
    | 43, _ => exact at_q (show va_at D vwCl (u3 5, .inl (cII, 6, .inr (.inr (.inr (.inr (fun i => some (u3 (6 + i)))))))) H from hP 32 _ rfl) (fun j hj => by
      match j, hj with
      | 0, _ => rfl
      | 1, _ => rfl
      | 2, _ => rfl
      | 3, _ => rfl
      | 4, _ => rfl
      | 5, _ => rfl
      | j + 6, hj => exact absurd hj (by omega))
    | 44, _ => exact hP 33 _ rfl
    | 45, _ => exact hP 34 _ rfl
    | 46, _ => exact hP 35 _ rfl
    | 47, _ => exact hP 36 _ rfl
    | 48, _ => exact hP 37 _ rfl
    | 49, _ => exact hP 38 _ rfl
    | 50, _ => exact hP 39 _ rfl
    | k + 51, hk => exact absurd (show k + 51 < 51 from hk) (by omega)), D_of hD [0, 50, 40, 41, 42, 43, 44, 45, 46, 47, 48, 49, 1, 2, 3, 4, 5, 6, 7, 8, 9, 10, 11, 12, 13, 14, 15, 16, 17, 18, 19, 20, 21, 22, 23, 24, 25, 26, 27, 28, 29, 30, 31, 32, 33, 34, 35, 36, 37, 38, 39] (by decide +kernel) rfl⟩, hS.F ht⟩) hS.2.2 dX3_init_67
end INIP
