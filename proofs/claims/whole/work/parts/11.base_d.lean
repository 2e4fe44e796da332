/-! ===== ends and calls ===== -/
theorem good_gw {y : MethodName} {cc : ByteArray} {mL : Nat} {ret : Option FieldType} (h : Cond.code y cc mL ret ∈ gw) : GoodIn gw (Cond.code y cc mL ret :: gw) := fun w hw => by
  have h1 : w ∈ gw := (List.mem_cons.mp hw).elim (fun e => e ▸ h) id
  exact ⟨h1, good_of_word (gw_good w h1)⟩
theorem good_one {w : Cond} (h : w ∈ gw) : w ∈ gw ∧ ((w.onTables && w.keeps) = true ∨ ∃ ty, w = .arrayClass ty) := ⟨h, good_of_word (gw_good w h)⟩
/-- the words of a method that is called on an object of its own -/
def CWV (y : MethodName) (cc : ByteArray) (mL : Nat) (ret : Option FieldType) (Cn : String) (nA : Nat) : Prop := Cond.instanceMethod y ∈ gw ∧ Cond.selects Cn y y ∈ gw ∧ Cond.initialized Cn ∈ gw ∧ Cond.code y cc mL ret ∈ gw ∧ (y.cls = Cn ∧ y.cls ≠ "java/lang/invoke/MethodHandle" ∧ y.cls ≠ "java/lang/invoke/VarHandle" ∧ (parseMethodDescriptor y.desc).map (fun d => d.parameters.length) = some nA)
/-- the words of a static method -/
def CWS (y : MethodName) (cc : ByteArray) (mL : Nat) (ret : Option FieldType) (nA : Nat) : Prop := Cond.static y ∈ gw ∧ Cond.initialized y.cls ∈ gw ∧ Cond.code y cc mL ret ∈ gw ∧ (y.cls ≠ "java/lang/invoke/MethodHandle" ∧ y.cls ≠ "java/lang/invoke/VarHandle" ∧ (parseMethodDescriptor y.desc).map (fun d => d.parameters.length) = some nA)
section VROWS5
variable {E : EE} {B : BB} {l0 : Launch} {cc : ByteArray} {own : String} {ret : Option FieldType} {mL fr lo : Nat} {σ : St2} {pc : Nat} {lv : List (Nat × Value)} {st : List Value} {ρ : Type} {res : ρ} {L : St2 → St2} {x : St2} {b n : Nat}
theorem bf_blind (av : List Value) (σ : St2) : FrameBlind (va_Pc av (Bf B σ)) := by
  intro a U g mk h
  obtain ⟨e, hP, hK, hD, hF⟩ := h
  exact ⟨e, hP, va_K.moved (u := U) (U := U.calling g mk a) (Vm.Alike.refl U.vm) hK, hD, hF.same (U := U.calling g mk a) rfl⟩
theorem v_iret {v : Int32} (C : Cx E B l0 cc own (some .int) mL fr lo) (hd : decode cc pc = .ok (.ireturn, 1)) (hQ : Fin9 E B (some (.int v)) σ) : V E B σ pc lv [.int v] := by
  obtain ⟨p, l, e, R, s, m, args, below, meth, c, A, Q, cells, slots, nL⟩ := E
  obtain ⟨hl0, hx, hb, hml, hnl, hr, hlk, hown, hts, hK, hD, hfr, hlo, hcc, hcs, hF⟩ := C
  subst hnl
  intro H locs ls hP hS hl
  have hQ9 : Q = _ := hQ
  subst hQ9
  exact W.iret hx hb hr (fun t ht hW => ⟨rfl, by rw [ht]; exact hP, hS.F ht⟩) hS.2.2 hd hlk
theorem v_lret {v : Int64} (C : Cx E B l0 cc own (some .long) mL fr lo) (hd : decode cc pc = .ok (.lreturn, 1)) (hQ : Fin9 E B (some (.long v)) σ) : V E B σ pc lv [.long v] := by
  obtain ⟨p, l, e, R, s, m, args, below, meth, c, A, Q, cells, slots, nL⟩ := E
  obtain ⟨hl0, hx, hb, hml, hnl, hr, hlk, hown, hts, hK, hD, hfr, hlo, hcc, hcs, hF⟩ := C
  subst hnl
  intro H locs ls hP hS hl
  have hQ9 : Q = _ := hQ
  subst hQ9
  exact W.lret hx hb hr (fun t ht hW => ⟨rfl, by rw [ht]; exact hP, hS.F ht⟩) hS.2.2 hd hlk
theorem v_zret {v : Int32} (C : Cx E B l0 cc own (some .boolean) mL fr lo) (hz : v = 0 ∨ v = 1) (hd : decode cc pc = .ok (.ireturn, 1)) (hQ : Fin9 E B (some (.int v)) σ) : V E B σ pc lv [.int v] := by
  obtain ⟨p, l, e, R, s, m, args, below, meth, c, A, Q, cells, slots, nL⟩ := E
  obtain ⟨hl0, hx, hb, hml, hnl, hr, hlk, hown, hts, hK, hD, hfr, hlo, hcc, hcs, hF⟩ := C
  subst hnl
  intro H locs ls hP hS hl
  have hQ9 : Q = _ := hQ
  subst hQ9
  exact W.zret hx hb hr (bz_n hz) (fun t ht hW => ⟨rfl, by rw [ht]; exact hP, hS.F ht⟩) hS.2.2 hd hlk
theorem v_nret {v : Int32} {ty : FieldType} (C : Cx E B l0 cc own (some ty) mL fr lo) (hz : narrow ty (.int v) = .int v) (hd : decode cc pc = .ok (.ireturn, 1)) (hQ : Fin9 E B (some (.int v)) σ) : V E B σ pc lv [.int v] := by
  obtain ⟨p, l, e, R, s, m, args, below, meth, c, A, Q, cells, slots, nL⟩ := E
  obtain ⟨hl0, hx, hb, hml, hnl, hr, hlk, hown, hts, hK, hD, hfr, hlo, hcc, hcs, hF⟩ := C
  subst hnl
  intro H locs ls hP hS hl
  have hQ9 : Q = _ := hQ
  subst hQ9
  exact W.zret hx hb hr hz (fun t ht hW => ⟨rfl, by rw [ht]; exact hP, hS.F ht⟩) hS.2.2 hd hlk
theorem v_vret (C : Cx E B l0 cc own none mL fr lo) (hd : decode cc pc = .ok (.return_, 1)) (hQ : Fin9 E B none σ) : V E B σ pc lv [] := by
  obtain ⟨p, l, e, R, s, m, args, below, meth, c, A, Q, cells, slots, nL⟩ := E
  obtain ⟨hl0, hx, hb, hml, hnl, hr, hlk, hown, hts, hK, hD, hfr, hlo, hcc, hcs, hF⟩ := C
  subst hnl
  intro H locs ls hP hS hl
  have hQ9 : Q = _ := hQ
  subst hQ9
  exact W.vret hx hb hr (fun t ht hW => ⟨rfl, by rw [ht]; exact hP, hS.F ht⟩) hS.2.2 hd hlk
theorem v_aret {q : Nat} {nm : String} (C : Cx E B l0 cc own (some (.object nm)) mL fr lo) (hd : decode cc pc = .ok (.areturn, 1)) (hQ : Fin9 E B (some (.ref q)) σ) : V E B σ pc lv [.ref q] := by
  obtain ⟨p, l, e, R, s, m, args, below, meth, c, A, Q, cells, slots, nL⟩ := E
  obtain ⟨hl0, hx, hb, hml, hnl, hr, hlk, hown, hts, hK, hD, hfr, hlo, hcc, hcs, hF⟩ := C
  subst hnl
  intro H locs ls hP hS hl
  have hQ9 : Q = _ := hQ
  subst hQ9
  exact W.aret hx hb hr (Or.inl ⟨nm, rfl⟩) (Or.inr ⟨q, rfl⟩) (fun t ht hW => ⟨rfl, by rw [ht]; exact hP, hS.F ht⟩) hS.2.2 hd hlk
theorem v_cont {p : Program} {l : Launch} {e : Env} {R : Room} {s : State} {m : MethodId} {args : Array Value} {below : List Frame} {meth : Method} {c : Code} {H : Heap} {locs : List Loc} {cells slots : Nat} {Q : State → Prop} {A0 A1 : Nat → Prop} {ls : Array Slot} {rest st0 : List Value} {a : Array Value} {r : Option Value} {σ' : St2} (hr : va_Run p l e R s m args below meth c H locs cells slots 0 0 (F0 m pc ls st0) rest (Qx B A1 r σ' a) A1) (hS : va_S A0 s.heap H locs) (hA : ∀ q, A1 q → A0 q)
    (kk : ∀ (H1 : Heap) (locs1 : List Loc), va_P B.1 vwCl (wW B σ') H1 → va_S A0 s.heap H1 locs1 → W p l e R s m args below meth c H1 locs1 cells slots Q (F0 m (pc + 3) ls (r.toList ++ rest))) : W p l e R s m args below meth c H locs cells slots Q (F0 m pc ls st0) := by
  intro T hT X
  obtain ⟨v, st₀, t, T', Lc, h0, X', hLc, e1, e2, ⟨hv, hp, hz, hk⟩, stp⟩ := hr T hT X
  have hv2 : v = r := by cases hv; rfl
  subst hv2
  rw [h0] at hz hk
  obtain ⟨t2, a1, b1⟩ := kk T'.heap (locs ++ Lc) (by rw [e1]; exact hp)
    ⟨Nat.le_trans hS.1 (by rw [e1]; exact hz), fun q h1 h2 => by rw [e1, hk q (Nat.lt_of_lt_of_le h1 hS.1) (fun z => h2 (hA q z))]; exact hS.2.1 q h1 h2, fun q hq => by
      rcases List.mem_append.mp hq with h | h
      · exact hS.2.2 q h
      · exact hA _ (hLc q h)⟩ T' rfl X'
  exact ⟨t2, stp t2 a1, b1⟩
theorem aw_in {A : Nat → Prop} (hD : ∀ σ : St2, va_D A (wW B σ)) : ∀ q, Aw B q → A q := fun q ⟨k, hk, e⟩ => by
  rw [e]
  exact (hD (fun _ _ => 0)).2 k _ (wW_at hk)
theorem aw_D {A : Nat → Prop} (hD : ∀ σ : St2, va_D A (wW B σ)) : ∀ σ : St2, va_D (Aw B) (wW B σ) := fun σ => ⟨(hD σ).1, fun k q hq => by
  have hk : k < 61 := by
    have := (List.getElem?_eq_some_iff.mp hq).1
    unfold wW at this
    simpa using this
  rw [wW_at hk] at hq
  cases hq
  exact ⟨k, hk, rfl⟩⟩
theorem v_callV (C : Cx E B l0 cc own ret mL fr lo) {y : MethodName} {cc2 : ByteArray} {mL2 fr2 lo2 index nA : Nat} {ret2 : Option FieldType} {As rest st0 : List Value} {r : Option Value} {σ' : St2} {K ci : Nat} {fl : List (Nat ⊕ Nat)} {T : u_T} {N : Nat} {Cn : String} (hR : Ret l0 B y cc2 mL2 ret2 fr2 lo2 (.ref (ad B K) :: As) σ r σ') (hcw : CWV y cc2 mL2 ret2 Cn nA) (hw : Cond.methodLink own index y ∈ gw) (hK9 : K < 61) (ht : tb K = .inr (.inr (ci, fl))) (hc : vwCl[ci]? = some (Cn, T, N)) (hrm : fr2 + 1 ≤ fr ∧ 8 + (mL2 + 11) + lo2 ≤ lo) (hlen : As.length = nA) (hst : st0 = As.reverse ++ .ref (ad B K) :: rest) (hcat : (rest.map fun v => v.category).sum ≤ 8) (hd : decode cc pc = .ok (.invokevirtual index, 3)) (k : V E B σ' (pc + 3) lv (r.toList ++ rest)) : V E B σ pc lv st0 := by
  obtain ⟨p, l, e, R, s, m, args, below, meth, c, A, Q, cells, slots, nL⟩ := E
  obtain ⟨hl0, hx, hb, hml, hnl, hr, hlk, hown, hts, hK, hD, hfr, hlo, hcc, hcs, hF⟩ := C
  subst hnl
  intro H locs ls hP hS hl
  have he := wW_at (B := B) (σ := σ) hK9
  rw [ht] at he
  obtain ⟨w1, w2, w3, w4, w5⟩ := hcw
  subst hl0
  have hG : GoodIn gw (wsV own index Cn y (Cond.code y cc2 mL2 ret2 :: gw)) := fun w h => by
    unfold wsV at h
    rcases List.mem_append.mp h with h | h
    · simp only [List.mem_cons, List.not_mem_nil, or_false] at h
      rcases h with rfl | rfl | rfl | rfl
      · exact good_one hw
      · exact good_one w1
      · exact good_one w2
      · exact good_one w3
    · exact good_gw w4 w h
  refine v_cont (va_runV (As := As) (rest := rest) ⟨hx, hb, hml, hown, hts⟩ hR (cwV nA hts hG rfl rfl rfl w5 ⟨Nat.le_trans hrm.1 hfr, Nat.le_trans hrm.2 hlo⟩) ⟨bf_blind _ _, va_recv hK hP hc he, fun U hU hW => ⟨rfl, by rw [hU]; exact hP, va_K.moved hW.alike hK, aw_D hD, hF.warm hS hW hU (aw_in hD)⟩⟩ rfl hlen hl.1 hst (lv_room hcat) hd ⟨by omega, by omega⟩) hS (aw_in hD) (fun H1 locs1 hP1 hS1 => k H1 locs1 ls hP1 hS1 hl)
theorem v_callS (C : Cx E B l0 cc own ret mL fr lo) {y : MethodName} {cc2 : ByteArray} {mL2 fr2 lo2 index nA : Nat} {ret2 : Option FieldType} {As rest st0 : List Value} {r : Option Value} {σ' : St2} (hR : Ret l0 B y cc2 mL2 ret2 fr2 lo2 As σ r σ') (hcw : CWS y cc2 mL2 ret2 nA) (hw : Cond.methodLink own index y ∈ gw) (hrm : fr2 + 1 ≤ fr ∧ 8 + (mL2 + 11) + lo2 ≤ lo) (hlen : As.length = nA) (hst : st0 = As.reverse ++ rest) (hcat : (rest.map fun v => v.category).sum ≤ 8) (hd : decode cc pc = .ok (.invokestatic index, 3)) (k : V E B σ' (pc + 3) lv (r.toList ++ rest)) : V E B σ pc lv st0 := by
  obtain ⟨p, l, e, R, s, m, args, below, meth, c, A, Q, cells, slots, nL⟩ := E
  obtain ⟨hl0, hx, hb, hml, hnl, hr, hlk, hown, hts, hK, hD, hfr, hlo, hcc, hcs, hF⟩ := C
  subst hnl
  intro H locs ls hP hS hl
  obtain ⟨w1, w2, w4, w5⟩ := hcw
  subst hl0
  have hG : GoodIn gw (va_wsS own index y (Cond.code y cc2 mL2 ret2 :: gw)) := fun w h => by
    unfold va_wsS at h
    rcases List.mem_append.mp h with h | h
    · simp only [List.mem_cons, List.not_mem_nil, or_false] at h
      rcases h with rfl | rfl | rfl
      · exact good_one hw
      · exact good_one w1
      · exact good_one w2
    · exact good_gw w4 w h
  refine v_cont (va_runS (As := As) (rest := rest) ⟨hx, hb, hml, hown, hts⟩ hR (va_cwS nA hts hG rfl rfl rfl w5 ⟨Nat.le_trans hrm.1 hfr, Nat.le_trans hrm.2 hlo⟩) ⟨bf_blind _ _, fun U hU hW => ⟨rfl, by rw [hU]; exact hP, va_K.moved hW.alike hK, aw_D hD, hF.warm hS hW hU (aw_in hD)⟩⟩ rfl hlen hl.1 hst (lv_room hcat) hd ⟨by omega, by omega⟩) hS (aw_in hD) (fun H1 locs1 hP1 hS1 => k H1 locs1 ls hP1 hS1 hl)
theorem v_callSN (C : Cx E B l0 cc own ret mL fr lo) {y : MethodName} {cc2 : ByteArray} {mL2 fr2 lo2 index nA : Nat} {ret2 : Option FieldType} {As rest st0 : List Value} {r : Option Value} {σ' : St2} {host : String} (hR : Ret l0 B y cc2 mL2 ret2 fr2 lo2 As σ r σ') (hcw : CWS y cc2 mL2 ret2 nA) (hw : Cond.methodLinkNest own index y host ∈ nwL) (hrm : fr2 + 1 ≤ fr ∧ 8 + (mL2 + 11) + lo2 ≤ lo) (hlen : As.length = nA) (hst : st0 = As.reverse ++ rest) (hcat : (rest.map fun v => v.category).sum ≤ 8) (hd : decode cc pc = .ok (.invokestatic index, 3)) (k : V E B σ' (pc + 3) lv (r.toList ++ rest)) : V E B σ pc lv st0 := by
  obtain ⟨p, l, e, R, s, m, args, below, meth, c, A, Q, cells, slots, nL⟩ := E
  obtain ⟨hl0, hx, hb, hml, hnl, hr, hlk, hown, hts, hK, hD, hfr, hlo, hcc, hcs, hF⟩ := C
  subst hnl
  intro H locs ls hP hS hl
  obtain ⟨w1, w2, w4, w5⟩ := hcw
  subst hl0
  refine v_cont (va_runSN (As := As) (rest := rest) (host := host) ⟨hx, hb, hml, hown, hts⟩ hR ⟨va_cnB nA hts (good_gw w4) rfl rfl rfl (hF.2.2.2.2.1 _ hw) (hts _ w2) w5 ⟨Nat.le_trans hrm.1 hfr, Nat.le_trans hrm.2 hlo⟩, hts _ w1, trivial⟩ ⟨bf_blind _ _, fun U hU hW => ⟨rfl, by rw [hU]; exact hP, va_K.moved hW.alike hK, aw_D hD, hF.warm hS hW hU (aw_in hD)⟩⟩ rfl hlen hl.1 hst (lv_room hcat) hd ⟨by omega, by omega⟩) hS (aw_in hD) (fun H1 locs1 hP1 hS1 => k H1 locs1 ls hP1 hS1 hl)
theorem v_callT (C : Cx E B l0 cc own ret mL fr lo) {y : MethodName} {cc2 : ByteArray} {mL2 fr2 lo2 index nA : Nat} {ret2 : Option FieldType} {As rest st0 : List Value} {r : Option Value} {σ' : St2} {i : Nat} (hi : i < 14) (hR : Ret l0 B y cc2 mL2 ret2 fr2 lo2 (.ref (sk B i) :: As) σ r σ') (hcw : CWV y cc2 mL2 ret2 "java/lang/String" nA) (hw : Cond.methodLink own index y ∈ gw) (hrm : fr2 + 1 ≤ fr ∧ 8 + (mL2 + 11) + lo2 ≤ lo) (hlen : As.length = nA) (hst : st0 = As.reverse ++ .ref (sk B i) :: rest) (hcat : (rest.map fun v => v.category).sum ≤ 8) (hd : decode cc pc = .ok (.invokevirtual index, 3)) (k : V E B σ' (pc + 3) lv (r.toList ++ rest)) : V E B σ pc lv st0 := by
  obtain ⟨p, l, e, R, s, m, args, below, meth, c, A, Q, cells, slots, nL⟩ := E
  obtain ⟨hl0, hx, hb, hml, hnl, hr, hlk, hown, hts, hK, hD, hfr, hlo, hcc, hcs, hF⟩ := C
  subst hnl
  intro H locs ls hP hS hl
  obtain ⟨w1, w2, w3, w4, w5⟩ := hcw
  subst hl0
  have hG : GoodIn gw (wsV own index "java/lang/String" y (Cond.code y cc2 mL2 ret2 :: gw)) := fun w h => by
    unfold wsV at h
    rcases List.mem_append.mp h with h | h
    · simp only [List.mem_cons, List.not_mem_nil, or_false] at h
      rcases h with rfl | rfl | rfl | rfl
      · exact good_one hw
      · exact good_one w1
      · exact good_one w2
      · exact good_one w3
    · exact good_gw w4 w h
  obtain ⟨cell, q1, q2, q3, -⟩ := ((hF.2.1 i hi).1).kept hS.2.1
  refine v_cont (va_runV (As := As) (rest := rest) ⟨hx, hb, hml, hown, hts⟩ hR (cwV nA hts hG rfl rfl rfl w5 ⟨Nat.le_trans hrm.1 hfr, Nat.le_trans hrm.2 hlo⟩) ⟨bf_blind _ _, ⟨cell, q1, q2, q3⟩, fun U hU hW => ⟨rfl, by rw [hU]; exact hP, va_K.moved hW.alike hK, aw_D hD, hF.warm hS hW hU (aw_in hD)⟩⟩ rfl hlen hl.1 hst (lv_room hcat) hd ⟨by omega, by omega⟩) hS (aw_in hD) (fun H1 locs1 hP1 hS1 => k H1 locs1 ls hP1 hS1 hl)
end VROWS5
