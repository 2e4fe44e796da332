/-! ===== the rows of a walk ===== -/
section VROWS
variable {E : EE} {B : BB} {l0 : Launch} {cc : ByteArray} {own : String} {ret : Option FieldType} {mL fr lo : Nat} {σ : St2} {pc : Nat} {lv : List (Nat × Value)} {st : List Value}
theorem v_iadd (C : Cx E B l0 cc own ret mL fr lo) {x y : Int32} (hd : decode cc pc = .ok (.iadd, 1))  (k : V E B σ (pc + 1) lv (.int (x + y) :: st)) : V E B σ pc lv (.int y :: .int x :: st) := by
  obtain ⟨p, l, e, R, s, m, args, below, meth, c, A, Q, cells, slots, nL⟩ := E
  obtain ⟨hl0, hx, hb, hml, hnl, hr, hlk, hown, hts, hK, hD, hfr, hlo, hcc, hcs, hF⟩ := C
  subst hnl
  intro H locs ls hP hS hl
  exact lv_iadd hx hb hd  (k H locs ls hP hS hl)
theorem v_isub (C : Cx E B l0 cc own ret mL fr lo) {x y : Int32} (hd : decode cc pc = .ok (.isub, 1))  (k : V E B σ (pc + 1) lv (.int (x - y) :: st)) : V E B σ pc lv (.int y :: .int x :: st) := by
  obtain ⟨p, l, e, R, s, m, args, below, meth, c, A, Q, cells, slots, nL⟩ := E
  obtain ⟨hl0, hx, hb, hml, hnl, hr, hlk, hown, hts, hK, hD, hfr, hlo, hcc, hcs, hF⟩ := C
  subst hnl
  intro H locs ls hP hS hl
  exact lv_isub hx hb hd  (k H locs ls hP hS hl)
theorem v_imul (C : Cx E B l0 cc own ret mL fr lo) {x y : Int32} (hd : decode cc pc = .ok (.imul, 1))  (k : V E B σ (pc + 1) lv (.int (x * y) :: st)) : V E B σ pc lv (.int y :: .int x :: st) := by
  obtain ⟨p, l, e, R, s, m, args, below, meth, c, A, Q, cells, slots, nL⟩ := E
  obtain ⟨hl0, hx, hb, hml, hnl, hr, hlk, hown, hts, hK, hD, hfr, hlo, hcc, hcs, hF⟩ := C
  subst hnl
  intro H locs ls hP hS hl
  exact lv_imul hx hb hd  (k H locs ls hP hS hl)
theorem v_iand (C : Cx E B l0 cc own ret mL fr lo) {x y : Int32} (hd : decode cc pc = .ok (.iand, 1))  (k : V E B σ (pc + 1) lv (.int (x &&& y) :: st)) : V E B σ pc lv (.int y :: .int x :: st) := by
  obtain ⟨p, l, e, R, s, m, args, below, meth, c, A, Q, cells, slots, nL⟩ := E
  obtain ⟨hl0, hx, hb, hml, hnl, hr, hlk, hown, hts, hK, hD, hfr, hlo, hcc, hcs, hF⟩ := C
  subst hnl
  intro H locs ls hP hS hl
  exact lv_iand hx hb hd  (k H locs ls hP hS hl)
theorem v_ior (C : Cx E B l0 cc own ret mL fr lo) {x y : Int32} (hd : decode cc pc = .ok (.ior, 1))  (k : V E B σ (pc + 1) lv (.int (x ||| y) :: st)) : V E B σ pc lv (.int y :: .int x :: st) := by
  obtain ⟨p, l, e, R, s, m, args, below, meth, c, A, Q, cells, slots, nL⟩ := E
  obtain ⟨hl0, hx, hb, hml, hnl, hr, hlk, hown, hts, hK, hD, hfr, hlo, hcc, hcs, hF⟩ := C
  subst hnl
  intro H locs ls hP hS hl
  exact lv_ior hx hb hd  (k H locs ls hP hS hl)
theorem v_ixor (C : Cx E B l0 cc own ret mL fr lo) {x y : Int32} (hd : decode cc pc = .ok (.ixor, 1))  (k : V E B σ (pc + 1) lv (.int (x ^^^ y) :: st)) : V E B σ pc lv (.int y :: .int x :: st) := by
  obtain ⟨p, l, e, R, s, m, args, below, meth, c, A, Q, cells, slots, nL⟩ := E
  obtain ⟨hl0, hx, hb, hml, hnl, hr, hlk, hown, hts, hK, hD, hfr, hlo, hcc, hcs, hF⟩ := C
  subst hnl
  intro H locs ls hP hS hl
  exact lv_ixor hx hb hd  (k H locs ls hP hS hl)
theorem v_ishl (C : Cx E B l0 cc own ret mL fr lo) {x y : Int32} (hd : decode cc pc = .ok (.ishl, 1))  (k : V E B σ (pc + 1) lv (.int (x <<< (y &&& 31)) :: st)) : V E B σ pc lv (.int y :: .int x :: st) := by
  obtain ⟨p, l, e, R, s, m, args, below, meth, c, A, Q, cells, slots, nL⟩ := E
  obtain ⟨hl0, hx, hb, hml, hnl, hr, hlk, hown, hts, hK, hD, hfr, hlo, hcc, hcs, hF⟩ := C
  subst hnl
  intro H locs ls hP hS hl
  exact lv_ishl hx hb hd  (k H locs ls hP hS hl)
theorem v_ishr (C : Cx E B l0 cc own ret mL fr lo) {x y : Int32} (hd : decode cc pc = .ok (.ishr, 1))  (k : V E B σ (pc + 1) lv (.int (x >>> (y &&& 31)) :: st)) : V E B σ pc lv (.int y :: .int x :: st) := by
  obtain ⟨p, l, e, R, s, m, args, below, meth, c, A, Q, cells, slots, nL⟩ := E
  obtain ⟨hl0, hx, hb, hml, hnl, hr, hlk, hown, hts, hK, hD, hfr, hlo, hcc, hcs, hF⟩ := C
  subst hnl
  intro H locs ls hP hS hl
  exact lv_ishr hx hb hd  (k H locs ls hP hS hl)
theorem v_idiv (C : Cx E B l0 cc own ret mL fr lo) {x y : Int32} (hd : decode cc pc = .ok (.idiv, 1)) (hne : ¬ y = 0) (k : V E B σ (pc + 1) lv (.int (x / y) :: st)) : V E B σ pc lv (.int y :: .int x :: st) := by
  obtain ⟨p, l, e, R, s, m, args, below, meth, c, A, Q, cells, slots, nL⟩ := E
  obtain ⟨hl0, hx, hb, hml, hnl, hr, hlk, hown, hts, hK, hD, hfr, hlo, hcc, hcs, hF⟩ := C
  subst hnl
  intro H locs ls hP hS hl
  exact lv_idiv hx hb hd hne (k H locs ls hP hS hl)
theorem v_irem (C : Cx E B l0 cc own ret mL fr lo) {x y : Int32} (hd : decode cc pc = .ok (.irem, 1)) (hne : ¬ y = 0) (k : V E B σ (pc + 1) lv (.int (x - x / y * y) :: st)) : V E B σ pc lv (.int y :: .int x :: st) := by
  obtain ⟨p, l, e, R, s, m, args, below, meth, c, A, Q, cells, slots, nL⟩ := E
  obtain ⟨hl0, hx, hb, hml, hnl, hr, hlk, hown, hts, hK, hD, hfr, hlo, hcc, hcs, hF⟩ := C
  subst hnl
  intro H locs ls hP hS hl
  exact lv_irem hx hb hd hne (k H locs ls hP hS hl)
theorem v_iushr (C : Cx E B l0 cc own ret mL fr lo) {x y : Int32} (hd : decode cc pc = .ok (.iushr, 1))  (k : V E B σ (pc + 1) lv (.int ((x.toUInt32 >>> (y.toUInt32 &&& Int32.toUInt32 31)).toInt32) :: st)) : V E B σ pc lv (.int y :: .int x :: st) := by
  obtain ⟨p, l, e, R, s, m, args, below, meth, c, A, Q, cells, slots, nL⟩ := E
  obtain ⟨hl0, hx, hb, hml, hnl, hr, hlk, hown, hts, hK, hD, hfr, hlo, hcc, hcs, hF⟩ := C
  subst hnl
  intro H locs ls hP hS hl
  exact lv_iushr hx hb hd rfl (k H locs ls hP hS hl)
theorem v_ineg (C : Cx E B l0 cc own ret mL fr lo) {x : Int32} (hd : decode cc pc = .ok (.ineg, 1))  (k : V E B σ (pc + 1) lv (.int (-x) :: st)) : V E B σ pc lv (.int x :: st) := by
  obtain ⟨p, l, e, R, s, m, args, below, meth, c, A, Q, cells, slots, nL⟩ := E
  obtain ⟨hl0, hx, hb, hml, hnl, hr, hlk, hown, hts, hK, hD, hfr, hlo, hcc, hcs, hF⟩ := C
  subst hnl
  intro H locs ls hP hS hl
  exact lv_ineg hx hb hd  (k H locs ls hP hS hl)
theorem v_i2l (C : Cx E B l0 cc own ret mL fr lo) {x : Int32} (hd : decode cc pc = .ok (.i2l, 1))  (k : V E B σ (pc + 1) lv (.long x.toInt64 :: st)) : V E B σ pc lv (.int x :: st) := by
  obtain ⟨p, l, e, R, s, m, args, below, meth, c, A, Q, cells, slots, nL⟩ := E
  obtain ⟨hl0, hx, hb, hml, hnl, hr, hlk, hown, hts, hK, hD, hfr, hlo, hcc, hcs, hF⟩ := C
  subst hnl
  intro H locs ls hP hS hl
  exact lv_i2l hx hb hd rfl (k H locs ls hP hS hl)
theorem v_i2b (C : Cx E B l0 cc own ret mL fr lo) {x : Int32} (hd : decode cc pc = .ok (.i2b, 1))  (k : V E B σ (pc + 1) lv (.int x.toInt8.toInt32 :: st)) : V E B σ pc lv (.int x :: st) := by
  obtain ⟨p, l, e, R, s, m, args, below, meth, c, A, Q, cells, slots, nL⟩ := E
  obtain ⟨hl0, hx, hb, hml, hnl, hr, hlk, hown, hts, hK, hD, hfr, hlo, hcc, hcs, hF⟩ := C
  subst hnl
  intro H locs ls hP hS hl
  exact lv_i2b hx hb hd rfl (k H locs ls hP hS hl)
theorem v_i2s (C : Cx E B l0 cc own ret mL fr lo) {x : Int32} (hd : decode cc pc = .ok (.i2s, 1))  (k : V E B σ (pc + 1) lv (.int x.toInt16.toInt32 :: st)) : V E B σ pc lv (.int x :: st) := by
  obtain ⟨p, l, e, R, s, m, args, below, meth, c, A, Q, cells, slots, nL⟩ := E
  obtain ⟨hl0, hx, hb, hml, hnl, hr, hlk, hown, hts, hK, hD, hfr, hlo, hcc, hcs, hF⟩ := C
  subst hnl
  intro H locs ls hP hS hl
  exact lv_i2s hx hb hd rfl (k H locs ls hP hS hl)
theorem v_i2c (C : Cx E B l0 cc own ret mL fr lo) {x : Int32} (hd : decode cc pc = .ok (.i2c, 1))  (k : V E B σ (pc + 1) lv (.int (x.toUInt32 % 65536).toInt32 :: st)) : V E B σ pc lv (.int x :: st) := by
  obtain ⟨p, l, e, R, s, m, args, below, meth, c, A, Q, cells, slots, nL⟩ := E
  obtain ⟨hl0, hx, hb, hml, hnl, hr, hlk, hown, hts, hK, hD, hfr, hlo, hcc, hcs, hF⟩ := C
  subst hnl
  intro H locs ls hP hS hl
  exact lv_i2c hx hb hd rfl (k H locs ls hP hS hl)
theorem v_ladd (C : Cx E B l0 cc own ret mL fr lo) {x y : Int64} (hd : decode cc pc = .ok (.ladd, 1))  (k : V E B σ (pc + 1) lv (.long (x + y) :: st)) : V E B σ pc lv (.long y :: .long x :: st) := by
  obtain ⟨p, l, e, R, s, m, args, below, meth, c, A, Q, cells, slots, nL⟩ := E
  obtain ⟨hl0, hx, hb, hml, hnl, hr, hlk, hown, hts, hK, hD, hfr, hlo, hcc, hcs, hF⟩ := C
  subst hnl
  intro H locs ls hP hS hl
  exact lv_ladd hx hb hd  (k H locs ls hP hS hl)
theorem v_lmul (C : Cx E B l0 cc own ret mL fr lo) {x y : Int64} (hd : decode cc pc = .ok (.lmul, 1))  (k : V E B σ (pc + 1) lv (.long (x * y) :: st)) : V E B σ pc lv (.long y :: .long x :: st) := by
  obtain ⟨p, l, e, R, s, m, args, below, meth, c, A, Q, cells, slots, nL⟩ := E
  obtain ⟨hl0, hx, hb, hml, hnl, hr, hlk, hown, hts, hK, hD, hfr, hlo, hcc, hcs, hF⟩ := C
  subst hnl
  intro H locs ls hP hS hl
  exact lv_lmul hx hb hd  (k H locs ls hP hS hl)
theorem v_ldiv (C : Cx E B l0 cc own ret mL fr lo) {x y : Int64} (hd : decode cc pc = .ok (.ldiv, 1)) (hne : ¬ y = 0) (k : V E B σ (pc + 1) lv (.long (x / y) :: st)) : V E B σ pc lv (.long y :: .long x :: st) := by
  obtain ⟨p, l, e, R, s, m, args, below, meth, c, A, Q, cells, slots, nL⟩ := E
  obtain ⟨hl0, hx, hb, hml, hnl, hr, hlk, hown, hts, hK, hD, hfr, hlo, hcc, hcs, hF⟩ := C
  subst hnl
  intro H locs ls hP hS hl
  exact lv_ldiv hx hb hd hne (k H locs ls hP hS hl)
theorem v_lrem (C : Cx E B l0 cc own ret mL fr lo) {x y : Int64} (hd : decode cc pc = .ok (.lrem, 1)) (hne : ¬ y = 0) (k : V E B σ (pc + 1) lv (.long (x - x / y * y) :: st)) : V E B σ pc lv (.long y :: .long x :: st) := by
  obtain ⟨p, l, e, R, s, m, args, below, meth, c, A, Q, cells, slots, nL⟩ := E
  obtain ⟨hl0, hx, hb, hml, hnl, hr, hlk, hown, hts, hK, hD, hfr, hlo, hcc, hcs, hF⟩ := C
  subst hnl
  intro H locs ls hP hS hl
  exact lv_lrem hx hb hd hne (k H locs ls hP hS hl)
theorem v_lcmp (C : Cx E B l0 cc own ret mL fr lo) {x y : Int64} (hd : decode cc pc = .ok (.lcmp, 1))  (k : V E B σ (pc + 1) lv (.int (lg_cmp x y) :: st)) : V E B σ pc lv (.long y :: .long x :: st) := by
  obtain ⟨p, l, e, R, s, m, args, below, meth, c, A, Q, cells, slots, nL⟩ := E
  obtain ⟨hl0, hx, hb, hml, hnl, hr, hlk, hown, hts, hK, hD, hfr, hlo, hcc, hcs, hF⟩ := C
  subst hnl
  intro H locs ls hP hS hl
  exact W.lcmp hx hb hd  (k H locs ls hP hS hl)
theorem v_iconst (C : Cx E B l0 cc own ret mL fr lo) {n : Int} {v : Int32} (hd : decode cc pc = .ok (.iconst n, 1)) (hv : Int32.ofInt n = v) (k : V E B σ (pc + 1) lv (.int v :: st)) : V E B σ pc lv st := by
  obtain ⟨p, l, e, R, s, m, args, below, meth, c, A, Q, cells, slots, nL⟩ := E
  obtain ⟨hl0, hx, hb, hml, hnl, hr, hlk, hown, hts, hK, hD, hfr, hlo, hcc, hcs, hF⟩ := C
  subst hnl
  intro H locs ls hP hS hl
  exact lv_iconst hx hb hd hv (k H locs ls hP hS hl)
theorem v_bipush (C : Cx E B l0 cc own ret mL fr lo) {n : Int} {v : Int32} (hd : decode cc pc = .ok (.bipush n, 2)) (hv : (Int8.ofInt n).toInt32 = v) (k : V E B σ (pc + 2) lv (.int v :: st)) : V E B σ pc lv st := by
  obtain ⟨p, l, e, R, s, m, args, below, meth, c, A, Q, cells, slots, nL⟩ := E
  obtain ⟨hl0, hx, hb, hml, hnl, hr, hlk, hown, hts, hK, hD, hfr, hlo, hcc, hcs, hF⟩ := C
  subst hnl
  intro H locs ls hP hS hl
  exact lv_bipush hx hb hd hv (k H locs ls hP hS hl)
theorem v_sipush (C : Cx E B l0 cc own ret mL fr lo) {n : Int} {v : Int32} (hd : decode cc pc = .ok (.sipush n, 3)) (hv : (Int16.ofInt n).toInt32 = v) (k : V E B σ (pc + 3) lv (.int v :: st)) : V E B σ pc lv st := by
  obtain ⟨p, l, e, R, s, m, args, below, meth, c, A, Q, cells, slots, nL⟩ := E
  obtain ⟨hl0, hx, hb, hml, hnl, hr, hlk, hown, hts, hK, hD, hfr, hlo, hcc, hcs, hF⟩ := C
  subst hnl
  intro H locs ls hP hS hl
  exact lv_sipush hx hb hd hv (k H locs ls hP hS hl)
theorem v_lconst (C : Cx E B l0 cc own ret mL fr lo) {n : Fin 2} {v : Int64} (hd : decode cc pc = .ok (.lconst n, 1)) (hv : Int64.ofNat (n : Nat) = v) (k : V E B σ (pc + 1) lv (.long v :: st)) : V E B σ pc lv st := by
  obtain ⟨p, l, e, R, s, m, args, below, meth, c, A, Q, cells, slots, nL⟩ := E
  obtain ⟨hl0, hx, hb, hml, hnl, hr, hlk, hown, hts, hK, hD, hfr, hlo, hcc, hcs, hF⟩ := C
  subst hnl
  intro H locs ls hP hS hl
  exact lv_lconst hx hb hd hv (k H locs ls hP hS hl)
theorem v_dup (C : Cx E B l0 cc own ret mL fr lo) {va : Value} (hd : decode cc pc = .ok (.dup, 1)) (hc1 : va.category = 1) (k : V E B σ (pc + 1) lv (va :: va :: st)) : V E B σ pc lv (va :: st) := by
  obtain ⟨p, l, e, R, s, m, args, below, meth, c, A, Q, cells, slots, nL⟩ := E
  obtain ⟨hl0, hx, hb, hml, hnl, hr, hlk, hown, hts, hK, hD, hfr, hlo, hcc, hcs, hF⟩ := C
  subst hnl
  intro H locs ls hP hS hl
  exact lv_dup hx hb hd hc1 (k H locs ls hP hS hl)
theorem v_pop (C : Cx E B l0 cc own ret mL fr lo) {va : Value} (hd : decode cc pc = .ok (.pop, 1)) (hc1 : va.category = 1) (k : V E B σ (pc + 1) lv st) : V E B σ pc lv (va :: st) := by
  obtain ⟨p, l, e, R, s, m, args, below, meth, c, A, Q, cells, slots, nL⟩ := E
  obtain ⟨hl0, hx, hb, hml, hnl, hr, hlk, hown, hts, hK, hD, hfr, hlo, hcc, hcs, hF⟩ := C
  subst hnl
  intro H locs ls hP hS hl
  exact lv_pop hx hb hd hc1 (k H locs ls hP hS hl)
theorem v_ldc (C : Cx E B l0 cc own ret mL fr lo) {index : Nat} {v : Int32} (hw : Cond.constant own index v ∈ gw) (hd : decode cc pc = .ok (.ldc index, 2)) (k : V E B σ (pc + 2) lv (.int v :: st)) : V E B σ pc lv st := by
  obtain ⟨p, l, e, R, s, m, args, below, meth, c, A, Q, cells, slots, nL⟩ := E
  obtain ⟨hl0, hx, hb, hml, hnl, hr, hlk, hown, hts, hK, hD, hfr, hlo, hcc, hcs, hF⟩ := C
  subst hnl
  intro H locs ls hP hS hl
  exact lv_ldc hx hb hown (hts _ hw) hd (k H locs ls hP hS hl)
theorem v_ldcw (C : Cx E B l0 cc own ret mL fr lo) {index : Nat} {v : Int32} (hw : Cond.constant own index v ∈ gw) (hd : decode cc pc = .ok (.ldc_w index, 3)) (k : V E B σ (pc + 3) lv (.int v :: st)) : V E B σ pc lv st := by
  obtain ⟨p, l, e, R, s, m, args, below, meth, c, A, Q, cells, slots, nL⟩ := E
  obtain ⟨hl0, hx, hb, hml, hnl, hr, hlk, hown, hts, hK, hD, hfr, hlo, hcc, hcs, hF⟩ := C
  subst hnl
  intro H locs ls hP hS hl
  exact lv_ldcw hx hb hown (hts _ hw) hd (k H locs ls hP hS hl)
theorem v_ldc2 (C : Cx E B l0 cc own ret mL fr lo) {index : Nat} {v : Int64} (hw : Cond.constantLong own index v ∈ gw) (hd : decode cc pc = .ok (.ldc2_w index, 3)) (k : V E B σ (pc + 3) lv (.long v :: st)) : V E B σ pc lv st := by
  obtain ⟨p, l, e, R, s, m, args, below, meth, c, A, Q, cells, slots, nL⟩ := E
  obtain ⟨hl0, hx, hb, hml, hnl, hr, hlk, hown, hts, hK, hD, hfr, hlo, hcc, hcs, hF⟩ := C
  subst hnl
  intro H locs ls hP hS hl
  exact lv_ldc2 hx hb hown (hts _ hw) hd (k H locs ls hP hS hl)
theorem v_ldcS (C : Cx E B l0 cc own ret mL fr lo) {index i : Nat} {tx : String} (hw : (own, index, tx, i) ∈ sRefs) (hd : decode cc pc = .ok (.ldc index, 2)) (k : V E B σ (pc + 2) lv (.ref (sk B i) :: st)) : V E B σ pc lv st := by
  obtain ⟨p, l, e, R, s, m, args, below, meth, c, A, Q, cells, slots, nL⟩ := E
  obtain ⟨hl0, hx, hb, hml, hnl, hr, hlk, hown, hts, hK, hD, hfr, hlo, hcc, hcs, hF⟩ := C
  subst hnl
  intro H locs ls hP hS hl
  exact va_ldcS hx hb hown (hF.2.2.2.1 _ hw) hd (k H locs ls hP hS hl)
theorem v_iload_n (C : Cx E B l0 cc own ret mL fr lo) {j : Fin 4} {i : Nat} {x : Int32} (q : Nat) (hd : decode cc pc = .ok (.iload_n j, 1)) (hi : (j : Nat) = i) (hq : lv[q]? = some (i, .int x)) (k : V E B σ (pc + 1) lv (.int x :: st)) : V E B σ pc lv st := by
  obtain ⟨p, l, e, R, s, m, args, below, meth, c, A, Q, cells, slots, nL⟩ := E
  obtain ⟨hl0, hx, hb, hml, hnl, hr, hlk, hown, hts, hK, hD, hfr, hlo, hcc, hcs, hF⟩ := C
  subst hnl
  intro H locs ls hP hS hl
  exact lv_iload_n hx hb hd hi (lv_at hl q hq) (k H locs ls hP hS hl)
theorem v_iload (C : Cx E B l0 cc own ret mL fr lo) {i : Nat} {x : Int32} (q : Nat) (hd : decode cc pc = .ok (.iload i, 2)) (hq : lv[q]? = some (i, .int x)) (k : V E B σ (pc + 2) lv (.int x :: st)) : V E B σ pc lv st := by
  obtain ⟨p, l, e, R, s, m, args, below, meth, c, A, Q, cells, slots, nL⟩ := E
  obtain ⟨hl0, hx, hb, hml, hnl, hr, hlk, hown, hts, hK, hD, hfr, hlo, hcc, hcs, hF⟩ := C
  subst hnl
  intro H locs ls hP hS hl
  exact lv_iload hx hb hd (lv_at hl q hq) (k H locs ls hP hS hl)
theorem v_lload_n (C : Cx E B l0 cc own ret mL fr lo) {j : Fin 4} {i : Nat} {x : Int64} (q : Nat) (hd : decode cc pc = .ok (.lload_n j, 1)) (hi : (j : Nat) = i) (hq : lv[q]? = some (i, .long x)) (k : V E B σ (pc + 1) lv (.long x :: st)) : V E B σ pc lv st := by
  obtain ⟨p, l, e, R, s, m, args, below, meth, c, A, Q, cells, slots, nL⟩ := E
  obtain ⟨hl0, hx, hb, hml, hnl, hr, hlk, hown, hts, hK, hD, hfr, hlo, hcc, hcs, hF⟩ := C
  subst hnl
  intro H locs ls hP hS hl
  exact lv_lload_n hx hb hd hi (lv_at hl q hq) (k H locs ls hP hS hl)
theorem v_lload (C : Cx E B l0 cc own ret mL fr lo) {i : Nat} {x : Int64} (q : Nat) (hd : decode cc pc = .ok (.lload i, 2)) (hq : lv[q]? = some (i, .long x)) (k : V E B σ (pc + 2) lv (.long x :: st)) : V E B σ pc lv st := by
  obtain ⟨p, l, e, R, s, m, args, below, meth, c, A, Q, cells, slots, nL⟩ := E
  obtain ⟨hl0, hx, hb, hml, hnl, hr, hlk, hown, hts, hK, hD, hfr, hlo, hcc, hcs, hF⟩ := C
  subst hnl
  intro H locs ls hP hS hl
  exact lv_lload hx hb hd (lv_at hl q hq) (k H locs ls hP hS hl)
theorem v_aload_n (C : Cx E B l0 cc own ret mL fr lo) {j : Fin 4} {i : Nat} {x : Nat} (q : Nat) (hd : decode cc pc = .ok (.aload_n j, 1)) (hi : (j : Nat) = i) (hq : lv[q]? = some (i, .ref x)) (k : V E B σ (pc + 1) lv (.ref x :: st)) : V E B σ pc lv st := by
  obtain ⟨p, l, e, R, s, m, args, below, meth, c, A, Q, cells, slots, nL⟩ := E
  obtain ⟨hl0, hx, hb, hml, hnl, hr, hlk, hown, hts, hK, hD, hfr, hlo, hcc, hcs, hF⟩ := C
  subst hnl
  intro H locs ls hP hS hl
  exact lv_aload_n hx hb hd hi (lv_at hl q hq) (k H locs ls hP hS hl)
def lvs1 (i : Nat) (v : Value) (lv : List (Nat × Value)) : List (Nat × Value) := (i, v) :: lv.filter (fun q => !(q.1 == i) && !(q.1 + 1 == i && q.2.category == 2))
def lvs2 (i : Nat) (v : Value) (lv : List (Nat × Value)) : List (Nat × Value) := (i, v) :: lv.filter (fun q => !(q.1 == i) && (!(q.1 == i + 1) && !(q.1 + 1 == i && q.2.category == 2)))
theorem v_istore_n (C : Cx E B l0 cc own ret mL fr lo) {j : Fin 4} {i : Nat} {x : Int32} {lv' : List (Nat × Value)}  (ks : List Nat) (hd : decode cc pc = .ok (.istore_n j, 1)) (hi : (j : Nat) = i) (hlt : i < mL) (hlv : lv_pick (lvs1 i (.int x) lv) ks = lv') (k : V E B σ (pc + 1) lv' st) : V E B σ pc lv (.int x :: st) := by
  obtain ⟨p, l, e, R, s, m, args, below, meth, c, A, Q, cells, slots, nL⟩ := E
  obtain ⟨hl0, hx, hb, hml, hnl, hr, hlk, hown, hts, hK, hD, hfr, hlo, hcc, hcs, hF⟩ := C
  subst hnl
  intro H locs ls hP hS hl
  exact lv_istore_n hx hb hd hi hl hlt rfl (fun ls2 hl2 => k H locs ls2 hP hS (lv_sub hl2 ks hlv))
theorem v_istore (C : Cx E B l0 cc own ret mL fr lo) {i : Nat} {x : Int32} {lv' : List (Nat × Value)}  (ks : List Nat) (hd : decode cc pc = .ok (.istore i, 2)) (hlt : i < mL) (hlv : lv_pick (lvs1 i (.int x) lv) ks = lv') (k : V E B σ (pc + 2) lv' st) : V E B σ pc lv (.int x :: st) := by
  obtain ⟨p, l, e, R, s, m, args, below, meth, c, A, Q, cells, slots, nL⟩ := E
  obtain ⟨hl0, hx, hb, hml, hnl, hr, hlk, hown, hts, hK, hD, hfr, hlo, hcc, hcs, hF⟩ := C
  subst hnl
  intro H locs ls hP hS hl
  exact lv_istore hx hb hd hl hlt rfl (fun ls2 hl2 => k H locs ls2 hP hS (lv_sub hl2 ks hlv))
theorem v_lstore_n (C : Cx E B l0 cc own ret mL fr lo) {j : Fin 4} {i : Nat} {x : Int64} {lv' : List (Nat × Value)}  (ks : List Nat) (hd : decode cc pc = .ok (.lstore_n j, 1)) (hi : (j : Nat) = i) (hlt : i + 1 < mL) (hlv : lv_pick (lvs2 i (.long x) lv) ks = lv') (k : V E B σ (pc + 1) lv' st) : V E B σ pc lv (.long x :: st) := by
  obtain ⟨p, l, e, R, s, m, args, below, meth, c, A, Q, cells, slots, nL⟩ := E
  obtain ⟨hl0, hx, hb, hml, hnl, hr, hlk, hown, hts, hK, hD, hfr, hlo, hcc, hcs, hF⟩ := C
  subst hnl
  intro H locs ls hP hS hl
  exact lv_lstore_n hx hb hd hi hl hlt rfl (fun ls2 hl2 => k H locs ls2 hP hS (lv_sub hl2 ks hlv))
theorem v_lstore (C : Cx E B l0 cc own ret mL fr lo) {i : Nat} {x : Int64} {lv' : List (Nat × Value)}  (ks : List Nat) (hd : decode cc pc = .ok (.lstore i, 2)) (hlt : i + 1 < mL) (hlv : lv_pick (lvs2 i (.long x) lv) ks = lv') (k : V E B σ (pc + 2) lv' st) : V E B σ pc lv (.long x :: st) := by
  obtain ⟨p, l, e, R, s, m, args, below, meth, c, A, Q, cells, slots, nL⟩ := E
  obtain ⟨hl0, hx, hb, hml, hnl, hr, hlk, hown, hts, hK, hD, hfr, hlo, hcc, hcs, hF⟩ := C
  subst hnl
  intro H locs ls hP hS hl
  exact lv_lstore hx hb hd hl hlt rfl (fun ls2 hl2 => k H locs ls2 hP hS (lv_sub hl2 ks hlv))
theorem v_iinc (C : Cx E B l0 cc own ret mL fr lo) {i q : Nat} {n : Int} {x v : Int32} {lv' : List (Nat × Value)}  (ks : List Nat) (hd : decode cc pc = .ok (.iinc i n, 3)) (hq : lv[q]? = some (i, .int x)) (hv : x + Int32.ofInt n = v) (hlt : i < mL) (hlv : lv_pick (lvs1 i (.int v) lv) ks = lv') (k : V E B σ (pc + 3) lv' st) : V E B σ pc lv st := by
  obtain ⟨p, l, e, R, s, m, args, below, meth, c, A, Q, cells, slots, nL⟩ := E
  obtain ⟨hl0, hx, hb, hml, hnl, hr, hlk, hown, hts, hK, hD, hfr, hlo, hcc, hcs, hF⟩ := C
  subst hnl
  intro H locs ls hP hS hl
  exact lv_iinc hx hb hd hl (k := q) hq hv hlt rfl (fun ls2 hl2 => k H locs ls2 hP hS (lv_sub hl2 ks hlv))
theorem v_sub {lv' : List (Nat × Value)} (ks : List Nat) (h : lv_pick lv ks = lv') (k : V E B σ pc lv' st) : V E B σ pc lv st := by
  obtain ⟨p, l, e, R, s, m, args, below, meth, c, A, Q, cells, slots, nL⟩ := E
  intro H locs ls hP hS hl
  exact k H locs ls hP hS (lv_sub hl ks h)
end VROWS
section VROWS2
variable {E : EE} {B : BB} {l0 : Launch} {cc : ByteArray} {own : String} {ret : Option FieldType} {mL fr lo : Nat} {σ : St2} {pc : Nat} {lv : List (Nat × Value)} {st : List Value} {ρ : Type} {res : ρ} {Pt Pf : Option ρ}
theorem v_icmp_eq (C : Cx E B l0 cc own ret mL fr lo) {x y : Int32} {off : Int} {tgt : Nat} (hd : decode cc pc = .ok (.if_icmp .eq off, 3)) (ht : (pc : Int) + off = (tgt : Int)) (hf : (if x = y then Pt else Pf) = some res) (kt : Pt = some res → V E B σ tgt lv st) (kf : Pf = some res → V E B σ (pc + 3) lv st) : V E B σ pc lv (.int y :: .int x :: st) := by
  obtain ⟨p, l, e, R, s, m, args, below, meth, c, A, Q, cells, slots, nL⟩ := E
  obtain ⟨hl0, hx, hb, hml, hnl, hr, hlk, hown, hts, hK, hD, hfr, hlo, hcc, hcs, hF⟩ := C
  subst hnl
  intro H locs ls hP hS hl
  exact lv_icmp_eq hx hb hd ht (fun hc => kt ((if_pos hc).symm.trans hf) H locs ls hP hS hl) (fun hc => kf ((if_neg hc).symm.trans hf) H locs ls hP hS hl)
theorem v_icmp_ne (C : Cx E B l0 cc own ret mL fr lo) {x y : Int32} {off : Int} {tgt : Nat} (hd : decode cc pc = .ok (.if_icmp .ne off, 3)) (ht : (pc : Int) + off = (tgt : Int)) (hf : (if x = y then Pt else Pf) = some res) (kt : Pf = some res → V E B σ tgt lv st) (kf : Pt = some res → V E B σ (pc + 3) lv st) : V E B σ pc lv (.int y :: .int x :: st) := by
  obtain ⟨p, l, e, R, s, m, args, below, meth, c, A, Q, cells, slots, nL⟩ := E
  obtain ⟨hl0, hx, hb, hml, hnl, hr, hlk, hown, hts, hK, hD, hfr, hlo, hcc, hcs, hF⟩ := C
  subst hnl
  intro H locs ls hP hS hl
  exact lv_icmp_ne hx hb hd ht (fun hc => kt ((if_neg hc).symm.trans hf) H locs ls hP hS hl) (fun hc => kf ((if_pos hc).symm.trans hf) H locs ls hP hS hl)
theorem v_icmp_lt (C : Cx E B l0 cc own ret mL fr lo) {x y : Int32} {off : Int} {tgt : Nat} (hd : decode cc pc = .ok (.if_icmp .lt off, 3)) (ht : (pc : Int) + off = (tgt : Int)) (hf : (if x < y then Pt else Pf) = some res) (kt : Pt = some res → V E B σ tgt lv st) (kf : Pf = some res → V E B σ (pc + 3) lv st) : V E B σ pc lv (.int y :: .int x :: st) := by
  obtain ⟨p, l, e, R, s, m, args, below, meth, c, A, Q, cells, slots, nL⟩ := E
  obtain ⟨hl0, hx, hb, hml, hnl, hr, hlk, hown, hts, hK, hD, hfr, hlo, hcc, hcs, hF⟩ := C
  subst hnl
  intro H locs ls hP hS hl
  exact lv_icmp_lt hx hb hd ht (fun hc => kt ((if_pos hc).symm.trans hf) H locs ls hP hS hl) (fun hc => kf ((if_neg hc).symm.trans hf) H locs ls hP hS hl)
theorem v_icmp_ge (C : Cx E B l0 cc own ret mL fr lo) {x y : Int32} {off : Int} {tgt : Nat} (hd : decode cc pc = .ok (.if_icmp .ge off, 3)) (ht : (pc : Int) + off = (tgt : Int)) (hf : (if y ≤ x then Pt else Pf) = some res) (kt : Pt = some res → V E B σ tgt lv st) (kf : Pf = some res → V E B σ (pc + 3) lv st) : V E B σ pc lv (.int y :: .int x :: st) := by
  obtain ⟨p, l, e, R, s, m, args, below, meth, c, A, Q, cells, slots, nL⟩ := E
  obtain ⟨hl0, hx, hb, hml, hnl, hr, hlk, hown, hts, hK, hD, hfr, hlo, hcc, hcs, hF⟩ := C
  subst hnl
  intro H locs ls hP hS hl
  exact lv_icmp_ge hx hb hd ht (fun hc => kt ((if_pos hc).symm.trans hf) H locs ls hP hS hl) (fun hc => kf ((if_neg hc).symm.trans hf) H locs ls hP hS hl)
theorem v_icmp_gt (C : Cx E B l0 cc own ret mL fr lo) {x y : Int32} {off : Int} {tgt : Nat} (hd : decode cc pc = .ok (.if_icmp .gt off, 3)) (ht : (pc : Int) + off = (tgt : Int)) (hf : (if y < x then Pt else Pf) = some res) (kt : Pt = some res → V E B σ tgt lv st) (kf : Pf = some res → V E B σ (pc + 3) lv st) : V E B σ pc lv (.int y :: .int x :: st) := by
  obtain ⟨p, l, e, R, s, m, args, below, meth, c, A, Q, cells, slots, nL⟩ := E
  obtain ⟨hl0, hx, hb, hml, hnl, hr, hlk, hown, hts, hK, hD, hfr, hlo, hcc, hcs, hF⟩ := C
  subst hnl
  intro H locs ls hP hS hl
  exact lv_icmp_gt hx hb hd ht (fun hc => kt ((if_pos hc).symm.trans hf) H locs ls hP hS hl) (fun hc => kf ((if_neg hc).symm.trans hf) H locs ls hP hS hl)
theorem v_icmp_le (C : Cx E B l0 cc own ret mL fr lo) {x y : Int32} {off : Int} {tgt : Nat} (hd : decode cc pc = .ok (.if_icmp .le off, 3)) (ht : (pc : Int) + off = (tgt : Int)) (hf : (if x ≤ y then Pt else Pf) = some res) (kt : Pt = some res → V E B σ tgt lv st) (kf : Pf = some res → V E B σ (pc + 3) lv st) : V E B σ pc lv (.int y :: .int x :: st) := by
  obtain ⟨p, l, e, R, s, m, args, below, meth, c, A, Q, cells, slots, nL⟩ := E
  obtain ⟨hl0, hx, hb, hml, hnl, hr, hlk, hown, hts, hK, hD, hfr, hlo, hcc, hcs, hF⟩ := C
  subst hnl
  intro H locs ls hP hS hl
  exact lv_icmp_le hx hb hd ht (fun hc => kt ((if_pos hc).symm.trans hf) H locs ls hP hS hl) (fun hc => kf ((if_neg hc).symm.trans hf) H locs ls hP hS hl)
theorem v_if_eq (C : Cx E B l0 cc own ret mL fr lo) {x : Int32} {off : Int} {tgt : Nat} (hd : decode cc pc = .ok (.ifCond .eq off, 3)) (ht : (pc : Int) + off = (tgt : Int)) (hf : (if x = 0 then Pt else Pf) = some res) (kt : Pt = some res → V E B σ tgt lv st) (kf : Pf = some res → V E B σ (pc + 3) lv st) : V E B σ pc lv (.int x :: st) := by
  obtain ⟨p, l, e, R, s, m, args, below, meth, c, A, Q, cells, slots, nL⟩ := E
  obtain ⟨hl0, hx, hb, hml, hnl, hr, hlk, hown, hts, hK, hD, hfr, hlo, hcc, hcs, hF⟩ := C
  subst hnl
  intro H locs ls hP hS hl
  exact lv_if_eq hx hb hd ht (fun hc => kt ((if_pos hc).symm.trans hf) H locs ls hP hS hl) (fun hc => kf ((if_neg hc).symm.trans hf) H locs ls hP hS hl)
theorem v_if_ne (C : Cx E B l0 cc own ret mL fr lo) {x : Int32} {off : Int} {tgt : Nat} (hd : decode cc pc = .ok (.ifCond .ne off, 3)) (ht : (pc : Int) + off = (tgt : Int)) (hf : (if x = 0 then Pt else Pf) = some res) (kt : Pf = some res → V E B σ tgt lv st) (kf : Pt = some res → V E B σ (pc + 3) lv st) : V E B σ pc lv (.int x :: st) := by
  obtain ⟨p, l, e, R, s, m, args, below, meth, c, A, Q, cells, slots, nL⟩ := E
  obtain ⟨hl0, hx, hb, hml, hnl, hr, hlk, hown, hts, hK, hD, hfr, hlo, hcc, hcs, hF⟩ := C
  subst hnl
  intro H locs ls hP hS hl
  exact lv_if_ne hx hb hd ht (fun hc => kt ((if_neg hc).symm.trans hf) H locs ls hP hS hl) (fun hc => kf ((if_pos hc).symm.trans hf) H locs ls hP hS hl)
theorem v_if_lt (C : Cx E B l0 cc own ret mL fr lo) {x : Int32} {off : Int} {tgt : Nat} (hd : decode cc pc = .ok (.ifCond .lt off, 3)) (ht : (pc : Int) + off = (tgt : Int)) (hf : (if x < 0 then Pt else Pf) = some res) (kt : Pt = some res → V E B σ tgt lv st) (kf : Pf = some res → V E B σ (pc + 3) lv st) : V E B σ pc lv (.int x :: st) := by
  obtain ⟨p, l, e, R, s, m, args, below, meth, c, A, Q, cells, slots, nL⟩ := E
  obtain ⟨hl0, hx, hb, hml, hnl, hr, hlk, hown, hts, hK, hD, hfr, hlo, hcc, hcs, hF⟩ := C
  subst hnl
  intro H locs ls hP hS hl
  exact lv_if_lt hx hb hd ht (fun hc => kt ((if_pos hc).symm.trans hf) H locs ls hP hS hl) (fun hc => kf ((if_neg hc).symm.trans hf) H locs ls hP hS hl)
theorem v_if_ge (C : Cx E B l0 cc own ret mL fr lo) {x : Int32} {off : Int} {tgt : Nat} (hd : decode cc pc = .ok (.ifCond .ge off, 3)) (ht : (pc : Int) + off = (tgt : Int)) (hf : (if 0 ≤ x then Pt else Pf) = some res) (kt : Pt = some res → V E B σ tgt lv st) (kf : Pf = some res → V E B σ (pc + 3) lv st) : V E B σ pc lv (.int x :: st) := by
  obtain ⟨p, l, e, R, s, m, args, below, meth, c, A, Q, cells, slots, nL⟩ := E
  obtain ⟨hl0, hx, hb, hml, hnl, hr, hlk, hown, hts, hK, hD, hfr, hlo, hcc, hcs, hF⟩ := C
  subst hnl
  intro H locs ls hP hS hl
  exact lv_if_ge hx hb hd ht (fun hc => kt ((if_pos hc).symm.trans hf) H locs ls hP hS hl) (fun hc => kf ((if_neg hc).symm.trans hf) H locs ls hP hS hl)
theorem v_if_gt (C : Cx E B l0 cc own ret mL fr lo) {x : Int32} {off : Int} {tgt : Nat} (hd : decode cc pc = .ok (.ifCond .gt off, 3)) (ht : (pc : Int) + off = (tgt : Int)) (hf : (if 0 < x then Pt else Pf) = some res) (kt : Pt = some res → V E B σ tgt lv st) (kf : Pf = some res → V E B σ (pc + 3) lv st) : V E B σ pc lv (.int x :: st) := by
  obtain ⟨p, l, e, R, s, m, args, below, meth, c, A, Q, cells, slots, nL⟩ := E
  obtain ⟨hl0, hx, hb, hml, hnl, hr, hlk, hown, hts, hK, hD, hfr, hlo, hcc, hcs, hF⟩ := C
  subst hnl
  intro H locs ls hP hS hl
  exact lv_if_gt hx hb hd ht (fun hc => kt ((if_pos hc).symm.trans hf) H locs ls hP hS hl) (fun hc => kf ((if_neg hc).symm.trans hf) H locs ls hP hS hl)
theorem v_if_le (C : Cx E B l0 cc own ret mL fr lo) {x : Int32} {off : Int} {tgt : Nat} (hd : decode cc pc = .ok (.ifCond .le off, 3)) (ht : (pc : Int) + off = (tgt : Int)) (hf : (if x ≤ 0 then Pt else Pf) = some res) (kt : Pt = some res → V E B σ tgt lv st) (kf : Pf = some res → V E B σ (pc + 3) lv st) : V E B σ pc lv (.int x :: st) := by
  obtain ⟨p, l, e, R, s, m, args, below, meth, c, A, Q, cells, slots, nL⟩ := E
  obtain ⟨hl0, hx, hb, hml, hnl, hr, hlk, hown, hts, hK, hD, hfr, hlo, hcc, hcs, hF⟩ := C
  subst hnl
  intro H locs ls hP hS hl
  exact lv_if_le hx hb hd ht (fun hc => kt ((if_pos hc).symm.trans hf) H locs ls hP hS hl) (fun hc => kf ((if_neg hc).symm.trans hf) H locs ls hP hS hl)
theorem v_goto (C : Cx E B l0 cc own ret mL fr lo) {off : Int} {tgt : Nat} (hd : decode cc pc = .ok (.goto off, 3)) (ht : (pc : Int) + off = (tgt : Int)) (k : V E B σ tgt lv st) : V E B σ pc lv st := by
  obtain ⟨p, l, e, R, s, m, args, below, meth, c, A, Q, cells, slots, nL⟩ := E
  obtain ⟨hl0, hx, hb, hml, hnl, hr, hlk, hown, hts, hK, hD, hfr, hlo, hcc, hcs, hF⟩ := C
  subst hnl
  intro H locs ls hP hS hl
  exact lv_goto hx hb hd ht (k H locs ls hP hS hl)
theorem v_tabIn (C : Cx E B l0 cc own ret mL fr lo) {dflt lw hw : Int} {offs : Array Int} {len : Nat} {x z : Int32} {off : Int} {tgt : Nat} (hd : decode cc pc = .ok (.tableswitch dflt lw hw offs, len)) (hz : x = z) (h1 : ¬ z.toInt < lw) (h2 : ¬ hw < z.toInt) (ho : offs[(z.toInt - lw).toNat]? = some off) (ht : (pc : Int) + off = (tgt : Int)) (k : V E B σ tgt lv st) : V E B σ pc lv (.int x :: st) := by
  obtain ⟨p, l, e, R, s, m, args, below, meth, c, A, Q, cells, slots, nL⟩ := E
  obtain ⟨hl0, hx, hb, hml, hnl, hr, hlk, hown, hts, hK, hD, hfr, hlo, hcc, hcs, hF⟩ := C
  subst hnl
  intro H locs ls hP hS hl
  subst hz
  exact lv_tableIn hx hb hd h1 h2 ho ht (k H locs ls hP hS hl)
theorem v_tabOut (C : Cx E B l0 cc own ret mL fr lo) {dflt lw hw : Int} {offs : Array Int} {len : Nat} {x : Int32} {tgt : Nat} (hd : decode cc pc = .ok (.tableswitch dflt lw hw offs, len)) (h : x.toInt < lw ∨ hw < x.toInt) (ht : (pc : Int) + dflt = (tgt : Int)) (k : V E B σ tgt lv st) : V E B σ pc lv (.int x :: st) := by
  obtain ⟨p, l, e, R, s, m, args, below, meth, c, A, Q, cells, slots, nL⟩ := E
  obtain ⟨hl0, hx, hb, hml, hnl, hr, hlk, hown, hts, hK, hD, hfr, hlo, hcc, hcs, hF⟩ := C
  subst hnl
  intro H locs ls hP hS hl
  exact lv_tableOut hx hb hd h ht (k H locs ls hP hS hl)
theorem v_top {x : Int32} {K : Int32 → Option ρ} (hf : (some x).bind K = some res) (k : ∀ v : Int32, K v = some res → V E B σ pc lv (.int v :: st)) : V E B σ pc lv (.int x :: st) := k x hf
theorem v_topl {x : Int64} {K : Int64 → Option ρ} (hf : (some x).bind K = some res) (k : ∀ v : Int64, K v = some res → V E B σ pc lv (.long v :: st)) : V E B σ pc lv (.long x :: st) := k x hf
theorem v_mmax (C : Cx E B l0 cc own ret mL fr lo) {index : Nat} {x y : Int32} (hw1 : Cond.methodLink own index Lib.Math.max.name ∈ gw) (hw2 : Cond.static Lib.Math.max.name ∈ gw) (hw3 : Cond.initialized "java/lang/Math" ∈ gw) (hw4 : Cond.code Lib.Math.max.name Lib.Math.max.code 2 (some .int) ∈ gw) (hfr1 : 1 ≤ fr) (hlo1 : (st.map fun v => v.category).sum + 13 ≤ lo) (hd : decode cc pc = .ok (.invokestatic index, 3)) (k : V E B σ (pc + 3) lv (.int (if x < y then y else x) :: st)) : V E B σ pc lv (.int y :: .int x :: st) := by
  obtain ⟨p, l, e, R, s, m, args, below, meth, c, A, Q, cells, slots, nL⟩ := E
  obtain ⟨hl0, hx, hb, hml, hnl, hr, hlk, hown, hts, hK, hD, hfr, hlo, hcc, hcs, hF⟩ := C
  subst hnl
  intro H locs ls hP hS hl
  exact va_mmax hx hb (hml.trans hl.1.symm) hown (hts _ hw1) (hts _ hw2) (hts _ hw3) (hts _ hw4) (Nat.le_trans hfr1 hfr) (Nat.le_trans hlo1 hlo) hcc hcs hd (k H locs ls hP hS hl)
theorem v_mmin (C : Cx E B l0 cc own ret mL fr lo) {index : Nat} {x y : Int32} (hw1 : Cond.methodLink own index Lib.Math.min.name ∈ gw) (hw2 : Cond.static Lib.Math.min.name ∈ gw) (hw3 : Cond.initialized "java/lang/Math" ∈ gw) (hw4 : Cond.code Lib.Math.min.name Lib.Math.min.code 2 (some .int) ∈ gw) (hfr1 : 1 ≤ fr) (hlo1 : (st.map fun v => v.category).sum + 13 ≤ lo) (hd : decode cc pc = .ok (.invokestatic index, 3)) (k : V E B σ (pc + 3) lv (.int (if y < x then y else x) :: st)) : V E B σ pc lv (.int y :: .int x :: st) := by
  obtain ⟨p, l, e, R, s, m, args, below, meth, c, A, Q, cells, slots, nL⟩ := E
  obtain ⟨hl0, hx, hb, hml, hnl, hr, hlk, hown, hts, hK, hD, hfr, hlo, hcc, hcs, hF⟩ := C
  subst hnl
  intro H locs ls hP hS hl
  exact va_mmin hx hb (hml.trans hl.1.symm) hown (hts _ hw1) (hts _ hw2) (hts _ hw3) (hts _ hw4) (Nat.le_trans hfr1 hfr) (Nat.le_trans hlo1 hlo) hcc hcs hd (k H locs ls hP hS hl)
end VROWS2
