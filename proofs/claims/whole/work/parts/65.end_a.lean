section ENDA
theorem inv0 : Inv (10 * 0) z00 s00 s00 z00 := by
  have h0 : IS 0 0 s00 := ⟨⟨by omega, rfl⟩, ⟨0, by omega, rfl⟩, ⟨8, by omega, rfl⟩, ⟨0, by omega, rfl⟩, fun w hw => absurd hw (by omega), fun c hc => Or.inl ⟨?_, s00_0 (by omega)⟩, fun k hk => Or.inl ?_⟩
  · exact ⟨⟨0, h0⟩, ⟨Or.inl rfl, rfl, fun e => absurd (show (0 : Int32) = 1 from e) (by decide)⟩, fun j hj => rfl, ⟨0, by omega, rfl, rfl, fun j hj => absurd hj (by omega)⟩, fun q hq => ⟨⟨rfl, Or.inl rfl⟩, ⟨0, by omega, rfl, rfl⟩, fun j hj => rfl⟩, rfl⟩
  · unfold s00
    rw [if_neg (by omega), if_neg (by omega), if_pos (by omega)]
  · unfold s00
    rw [if_neg (by omega), if_neg (by omega), if_neg (by omega), if_pos (by omega)]
theorem wW_of {B : BB} {σ : St2} {H : Heap} (h : ∀ k, k < 61 → va_at B.1 vwCl (ad B k, celT B (σ k) (tb k)) H) : va_P B.1 vwCl (wW B σ) H := by
  intro k q hq
  have hk : k < 61 := by
    have := (List.getElem?_eq_some_iff.mp hq).1
    unfold wW at this
    simpa using this
  rw [wW_at hk] at hq
  cases hq
  exact h k hk
def bEnd (D : va_G) (cI cII : ClassId) (u v kf vf tf : Nat → Nat) : BB := (D, cI, cII, fun k => if k < 51 then u k else v (k - 51), kf, vf, tf)
set_option maxHeartbeats 4000000 in
set_option maxRecDepth 100000 in
theorem end_P {D : va_G} {cI cII : ClassId} {u v kf vf tf : Nat → Nat} {H : Heap} (hP : va_P D vwCl (wT (bq D cI cII u) (cq z00 s00 s00 s00) tbP ++ wT (bq D cI cII v) (mq z00 s00) tbM) H) : va_P D vwCl (wW (bEnd D cI cII u v kf vf tf) (jn (cq z00 s00 s00 s00) (mq z00 s00))) H := by
  refine wW_of (B := bEnd D cI cII u v kf vf tf) (fun k hk => ?_)
  show va_at D vwCl _ H
  match k, hk with
  | 0, _ => exact hP 0 _ rfl
  | 1, _ => exact hP 1 _ rfl
  | 2, _ => exact hP 2 _ rfl
  | 3, _ => exact hP 3 _ rfl
  | 4, _ => exact hP 4 _ rfl
  | 5, _ => exact at_q (show va_at D vwCl (u 5, .inl (cII, 4, .inr (.inr (.inr (.inr (fun i => some (u (6 + i)))))))) H from hP 5 _ rfl) (fun j hj => by
    match j, hj with
    | 0, _ => rfl
    | 1, _ => rfl
    | 2, _ => rfl
    | 3, _ => rfl
    | j + 4, hj => exact absurd hj (by omega))
  | 6, _ => exact hP 6 _ rfl
  | 7, _ => exact hP 7 _ rfl
  | 8, _ => exact hP 8 _ rfl
  | 9, _ => exact hP 9 _ rfl
  | 10, _ => exact hP 10 _ rfl
  | 11, _ => exact hP 11 _ rfl
  | 12, _ => exact hP 12 _ rfl
  | 13, _ => exact at_q (show va_at D vwCl (u 13, .inl (cII, 3, .inr (.inr (.inr (.inr (fun i => some (u (14 + i)))))))) H from hP 13 _ rfl) (fun j hj => by
    match j, hj with
    | 0, _ => rfl
    | 1, _ => rfl
    | 2, _ => rfl
    | j + 3, hj => exact absurd hj (by omega))
  | 14, _ => exact hP 14 _ rfl
  | 15, _ => exact hP 15 _ rfl
  | 16, _ => exact hP 16 _ rfl
  | 17, _ => exact at_q (show va_at D vwCl (u 17, .inl (cII, 6, .inr (.inr (.inr (.inr (fun i => some (u (18 + i)))))))) H from hP 17 _ rfl) (fun j hj => by
    match j, hj with
    | 0, _ => rfl
    | 1, _ => rfl
    | 2, _ => rfl
    | 3, _ => rfl
    | 4, _ => rfl
    | 5, _ => rfl
    | j + 6, hj => exact absurd hj (by omega))
  | 18, _ => exact hP 18 _ rfl
  | 19, _ => exact hP 19 _ rfl
  | 20, _ => exact hP 20 _ rfl
  | 21, _ => exact hP 21 _ rfl
  | 22, _ => exact hP 22 _ rfl
  | 23, _ => exact hP 23 _ rfl
  | 24, _ => exact hP 24 _ rfl
  | 25, _ => exact hP 25 _ rfl
  | 26, _ => exact at_q (show va_at D vwCl (u 26, .inl (cII, 3, .inr (.inr (.inr (.inr (fun i => some (u (27 + i)))))))) H from hP 26 _ rfl) (fun j hj => by
    match j, hj with
    | 0, _ => rfl
    | 1, _ => rfl
    | 2, _ => rfl
    | j + 3, hj => exact absurd hj (by omega))
  | 27, _ => exact hP 27 _ rfl
  | 28, _ => exact hP 28 _ rfl
  | 29, _ => exact hP 29 _ rfl
  | 30, _ => exact at_q (show va_at D vwCl (u 30, .inl (cII, 6, .inr (.inr (.inr (.inr (fun i => some (u (31 + i)))))))) H from hP 30 _ rfl) (fun j hj => by
    match j, hj with
    | 0, _ => rfl
    | 1, _ => rfl
    | 2, _ => rfl
    | 3, _ => rfl
    | 4, _ => rfl
    | 5, _ => rfl
    | j + 6, hj => exact absurd hj (by omega))
  | 31, _ => exact hP 31 _ rfl
  | 32, _ => exact hP 32 _ rfl
  | 33, _ => exact hP 33 _ rfl
  | 34, _ => exact hP 34 _ rfl
  | 35, _ => exact hP 35 _ rfl
  | 36, _ => exact hP 36 _ rfl
  | 37, _ => exact hP 37 _ rfl
  | 38, _ => exact hP 38 _ rfl
  | 39, _ => exact at_q (show va_at D vwCl (u 39, .inl (cII, 3, .inr (.inr (.inr (.inr (fun i => some (u (40 + i)))))))) H from hP 39 _ rfl) (fun j hj => by
    match j, hj with
    | 0, _ => rfl
    | 1, _ => rfl
    | 2, _ => rfl
    | j + 3, hj => exact absurd hj (by omega))
  | 40, _ => exact hP 40 _ rfl
  | 41, _ => exact hP 41 _ rfl
  | 42, _ => exact hP 42 _ rfl
  | 43, _ => exact at_q (show va_at D vwCl (u 43, .inl (cII, 6, .inr (.inr (.inr (.inr (fun i => some (u (44 + i)))))))) H from hP 43 _ rfl) (fun j hj => by
    match j, hj with
    | 0, _ => rfl
    | 1, _ => rfl
    | 2, _ => rfl
    | 3, _ => rfl
    | 4, _ => rfl
    | 5, _ => rfl
    | j + 6, hj => exact absurd hj (by omega))
  | 44, _ => exact hP 44 _ rfl
  | 45, _ => exact hP 45 _ rfl
  | 46, _ => exact hP 46 _ rfl
  | 47, _ => exact hP 47 _ rfl
  | 48, _ => exact hP 48 _ rfl
  | 49, _ => exact hP 49 _ rfl
  | 50, _ => exact hP 50 _ rfl
  | 51, _ => exact hP 51 _ rfl
  | 52, _ => exact hP 52 _ rfl
  | 53, _ => exact hP 53 _ rfl
  | 54, _ => exact hP 54 _ rfl
  | 55, _ => exact hP 55 _ rfl
  | 56, _ => exact hP 56 _ rfl
  | 57, _ => exact hP 57 _ rfl
  | 58, _ => exact hP 58 _ rfl
  | 59, _ => exact hP 59 _ rfl
  | 60, _ => exact hP 60 _ rfl
  | k + 61, hk => exact absurd hk (by omega)
set_option maxHeartbeats 4000000 in
set_option maxRecDepth 100000 in
theorem end_D {A : Nat → Prop} {D : va_G} {cI cII : ClassId} {u v kf vf tf : Nat → Nat} (hD : va_D A (wT (bq D cI cII u) (cq z00 s00 s00 s00) tbP ++ wT (bq D cI cII v) (mq z00 s00) tbM)) (σ : St2) : va_D A (wW (bEnd D cI cII u v kf vf tf) σ) := D_of hD (List.range 61) (by decide +kernel) rfl
/-- what is known of the classes at the start -/
theorem start_K {args : Array Value} {s : State} (hts : ∀ w ∈ lw_tbl, w.before args s = true) : ∃ (D : va_G) (cI cII : ClassId), KK D cI cII s := by
  have htg : ∀ w ∈ gw, w.before args s = true := fun w hw => hts w (List.mem_filter.mp hw).1
  obtain ⟨cX0, iX0, kX0⟩ := u_known (C := RX0) (T := TX0) (N := 3) (n := 3) htg inX0 (htg (.instantiable RX0 3) (wq_t 93 (by decide +kernel) (by decide +kernel)))
  obtain ⟨cX1, iX1, kX1⟩ := u_known (C := RX1) (T := TX1) (N := 8) (n := 8) htg inX1 (htg (.instantiable RX1 8) (wq_t 22 (by decide +kernel) (by decide +kernel)))
  obtain ⟨cX2, iX2, kX2⟩ := u_known (C := RX2) (T := TX2) (N := 6) (n := 6) htg inX2 (htg (.instantiable RX2 6) (wq_t 67 (by decide +kernel) (by decide +kernel)))
  obtain ⟨cX3, iX3, kX3⟩ := u_known (C := RX3) (T := TX3) (N := 7) (n := 7) htg inX3 (htg (.instantiable RX3 7) (wq_t 14 (by decide +kernel) (by decide +kernel)))
  obtain ⟨cX4, iX4, kX4⟩ := u_known (C := RX4) (T := TX4) (N := 15) (n := 15) htg inX4 (htg (.instantiable RX4 15) (wq_t 662 (by decide +kernel) (by decide +kernel)))
  obtain ⟨dC, dI, hKc⟩ : ∃ (dC : Nat → ClassId) (dI : Nat → Nat → Nat), ∀ (k : Nat) (q : vw_C), vwCl[k]? = some q → u_Kn s q.1 q.2.1 q.2.2 (dC k) (dI k) := by
    refine ⟨fun k => if k = 0 then cX0 else if k = 1 then cX1 else if k = 2 then cX2 else if k = 3 then cX3 else cX4, fun k => if k = 0 then iX0 else if k = 1 then iX1 else if k = 2 then iX2 else if k = 3 then iX3 else iX4, ?_⟩
    intro k q hq
    match k, hq with
    | 0, hq => cases hq; exact kX0
    | 1, hq => cases hq; exact kX1
    | 2, hq => cases hq; exact kX2
    | 3, hq => cases hq; exact kX3
    | 4, hq => cases hq; exact kX4
    | k + 5, hq => simp [vwCl] at hq
  have hAC : (Cond.arrayClass .int).before args s = true := hts _ (List.mem_append_right _ (List.mem_of_getElem? (i := 65) (by decide +kernel)))
  have hAO : (Cond.arrayOver (.array .int)).before args s = true := hts _ (List.mem_append_right _ (List.mem_of_getElem? (i := 28) (by decide +kernel)))
  obtain ⟨cI, kI, comp, e1, e2, e3⟩ := Cond.arrayClass_spec hAC
  obtain ⟨comp2, c2, k2, f1, f2, f3, f4⟩ := Cond.arrayOver_specA hAO
  refine ⟨(dC, dI), cI, c2, ⟨hKc, fun k q h => ?_⟩, Jvm.Stand.arrayOver_alikeB (args' := #[]) (first' := s) (o' := none) (idx' := []) (Vm.Alike.refl s.vm) hAO⟩
  match k, h with
  | 0, h => cases h; exact ⟨fun n z => ⟨fun k h => (by cases h), kI, e2, comp, e3⟩, e1⟩
  | 1, h => cases h; exact ⟨fun n z => ⟨fun k h => (by cases h), k2, f2, comp2, f3⟩, f4⟩
  | k + 2, h => simp at h
end ENDA
