theorem v_ldcSw {E : EE} {B : BB} {l0 : Launch} {cc : ByteArray} {own : String} {ret : Option FieldType} {mL fr lo : Nat} {σ : St2} {pc : Nat} {lv : List (Nat × Value)} {st : List Value} (C : Cx E B l0 cc own ret mL fr lo) {index i : Nat} {tx : String} (hw : (own, index, tx, i) ∈ sRefs) (hd : decode cc pc = .ok (.ldc_w index, 3)) (k : V E B σ (pc + 3) lv (.ref (sk B i) :: st)) : V E B σ pc lv st := by
  obtain ⟨p, l, e, R, s, m, args, below, meth, c, A, Q, cells, slots, nL⟩ := E
  obtain ⟨hl0, hx, hb, hml, hnl, hr, hlk, hown, hts, hK, hD, hfr, hlo, hcc, hcs, hF⟩ := C
  intro H locs ls hP hS hl
  intro T hT X
  have hZ := hF.2.2.2.1 _ hw
  obtain ⟨t, a1, b1⟩ := k H locs ls hP hS hl T hT X
  exact ⟨t, X.ldcStringW hx hown (text := tx) (a := sk B i) hZ.1 hZ.2 (g := F0 m pc ls st) rfl (by rw [hb]; exact hd) t a1, b1⟩
section FINS
variable {E : EE} {B : BB} {σ : St2} {L : St2 → St2} {x : St2}
theorem fin_i {v res : Int32} (hf : some v = some res) (hQ : Fin9 E B (some (.int res)) σ) : Fin9 E B (some (.int v)) σ := by
  cases hf
  exact hQ
theorem fin_l {v res : Int64} (hf : some v = some res) (hQ : Fin9 E B (some (.long res)) σ) : Fin9 E B (some (.long v)) σ := by
  cases hf
  exact hQ
theorem fin_r {v res : Nat} (hf : some v = some res) (hQ : Fin9 E B (some (.ref (sk B res))) σ) : Fin9 E B (some (.ref (sk B v))) σ := by
  cases hf
  exact hQ
theorem fin_v {res : St2} (hf : some x = some res) (hQ : Fin9 E B none (L res)) : Fin9 E B none (L x) := by
  cases hf
  exact hQ
theorem fin_im {v : Int32} {res : Int32 × St2} (hf : some (v, x) = some res) (hQ : Fin9 E B (some (.int res.1)) (L res.2)) : Fin9 E B (some (.int v)) (L x) := by
  cases hf
  exact hQ
theorem fin_lm {v : Int64} {res : Int64 × St2} (hf : some (v, x) = some res) (hQ : Fin9 E B (some (.long res.1)) (L res.2)) : Fin9 E B (some (.long v)) (L x) := by
  cases hf
  exact hQ
end FINS
