theorem bz_b {ρ : Type} {v : Int32} {K : Int32 → Option ρ} {res : ρ} (h : (bz v).bind K = some res) : (v = 0 ∨ v = 1) ∧ K v = some res := by
  obtain ⟨w, h0, h1⟩ := bnd h
  obtain ⟨hz, e⟩ := bz_s h0
  exact ⟨hz, e ▸ h1⟩
