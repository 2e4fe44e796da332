/-! ===== the world: 61 cells at the addresses ad B 0 .. ad B 60, their numbers in one table of tables ===== -/
abbrev St2 : Type := Nat → Nat → Int32
/-- the machine's part of a walk -/
abbrev EE : Type := Program × Launch × Env × Room × State × MethodId × Array Value × List Frame × Method × Code × (Nat → Prop) × (State → Prop) × Nat × Nat × Nat
/-- the addresses: classes, array classes, cells, texts, their bytes, static tables -/
abbrev BB : Type := va_G × ClassId × ClassId × (Nat → Nat) × (Nat → Nat) × (Nat → Nat) × (Nat → Nat)
def ad (B : BB) (k : Nat) : Nat := B.2.2.2.1 k
def sk (B : BB) (i : Nat) : Nat := B.2.2.2.2.1 i
def sv (B : BB) (i : Nat) : Nat := B.2.2.2.2.2.1 i
def ta (B : BB) (i : Nat) : Nat := B.2.2.2.2.2.2 i
abbrev TB : Type := Nat ⊕ (Nat × Nat) ⊕ (Nat × List (Nat ⊕ Nat))
def tbSh (b : Nat) : List TB := [.inr (.inr (1, [.inl (b + 1), .inl (b + 5), .inl (b + 12), .inr 3, .inr 4, .inr 5, .inr 6, .inr 7])), .inr (.inl (3, b + 2)), .inl 24, .inl 24, .inl 24, .inr (.inl (6, b + 6)), .inl 8, .inl 8, .inl 8, .inl 8, .inl 8, .inl 8, .inl 10]
def tbL : List TB := [.inr (.inr (3, [.inl 12, .inl 25, .inl 38, .inr 3, .inl 2, .inl 4, .inl 1])), .inl 7, .inr (.inr (2, [.inl 3, .inr 1, .inr 2, .inr 3, .inr 4, .inr 5])), .inl 120, .inr (.inr (0, [.inl 5, .inl 10, .inl 11])), .inr (.inl (4, 6)), .inl 40, .inl 40, .inl 40, .inl 40, .inl 4, .inl 4] ++ (tbSh 12 ++ (tbSh 25 ++ (tbSh 38 ++ [.inr (.inr (4, [.inl 52, .inl 53, .inl 54, .inr 3, .inl 55, .inr 5, .inl 56, .inr 7, .inr 8, .inr 9, .inr 10, .inl 57, .inl 58, .inl 59, .inl 60])), .inl 135, .inl 135, .inl 135, .inl 7, .inl 120, .inl 4, .inl 4, .inl 160, .inl 40])))
def tb (k : Nat) : TB := tbL.getD k (.inl 0)
def celF (B : BB) (f : Nat → Int32) (q : Nat ⊕ Nat) : Value := match q with
  | .inl j => .ref (ad B j)
  | .inr i => .int (f i)
def celT (B : BB) (f : Nat → Int32) (t : TB) : va_E := match t with
  | .inl N => .inl (B.2.1, N, .inl f)
  | .inr (.inl (N, j)) => .inl (B.2.2.1, N, .inr (.inr (.inr (.inr (fun i => some (ad B (j + i)))))))
  | .inr (.inr (ci, fl)) => .inr (ci, fl.map (celF B f))
def wW (B : BB) (σ : St2) : va_W := (List.range 61).map (fun k => (ad B k, celT B (σ k) (tb k)))
theorem wW_at {B : BB} {σ : St2} {k : Nat} (h : k < 61) : (wW B σ)[k]? = some (ad B k, celT B (σ k) (tb k)) := by
  unfold wW
  rw [List.getElem?_map, List.getElem?_range h]
  rfl
theorem wW_set {B : BB} {σ : St2} {k : Nat} {g : Nat → Int32} (h : k < 61) : (wW B σ).set k (ad B k, celT B g (tb k)) = wW B (va_up σ k g) := by
  apply List.ext_getElem?
  intro j
  by_cases hj : j < 61
  · rw [wW_at hj]
    by_cases e : j = k
    · subst e
      rw [List.getElem?_set_self (by unfold wW; simpa using hj)]
      simp [va_up]
    · rw [List.getElem?_set_ne (Ne.symm e), wW_at hj]
      simp [va_up, e]
  · rw [List.getElem?_eq_none (by unfold wW; simp; omega), List.getElem?_eq_none (by unfold wW; simp; omega)]
def okT (t : TB) : Bool := match t with
  | .inr (.inr (_, fl)) => (List.range fl.length).all (fun j => match fl[j]? with
    | some (.inr x) => x == j
    | _ => true)
  | _ => true
theorem tbL_ok : tbL.all okT = true := by decide +kernel
theorem tb_lab {k ci : Nat} {fl : List (Nat ⊕ Nat)} (h : tb k = .inr (.inr (ci, fl))) {j x : Nat} (hj : fl[j]? = some (.inr x)) : x = j := by
  have h1 : okT (tb k) = true := by
    unfold tb
    by_cases hk : k < tbL.length
    · rw [List.getD_eq_getElem?_getD, List.getElem?_eq_getElem hk]
      exact List.all_eq_true.mp tbL_ok _ (List.getElem_mem hk)
    · rw [List.getD_eq_getElem?_getD, List.getElem?_eq_none (by omega)]
      rfl
  rw [h] at h1
  have h2 := List.all_eq_true.mp h1 j (List.mem_range.mpr (List.getElem?_eq_some_iff.mp hj).1)
  rw [hj] at h2
  exact eq_of_beq h2
theorem fl_set {B : BB} {f : Nat → Int32} {fl : List (Nat ⊕ Nat)} {i : Nat} {v : Int32} (hlab : ∀ {j x : Nat}, fl[j]? = some (.inr x) → x = j) (hi : fl[i]? = some (.inr i)) : (fl.map (celF B f)).set i (.int v) = fl.map (celF B (upd f i v)) := by
  apply List.ext_getElem?
  intro j
  have hlt : i < fl.length := (List.getElem?_eq_some_iff.mp hi).1
  by_cases e : j = i
  · subst e
    rw [List.getElem?_set_self (by simpa using hlt), List.getElem?_map, hi]
    simp [celF, upd]
  · rw [List.getElem?_set_ne (Ne.symm e), List.getElem?_map, List.getElem?_map]
    cases hq : fl[j]? with
    | none => rfl
    | some q =>
      cases q with
      | inl a => rfl
      | inr x =>
        have := hlab hq
        subst this
        simp [celF, upd, e]
/-! ===== states inside states ===== -/
def putS (κ : St2) (b : Nat) (x : St2) : St2 := fun k => if b ≤ k ∧ k < b + 13 then x (k - b) else κ k
def vw (κ : St2) (b : Nat) : St2 := fun k => if k < 13 then κ (b + k) else fun _ => 0
def jn (κ τ : St2) : St2 := fun k => if k < 51 then κ k else τ (k - 51)
theorem putS_vw (κ : St2) (b : Nat) : putS κ b (vw κ b) = κ := by
  funext k
  unfold putS vw
  by_cases h : b ≤ k ∧ k < b + 13
  · rw [if_pos h, if_pos (by omega), show b + (k - b) = k by omega]
  · rw [if_neg h]
theorem putS_in {κ x : St2} {b k : Nat} (h : k < 13) : putS κ b x (b + k) = x k := by
  unfold putS
  rw [if_pos (by omega), show b + k - b = k by omega]
theorem putS_out {κ x : St2} {b k : Nat} (h : k < b ∨ b + 13 ≤ k) : putS κ b x k = κ k := if_neg (by omega)
theorem vw_putS {κ x : St2} {b k : Nat} (h : k < 13) : vw (putS κ b x) b k = x k := (if_pos h).trans (putS_in h)
theorem vw_at {κ : St2} {b k : Nat} (h : k < 13) : vw κ b k = κ (b + k) := if_pos h
theorem putS_up {κ x : St2} {b k : Nat} {f : Nat → Int32} (h : k < 13) : putS κ b (va_up x k f) = va_up (putS κ b x) (b + k) f := by
  funext j
  unfold putS va_up
  dsimp only
  by_cases e : j = b + k
  · subst e
    rw [if_pos (by omega), if_pos (by omega), if_pos rfl]
  · rw [if_neg e]
    by_cases h2 : b ≤ j ∧ j < b + 13
    · rw [if_pos h2, if_pos h2, if_neg (by omega)]
    · rw [if_neg h2, if_neg h2]
/-- a lens: the small table of n cells lies from b on in the whole -/
def Ln (b n : Nat) (L : St2 → St2) : Prop := b + n ≤ 61 ∧ (∀ (x : St2) (k : Nat), k < n → L x (b + k) = x k) ∧ ∀ (x : St2) (k : Nat) (f : Nat → Int32), k < n → L (va_up x k f) = va_up (L x) (b + k) f
/-- PrintShore's own cells -/
def LnC (L : St2 → St2) : Prop := (∀ (x : St2) (k : Nat), k < 51 → L x k = x k) ∧ ∀ (x : St2) (k : Nat) (f : Nat → Int32), k < 51 → L (va_up x k f) = va_up (L x) k f
theorem lnC_jn (τ : St2) : LnC (fun κ => jn κ τ) := by
  refine ⟨fun x k h => if_pos h, fun x k f h => ?_⟩
  funext j
  show jn (va_up x k f) τ j = va_up (jn x τ) k f j
  unfold jn va_up
  by_cases e : j = k
  · subst e
    rw [if_pos h, if_pos rfl, if_pos rfl]
  · rw [if_neg e, if_neg e]
theorem lnM_jn (κ : St2) : Ln 51 10 (fun τ => jn κ τ) := by
  refine ⟨Nat.le_refl _, fun x k h => ?_, fun x k f h => ?_⟩
  · show jn κ x (51 + k) = x k
    unfold jn
    rw [if_neg (by omega), show 51 + k - 51 = k by omega]
  · funext j
    show jn κ (va_up x k f) j = va_up (jn κ x) (51 + k) f j
    unfold jn va_up
    dsimp only
    by_cases e : j = 51 + k
    · subst e
      rw [if_neg (by omega), if_pos (by omega), if_pos rfl]
    · rw [if_neg e]
      by_cases h2 : j < 51
      · rw [if_pos h2, if_pos h2]
      · rw [if_neg h2, if_neg h2, if_neg (by omega)]
def Sb (b : Nat) : Prop := b = 12 ∨ b = 25 ∨ b = 38
theorem Sb.le {b : Nat} (h : Sb b) : b + 13 ≤ 51 := by rcases h with h | h | h <;> omega
theorem sb12 : Sb 12 := Or.inl rfl
theorem sb25 : Sb 25 := Or.inr (Or.inl rfl)
theorem sb38 : Sb 38 := Or.inr (Or.inr rfl)
theorem lnS_of {L : St2 → St2} (h : LnC L) {b : Nat} (hb : Sb b) (κ : St2) : Ln b 13 (fun x => L (putS κ b x)) := by
  have := hb.le
  refine ⟨by omega, fun x k hk => ?_, fun x k f hk => ?_⟩
  · show L (putS κ b x) (b + k) = x k
    rw [h.1 _ _ (by omega), putS_in hk]
  · show L (putS κ b (va_up x k f)) = va_up (L (putS κ b x)) (b + k) f
    rw [putS_up hk, h.2 _ _ _ (by omega)]
theorem tb_sh {b : Nat} (hb : Sb b) {k : Nat} (hk : k < 13) : tb (b + k) = (tbSh b).getD k (.inl 0) := by
  rcases hb with rfl | rfl | rfl
  · match k, hk with
    | 0, _ => rfl
    | 1, _ => rfl
    | 2, _ => rfl
    | 3, _ => rfl
    | 4, _ => rfl
    | 5, _ => rfl
    | 6, _ => rfl
    | 7, _ => rfl
    | 8, _ => rfl
    | 9, _ => rfl
    | 10, _ => rfl
    | 11, _ => rfl
    | 12, _ => rfl
    | k + 13, h => exact absurd h (by omega)
  · match k, hk with
    | 0, _ => rfl
    | 1, _ => rfl
    | 2, _ => rfl
    | 3, _ => rfl
    | 4, _ => rfl
    | 5, _ => rfl
    | 6, _ => rfl
    | 7, _ => rfl
    | 8, _ => rfl
    | 9, _ => rfl
    | 10, _ => rfl
    | 11, _ => rfl
    | 12, _ => rfl
    | k + 13, h => exact absurd h (by omega)
  · match k, hk with
    | 0, _ => rfl
    | 1, _ => rfl
    | 2, _ => rfl
    | 3, _ => rfl
    | 4, _ => rfl
    | 5, _ => rfl
    | 6, _ => rfl
    | 7, _ => rfl
    | 8, _ => rfl
    | 9, _ => rfl
    | 10, _ => rfl
    | 11, _ => rfl
    | 12, _ => rfl
    | k + 13, h => exact absurd h (by omega)
/-! ===== what a pure step answers ===== -/
abbrev inb (i : Int32) (N : Nat) : Prop := ¬ i < 0 ∧ i.toNatClampNeg < N
theorem inb_vp {i : Int32} {N : Nat} (h : inb i N) : vp_in i N := fun q => q.elim h.1 (fun z => absurd h.2 (Nat.not_lt.mpr z))
/-- an array's number -/
def rd (f : Nat → Int32) (N : Nat) (i : Int32) : Option Int32 := if inb i N then some (f i.toNatClampNeg) else none
/-- an array's number becomes another -/
def wr (x : St2) (k N : Nat) (i v : Int32) : Option St2 := if inb i N then some (va_up x k (upd (x k) i.toNatClampNeg v)) else none
/-- which row -/
def ck (i : Int32) (N : Nat) : Option Nat := if inb i N then some i.toNatClampNeg else none
/-- a field becomes another -/
def pf (x : St2) (k i : Nat) (v : Int32) : Option St2 := some (va_up x k (upd (x k) i v))
/-- numbers of one row come to another one -/
def cp (x : St2) (j nj k nk : Nat) (sp dp n : Int32) : Option St2 := if (¬ sp < 0 ∧ ¬ dp < 0 ∧ ¬ n < 0) ∧ sp.toNatClampNeg + n.toNatClampNeg ≤ nj ∧ dp.toNatClampNeg + n.toNatClampNeg ≤ nk then some (va_up x k (va_cpy (x j) (x k) sp.toNatClampNeg dp.toNatClampNeg n.toNatClampNeg)) else none
theorem rd_s {f : Nat → Int32} {N : Nat} {i v : Int32} (h : rd f N i = some v) : inb i N ∧ v = f i.toNatClampNeg := by
  unfold rd at h
  by_cases q : inb i N
  · rw [if_pos q] at h
    exact ⟨q, (Option.some.inj h).symm⟩
  · rw [if_neg q] at h
    cases h
theorem wr_s {x x' : St2} {k N : Nat} {i v : Int32} (h : wr x k N i v = some x') : inb i N ∧ x' = va_up x k (upd (x k) i.toNatClampNeg v) := by
  unfold wr at h
  by_cases q : inb i N
  · rw [if_pos q] at h
    exact ⟨q, (Option.some.inj h).symm⟩
  · rw [if_neg q] at h
    cases h
theorem ck_s {i : Int32} {N r : Nat} (h : ck i N = some r) : inb i N ∧ r = i.toNatClampNeg := by
  unfold ck at h
  by_cases q : inb i N
  · rw [if_pos q] at h
    exact ⟨q, (Option.some.inj h).symm⟩
  · rw [if_neg q] at h
    cases h
theorem bnd {α β : Type} {o : Option α} {K : α → Option β} {r : β} (h : o.bind K = some r) : ∃ a, o = some a ∧ K a = some r := Option.bind_eq_some_iff.mp h
/-! ===== what stands outside the world: static tables, texts, nest links ===== -/
def tvL : List (List Int32) := [[-1, 0, 0, 2, 3, 0, 1], [0, 0, 0, 1, 1, 0], [6, 23, 1, 6, 9, 99999]]
def tv (i j : Nat) : Int32 := (tvL.getD i []).getD j 0
def sbL : List (List Int32) := [[119, 97, 108, 107, 101, 114], [99, 104, 105, 108, 100], [99, 97, 114, 116, 101, 114], [104, 111, 114, 115, 101], [114, 105, 100, 101, 114], [116, 104, 105, 101, 102], [114, 117, 110, 110, 101, 114], [97, 116], [111, 117, 116], [115, 116, 114, 105, 100, 101], [119, 101, 105, 103, 104, 116], [114, 101, 97, 99, 104], [112, 114, 105, 110, 116], [59]]
def slen (i : Nat) : Nat := (sbL.getD i []).length
def sby (i j : Nat) : Int32 := (sbL.getD i []).getD j 0
def sRefs : List (String × Nat × String × Nat) := [("PrintShore$Tape", 122, "child", 1), ("PrintShore$Tape", 124, "carter", 2), ("PrintShore$Tape", 126, "horse", 3), ("PrintShore$Tape", 128, "rider", 4), ("PrintShore$Tape", 130, "thief", 5), ("PrintShore$Tape", 132, "runner", 6), ("PrintShore$Tape", 134, "walker", 0), ("PrintShore$Tape", 67, "at", 7), ("PrintShore$Tape", 73, "out", 8), ("PrintShore$Tape", 79, "stride", 9), ("PrintShore$Tape", 81, "weight", 10), ("PrintShore$Tape", 43, "reach", 11), ("PrintShore$Tape", 52, "print", 12), ("PrintShoreModel", 253, "walker", 0), ("PrintShoreModel", 255, "child", 1), ("PrintShoreModel", 257, "carter", 2), ("PrintShoreModel", 259, "horse", 3), ("PrintShoreModel", 261, "rider", 4), ("PrintShoreModel", 263, "thief", 5), ("PrintShoreModel", 265, "runner", 6), ("PrintShoreModel", 267, "at", 7), ("PrintShoreModel", 275, "out", 8), ("PrintShoreModel", 277, "stride", 9), ("PrintShoreModel", 279, "weight", 10), ("PrintShoreModel", 287, "reach", 11), ("PrintShoreModel", 289, "print", 12), ("PrintShoreModel", 297, ";", 13)]
def nwL : List Cond := [.methodLinkNest RX1 45 yX3_within "PrintShore", .methodLinkNest RX0 23 yX3_within "PrintShore", .methodLinkNest RX2 105 yX3_within "PrintShore"]
def nfL : List Cond := [.fieldLinkNest RX1 94 "PrintShore" "TRAIT_MOST" "[I" "PrintShore", .fieldLinkNest RX2 83 "PrintShore" "TRAIT_LEAST" "[I" "PrintShore", .fieldLinkNest RX2 86 "PrintShore" "TRAIT_MOST" "[I" "PrintShore"]
def SF (B : BB) (A : Nat → Prop) (U : State) (H : Heap) : Prop :=
  ((va_Z "PrintShore" "ABOVE" "[I" (.ref (ta B 0)) A U H ∧ va_T .int (ta B 0) 7 (fun j => .int (tv 0 j)) A U H) ∧ (va_Z "PrintShore" "TRAIT_LEAST" "[I" (.ref (ta B 1)) A U H ∧ va_T .int (ta B 1) 6 (fun j => .int (tv 1 j)) A U H) ∧ (va_Z "PrintShore" "TRAIT_MOST" "[I" (.ref (ta B 2)) A U H ∧ va_T .int (ta B 2) 6 (fun j => .int (tv 2 j)) A U H)) ∧
  (∀ i, i < 14 → va_O "java/lang/String" (sk B i) A U H ∧ va_OF "java/lang/String" "coder" "B" (.int 0) (sk B i) A U H ∧ va_OF "java/lang/String" "value" "[B" (.ref (sv B i)) (sk B i) A U H ∧ va_T .byte (sv B i) (slen i) (fun j => .int (sby i j)) A U H) ∧
  (va_Z "java/lang/String" "COMPACT_STRINGS" "Z" (.int 1) A U H ∧ va_Zq "jdk/internal/util/Preconditions" "SIOOBE_FORMATTER" "Ljava/util/function/BiFunction;" A U H) ∧
  (∀ q ∈ sRefs, vk_R q.1 q.2.1 q.2.2.1 (sk B q.2.2.2) U) ∧ (∀ w ∈ nwL, va_Nw w U) ∧ ∀ w ∈ nfL, va_Nw w U
theorem nw_all {P : Cond → Prop} (h0 : P (.methodLinkNest RX1 45 yX3_within "PrintShore")) (h1 : P (.methodLinkNest RX0 23 yX3_within "PrintShore")) (h2 : P (.methodLinkNest RX2 105 yX3_within "PrintShore")) : ∀ w ∈ nwL, P w := List.forall_mem_cons.mpr ⟨h0, List.forall_mem_cons.mpr ⟨h1, List.forall_mem_cons.mpr ⟨h2, fun _ h => absurd h List.not_mem_nil⟩⟩⟩
theorem nf_all {P : Cond → Prop} (h0 : P (.fieldLinkNest RX1 94 "PrintShore" "TRAIT_MOST" "[I" "PrintShore")) (h1 : P (.fieldLinkNest RX2 83 "PrintShore" "TRAIT_LEAST" "[I" "PrintShore")) (h2 : P (.fieldLinkNest RX2 86 "PrintShore" "TRAIT_MOST" "[I" "PrintShore")) : ∀ w ∈ nfL, P w := List.forall_mem_cons.mpr ⟨h0, List.forall_mem_cons.mpr ⟨h1, List.forall_mem_cons.mpr ⟨h2, fun _ h => absurd h List.not_mem_nil⟩⟩⟩
theorem nw0 : (Cond.methodLinkNest RX1 45 yX3_within "PrintShore") ∈ nwL := List.mem_cons_self
theorem nw1 : (Cond.methodLinkNest RX0 23 yX3_within "PrintShore") ∈ nwL := List.mem_cons_of_mem _ List.mem_cons_self
theorem nw2 : (Cond.methodLinkNest RX2 105 yX3_within "PrintShore") ∈ nwL := List.mem_cons_of_mem _ (List.mem_cons_of_mem _ List.mem_cons_self)
theorem nf0 : (Cond.fieldLinkNest RX1 94 "PrintShore" "TRAIT_MOST" "[I" "PrintShore") ∈ nfL := List.mem_cons_self
theorem nf1 : (Cond.fieldLinkNest RX2 83 "PrintShore" "TRAIT_LEAST" "[I" "PrintShore") ∈ nfL := List.mem_cons_of_mem _ List.mem_cons_self
theorem nf2 : (Cond.fieldLinkNest RX2 86 "PrintShore" "TRAIT_MOST" "[I" "PrintShore") ∈ nfL := List.mem_cons_of_mem _ (List.mem_cons_of_mem _ List.mem_cons_self)
theorem SF.warm {B : BB} {A A1 : Nat → Prop} {s U : State} {H : Heap} {locs : List Loc} (h : SF B A s s.heap) (hS : va_S A s.heap H locs) (hW : s.WarmedH U.vm) (hU : U.heap = H) (hA : ∀ q, A1 q → A q) : SF B A1 U U.heap := by
  obtain ⟨⟨⟨z0, t0⟩, ⟨z1, t1⟩, ⟨z2, t2⟩⟩, hs, ⟨c1, c2⟩, hr, hn, hg⟩ := h
  rw [hU]
  have k := hS.2.1
  have v := hW.alike
  refine ⟨⟨⟨(va_Z.moved v (z0.kept k)).narrow hA, (va_T.moved v (t0.kept k)).narrow hA⟩, ⟨(va_Z.moved v (z1.kept k)).narrow hA, (va_T.moved v (t1.kept k)).narrow hA⟩, ⟨(va_Z.moved v (z2.kept k)).narrow hA, (va_T.moved v (t2.kept k)).narrow hA⟩⟩, fun i hi => ?_, ⟨(va_Z.moved v (c1.kept k)).narrow hA, (va_Zq.moved v (c2.kept k)).narrow hA⟩, fun q hq => vk_R.warm hW (hr q hq), nw_all (va_Nw.warmM hW (hn _ nw0)) (va_Nw.warmM hW (hn _ nw1)) (va_Nw.warmM hW (hn _ nw2)), nf_all (va_Nw.warmF hW (hg _ nf0)) (va_Nw.warmF hW (hg _ nf1)) (va_Nw.warmF hW (hg _ nf2))⟩
  obtain ⟨a1, a2, a3, a4⟩ := hs i hi
  exact ⟨(va_O.moved v (a1.kept k)).narrow hA, (va_OF.moved v (a2.kept k)).narrow hA, (va_OF.moved v (a3.kept k)).narrow hA, (va_T.moved v (a4.kept k)).narrow hA⟩
theorem SF.same {B : BB} {A : Nat → Prop} {u U : State} {H : Heap} (h : SF B A u H) (hv : u.vm = U.vm) : SF B A U H := by
  obtain ⟨⟨⟨z0, t0⟩, ⟨z1, t1⟩, ⟨z2, t2⟩⟩, hs, ⟨c1, c2⟩, hr, hn, hg⟩ := h
  have v : u.vm.Alike U.vm := by rw [hv]; exact Vm.Alike.refl _
  refine ⟨⟨⟨va_Z.moved v z0, va_T.moved v t0⟩, ⟨va_Z.moved v z1, va_T.moved v t1⟩, ⟨va_Z.moved v z2, va_T.moved v t2⟩⟩, fun i hi => ?_, ⟨va_Z.moved v c1, va_Zq.moved v c2⟩, fun q hq => vk_R.same hv.symm (hr q hq), nw_all (va_Nw.same rfl hv (hn _ nw0)) (va_Nw.same rfl hv (hn _ nw1)) (va_Nw.same rfl hv (hn _ nw2)), nf_all (va_Nw.same rfl hv (hg _ nf0)) (va_Nw.same rfl hv (hg _ nf1)) (va_Nw.same rfl hv (hg _ nf2))⟩
  obtain ⟨a1, a2, a3, a4⟩ := hs i hi
  exact ⟨va_O.moved v a1, va_OF.moved v a2, va_OF.moved v a3, va_T.moved v a4⟩
/-! ===== contracts ===== -/
def gw : List Cond := lw_tbl.filter goodWord
theorem gw_good : ∀ w ∈ gw, goodWord w = true := fun w h => (List.mem_filter.mp h).2
theorem gw_in {w : Cond} (h : w ∈ lw_tbl) (hg : goodWord w = true) : w ∈ gw := List.mem_filter.mpr ⟨h, hg⟩
def Aw (B : BB) : Nat → Prop := fun q => ∃ k : Nat, k < 61 ∧ q = ad B k
def tyB (B : BB) : List (ClassId × FieldType) := [(B.2.1, .int), (B.2.2.1, .array .int)]
def Bf (B : BB) (σ : St2) (U : State) : Prop := va_P B.1 vwCl (wW B σ) U.heap ∧ va_K B.1 vwCl (tyB B) U ∧ (∀ σ1 : St2, va_D (Aw B) (wW B σ1)) ∧ SF B (Aw B) U U.heap
def Qx (B : BB) (A : Nat → Prop) (r : Option Value) (σ' : St2) : Array Value → State → Outcome → State → Prop := fun _ st oc t => oc = .returned r ∧ va_P B.1 vwCl (wW B σ') t.heap ∧ va_F A st t
/-- what a method does: called with av in the state σ it answers r, and the state is σ' -/
def Ret (l : Launch) (B : BB) (y : MethodName) (cc : ByteArray) (mL : Nat) (ret : Option FieldType) (fr lo : Nat) (av : List Value) (σ : St2) (r : Option Value) (σ' : St2) : Prop :=
  Met l y (Cond.code y cc mL ret :: gw) { frames := fr, cells := 0, slots := 0, locals := lo } (va_Pc av (Bf B σ)) (Qx B (Aw B) r σ') 0 0 (Aw B)
/-- what stands all through a walk -/
def Cx (E : EE) (B : BB) (l0 : Launch) (cc : ByteArray) (own : String) (ret : Option FieldType) (mL fr lo : Nat) : Prop := match E with
  | (p, l, e, R, s, m, args, below, meth, c, A, Q, cells, slots, nL) => l = l0 ∧ p.tables.exec = Jvm.exec ∧ c.code = cc ∧ c.maxLocals = nL ∧ mL = nL ∧ meth.sig.returnType = ret ∧ meth.locks = false ∧ s.vm.findClass own = some m.cls ∧ (∀ w ∈ gw, w.before args s = true) ∧ va_K B.1 vwCl (tyB B) s ∧ (∀ σ : St2, va_D A (wW B σ)) ∧ fr ≤ R.frames ∧ lo ≤ R.locals ∧ cells ≤ R.cells ∧ slots ≤ R.slots ∧ SF B A s s.heap
/-- the walk's judgement: at pc, with the locals lv and the stack st, in the state σ, the method comes to its end -/
def V (E : EE) (B : BB) (σ : St2) (pc : Nat) (lv : List (Nat × Value)) (st : List Value) : Prop := match E with
  | (p, l, e, R, s, m, args, below, meth, c, A, Q, cells, slots, nL) => ∀ (H : Heap) (locs : List Loc) (ls : Array Slot), va_P B.1 vwCl (wW B σ) H → va_S A s.heap H locs → lv_has ls nL lv → W p l e R s m args below meth c H locs cells slots Q (F0 m pc ls st)
/-- the end that is owed -/
def Fin9 (E : EE) (B : BB) (r : Option Value) (σ : St2) : Prop := match E with
  | (p, l, e, R, s, m, args, below, meth, c, A, Q, cells, slots, nL) => Q = MQ below (Qx B A r σ) args s cells slots A
theorem ret_of {l : Launch} {B : BB} {y : MethodName} {cc : ByteArray} {mL : Nat} {ret : Option FieldType} {fr lo : Nat} {av : List Value} {σ σ' : St2} {r : Option Value} {own : String} (hy : plainName y.cls = true) (hown : y.cls = own) (hn : (lg_sl av).length ≤ mL)
    (h : ∀ E : EE, Cx E B l cc own ret mL fr lo → Fin9 E B r σ' → V E B σ 0 (lv_args 0 av) []) : Ret l B y cc mL ret fr lo av σ r σ' := by
  refine Met.ofW (cc := cc) (maxL := mL) (ret := ret) hy rfl ?_
  intro p e s m args below meth c s₁ X hml hv
  obtain ⟨rfl, hP, hK, hD, hF⟩ := hv
  have hts := atoms_spec (ws := Cond.code y cc mL ret :: gw) X.pre
  have hl := lv_entry av (n := mL) hn
  rw [lg_entry_eq]
  subst hown
  exact h (p, l, e, _, s, m, _, below, meth, c, Aw B, _, 0, 0, mL) ⟨rfl, X.exec, X.bytes, hml, rfl, X.returns, X.notSynchronized, findClass_of_methodNamed X.named, fun w hw => hts w (List.mem_cons_of_mem _ hw), hK, hD, Nat.le_refl _, Nat.le_refl _, Nat.zero_le _, Nat.zero_le _, hF⟩ rfl s.heap [] _ hP va_S.rf hl

