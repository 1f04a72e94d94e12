/-! what the classes and the tables are -/
abbrev Ft : Type := Nat → Option (Nat × Nat × Nat)
abbrev vwCl : List vw_C := [(RX0, TX0, 13), (RX2, TX2, 2), (RX3, TX3, 6), (RX5, TX5, 7), (RX6, TX6, 39)]
def tysL (cA : Nat → ClassId) : List (ClassId × FieldType) := [(cA 0, .int), (cA 1, .long), (cA 2, .boolean), (cA 3, .object RX3)]
def uW : List Cond := lw_tbl.filter goodWord
theorem uW_of {w : Cond} (h : w ∈ lw_tbl) (hg : goodWord w = true) : w ∈ uW := List.mem_filter.mpr ⟨h, hg⟩
theorem uW_good : GoodIn uW uW := fun w h => ⟨h, good_of_word (List.mem_filter.mp h).2⟩
/-- the fields that a class's code names -/
def fdo (own : String) (fld : Ft) : Prop := ∀ idx ci k ty, fld idx = some (ci, k, ty) → ∃ (C : String) (T : u_T) (N : Nat) (t0 : Nat → FieldType), vwCl[ci]? = some (C, T, N) ∧ k < N ∧ (∀ w ∈ u_ws C T N, w ∈ uW) ∧ (T k).1 = C ∧ Cond.fieldLink own idx C (T k).2.1 (T k).2.2.1 ∈ uW ∧
  (∀ k, k < N → parseFieldDescriptor (T k).2.2.1 = some (t0 k)) ∧ (∀ a, a < N → ∀ b, b < N → a ≠ b → (T a).2.1 ≠ (T b).2.1) ∧
  (ty = 0 → (T k).2.2.2 = false ∧ t0 k = .int) ∧ (ty = 1 → (T k).2.2.2 = false ∧ t0 k = .boolean) ∧ (ty = 2 → (T k).2.2.2 = false ∧ ∃ t, t0 k = .array t)
def cdo (own : String) (cst : Nat → Option Int32) (cstL : Nat → Option Int64) : Prop := (∀ i v, cst i = some v → Cond.constant own i v ∈ uW) ∧ ∀ i v, cstL i = some v → Cond.constantLong own i v ∈ uW
