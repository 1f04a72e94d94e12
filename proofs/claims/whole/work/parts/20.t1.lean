noncomputable def bp (P : Prop) : Int32 := @ite Int32 P (Classical.propDecidable P) 1 0
theorem bp_t {P : Prop} (h : P) : bp P = 1 := by unfold bp; exact @if_pos _ (Classical.propDecidable P) h _ _ _
theorem bp_f {P : Prop} (h : ¬ P) : bp P = 0 := by unfold bp; exact @if_neg _ (Classical.propDecidable P) h _ _ _
theorem bp_0 {P : Prop} : bp P = 0 ↔ ¬ P := ⟨fun h q => by rw [bp_t q] at h; exact absurd h (by decide), bp_f⟩
theorem bp_01 (P : Prop) : bp P = 0 ∨ bp P = 1 := (Classical.em P).elim (fun h => Or.inr (bp_t h)) (fun h => Or.inl (bp_f h))
theorem rto0 : rto 0 none := ⟨fun _ => rfl, fun h => by cases h, fun h => by cases h, fun h => by cases h, fun h => by cases h⟩
theorem rto1 : rto 1 (some .int) := ⟨fun h => by cases h, fun _ => rfl, fun h => by cases h, fun h => by cases h, fun h => by cases h⟩
theorem rto2 : rto 2 (some .boolean) := ⟨fun h => by cases h, fun h => by cases h, fun _ => rfl, fun h => by cases h, fun h => by cases h⟩
theorem rto3 : rto 3 (some .long) := ⟨fun h => by cases h, fun h => by cases h, fun h => by cases h, fun _ => rfl, fun h => by cases h⟩
theorem rto4 (n : String) : rto 4 (some (.object n)) := ⟨fun h => by cases h, fun h => by cases h, fun h => by cases h, fun h => by cases h, fun _ => ⟨n, rfl⟩⟩
def F_within : Fn := fun as w K => match as with
  | [.inl v, .inl lo, .inl hi] => K (some (.inl (bp (lo ≤ v ∧ v ≤ hi)))) w
  | _ => False
theorem ct_within : Ct yX5_within cX5_within 3 (some .boolean) 1 F_within := by
  intro l D σ cA sz as w K h
  unfold F_within at h
  split at h
  · rename_i v lo hi
    refine met_of (pr := lkB pX5_within) (rk := 2) (fuel := 60) (ct := []) (fld := lkB flX5) (cst := lkB csX5) (cstL := lkB clX5) noc pX5_within_ok kX5_within.2.2.2.2.2 fdX5 cdX5 rto2 CallOK_nil (by decide) (fun pc mm P h => by cases h) ?_ l D σ cA sz
    conv => whnf
    refine ⟨fun h1 => ?_, fun h1 => ?_⟩
    · conv => whnf
      trace_state
      sorry
    · conv => whnf
      trace_state
      sorry
  · exact h.elim
