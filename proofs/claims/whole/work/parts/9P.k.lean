/-! ===== what the law's tables give ===== -/
theorem whole_K {s : State} {args : Array Value} (hu : ∀ w ∈ uW, w.before args s = true) (hao : va_AO RX3 s) : ∃ (D : va_G) (cA : Nat → ClassId), va_K D vwCl (tysL cA) s := by
  obtain ⟨k0, i0, h0⟩ := u_known hu inX0 (hu (Cond.instantiable RX0 13) (uw1 (by decide +kernel)))
  obtain ⟨k1, i1, h1⟩ := u_known hu inX2 (hu (Cond.instantiable RX2 2) (uw1 (by decide +kernel)))
  obtain ⟨k2, i2, h2⟩ := u_known hu inX3 (hu (Cond.instantiable RX3 6) (uw1 (by decide +kernel)))
  obtain ⟨k3, i3, h3⟩ := u_known hu inX5 (hu (Cond.instantiable RX5 7) (uw1 (by decide +kernel)))
  obtain ⟨k4, i4, h4⟩ := u_known hu inX6 (hu (Cond.instantiable RX6 39) (uw1 (by decide +kernel)))
  obtain ⟨a0, b0, c0, p0, q0, r0⟩ := Cond.arrayClass_spec (hu _ ar_I)
  obtain ⟨a1, b1, c1, p1, q1, r1⟩ := Cond.arrayClass_spec (hu _ ar_L)
  obtain ⟨a2, b2, c2, p2, q2, r2⟩ := Cond.arrayClass_spec (hu _ ar_Z)
  obtain ⟨c3, a3, b3, f3, -, q3, r3, p3⟩ := Cond.arrayOver_spec hao
  refine ⟨(fun c => match c with | 0 => k0 | 1 => k1 | 2 => k2 | 3 => k3 | _ => k4, fun c => match c with | 0 => i0 | 1 => i1 | 2 => i2 | 3 => i3 | _ => i4), (fun t => match t with | 0 => a0 | 1 => a1 | 2 => a2 | _ => a3), fun c q hq => ?_, fun k q hq => ?_⟩
  · match c, hq with
    | 0, hq => cases hq; exact h0
    | 1, hq => cases hq; exact h1
    | 2, hq => cases hq; exact h2
    | 3, hq => cases hq; exact h3
    | 4, hq => cases hq; exact h4
    | c + 5, hq => cases hq
  · match k, hq with
    | 0, hq => cases hq; exact ⟨fun N z => ⟨(fun k h => by cases h), b0, q0, c0, r0⟩, p0⟩
    | 1, hq => cases hq; exact ⟨fun N z => ⟨(fun k h => by cases h), b1, q1, c1, r1⟩, p1⟩
    | 2, hq => cases hq; exact ⟨fun N z => ⟨(fun k h => by cases h), b2, q2, c2, r2⟩, p2⟩
    | 3, hq => cases hq; exact ⟨fun N z => ⟨(fun k h => by cases h), b3, q3, c3, r3⟩, b3, c3, q3, r3, f3, p3⟩
    | k + 4, hq => cases hq
theorem whole_NW {s : State} {args : Array Value} (hts : ∀ w ∈ lw_tbl, w.before args s = true) : NW s ∧ EX s := by
  have key : ∀ L : List (String × Nat × MethodName × String), (L.all fun q => decide (Cond.methodLinkNest q.1 q.2.1 q.2.2.1 q.2.2.2 ∈ tables_1)) = true → ∀ q ∈ L, va_Nw (.methodLinkNest q.1 q.2.1 q.2.2.1 q.2.2.2) s := fun L h q hq => va_Nw.of rfl (hts _ (List.mem_append_right _ (of_decide_eq_true (List.all_eq_true.mp h q hq))))
  exact ⟨key NWl (by decide +kernel), key NXl (by decide +kernel), va_AO.of (hts (Cond.arrayOver (.object RX3)) (List.mem_append_right _ (by decide +kernel)))⟩
