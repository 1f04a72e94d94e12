/-! ===== the failures of guests: the contract ===== -/
def cuX1 (K : Option sv → List sc → Prop) (KX : String → List sc → Prop) : Cuy := fun z => cond (Nat.beq z 20) (some ([], fun _ st w => st = [] ∧ K none w)) (cond (Nat.beq z 31) (some ([], fun _ st w => st = [] ∧ KX nIAE w)) (cond (Nat.beq z 47) (some ([], fun _ st w => st = [] ∧ KX nUOE w)) (cond (Nat.beq z 57) (some ([], fun _ st w => st = [] ∧ KX nISE w)) none)))
theorem ct_X1_fail : CtX yX1_fail cX1_fail 2 none 6 F_X1_fail := by
  intro l D σ cA sz as w K KX hl h
  obtain ⟨k, f, rfl, h1, h2⟩ := h
  refine metX (by decide +kernel) (Nat.le_of_ble_eq_true rfl) ?_
  intro p e s m below meth c A X hnw hXP hemp hA
  refine wpy_sound (pr := lkB pX1_fail) (fld := fun _ => none) (cst := fun _ => none) (cstL := fun _ => none) (call := fun _ _ _ _ => False) (cut := cuX1 K KX) pX1_fail_ok X (fun _ _ _ _ h => by cases h) ⟨fun _ _ h => (by cases h), fun _ _ h => (by cases h)⟩ (fun _ _ _ _ h => h.elim) ?_ 60 0 _ _ _ ?_
  · intro pc mm P hcp
    unfold cuX1 at hcp
    cases e1 : Nat.beq pc 20 with
    | true =>
      rw [e1] at hcp; cases hcp
      have := Nat.eq_of_beq_eq_true e1
      subst this
      rintro lv st w' ⟨rfl, hk⟩ H locs ls hP hD hS hlv
      exact vx_ret (W.widen (Nat.zero_le _) (Nat.zero_le _) (W.vret X.1 X.2.1 X.2.2.2.2.2.2.2 (fun t ht _ => ⟨⟨none, w', rfl, hk, by rw [ht]; exact hP, hD⟩, hS.F ht⟩) hS.2.2 (by decide +kernel) X.2.2.2.2.2.2.1))
    | false =>
    rw [e1] at hcp
    cases e2 : Nat.beq pc 31 with
    | true =>
      rw [e2] at hcp; cases hcp
      have := Nat.eq_of_beq_eq_true e2
      subst this
      rintro lv st w' ⟨rfl, hk⟩
      exact zthrS (Nat.le_refl _) hl X hXP hemp hA (hXP.2.1 (RX1, 27, _) (List.mem_of_getElem? (i := 0) rfl)) (by decide +kernel) (uw1 (by decide +kernel)) (uw1 (by decide +kernel)) xw_1 (by decide +kernel) (by decide +kernel) (by decide +kernel) (by decide +kernel) (by decide +kernel) hk
    | false =>
    rw [e2] at hcp
    cases e3 : Nat.beq pc 47 with
    | true =>
      rw [e3] at hcp; cases hcp
      have := Nat.eq_of_beq_eq_true e3
      subst this
      rintro lv st w' ⟨rfl, hk⟩
      exact zthrS (Nat.le_refl _) hl X hXP hemp hA (hXP.2.1 (RX1, 34, _) (List.mem_of_getElem? (i := 1) rfl)) (by decide +kernel) (uw1 (by decide +kernel)) (uw1 (by decide +kernel)) xw_2 (by decide +kernel) (by decide +kernel) (by decide +kernel) (by decide +kernel) (by decide +kernel) hk
    | false =>
    rw [e3] at hcp
    cases e4 : Nat.beq pc 57 with
    | true =>
      rw [e4] at hcp; cases hcp
      have := Nat.eq_of_beq_eq_true e4
      subst this
      rintro lv st w' ⟨rfl, hk⟩
      exact zthrS (Nat.le_refl _) hl X hXP hemp hA (hXP.2.1 (RX1, 39, _) (List.mem_of_getElem? (i := 2) rfl)) (by decide +kernel) (uw1 (by decide +kernel)) (uw1 (by decide +kernel)) xw_3 (by decide +kernel) (by decide +kernel) (by decide +kernel) (by decide +kernel) (by decide +kernel) hk
    | false => rw [e4] at hcp; cases hcp
  · skip
    repeat' ((conv => whnf); (first | refine And.intro (by first | decide | with_reducible assumption) ?_ | with_reducible refine And.intro (fun hc => ?_) (fun hc => ?_) | with_reducible refine And.intro (fun hc => ?_) ?_ | fail))
    all_goals try (conv => whnf)
    all_goals first | trivial | rfl | (refine h1 ?_; clear h1 h2; simp_all [fxN]; done) | (have h3 := h2 (by clear h1 h2; simp_all [fxN]); clear h1 h2; simp_all [fxE]; done)
