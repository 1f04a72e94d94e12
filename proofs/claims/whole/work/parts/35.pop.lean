/-! ===== how many bits ===== -/
def popc (n : Nat) : Nat := n % 2 + n / 2 % 2 + n / 4 % 2 + n / 8 % 2 + n / 16 % 2 + n / 32 % 2 + n / 64 % 2
def pop (x : Int32) : Int32 := nI (popc (ix x))
theorem pop_step : ∀ r : Fin 128, r.val = 0 ∨ (ix (nI r.val &&& (nI r.val - 1)) < r.val ∧ popc (ix (nI r.val &&& (nI r.val - 1))) + 1 = popc r.val ∧ nI (ix (nI r.val &&& (nI r.val - 1))) = nI r.val &&& (nI r.val - 1)) := by decide +kernel
def F_X6_onesOf : Fn := fun as w K => match as with
  | [.inl x] => rng 128 x ∧ K (some (.inl (pop x))) w
  | _ => False
def ctb_X6_onesOf : List (Nat × (List sv → List sc → (List sv → List sc → Prop) → Prop)) := []
theorem cok_X6_onesOf : CallOK cX6_onesOf 3 (some .int) RX6 1 ctb_X6_onesOf := CallOK_nil
theorem ct_X6_onesOf : Ct yX6_onesOf cX6_onesOf 3 (some .int) 1 F_X6_onesOf := by
  intro l D σ cA sz as w K h
  unfold F_X6_onesOf at h
  split at h
  · rename_i x
    obtain ⟨⟨a, ha, rfl⟩, h⟩ := h
    have hp : pop (nI a) = nI (popc a) := by unfold pop; rw [show ix (nI a) = a from nI_clamp (by omega)]
    rw [hp] at h
    refine metL (pr := lkB pX6_onesOf) (rk := 1) (ct := ctb_X6_onesOf) (fld := lkB flX6) (cst := lkB csX6) (cstL := lkB clX6) [(4, ([true, true, true], fun n lv st w' => ∃ c r, r < 128 ∧ n = r ∧ c + popc r = popc a ∧ lv = [some (sI (nI a)), some (sI (nI c)), some (sI (nI r))] ∧ st = [] ∧ w' = w))] pX6_onesOf_ok kX6_onesOf.2.2.2.2.2 fdX6 cdX6 rto1 cok_X6_onesOf (Nat.le_of_ble_eq_true rfl) ?_ ?_ l D σ cA sz
    · refine List.forall_mem_cons.mpr ⟨?_, cut0⟩
      rintro n lv st w' ⟨c, r, hr, rfl, hcr, rfl, rfl, rfl⟩
      conv => whnf
      refine ⟨fun hc => ?_, fun hc => ?_⟩
      · conv => whnf
        have : n = 0 := (nI_eq (by omega) (by decide)).mp (show nI n = nI 0 from hc)
        subst this
        rw [show popc 0 = 0 from rfl, Nat.add_zero] at hcr
        rw [hcr]; exact h
      · have hn : ¬ n = 0 := fun q => hc (by rw [q]; exact nI_0)
        have hs := pop_step ⟨n, hr⟩
        dsimp only at hs
        obtain ⟨s1, s2, s3⟩ := hs.resolve_left hn
        repeat' ((conv => whnf); (first | refine And.intro (by first | decide | with_reducible assumption) ?_ | with_reducible refine And.intro (fun hc => ?_) (fun hc => ?_) | with_reducible refine And.intro (fun hc => ?_) ?_ | fail))
        all_goals try (conv => whnf)
        exact ⟨_, s1, c + 1, _, by omega, rfl, by omega, by rw [s3, ← nI_1]; rfl, rfl, rfl⟩
    · skip
      repeat' ((conv => whnf); (first | refine And.intro (by first | decide | with_reducible assumption) ?_ | with_reducible refine And.intro (fun hc => ?_) (fun hc => ?_) | with_reducible refine And.intro (fun hc => ?_) ?_ | fail))
      all_goals try (conv => whnf)
      exact ⟨a, 0, a, ha, rfl, by omega, by rw [nI_0]; rfl, rfl, rfl⟩
  · exact h.elim
def bcF (x : Int32) : Int32 := let x1 := x - (jushr x 1 &&& 1431655765); let x2 := (x1 &&& 858993459) + (jushr x1 2 &&& 858993459); let x3 := (x2 + jushr x2 4) &&& 252645135; let x4 := x3 + jushr x3 8; let x5 := x4 + jushr x4 16; x5 &&& 63
theorem bc_ok : ∀ a : Fin 128, pop (nI a.val) = bcF (nI a.val) := by decide +kernel
def F_J6_bitCount_0f7a4 : Fn := fun as w K => match as with
  | [.inl x] => rng 128 x ∧ K (some (.inl (pop x))) w
  | _ => False
def ctb_J6_bitCount_0f7a4 : List (Nat × (List sv → List sc → (List sv → List sc → Prop) → Prop)) := []
theorem cok_J6_bitCount_0f7a4 : CallOK cJ6_bitCount_0f7a4 1 (some .int) RJ6 1 ctb_J6_bitCount_0f7a4 := CallOK_nil
theorem ct_J6_bitCount_0f7a4 : Ct yJ6_bitCount_0f7a4 cJ6_bitCount_0f7a4 1 (some .int) 1 F_J6_bitCount_0f7a4 := by
  intro l D σ cA sz as w K h
  unfold F_J6_bitCount_0f7a4 at h
  split at h
  · rename_i x
    obtain ⟨hx, h⟩ := h
    refine metL (pr := lkB pJ6_bitCount_0f7a4) (rk := 1) (ct := ctb_J6_bitCount_0f7a4) (fld := lkB flJ6) (cst := lkB csJ6) (cstL := lkB clJ6) [] pJ6_bitCount_0f7a4_ok kJ6_bitCount_0f7a4.2.2.2.2.2 fdJ6 cdJ6 rto1 cok_J6_bitCount_0f7a4 (Nat.le_of_ble_eq_true rfl) cut0 ?_ l D σ cA sz
    repeat' ((conv => whnf); (first | refine And.intro (by first | decide | with_reducible assumption) ?_ | with_reducible refine And.intro (fun hc => ?_) (fun hc => ?_) | with_reducible refine And.intro (fun hc => ?_) ?_ | fail))
    all_goals try (conv => whnf)
    refine kI h ?_
    obtain ⟨a, ha, rfl⟩ := hx
    exact bc_ok ⟨a, ha⟩
  · exact h.elim
