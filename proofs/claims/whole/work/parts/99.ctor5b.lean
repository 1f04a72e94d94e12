/-! ===== the class's constructor, walked ===== -/
set_option maxRecDepth 20000 in
theorem ct_X5_init : CtN yX5_init cX5_init 2 3 42 1054 F_X5_init := by
  intro l D σ cA sz as w K h
  obtain ⟨rfl, rfl, h⟩ := h
  refine metN (pr := lkB pX5_init) (fld := lkB flX5) (cst := lkB csX5) (cstL := lkB clX5) (nw := lkB nwX5) (ct := czX5_init) (cf := 3) 97 [(53, ([true, true], fun n lv st w cl sl => ∃ d, d ≤ 8 ∧ n = 9 - d ∧ lv = [some (sR 0), some (sI (nI d))] ∧ st = [] ∧ w = xd d sN sN ∧ cl = 22 + 2 * d ∧ sl = 182 + 106 * d)), (97, ([], fun _ _ st w cl sl => st = [] ∧ cl ≤ 42 ∧ sl ≤ 1054 ∧ K none w))] (by decide +kernel) rfl pX5_init_ok (by decide +kernel) rfl fdX5 cdX5 nwX5_ok ffX5 (an := some 26) (fun i h => by cases h; exact uw1 (by decide +kernel)) cokz_X5_init (Nat.le_of_ble_eq_true rfl) ?_ ?_ l D σ cA sz
  · refine List.forall_mem_cons.mpr ⟨Or.inr ?_, List.forall_mem_cons.mpr ⟨Or.inl rfl, fun _ h => absurd h List.not_mem_nil⟩⟩
    rintro n lv st w cl sl ⟨d, hd, rfl, rfl, rfl, rfl, rfl, rfl⟩
    rcases (show d = 0 ∨ d = 1 ∨ d = 2 ∨ d = 3 ∨ d = 4 ∨ d = 5 ∨ d = 6 ∨ d = 7 ∨ d = 8 by omega) with rfl | rfl | rfl | rfl | rfl | rfl | rfl | rfl | rfl
    · conv => whnf
      refine ⟨fun z => absurd z (by decide), fun _ => ?_⟩
      conv => whnf
      refine ⟨⟨⟨rfl, rfl⟩, (by repeat' (first | exact trivial | exact rfl | exact fun i k h => Nat.lt_of_lt_of_le (fD_lt h) (by decide) | refine And.intro ?_ ?_))⟩, ?_⟩
      conv => whnf
      refine ⟨⟨⟨rfl, rfl⟩, (by repeat' (first | exact trivial | exact rfl | exact fun i k h => Nat.lt_of_lt_of_le (fD_lt h) (by decide) | refine And.intro ?_ ?_))⟩, ?_⟩
      conv => whnf
      refine ⟨rfl, rfl, (by repeat' (first | exact trivial | exact rfl | exact fun i k h => Nat.lt_of_lt_of_le (fD_lt h) (by decide) | refine And.intro ?_ ?_)), ?_⟩
      conv => whnf
      refine ⟨vp_in_nI (by decide) (by decide), ?_⟩
      rw [show (nI 0).toNatClampNeg = 0 from nI_clamp (by decide)]
      conv => whnf
      exact ⟨9 - (0 + 1), by decide, 0 + 1, by decide, rfl, by rw [← nI_1]; rfl, rfl, rfl, rfl, rfl⟩
    · conv => whnf
      refine ⟨fun z => absurd z (by decide), fun _ => ?_⟩
      conv => whnf
      refine ⟨⟨⟨rfl, rfl⟩, (by repeat' (first | exact trivial | exact rfl | exact fun i k h => Nat.lt_of_lt_of_le (fD_lt h) (by decide) | refine And.intro ?_ ?_))⟩, ?_⟩
      conv => whnf
      refine ⟨⟨⟨rfl, rfl⟩, (by repeat' (first | exact trivial | exact rfl | exact fun i k h => Nat.lt_of_lt_of_le (fD_lt h) (by decide) | refine And.intro ?_ ?_))⟩, ?_⟩
      conv => whnf
      refine ⟨rfl, rfl, (by repeat' (first | exact trivial | exact rfl | exact fun i k h => Nat.lt_of_lt_of_le (fD_lt h) (by decide) | refine And.intro ?_ ?_)), ?_⟩
      conv => whnf
      refine ⟨vp_in_nI (by decide) (by decide), ?_⟩
      rw [show (nI 1).toNatClampNeg = 1 from nI_clamp (by decide)]
      conv => whnf
      exact ⟨9 - (1 + 1), by decide, 1 + 1, by decide, rfl, by rw [← nI_1]; rfl, rfl, rfl, rfl, rfl⟩
    · conv => whnf
      refine ⟨fun z => absurd z (by decide), fun _ => ?_⟩
      conv => whnf
      refine ⟨⟨⟨rfl, rfl⟩, (by repeat' (first | exact trivial | exact rfl | exact fun i k h => Nat.lt_of_lt_of_le (fD_lt h) (by decide) | refine And.intro ?_ ?_))⟩, ?_⟩
      conv => whnf
      refine ⟨⟨⟨rfl, rfl⟩, (by repeat' (first | exact trivial | exact rfl | exact fun i k h => Nat.lt_of_lt_of_le (fD_lt h) (by decide) | refine And.intro ?_ ?_))⟩, ?_⟩
      conv => whnf
      refine ⟨rfl, rfl, (by repeat' (first | exact trivial | exact rfl | exact fun i k h => Nat.lt_of_lt_of_le (fD_lt h) (by decide) | refine And.intro ?_ ?_)), ?_⟩
      conv => whnf
      refine ⟨vp_in_nI (by decide) (by decide), ?_⟩
      rw [show (nI 2).toNatClampNeg = 2 from nI_clamp (by decide)]
      conv => whnf
      exact ⟨9 - (2 + 1), by decide, 2 + 1, by decide, rfl, by rw [← nI_1]; rfl, rfl, rfl, rfl, rfl⟩
    · conv => whnf
      refine ⟨fun z => absurd z (by decide), fun _ => ?_⟩
      conv => whnf
      refine ⟨⟨⟨rfl, rfl⟩, (by repeat' (first | exact trivial | exact rfl | exact fun i k h => Nat.lt_of_lt_of_le (fD_lt h) (by decide) | refine And.intro ?_ ?_))⟩, ?_⟩
      conv => whnf
      refine ⟨⟨⟨rfl, rfl⟩, (by repeat' (first | exact trivial | exact rfl | exact fun i k h => Nat.lt_of_lt_of_le (fD_lt h) (by decide) | refine And.intro ?_ ?_))⟩, ?_⟩
      conv => whnf
      refine ⟨rfl, rfl, (by repeat' (first | exact trivial | exact rfl | exact fun i k h => Nat.lt_of_lt_of_le (fD_lt h) (by decide) | refine And.intro ?_ ?_)), ?_⟩
      conv => whnf
      refine ⟨vp_in_nI (by decide) (by decide), ?_⟩
      rw [show (nI 3).toNatClampNeg = 3 from nI_clamp (by decide)]
      conv => whnf
      exact ⟨9 - (3 + 1), by decide, 3 + 1, by decide, rfl, by rw [← nI_1]; rfl, rfl, rfl, rfl, rfl⟩
    · conv => whnf
      refine ⟨fun z => absurd z (by decide), fun _ => ?_⟩
      conv => whnf
      refine ⟨⟨⟨rfl, rfl⟩, (by repeat' (first | exact trivial | exact rfl | exact fun i k h => Nat.lt_of_lt_of_le (fD_lt h) (by decide) | refine And.intro ?_ ?_))⟩, ?_⟩
      conv => whnf
      refine ⟨⟨⟨rfl, rfl⟩, (by repeat' (first | exact trivial | exact rfl | exact fun i k h => Nat.lt_of_lt_of_le (fD_lt h) (by decide) | refine And.intro ?_ ?_))⟩, ?_⟩
      conv => whnf
      refine ⟨rfl, rfl, (by repeat' (first | exact trivial | exact rfl | exact fun i k h => Nat.lt_of_lt_of_le (fD_lt h) (by decide) | refine And.intro ?_ ?_)), ?_⟩
      conv => whnf
      refine ⟨vp_in_nI (by decide) (by decide), ?_⟩
      rw [show (nI 4).toNatClampNeg = 4 from nI_clamp (by decide)]
      conv => whnf
      exact ⟨9 - (4 + 1), by decide, 4 + 1, by decide, rfl, by rw [← nI_1]; rfl, rfl, rfl, rfl, rfl⟩
    · conv => whnf
      refine ⟨fun z => absurd z (by decide), fun _ => ?_⟩
      conv => whnf
      refine ⟨⟨⟨rfl, rfl⟩, (by repeat' (first | exact trivial | exact rfl | exact fun i k h => Nat.lt_of_lt_of_le (fD_lt h) (by decide) | refine And.intro ?_ ?_))⟩, ?_⟩
      conv => whnf
      refine ⟨⟨⟨rfl, rfl⟩, (by repeat' (first | exact trivial | exact rfl | exact fun i k h => Nat.lt_of_lt_of_le (fD_lt h) (by decide) | refine And.intro ?_ ?_))⟩, ?_⟩
      conv => whnf
      refine ⟨rfl, rfl, (by repeat' (first | exact trivial | exact rfl | exact fun i k h => Nat.lt_of_lt_of_le (fD_lt h) (by decide) | refine And.intro ?_ ?_)), ?_⟩
      conv => whnf
      refine ⟨vp_in_nI (by decide) (by decide), ?_⟩
      rw [show (nI 5).toNatClampNeg = 5 from nI_clamp (by decide)]
      conv => whnf
      exact ⟨9 - (5 + 1), by decide, 5 + 1, by decide, rfl, by rw [← nI_1]; rfl, rfl, rfl, rfl, rfl⟩
    · conv => whnf
      refine ⟨fun z => absurd z (by decide), fun _ => ?_⟩
      conv => whnf
      refine ⟨⟨⟨rfl, rfl⟩, (by repeat' (first | exact trivial | exact rfl | exact fun i k h => Nat.lt_of_lt_of_le (fD_lt h) (by decide) | refine And.intro ?_ ?_))⟩, ?_⟩
      conv => whnf
      refine ⟨⟨⟨rfl, rfl⟩, (by repeat' (first | exact trivial | exact rfl | exact fun i k h => Nat.lt_of_lt_of_le (fD_lt h) (by decide) | refine And.intro ?_ ?_))⟩, ?_⟩
      conv => whnf
      refine ⟨rfl, rfl, (by repeat' (first | exact trivial | exact rfl | exact fun i k h => Nat.lt_of_lt_of_le (fD_lt h) (by decide) | refine And.intro ?_ ?_)), ?_⟩
      conv => whnf
      refine ⟨vp_in_nI (by decide) (by decide), ?_⟩
      rw [show (nI 6).toNatClampNeg = 6 from nI_clamp (by decide)]
      conv => whnf
      exact ⟨9 - (6 + 1), by decide, 6 + 1, by decide, rfl, by rw [← nI_1]; rfl, rfl, rfl, rfl, rfl⟩
    · conv => whnf
      refine ⟨fun z => absurd z (by decide), fun _ => ?_⟩
      conv => whnf
      refine ⟨⟨⟨rfl, rfl⟩, (by repeat' (first | exact trivial | exact rfl | exact fun i k h => Nat.lt_of_lt_of_le (fD_lt h) (by decide) | refine And.intro ?_ ?_))⟩, ?_⟩
      conv => whnf
      refine ⟨⟨⟨rfl, rfl⟩, (by repeat' (first | exact trivial | exact rfl | exact fun i k h => Nat.lt_of_lt_of_le (fD_lt h) (by decide) | refine And.intro ?_ ?_))⟩, ?_⟩
      conv => whnf
      refine ⟨rfl, rfl, (by repeat' (first | exact trivial | exact rfl | exact fun i k h => Nat.lt_of_lt_of_le (fD_lt h) (by decide) | refine And.intro ?_ ?_)), ?_⟩
      conv => whnf
      refine ⟨vp_in_nI (by decide) (by decide), ?_⟩
      rw [show (nI 7).toNatClampNeg = 7 from nI_clamp (by decide)]
      conv => whnf
      exact ⟨9 - (7 + 1), by decide, 7 + 1, by decide, rfl, by rw [← nI_1]; rfl, rfl, rfl, rfl, rfl⟩
    · conv => whnf
      refine ⟨fun _ => ?_, fun z => absurd (by decide) z⟩
      conv => whnf
      refine ⟨⟨⟨rfl, rfl⟩, (by repeat' (first | exact trivial | exact rfl | exact fun i k h => Nat.lt_of_lt_of_le (fD_lt h) (by decide) | refine And.intro ?_ ?_))⟩, ?_⟩
      conv => whnf
      refine ⟨⟨⟨rfl, rfl⟩, (by repeat' (first | exact trivial | exact rfl | exact fun i k h => Nat.lt_of_lt_of_le (fD_lt h) (by decide) | refine And.intro ?_ ?_))⟩, ?_⟩
      conv => whnf
      refine ⟨rfl, rfl, (by repeat' (first | exact trivial | exact rfl | exact fun i k h => Nat.lt_of_lt_of_le (fD_lt h) (by decide) | refine And.intro ?_ ?_)), ?_⟩
      conv => whnf
      refine ⟨⟨⟨rfl, rfl⟩, (by repeat' (first | exact trivial | exact rfl | exact fun i k h => Nat.lt_of_lt_of_le (fD_lt h) (by decide) | refine And.intro ?_ ?_))⟩, by decide, ?_⟩
      conv => whnf
      exact ⟨0, by decide, rfl, by decide, by decide, h⟩
  · skip
    conv => whnf
    refine ⟨⟨⟨rfl, rfl⟩, (by repeat' (first | exact trivial | exact rfl | exact fun i k h => Nat.lt_of_lt_of_le (fD_lt h) (by decide) | refine And.intro ?_ ?_))⟩, ?_⟩
    conv => whnf
    refine ⟨⟨⟨rfl, rfl⟩, (by repeat' (first | exact trivial | exact rfl | exact fun i k h => Nat.lt_of_lt_of_le (fD_lt h) (by decide) | refine And.intro ?_ ?_))⟩, ?_⟩
    conv => whnf
    refine ⟨rfl, rfl, (by repeat' (first | exact trivial | exact rfl | exact fun i k h => Nat.lt_of_lt_of_le (fD_lt h) (by decide) | refine And.intro ?_ ?_)), ?_⟩
    conv => whnf
    refine ⟨⟨⟨rfl, rfl⟩, (by repeat' (first | exact trivial | exact rfl | exact fun i k h => Nat.lt_of_lt_of_le (fD_lt h) (by decide) | refine And.intro ?_ ?_))⟩, ?_⟩
    conv => whnf
    refine ⟨⟨⟨rfl, rfl⟩, (by repeat' (first | exact trivial | exact rfl | exact fun i k h => Nat.lt_of_lt_of_le (fD_lt h) (by decide) | refine And.intro ?_ ?_))⟩, ?_⟩
    conv => whnf
    refine ⟨rfl, rfl, (by repeat' (first | exact trivial | exact rfl | exact fun i k h => Nat.lt_of_lt_of_le (fD_lt h) (by decide) | refine And.intro ?_ ?_)), ?_⟩
    conv => whnf
    refine ⟨⟨⟨rfl, rfl⟩, (by repeat' (first | exact trivial | exact rfl | exact fun i k h => Nat.lt_of_lt_of_le (fD_lt h) (by decide) | refine And.intro ?_ ?_))⟩, ?_⟩
    conv => whnf
    refine ⟨⟨⟨rfl, rfl⟩, (by repeat' (first | exact trivial | exact rfl | exact fun i k h => Nat.lt_of_lt_of_le (fD_lt h) (by decide) | refine And.intro ?_ ?_))⟩, ?_⟩
    conv => whnf
    refine ⟨rfl, rfl, (by repeat' (first | exact trivial | exact rfl | exact fun i k h => Nat.lt_of_lt_of_le (fD_lt h) (by decide) | refine And.intro ?_ ?_)), ?_⟩
    conv => whnf
    refine ⟨Or.inl rfl, ?_⟩
    conv => whnf
    refine ⟨⟨⟨rfl, rfl⟩, (by repeat' (first | exact trivial | exact rfl | exact fun i k h => Nat.lt_of_lt_of_le (fD_lt h) (by decide) | refine And.intro ?_ ?_))⟩, by decide, ?_⟩
    conv => whnf
    exact ⟨9, 0, by decide, rfl, rfl, rfl, rfl, rfl, rfl⟩
