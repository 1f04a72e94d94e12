/-! ===== the reference's constructor ===== -/
def zL : Nat → Int64 := fun _ => 0
abbrev q00 : Pm := (z0, z0, z0, z0, z0, zL, z0, 0)
abbrev t00 : Tm := (0, 0, 0, 0, 0, 0, 0, z0, z0, z0, z0, 0, 0, none, z0, z0, z0, 0, zL)
def o6 : sc := oC 4 [sN, sI 0, sN, sN, sN, sN, sN, sI 0, sI 0, sI 0, sI 0, sI 0, sI 0, sN, sN, sN, sN, sN, sN, sI 0, sI 0, sI 0, sI 0, sI 0, sI 0, sN, sN, sN, sN, sN, sI 0, sI 0, sI 0, sN, sN, sN, sN, sI 0, sN]
def F_X6_init : Fn := fun as w K => as = [sR 0] ∧ w = [o6] ∧ K none (modW (inn5 (plF 10)) q00 t00)
def czX6_init : Tz := [(1, cObj 100)]
theorem cokz_X6_init : CallZ cX6_init 2 none RX6 (rmN 1 21 2379) 1 czX6_init := CallZ_cons (site_obj (R := rmN 1 21 2379) (pX6_init_ok 1 _ rfl) (uw1 (by decide +kernel)) (by decide)) CallZ_nil
set_option maxRecDepth 20000 in
theorem ct_X6_init : CtN yX6_init cX6_init 2 1 21 2379 F_X6_init := by
  intro l D σ cA sz as w K h
  obtain ⟨rfl, rfl, h⟩ := h
  refine metN (pr := lkB pX6_init) (fld := lkB flX6) (cst := lkB csX6) (cstL := lkB clX6) (nw := nw0) (ct := czX6_init) (cf := 4) 201 [(182, ([true, true], fun n lv st w cl sl => ∃ j, j ≤ 10 ∧ n = 11 - j ∧ lv = [some (sR 0), some (sI (nI j))] ∧ st = [] ∧ w = modW (inn5 (plF j)) q00 t00 ∧ cl = 21 ∧ sl = 2379)), (201, ([], fun _ _ st w cl sl => st = [] ∧ cl ≤ 21 ∧ sl ≤ 2379 ∧ K none w))] (by decide +kernel) rfl pX6_init_ok (by decide +kernel) rfl fdX6 cdX6 (nwo0 _) ffX6 (an := none) (fun _ h => by cases h) cokz_X6_init (Nat.le_of_ble_eq_true rfl) ?_ ?_ l D σ cA sz
  · refine List.forall_mem_cons.mpr ⟨Or.inr ?_, List.forall_mem_cons.mpr ⟨Or.inl rfl, fun _ h => absurd h List.not_mem_nil⟩⟩
    rintro n lv st w cl sl ⟨j, hj, rfl, rfl, rfl, rfl, rfl, rfl⟩
    conv => whnf
    refine ⟨fun hc => ?_, fun hc => ?_⟩
    · obtain rfl := lp_ge (M := 10) hj (by decide) hc
      conv => whnf
      exact ⟨0, by decide, rfl, by decide, by decide, h⟩
    · have hlt := lp_lt (M := 10) hj (by decide) hc
      conv => whnf
      refine ⟨vp_in_nI hlt (by decide), ?_⟩
      rw [show (nI j).toNatClampNeg = j from nI_clamp (by omega)]
      conv => whnf
      exact ⟨11 - (j + 1), by omega, j + 1, hlt, rfl, by rw [← nI_1]; rfl, rfl, rfl, rfl, rfl⟩
  · skip
    conv => whnf
    refine ⟨⟨⟨rfl, rfl⟩, rfl, trivial⟩, by decide, ?_⟩
    conv => whnf
    refine ⟨⟨⟨rfl, rfl⟩, rfl, trivial, trivial⟩, by decide, ?_⟩
    conv => whnf
    refine ⟨⟨⟨rfl, rfl⟩, rfl, trivial, trivial, trivial⟩, by decide, ?_⟩
    conv => whnf
    refine ⟨⟨⟨rfl, rfl⟩, rfl, trivial, trivial, trivial, trivial⟩, by decide, ?_⟩
    conv => whnf
    refine ⟨⟨⟨rfl, rfl⟩, rfl, trivial, trivial, trivial, trivial, trivial⟩, by decide, ?_⟩
    conv => whnf
    refine ⟨⟨⟨rfl, rfl⟩, rfl, trivial, trivial, trivial, trivial, trivial, trivial⟩, by decide, ?_⟩
    conv => whnf
    refine ⟨⟨⟨rfl, rfl⟩, rfl, trivial, trivial, trivial, trivial, trivial, trivial, trivial⟩, by decide, ?_⟩
    conv => whnf
    refine ⟨⟨⟨rfl, rfl⟩, rfl, trivial, trivial, trivial, trivial, trivial, trivial, trivial, trivial⟩, by decide, ?_⟩
    conv => whnf
    refine ⟨⟨⟨rfl, rfl⟩, rfl, trivial, trivial, trivial, trivial, trivial, trivial, trivial, trivial, trivial⟩, by decide, ?_⟩
    conv => whnf
    refine ⟨⟨⟨rfl, rfl⟩, rfl, trivial, trivial, trivial, trivial, trivial, trivial, trivial, trivial, trivial, trivial⟩, by decide, ?_⟩
    conv => whnf
    refine ⟨⟨⟨rfl, rfl⟩, rfl, trivial, trivial, trivial, trivial, trivial, trivial, trivial, trivial, trivial, trivial, trivial⟩, by decide, ?_⟩
    conv => whnf
    refine ⟨⟨⟨rfl, rfl⟩, rfl, trivial, trivial, trivial, trivial, trivial, trivial, trivial, trivial, trivial, trivial, trivial, trivial⟩, by decide, ?_⟩
    conv => whnf
    refine ⟨⟨⟨rfl, rfl⟩, rfl, trivial, trivial, trivial, trivial, trivial, trivial, trivial, trivial, trivial, trivial, trivial, trivial, trivial⟩, by decide, ?_⟩
    conv => whnf
    refine ⟨⟨⟨rfl, rfl⟩, rfl, trivial, trivial, trivial, trivial, trivial, trivial, trivial, trivial, trivial, trivial, trivial, trivial, trivial, trivial⟩, by decide, ?_⟩
    conv => whnf
    refine ⟨⟨⟨rfl, rfl⟩, rfl, trivial, trivial, trivial, trivial, trivial, trivial, trivial, trivial, trivial, trivial, trivial, trivial, trivial, trivial, trivial⟩, by decide, ?_⟩
    conv => whnf
    refine ⟨⟨⟨rfl, rfl⟩, rfl, trivial, trivial, trivial, trivial, trivial, trivial, trivial, trivial, trivial, trivial, trivial, trivial, trivial, trivial, trivial, trivial⟩, by decide, ?_⟩
    conv => whnf
    refine ⟨⟨⟨rfl, rfl⟩, rfl, trivial, trivial, trivial, trivial, trivial, trivial, trivial, trivial, trivial, trivial, trivial, trivial, trivial, trivial, trivial, trivial, trivial⟩, by decide, ?_⟩
    conv => whnf
    refine ⟨⟨⟨rfl, rfl⟩, rfl, trivial, trivial, trivial, trivial, trivial, trivial, trivial, trivial, trivial, trivial, trivial, trivial, trivial, trivial, trivial, trivial, trivial, trivial⟩, by decide, ?_⟩
    conv => whnf
    refine ⟨⟨⟨rfl, rfl⟩, rfl, trivial, trivial, trivial, trivial, trivial, trivial, trivial, trivial, trivial, trivial, trivial, trivial, trivial, trivial, trivial, trivial, trivial, trivial, trivial⟩, by decide, ?_⟩
    conv => whnf
    refine ⟨⟨⟨rfl, rfl⟩, rfl, trivial, trivial, trivial, trivial, trivial, trivial, trivial, trivial, trivial, trivial, trivial, trivial, trivial, trivial, trivial, trivial, trivial, trivial, trivial, trivial⟩, by decide, ?_⟩
    conv => whnf
    refine ⟨⟨⟨rfl, rfl⟩, rfl, trivial, trivial, trivial, trivial, trivial, trivial, trivial, trivial, trivial, trivial, trivial, trivial, trivial, trivial, trivial, trivial, trivial, trivial, trivial, trivial, trivial⟩, by decide, ?_⟩
    conv => whnf
    exact ⟨11, 0, by decide, rfl, rfl, rfl, rfl, rfl, rfl⟩
