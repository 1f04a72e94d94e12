/-! ===== constructors: an inn, a seating, a shelf ===== -/
theorem uw1 {w : Cond} (h : (decide (w ∈ tables_1) && goodWord w) = true) : w ∈ uW := all_tbl (l := [w]) (by rw [List.all_cons, h]; rfl) _ List.mem_cons_self
theorem fdf_of {own : String} {cf : Nat} {fl : List (Nat × (Nat × Nat × Nat))} {T : u_T} {N : Nat} {t0 : Nat → FieldType} (hv : vwCl[cf]? = some (own, T, N)) (hty : ∀ k, k < N → parseFieldDescriptor (T k).2.2.1 = some (t0 k)) (h : fl.all (fun q => !(Nat.beq q.2.1 cf && Nat.beq q.2.2.2 9) || (Nat.blt q.2.2.1 N && (T q.2.2.1).2.2.2 && isRefT (t0 q.2.2.1))) = true) : fdf own cf (lkB fl) := by
  intro idx kf hq C T2 N2 hv2
  rw [hv] at hv2
  cases hv2
  obtain ⟨q, hm, e1, e2⟩ := lkB_s hq
  have h1 := List.all_eq_true.mp h q hm
  rw [e2] at h1
  have e3 : (Nat.beq cf cf && Nat.beq 9 9) = true := by rw [Nat.beq_refl]; rfl
  simp only [e3, Bool.not_true, Bool.false_or, Bool.and_eq_true] at h1
  exact ⟨rfl, h1.1.2, t0 kf, hty kf (Nat.le_of_ble_eq_true h1.1.1), h1.2⟩
theorem ffX0 : fdf RX0 0 (lkB flX0) := fdf_of (T := TX0) (N := 13) (t0 := tyX0) rfl tyX0_ok (by decide +kernel)
theorem ffX2 : fdf RX2 1 (lkB flX2) := fdf_of (T := TX2) (N := 2) (t0 := tyX2) rfl tyX2_ok (by decide +kernel)
theorem ffX3 : fdf RX3 2 (lkB flX3) := fdf_of (T := TX3) (N := 6) (t0 := tyX3) rfl tyX3_ok (by decide +kernel)
theorem ffX5 : fdf RX5 3 (lkB flX5) := fdf_of (T := TX5) (N := 7) (t0 := tyX5) rfl tyX5_ok (by decide +kernel)
theorem ffX6 : fdf RX6 4 (lkB flX6) := fdf_of (T := TX6) (N := 39) (t0 := tyX6) rfl tyX6_ok (by decide +kernel)
def nw0 : Nwt := fun _ => none
theorem nwo0 (own : String) : nwo own nw0 := fun _ _ _ _ h => by cases h
def plF : Nat → PA
  | 0 => fun _ => 0
  | k + 1 => upd (plF k) k 5
def z0 : PA := fun _ => 0
abbrev inn5 (P : PA) : InnS := (z0, z0, z0, z0, z0, P, 0, 0, 0, 0, 0, 0, 0)
def F_X0_init : Fn := fun as w K => as = [sR 0] ∧ w = [oC 0 [sN, sN, sN, sN, sN, sN, sI 0, sI 0, sI 0, sI 0, sI 0, sI 0, sI 0]] ∧ K none (innW (inn5 (plF 10)))
def czX0_init : Tz := [(1, cObj 100)]
theorem cokz_X0_init : CallZ cX0_init 2 none RX0 (rmN 1 6 45) 1 czX0_init := CallZ_cons (site_obj (R := rmN 1 6 45) (pX0_init_ok 1 _ rfl) (uw1 (by decide +kernel)) (by decide)) CallZ_nil
set_option maxRecDepth 20000 in
theorem ct_X0_init : CtN yX0_init cX0_init 2 1 6 45 F_X0_init := by
  intro l D σ cA sz as w K h
  obtain ⟨rfl, rfl, h⟩ := h
  refine metN (pr := lkB pX0_init) (fld := lkB flX0) (cst := lkB csX0) (cstL := lkB clX0) (nw := nw0) (ct := czX0_init) (cf := 0) 73 [(54, ([true, true], fun n lv st w cl sl => ∃ j, j ≤ 10 ∧ n = 11 - j ∧ lv = [some (sR 0), some (sI (nI j))] ∧ st = [] ∧ w = innW (inn5 (plF j)) ∧ cl = 6 ∧ sl = 45)), (73, ([], fun _ _ st w cl sl => st = [] ∧ cl ≤ 6 ∧ sl ≤ 45 ∧ K none w))] (by decide +kernel) rfl pX0_init_ok (by decide +kernel) rfl fdX0 cdX0 (nwo0 _) ffX0 (an := none) (fun _ h => by cases h) cokz_X0_init (Nat.le_of_ble_eq_true rfl) ?_ ?_ l D σ cA sz
  · refine List.forall_mem_cons.mpr ⟨Or.inr ?_, List.forall_mem_cons.mpr ⟨Or.inl rfl, fun _ h => absurd h List.not_mem_nil⟩⟩
    rintro n lv st w cl sl ⟨j, hj, rfl, rfl, rfl, rfl, rfl, rfl⟩
    conv => whnf
    refine ⟨fun hc => ?_, fun hc => ?_⟩
    · obtain rfl := lp_ge (M := 10) hj (by decide) hc
      conv => whnf
      exact ⟨0, by decide, rfl, by decide, by decide, h⟩
    · have hlt := lp_lt (M := 10) hj (by decide) hc
      conv => whnf
      refine ⟨vp_in_nI hlt (by decide), ?_⟩
      rw [show (nI j).toNatClampNeg = j from nI_clamp (by omega)]
      conv => whnf
      exact ⟨11 - (j + 1), by omega, j + 1, hlt, rfl, by rw [← nI_1]; rfl, rfl, rfl, rfl, rfl⟩
  · conv => whnf
    refine ⟨⟨⟨rfl, rfl⟩, rfl, trivial⟩, by decide, ?_⟩
    conv => whnf
    refine ⟨⟨⟨rfl, rfl⟩, rfl, trivial, trivial⟩, by decide, ?_⟩
    conv => whnf
    refine ⟨⟨⟨rfl, rfl⟩, rfl, trivial, trivial, trivial⟩, by decide, ?_⟩
    conv => whnf
    refine ⟨⟨⟨rfl, rfl⟩, rfl, trivial, trivial, trivial, trivial⟩, by decide, ?_⟩
    conv => whnf
    refine ⟨⟨⟨rfl, rfl⟩, rfl, trivial, trivial, trivial, trivial, trivial⟩, by decide, ?_⟩
    conv => whnf
    refine ⟨⟨⟨rfl, rfl⟩, rfl, trivial, trivial, trivial, trivial, trivial, trivial⟩, by decide, ?_⟩
    conv => whnf
    exact ⟨11, 0, by decide, rfl, rfl, rfl, rfl, rfl, rfl⟩
def F_X2_init : Fn := fun as w K => as = [sR 0] ∧ w = [oC 1 [sN, sN]] ∧ K none [oC 1 [sR 1, sR 2], aI 7 z0, aI 7 z0]
def czX2_init : Tz := [(1, cObj 100)]
theorem cokz_X2_init : CallZ cX2_init 1 none RX2 (rmN 1 2 14) 1 czX2_init := CallZ_cons (site_obj (R := rmN 1 2 14) (pX2_init_ok 1 _ rfl) (uw1 (by decide +kernel)) (by decide)) CallZ_nil
theorem ct_X2_init : CtN yX2_init cX2_init 1 1 2 14 F_X2_init := by
  intro l D σ cA sz as w K h
  obtain ⟨rfl, rfl, h⟩ := h
  refine metN (pr := lkB pX2_init) (fld := lkB flX2) (cst := lkB csX2) (cstL := lkB clX2) (nw := nw0) (ct := czX2_init) (cf := 1) 20 [(20, ([], fun _ _ st w cl sl => st = [] ∧ cl ≤ 2 ∧ sl ≤ 14 ∧ K none w))] (by decide +kernel) rfl pX2_init_ok (by decide +kernel) rfl fdX2 cdX2 (nwo0 _) ffX2 (an := none) (fun _ h => by cases h) cokz_X2_init (Nat.le_of_ble_eq_true rfl) ?_ ?_ l D σ cA sz
  · exact List.forall_mem_cons.mpr ⟨Or.inl rfl, fun _ h => absurd h List.not_mem_nil⟩
  · conv => whnf
    refine ⟨⟨⟨rfl, rfl⟩, rfl, trivial⟩, by decide, ?_⟩
    conv => whnf
    refine ⟨⟨⟨rfl, rfl⟩, rfl, trivial, trivial⟩, by decide, ?_⟩
    conv => whnf
    exact ⟨0, rfl, by decide, by decide, h⟩
def F_X3_init : Fn := fun as w K => as = [sR 0] ∧ w = [oC 2 [sI 0, sI 0, sI 0, sI 0, sI 0, sN]] ∧ K none [oC 2 [sI 0, sI 0, sI 0, sI 0, sI 0, sR 1], aI 100 z0]
def czX3_init : Tz := [(1, cObj 100)]
theorem cokz_X3_init : CallZ cX3_init 1 none RX3 (rmN 1 1 100) 1 czX3_init := CallZ_cons (site_obj (R := rmN 1 1 100) (pX3_init_ok 1 _ rfl) (uw1 (by decide +kernel)) (by decide)) CallZ_nil
theorem ct_X3_init : CtN yX3_init cX3_init 1 1 1 100 F_X3_init := by
  intro l D σ cA sz as w K h
  obtain ⟨rfl, rfl, h⟩ := h
  refine metN (pr := lkB pX3_init) (fld := lkB flX3) (cst := lkB csX3) (cstL := lkB clX3) (nw := nw0) (ct := czX3_init) (cf := 2) 17 [(17, ([], fun _ _ st w cl sl => st = [] ∧ cl ≤ 1 ∧ sl ≤ 100 ∧ K none w))] (by decide +kernel) rfl pX3_init_ok (by decide +kernel) rfl fdX3 cdX3 (nwo0 _) ffX3 (an := none) (fun _ h => by cases h) cokz_X3_init (Nat.le_of_ble_eq_true rfl) ?_ ?_ l D σ cA sz
  · exact List.forall_mem_cons.mpr ⟨Or.inl rfl, fun _ h => absurd h List.not_mem_nil⟩
  · conv => whnf
    refine ⟨⟨⟨rfl, rfl⟩, rfl, trivial⟩, by decide, ?_⟩
    conv => whnf
    exact ⟨0, rfl, by decide, by decide, h⟩
