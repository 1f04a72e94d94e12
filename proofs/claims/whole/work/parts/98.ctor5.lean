/-! ===== the class's constructor ===== -/
theorem nwo_of {own : String} {L : List (Nat × (Nat × List sv × Nat))} (h : ∀ q ∈ L, ∃ (C : String) (T : u_T) (t0 : Nat → FieldType), vwCl[q.2.1]? = some (C, T, q.2.2.2) ∧ (∀ w ∈ u_ws C T q.2.2.2, w ∈ uW) ∧ (∀ k, k < q.2.2.2 → parseFieldDescriptor (T k).2.2.1 = some (t0 k)) ∧ Cond.classLink own q.1 C ∈ uW ∧ Cond.instantiable C q.2.2.2 ∈ uW ∧ Cond.initialized C ∈ uW ∧ q.2.2.1.all (okB 0) = true ∧ ∀ (σ : Nat → Nat) (j : Nat), j < q.2.2.2 → defaultValue (t0 j) = vp_V (q.2.2.1.map (tv σ)) j) : nwo own (lkB L) := by
  intro idx ci fs N hq
  obtain ⟨q, hm, e1, e2⟩ := lkB_s hq
  have := h q hm
  rw [e1, e2] at this
  exact this
def f0 : List sv := [sN, sN, sN, sN, sN, sN, sI 0, sI 0, sI 0, sI 0, sI 0, sI 0, sI 0]
def f2 : List sv := [sI 0, sI 0, sI 0, sI 0, sI 0, sN]
def nwX5 : List (Nat × (Nat × List sv × Nat)) := [(7, (0, f0, 13)), (26, (2, f2, 6)), (33, (1, [sN, sN], 2))]
theorem nwX5_ok : nwo RX5 (lkB nwX5) := nwo_of (by
  refine List.forall_mem_cons.mpr ⟨⟨RX0, TX0, tyX0, rfl, inX0, tyX0_ok, uw1 (by decide +kernel), uw1 (by decide +kernel), uw1 (by decide +kernel), rfl, ?_⟩, List.forall_mem_cons.mpr ⟨⟨RX3, TX3, tyX3, rfl, inX3, tyX3_ok, uw1 (by decide +kernel), uw1 (by decide +kernel), uw1 (by decide +kernel), rfl, ?_⟩, List.forall_mem_cons.mpr ⟨⟨RX2, TX2, tyX2, rfl, inX2, tyX2_ok, uw1 (by decide +kernel), uw1 (by decide +kernel), uw1 (by decide +kernel), rfl, ?_⟩, fun _ h => absurd h List.not_mem_nil⟩⟩⟩
  · intro σ j hj
    match j, hj with
    | 0, _ => rfl
    | 1, _ => rfl
    | 2, _ => rfl
    | 3, _ => rfl
    | 4, _ => rfl
    | 5, _ => rfl
    | 6, _ => rfl
    | 7, _ => rfl
    | 8, _ => rfl
    | 9, _ => rfl
    | 10, _ => rfl
    | 11, _ => rfl
    | 12, _ => rfl
    | j + 13, hj => exact absurd hj (by show ¬ j + 13 < 13; omega)
  · intro σ j hj
    match j, hj with
    | 0, _ => rfl
    | 1, _ => rfl
    | 2, _ => rfl
    | 3, _ => rfl
    | 4, _ => rfl
    | 5, _ => rfl
    | j + 6, hj => exact absurd hj (by show ¬ j + 6 < 6; omega)
  · intro σ j hj
    match j, hj with
    | 0, _ => rfl
    | 1, _ => rfl
    | j + 2, hj => exact absurd hj (by show ¬ j + 2 < 2; omega))
def innAt (n : Nat) (s : InnS) : List sc := [oC 0 [sR (n + 1), sR (n + 2), sR (n + 3), sR (n + 4), sR (n + 5), sR (n + 6), sI (iG s), sI (iT s), sI (iN s), sI (iS s), sI (iA s), sI (iSn s), sI (iLn s)], aI 7 (iK s), aI 7 (iF s), aI 7 (iW s), aI 7 (iL s), aI 7 (iH s), aI 10 (iP s)]
def fD : Nat → Nat → Option Nat
  | 0 => fun _ => none
  | d + 1 => va_up (fD d) d (some (23 + 2 * d))
theorem fD_lt : ∀ {d i k : Nat}, fD d i = some k → k < 22 + 2 * d
  | 0, i, k, h => by cases h
  | d + 1, i, k, h => by
    unfold fD va_up at h
    by_cases e : i = d
    · simp [e] at h
      omega
    · simp [e] at h
      have := fD_lt h
      omega
def shl0 : Nat → List sc
  | 0 => []
  | d + 1 => shl0 d ++ [oC 2 [sI 0, sI 0, sI 0, sI 0, sI 0, sR (24 + 2 * d)], aI 100 z0]
abbrev inn0 : InnS := inn5 (plF 10)
def xd (d : Nat) (a b : sv) : List sc := oC 3 [sR 1, sR 8, sR 15, sI 0, sR 22, a, b] :: (innAt 1 inn0 ++ (innAt 8 inn0 ++ (innAt 15 inn0 ++ (aR 8 (fD d) :: shl0 d))))
def xEnd : List sc := xd 8 (sR 39) (sR 42) ++ [oC 1 [sR 40, sR 41], aI 7 z0, aI 7 z0, aI 8 z0]
def F_X5_init : Fn := fun as w K => as = [sR 0] ∧ w = [oC 3 [sN, sN, sN, sI 0, sN, sN, sN]] ∧ K none xEnd
def czX5_init : Tz := [(1, cObj 300), (9, cNw 1 42 1054 F_X0_init 6 45), (20, cNw 1 42 1054 F_X0_init 6 45), (31, cNw 1 42 1054 F_X0_init 6 45), (68, cNw 1 42 1054 F_X3_init 1 100), (83, cNw 1 42 1054 F_X2_init 2 14)]
theorem cokz_X5_init : CallZ cX5_init 2 none RX5 (rmN 3 42 1054) 1 czX5_init :=
  have a0 := fun (pc : Nat) (hd : xdec cX5_init pc = some (.invokespecial 9, pc + 3, 0, 0)) => run_I (nL := 2) (rt := none) (R := rmN 3 42 1054) hd ct_X0_init (uw1 (by decide +kernel)) (own := RX5) (uw1 (by decide +kernel)) (uw1 (by decide +kernel)) (uw1 (by decide +kernel)) rfl (by decide +kernel) (by decide)
  CallZ_cons (site_obj (R := rmN 3 42 1054) (pX5_init_ok 1 _ rfl) (uw1 (by decide +kernel)) (by decide)) (CallZ_cons (site_nw (a0 9 (pX5_init_ok 9 _ rfl))) (CallZ_cons (site_nw (a0 20 (pX5_init_ok 20 _ rfl))) (CallZ_cons (site_nw (a0 31 (pX5_init_ok 31 _ rfl))) (CallZ_cons (site_nw (run_IN (R := rmN 3 42 1054) (host := "ServesWhatOneDreamt") (pX5_init_ok 68 _ rfl) ct_X3_init (uw1 (by decide +kernel)) (List.mem_of_getElem? (i := 0) rfl) (uw1 (by decide +kernel)) (uw1 (by decide +kernel)) rfl (by decide +kernel) (by decide))) (CallZ_cons (site_nw (run_IN (R := rmN 3 42 1054) (host := "ServesWhatOneDreamt") (pX5_init_ok 83 _ rfl) ct_X2_init (uw1 (by decide +kernel)) (List.mem_of_getElem? (i := 1) rfl) (uw1 (by decide +kernel)) (uw1 (by decide +kernel)) rfl (by decide +kernel) (by decide))) CallZ_nil)))))
