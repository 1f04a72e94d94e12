/-! ===== the law's start ===== -/
def f6 : List sv := [sN, sI 0, sN, sN, sN, sN, sN, sI 0, sI 0, sI 0, sI 0, sI 0, sI 0, sN, sN, sN, sN, sN, sN, sI 0, sI 0, sI 0, sI 0, sI 0, sI 0, sN, sN, sN, sN, sN, sI 0, sI 0, sI 0, sN, sN, sN, sN, sI 0, sN]
def nwL : List (Nat × (Nat × List sv × Nat)) := [(8, (3, [sN, sN, sN, sI 0, sN, sN, sN], 7)), (18, (4, f6, 39))]
theorem nwL_ok : nwo RL (lkB nwL) := nwo_of (by
  refine List.forall_mem_cons.mpr ⟨⟨RX5, TX5, tyX5, rfl, inX5, tyX5_ok, uw1 (by decide +kernel), uw1 (by decide +kernel), uw1 (by decide +kernel), rfl, ?_⟩, List.forall_mem_cons.mpr ⟨⟨RX6, TX6, tyX6, rfl, inX6, tyX6_ok, uw1 (by decide +kernel), uw1 (by decide +kernel), uw1 (by decide +kernel), rfl, ?_⟩, fun _ h => absurd h List.not_mem_nil⟩⟩
  · intro σ j hj
    match j, hj with
    | 0, _ => rfl
    | 1, _ => rfl
    | 2, _ => rfl
    | 3, _ => rfl
    | 4, _ => rfl
    | 5, _ => rfl
    | 6, _ => rfl
    | j + 7, hj => exact absurd hj (by show ¬ j + 7 < 7; omega)
  · intro σ j hj
    match j, hj with
    | 0, _ => rfl
    | 1, _ => rfl
    | 2, _ => rfl
    | 3, _ => rfl
    | 4, _ => rfl
    | 5, _ => rfl
    | 6, _ => rfl
    | 7, _ => rfl
    | 8, _ => rfl
    | 9, _ => rfl
    | 10, _ => rfl
    | 11, _ => rfl
    | 12, _ => rfl
    | 13, _ => rfl
    | 14, _ => rfl
    | 15, _ => rfl
    | 16, _ => rfl
    | 17, _ => rfl
    | 18, _ => rfl
    | 19, _ => rfl
    | 20, _ => rfl
    | 21, _ => rfl
    | 22, _ => rfl
    | 23, _ => rfl
    | 24, _ => rfl
    | 25, _ => rfl
    | 26, _ => rfl
    | 27, _ => rfl
    | 28, _ => rfl
    | 29, _ => rfl
    | 30, _ => rfl
    | 31, _ => rfl
    | 32, _ => rfl
    | 33, _ => rfl
    | 34, _ => rfl
    | 35, _ => rfl
    | 36, _ => rfl
    | 37, _ => rfl
    | 38, _ => rfl
    | j + 39, hj => exact absurd hj (by show ¬ j + 39 < 39; omega))
def czL : Tz := [(4, cNw 0 601024 7293034 F_X5_init 42 1054), (12, cNw 0 601024 7293034 F_X6_init 21 2379)]
theorem czL_ok : CallZ cL_law 8 ret RL room_1 0 czL := CallZ_cons (site_nw (R := room_1) (run_I (pL_start_ok 4 _ rfl) ct_X5_init (uw1 (by decide +kernel)) (uw1 (by decide +kernel)) (uw1 (by decide +kernel)) (uw1 (by decide +kernel)) rfl (by decide +kernel) (by decide))) (CallZ_cons (site_nw (R := room_1) (run_I (pL_start_ok 12 _ rfl) ct_X6_init (uw1 (by decide +kernel)) (uw1 (by decide +kernel)) (uw1 (by decide +kernel)) (uw1 (by decide +kernel)) rfl (by decide +kernel) (by decide))) CallZ_nil)
theorem shv_0 (v : sv) : shv 0 v = v := by
  rcases v with x | x | x
  · rfl
  · rfl
  · cases x with
    | none => rfl
    | some k => show (.inr (.inr (some (0 + k))) : sv) = _; rw [Nat.zero_add]
theorem shc_0 (c : sc) : shc 0 c = c := by
  rcases c with ⟨ci, fs⟩ | ⟨t, m, f | f | f⟩
  · show (.inl (ci, fs.map (shv 0)) : sc) = _
    rw [show fs.map (shv 0) = fs.map id from List.map_congr_left (fun v _ => shv_0 v), List.map_id]
  · rfl
  · rfl
  · have e : (fun i => (f i).map (fun k => 0 + k)) = f := by
      funext i
      cases f i with
      | none => rfl
      | some k => show some (0 + k) = _; rw [Nat.zero_add]
    show (.inr (t, m, .inr (.inr (fun i => (f i).map (fun k => 0 + k)))) : sc) = _
    rw [e]
theorem shm_0 (w : List sc) : w.map (shc 0) = w := by
  rw [show w.map (shc 0) = w.map id from List.map_congr_left (fun c _ => shc_0 c), List.map_id]
def us0 : Nat → ShS := fun _ => (0, 0, 0, 0, 0, z0)
section LAWS
variable {p : Program} {l : Launch} {e : Env} {s : State} {m : MethodId} {args : Array Value} {below : List Frame} {meth : Method} {c : Code} {D : va_G} {σ0 : Nat → Nat} {cA : Nat → ClassId} {A : Nat → Prop} {Q : State → Prop} {L : Nat} {xs : Nat → Int32}
theorem zrunS {cut : Cut} {n pc cl sl : Nat} {lv : List (Option sv)} {st : List sv} {w : List sc} (X : LX p s m args meth c D σ0 cA A L xs) (hcut : ∀ pc mm P, cut pc = some (mm, P) → ∀ lv st w cl sl, P lv st w cl sl → ZY p l e room_1 s m args below meth c D σ0 0 cA A s.heap 8 Q pc lv st w cl sl) (h : wpz (lkB pL_start) 8 none none 0 601024 7293034 (lkB nwL) no3 noI noL (ctabz czL) (some (L, xs)) cut n pc lv st w cl sl) : ZY p l e room_1 s m args below meth c D σ0 0 cA A s.heap 8 Q pc lv st w cl sl := by
  obtain ⟨hX, hnw, hex, hA, hs, -⟩ := X
  exact wpz_sound (R := room_1) pL_start_ok hX fdo_n cdo_n nwL_ok (fun cf h => by cases h) hA (fun L' xs' h => by cases h; exact hs) (fun i h => by cases h) (fun pc lv st w cl sl kk h hk => by
    obtain ⟨f, hs, hf⟩ := ctabz_use czL_ok h
    exact hs p l e s m args below meth c D σ0 cA A Q hX hnw hex hA lv st w cl sl kk hf hk) hcut n pc lv st w cl sl h
def cutA (pc0 : Nat) (mm : List Bool) (P : List (Option sv) → List sv → List sc → Nat → Nat → Prop) : Cut := fun z => cond (Nat.beq z pc0) (some (mm, P)) none
theorem cutA_e {pc0 : Nat} {mm : List Bool} {P : List (Option sv) → List sv → List sc → Nat → Nat → Prop} {Z : Nat → List (Option sv) → List sv → List sc → Nat → Nat → Prop} (h : ∀ lv st w cl sl, P lv st w cl sl → Z pc0 lv st w cl sl) : ∀ pc m' P', cutA pc0 mm P pc = some (m', P') → ∀ lv st w cl sl, P' lv st w cl sl → Z pc lv st w cl sl := by
  intro pc m' P' h1
  unfold cutA at h1
  cases hz : Nat.beq pc pc0 with
  | false => rw [hz] at h1; cases h1
  | true =>
    rw [hz] at h1
    cases h1
    have := Nat.eq_of_beq_eq_true hz
    subst this
    exact h
set_option maxRecDepth 20000 in
theorem zst2 (X : LX p s m args meth c D σ0 cA A L xs) (h23 : ZY p l e room_1 s m args below meth c D σ0 0 cA A s.heap 8 Q 23 (lvJ 0) [] (LWd inn0 inn0 inn0 0 us0 z0 z0 z0 inn0 q00 t00 zL) 66 3480) : ZY p l e room_1 s m args below meth c D σ0 0 cA A s.heap 8 Q 7 [some (sR 1000)] [sR 0] xEnd 43 1061 := by
  refine zrunS (n := 40) (cut := cutA 23 T5 (fun lv st w cl sl => lv = lvJ 0 ∧ st = [] ∧ w = LWd inn0 inn0 inn0 0 us0 z0 z0 z0 inn0 q00 t00 zL ∧ cl = 66 ∧ sl = 3480)) X (cutA_e ?_) ?_
  · rintro lv st w cl sl ⟨rfl, rfl, rfl, rfl, rfl⟩
    exact h23
  · conv => whnf
    refine ⟨⟨⟨rfl, rfl⟩, (by repeat' (first | exact trivial | exact rfl | exact fun i k h => Nat.lt_of_lt_of_le (fD_lt h) (by decide) | refine And.intro ?_ ?_))⟩, ?_⟩
    conv => whnf
    refine ⟨⟨⟨rfl, rfl⟩, (by repeat' (first | exact trivial | exact rfl | exact fun i k h => Nat.lt_of_lt_of_le (fD_lt h) (by decide) | refine And.intro ?_ ?_))⟩, ?_⟩
    conv => whnf
    refine ⟨rfl, rfl, (by repeat' (first | exact trivial | exact rfl | exact fun i k h => Nat.lt_of_lt_of_le (fD_lt h) (by decide) | refine And.intro ?_ ?_)), ?_⟩
    conv => whnf
    refine ⟨⟨⟨rfl, rfl⟩, (by repeat' (first | exact trivial | exact rfl | exact fun i k h => Nat.lt_of_lt_of_le (fD_lt h) (by decide) | refine And.intro ?_ ?_))⟩, ?_⟩
    conv => whnf
    exact ⟨by decide, rfl, rfl, rfl, rfl, rfl⟩
set_option maxRecDepth 20000 in
theorem zst1 (X : LX p s m args meth c D σ0 cA A L xs) (h23 : ZY p l e room_1 s m args below meth c D σ0 0 cA A s.heap 8 Q 23 (lvJ 0) [] (LWd inn0 inn0 inn0 0 us0 z0 z0 z0 inn0 q00 t00 zL) 66 3480) : ZY p l e room_1 s m args below meth c D σ0 0 cA A s.heap 8 Q 0 [some (sR 1000)] [] [] 0 0 := by
  refine zrunS (n := 40) (cut := cutA 7 [true] (fun lv st w cl sl => lv = [some (sR 1000)] ∧ st = [sR 0] ∧ w = xEnd.map (shc 0) ∧ cl = 43 ∧ sl = 1061)) X (cutA_e ?_) ?_
  · rintro lv st w cl sl ⟨rfl, rfl, rfl, rfl, rfl⟩
    rw [shm_0]
    exact zst2 X h23
  · conv => whnf
    refine ⟨⟨⟨rfl, rfl⟩, (by repeat' (first | exact trivial | exact rfl | exact fun i k h => Nat.lt_of_lt_of_le (fD_lt h) (by decide) | refine And.intro ?_ ?_))⟩, ?_⟩
    conv => whnf
    refine ⟨⟨⟨rfl, rfl⟩, (by repeat' (first | exact trivial | exact rfl | exact fun i k h => Nat.lt_of_lt_of_le (fD_lt h) (by decide) | refine And.intro ?_ ?_))⟩, ?_⟩
    conv => whnf
    refine ⟨rfl, rfl, (by repeat' (first | exact trivial | exact rfl | exact fun i k h => Nat.lt_of_lt_of_le (fD_lt h) (by decide) | refine And.intro ?_ ?_)), ?_⟩
    conv => whnf
    exact ⟨rfl, rfl, rfl, rfl, rfl⟩
end LAWS
