/-! ===== the law's calls on the class: which part of its world ===== -/
def Lv (v : sv) : Prop := (∀ is, unrv is v = v) ∧ ∀ n, shv n v = v
def La (as : List sv) : Prop := (∀ is, as.map (renv is) = as) ∧ ∀ n, as.map (shv n) = as
section EL
variable {F : Fn} {as : List sv} {s m k : InnS} {hi : Int32} {us : Nat → ShS} {dr od py : PA} {rest : List sc} {kk : Option sv → List sc → Prop}
set_option maxRecDepth 20000 in
theorem e1 (ha : La as) (h : ∀ (r1 r2 r3 r4 r5 : sv) (K : Option sv → List sc → Prop), (∀ v s', Lv v → kk (some v) (XW s' m k hi us dr od py ++ rest) → K (some v) (x1W r1 r2 r3 r4 r5 hi s')) → F (sR 0 :: as) (x1W r1 r2 r3 r4 r5 hi s) K) : cE (some 3) F (sR 0 :: as) (XW s m k hi us dr od py ++ rest) kk := by
  refine ⟨[0, 1, 2, 3, 4, 5, 6, 7], by decide, ?_⟩
  have hh := h (sR 16) (sR 23) (sR 30) (sR 47) (sR 50) (fun r wc => ck (Nat.beq 8 wc.length) (kk (r.map (unrv [0, 1, 2, 3, 4, 5, 6, 7])) (putw [0, 1, 2, 3, 4, 5, 6, 7] [0, 1, 2, 3, 4, 5, 6, 7] (XW s m k hi us dr od py ++ rest) wc))) (fun v s' hv hk => by
    show kk (some (unrv _ v)) _
    rw [hv.1, putw_rl (n := 43) (by decide) rfl rfl]
    exact hk)
  rw [← ha.1 [0, 1, 2, 3, 4, 5, 6, 7]] at hh
  exact hh
set_option maxRecDepth 20000 in
theorem e2 (ha : La as) (h : ∀ (r2 r3 r4 r5 : sv) (K : Option sv → List sc → Prop), (∀ v s' m', Lv v → kk (some v) (XW s' m' k hi us dr od py ++ rest) → K (some v) (x2W r2 r3 r4 r5 hi s' m')) → F (sR 0 :: as) (x2W r2 r3 r4 r5 hi s m) K) : cE (some 3) F (sR 0 :: as) (XW s m k hi us dr od py ++ rest) kk := by
  refine ⟨[0, 1, 2, 3, 4, 5, 6, 7, 8, 9, 10, 11, 12, 13, 14], by decide, ?_⟩
  have hh := h (sR 30) (sR 37) (sR 54) (sR 57) (fun r wc => ck (Nat.beq 15 wc.length) (kk (r.map (unrv [0, 1, 2, 3, 4, 5, 6, 7, 8, 9, 10, 11, 12, 13, 14])) (putw [0, 1, 2, 3, 4, 5, 6, 7, 8, 9, 10, 11, 12, 13, 14] [0, 1, 2, 3, 4, 5, 6, 7, 8, 9, 10, 11, 12, 13, 14] (XW s m k hi us dr od py ++ rest) wc))) (fun v s' m' hv hk => by
    show kk (some (unrv _ v)) _
    rw [hv.1, putw_rl (n := 43) (by decide) rfl rfl]
    exact hk)
  rw [← ha.1 [0, 1, 2, 3, 4, 5, 6, 7, 8, 9, 10, 11, 12, 13, 14]] at hh
  exact hh
set_option maxRecDepth 20000 in
theorem e3 (ha : La as) (h : ∀ (r1 r3 r4 r5 : sv) (K : Option sv → List sc → Prop), (∀ v s' k' hi', Lv v → kk (some v) (XW s' m k' hi' us dr od py ++ rest) → K (some v) (x3W r1 r3 r4 r5 hi' s' k')) → F (sR 0 :: as) (x3W r1 r3 r4 r5 hi s k) K) : cE (some 3) F (sR 0 :: as) (XW s m k hi us dr od py ++ rest) kk := by
  refine ⟨[0, 1, 2, 3, 4, 5, 6, 7, 15, 16, 17, 18, 19, 20, 21], by decide, ?_⟩
  have hh := h (sR 23) (sR 37) (sR 54) (sR 57) (fun r wc => ck (Nat.beq 15 wc.length) (kk (r.map (unrv [0, 1, 2, 3, 4, 5, 6, 7, 15, 16, 17, 18, 19, 20, 21])) (putw [0, 1, 2, 3, 4, 5, 6, 7, 15, 16, 17, 18, 19, 20, 21] [0, 1, 2, 3, 4, 5, 6, 7, 15, 16, 17, 18, 19, 20, 21] (XW s m k hi us dr od py ++ rest) wc))) (fun v s' k' hi' hv hk => by
    show kk (some (unrv _ v)) _
    rw [hv.1, putw_rl (n := 43) (by decide) rfl rfl]
    exact hk)
  rw [← ha.1 [0, 1, 2, 3, 4, 5, 6, 7, 15, 16, 17, 18, 19, 20, 21]] at hh
  exact hh
set_option maxRecDepth 20000 in
theorem eP (ha : La as) (h : ∀ (r2 r3 r4 : sv) (K : Option sv → List sc → Prop), (∀ v s' m' py', Lv v → kk (some v) (XW s' m' k hi us dr od py' ++ rest) → K (some v) (xP r2 r3 r4 hi s' m' py')) → F (sR 0 :: as) (xP r2 r3 r4 hi s m py) K) : cE (some 3) F (sR 0 :: as) (XW s m k hi us dr od py ++ rest) kk := by
  refine ⟨[0, 1, 2, 3, 4, 5, 6, 7, 8, 9, 10, 11, 12, 13, 14, 42], by decide, ?_⟩
  have hh := h (sR 31) (sR 38) (sR 55) (fun r wc => ck (Nat.beq 16 wc.length) (kk (r.map (unrv [0, 1, 2, 3, 4, 5, 6, 7, 8, 9, 10, 11, 12, 13, 14, 42])) (putw [0, 1, 2, 3, 4, 5, 6, 7, 8, 9, 10, 11, 12, 13, 14, 42] [0, 1, 2, 3, 4, 5, 6, 7, 8, 9, 10, 11, 12, 13, 14, 42] (XW s m k hi us dr od py ++ rest) wc))) (fun v s' m' py' hv hk => by
    show kk (some (unrv _ v)) _
    rw [hv.1, putw_rl (n := 43) (by decide) rfl rfl]
    exact hk)
  rw [← ha.1 [0, 1, 2, 3, 4, 5, 6, 7, 8, 9, 10, 11, 12, 13, 14, 42]] at hh
  exact hh
set_option maxRecDepth 20000 in
theorem e5 (ha : La as) (h : ∀ (r1 r2 r3 r5 : sv) (K : Option sv → List sc → Prop), (∀ v s' dr' od', Lv v → kk (some v) (XW s' m k hi us dr' od' py ++ rest) → K (some v) (x5W r1 r2 r3 r5 hi s' dr' od')) → F (sR 0 :: as) (x5W r1 r2 r3 r5 hi s dr od) K) : cE (some 3) F (sR 0 :: as) (XW s m k hi us dr od py ++ rest) kk := by
  refine ⟨[0, 1, 2, 3, 4, 5, 6, 7, 39, 40, 41], by decide, ?_⟩
  have hh := h (sR 19) (sR 26) (sR 33) (sR 53) (fun r wc => ck (Nat.beq 11 wc.length) (kk (r.map (unrv [0, 1, 2, 3, 4, 5, 6, 7, 39, 40, 41])) (putw [0, 1, 2, 3, 4, 5, 6, 7, 39, 40, 41] [0, 1, 2, 3, 4, 5, 6, 7, 39, 40, 41] (XW s m k hi us dr od py ++ rest) wc))) (fun v s' dr' od' hv hk => by
    show kk (some (unrv _ v)) _
    rw [hv.1, putw_rl (n := 43) (by decide) rfl rfl]
    exact hk)
  rw [← ha.1 [0, 1, 2, 3, 4, 5, 6, 7, 39, 40, 41]] at hh
  exact hh
theorem fD_un (is : List Nat) : (fun i => ((fD 8 i).map (rn is)).map (un is)) = fD 8 := by
  funext i
  cases fD 8 i with
  | none => rfl
  | some x => simp [un_rn]
set_option maxRecDepth 20000 in
theorem eS0 (ha : La as) (h : ∀ (r2 r4 r5 : sv) (f : Nat → Option Nat) (K : Option sv → List sc → Prop), f 0 = some 16 → (∀ v s' m' u', Lv v → kk (some v) (XW s' m' k hi (upU us 0 u') dr od py ++ rest) → K (some v) (xS r2 r4 r5 hi s' m' f u')) → F (sR 0 :: as) (xS r2 r4 r5 hi s m f (us 0)) K) : cE (some 3) F (sR 0 :: as) (XW s m k hi us dr od py ++ rest) kk := by
  refine ⟨[0, 1, 2, 3, 4, 5, 6, 7, 8, 9, 10, 11, 12, 13, 14, 22, 23, 24], by decide, ?_⟩
  have hh := h (sR 33) (sR 57) (sR 60) (fun i => (fD 8 i).map (rn [0, 1, 2, 3, 4, 5, 6, 7, 8, 9, 10, 11, 12, 13, 14, 22, 23, 24])) (fun r wc => ck (Nat.beq 18 wc.length) (kk (r.map (unrv [0, 1, 2, 3, 4, 5, 6, 7, 8, 9, 10, 11, 12, 13, 14, 22, 23, 24])) (putw [0, 1, 2, 3, 4, 5, 6, 7, 8, 9, 10, 11, 12, 13, 14, 22, 23, 24] [0, 1, 2, 3, 4, 5, 6, 7, 8, 9, 10, 11, 12, 13, 14, 22, 23, 24] (XW s m k hi us dr od py ++ rest) wc))) rfl (fun v s' m' u' hv hk => by
    show kk (some (unrv _ v)) _
    rw [hv.1, putw_rl (n := 43) (by decide) rfl rfl]
    rw [XW, ← fD_un [0, 1, 2, 3, 4, 5, 6, 7, 8, 9, 10, 11, 12, 13, 14, 22, 23, 24]] at hk
    exact hk)
  rw [← ha.1 [0, 1, 2, 3, 4, 5, 6, 7, 8, 9, 10, 11, 12, 13, 14, 22, 23, 24]] at hh
  exact hh
set_option maxRecDepth 20000 in
theorem eS1 (ha : La as) (h : ∀ (r2 r4 r5 : sv) (f : Nat → Option Nat) (K : Option sv → List sc → Prop), f 1 = some 16 → (∀ v s' m' u', Lv v → kk (some v) (XW s' m' k hi (upU us 1 u') dr od py ++ rest) → K (some v) (xS r2 r4 r5 hi s' m' f u')) → F (sR 0 :: as) (xS r2 r4 r5 hi s m f (us 1)) K) : cE (some 3) F (sR 0 :: as) (XW s m k hi us dr od py ++ rest) kk := by
  refine ⟨[0, 1, 2, 3, 4, 5, 6, 7, 8, 9, 10, 11, 12, 13, 14, 22, 25, 26], by decide, ?_⟩
  have hh := h (sR 33) (sR 57) (sR 60) (fun i => (fD 8 i).map (rn [0, 1, 2, 3, 4, 5, 6, 7, 8, 9, 10, 11, 12, 13, 14, 22, 25, 26])) (fun r wc => ck (Nat.beq 18 wc.length) (kk (r.map (unrv [0, 1, 2, 3, 4, 5, 6, 7, 8, 9, 10, 11, 12, 13, 14, 22, 25, 26])) (putw [0, 1, 2, 3, 4, 5, 6, 7, 8, 9, 10, 11, 12, 13, 14, 22, 25, 26] [0, 1, 2, 3, 4, 5, 6, 7, 8, 9, 10, 11, 12, 13, 14, 22, 25, 26] (XW s m k hi us dr od py ++ rest) wc))) rfl (fun v s' m' u' hv hk => by
    show kk (some (unrv _ v)) _
    rw [hv.1, putw_rl (n := 43) (by decide) rfl rfl]
    rw [XW, ← fD_un [0, 1, 2, 3, 4, 5, 6, 7, 8, 9, 10, 11, 12, 13, 14, 22, 25, 26]] at hk
    exact hk)
  rw [← ha.1 [0, 1, 2, 3, 4, 5, 6, 7, 8, 9, 10, 11, 12, 13, 14, 22, 25, 26]] at hh
  exact hh
set_option maxRecDepth 20000 in
theorem eS2 (ha : La as) (h : ∀ (r2 r4 r5 : sv) (f : Nat → Option Nat) (K : Option sv → List sc → Prop), f 2 = some 16 → (∀ v s' m' u', Lv v → kk (some v) (XW s' m' k hi (upU us 2 u') dr od py ++ rest) → K (some v) (xS r2 r4 r5 hi s' m' f u')) → F (sR 0 :: as) (xS r2 r4 r5 hi s m f (us 2)) K) : cE (some 3) F (sR 0 :: as) (XW s m k hi us dr od py ++ rest) kk := by
  refine ⟨[0, 1, 2, 3, 4, 5, 6, 7, 8, 9, 10, 11, 12, 13, 14, 22, 27, 28], by decide, ?_⟩
  have hh := h (sR 33) (sR 57) (sR 60) (fun i => (fD 8 i).map (rn [0, 1, 2, 3, 4, 5, 6, 7, 8, 9, 10, 11, 12, 13, 14, 22, 27, 28])) (fun r wc => ck (Nat.beq 18 wc.length) (kk (r.map (unrv [0, 1, 2, 3, 4, 5, 6, 7, 8, 9, 10, 11, 12, 13, 14, 22, 27, 28])) (putw [0, 1, 2, 3, 4, 5, 6, 7, 8, 9, 10, 11, 12, 13, 14, 22, 27, 28] [0, 1, 2, 3, 4, 5, 6, 7, 8, 9, 10, 11, 12, 13, 14, 22, 27, 28] (XW s m k hi us dr od py ++ rest) wc))) rfl (fun v s' m' u' hv hk => by
    show kk (some (unrv _ v)) _
    rw [hv.1, putw_rl (n := 43) (by decide) rfl rfl]
    rw [XW, ← fD_un [0, 1, 2, 3, 4, 5, 6, 7, 8, 9, 10, 11, 12, 13, 14, 22, 27, 28]] at hk
    exact hk)
  rw [← ha.1 [0, 1, 2, 3, 4, 5, 6, 7, 8, 9, 10, 11, 12, 13, 14, 22, 27, 28]] at hh
  exact hh
set_option maxRecDepth 20000 in
theorem eS3 (ha : La as) (h : ∀ (r2 r4 r5 : sv) (f : Nat → Option Nat) (K : Option sv → List sc → Prop), f 3 = some 16 → (∀ v s' m' u', Lv v → kk (some v) (XW s' m' k hi (upU us 3 u') dr od py ++ rest) → K (some v) (xS r2 r4 r5 hi s' m' f u')) → F (sR 0 :: as) (xS r2 r4 r5 hi s m f (us 3)) K) : cE (some 3) F (sR 0 :: as) (XW s m k hi us dr od py ++ rest) kk := by
  refine ⟨[0, 1, 2, 3, 4, 5, 6, 7, 8, 9, 10, 11, 12, 13, 14, 22, 29, 30], by decide, ?_⟩
  have hh := h (sR 33) (sR 57) (sR 60) (fun i => (fD 8 i).map (rn [0, 1, 2, 3, 4, 5, 6, 7, 8, 9, 10, 11, 12, 13, 14, 22, 29, 30])) (fun r wc => ck (Nat.beq 18 wc.length) (kk (r.map (unrv [0, 1, 2, 3, 4, 5, 6, 7, 8, 9, 10, 11, 12, 13, 14, 22, 29, 30])) (putw [0, 1, 2, 3, 4, 5, 6, 7, 8, 9, 10, 11, 12, 13, 14, 22, 29, 30] [0, 1, 2, 3, 4, 5, 6, 7, 8, 9, 10, 11, 12, 13, 14, 22, 29, 30] (XW s m k hi us dr od py ++ rest) wc))) rfl (fun v s' m' u' hv hk => by
    show kk (some (unrv _ v)) _
    rw [hv.1, putw_rl (n := 43) (by decide) rfl rfl]
    rw [XW, ← fD_un [0, 1, 2, 3, 4, 5, 6, 7, 8, 9, 10, 11, 12, 13, 14, 22, 29, 30]] at hk
    exact hk)
  rw [← ha.1 [0, 1, 2, 3, 4, 5, 6, 7, 8, 9, 10, 11, 12, 13, 14, 22, 29, 30]] at hh
  exact hh
set_option maxRecDepth 20000 in
theorem eS4 (ha : La as) (h : ∀ (r2 r4 r5 : sv) (f : Nat → Option Nat) (K : Option sv → List sc → Prop), f 4 = some 16 → (∀ v s' m' u', Lv v → kk (some v) (XW s' m' k hi (upU us 4 u') dr od py ++ rest) → K (some v) (xS r2 r4 r5 hi s' m' f u')) → F (sR 0 :: as) (xS r2 r4 r5 hi s m f (us 4)) K) : cE (some 3) F (sR 0 :: as) (XW s m k hi us dr od py ++ rest) kk := by
  refine ⟨[0, 1, 2, 3, 4, 5, 6, 7, 8, 9, 10, 11, 12, 13, 14, 22, 31, 32], by decide, ?_⟩
  have hh := h (sR 33) (sR 57) (sR 60) (fun i => (fD 8 i).map (rn [0, 1, 2, 3, 4, 5, 6, 7, 8, 9, 10, 11, 12, 13, 14, 22, 31, 32])) (fun r wc => ck (Nat.beq 18 wc.length) (kk (r.map (unrv [0, 1, 2, 3, 4, 5, 6, 7, 8, 9, 10, 11, 12, 13, 14, 22, 31, 32])) (putw [0, 1, 2, 3, 4, 5, 6, 7, 8, 9, 10, 11, 12, 13, 14, 22, 31, 32] [0, 1, 2, 3, 4, 5, 6, 7, 8, 9, 10, 11, 12, 13, 14, 22, 31, 32] (XW s m k hi us dr od py ++ rest) wc))) rfl (fun v s' m' u' hv hk => by
    show kk (some (unrv _ v)) _
    rw [hv.1, putw_rl (n := 43) (by decide) rfl rfl]
    rw [XW, ← fD_un [0, 1, 2, 3, 4, 5, 6, 7, 8, 9, 10, 11, 12, 13, 14, 22, 31, 32]] at hk
    exact hk)
  rw [← ha.1 [0, 1, 2, 3, 4, 5, 6, 7, 8, 9, 10, 11, 12, 13, 14, 22, 31, 32]] at hh
  exact hh
set_option maxRecDepth 20000 in
theorem eS5 (ha : La as) (h : ∀ (r2 r4 r5 : sv) (f : Nat → Option Nat) (K : Option sv → List sc → Prop), f 5 = some 16 → (∀ v s' m' u', Lv v → kk (some v) (XW s' m' k hi (upU us 5 u') dr od py ++ rest) → K (some v) (xS r2 r4 r5 hi s' m' f u')) → F (sR 0 :: as) (xS r2 r4 r5 hi s m f (us 5)) K) : cE (some 3) F (sR 0 :: as) (XW s m k hi us dr od py ++ rest) kk := by
  refine ⟨[0, 1, 2, 3, 4, 5, 6, 7, 8, 9, 10, 11, 12, 13, 14, 22, 33, 34], by decide, ?_⟩
  have hh := h (sR 33) (sR 57) (sR 60) (fun i => (fD 8 i).map (rn [0, 1, 2, 3, 4, 5, 6, 7, 8, 9, 10, 11, 12, 13, 14, 22, 33, 34])) (fun r wc => ck (Nat.beq 18 wc.length) (kk (r.map (unrv [0, 1, 2, 3, 4, 5, 6, 7, 8, 9, 10, 11, 12, 13, 14, 22, 33, 34])) (putw [0, 1, 2, 3, 4, 5, 6, 7, 8, 9, 10, 11, 12, 13, 14, 22, 33, 34] [0, 1, 2, 3, 4, 5, 6, 7, 8, 9, 10, 11, 12, 13, 14, 22, 33, 34] (XW s m k hi us dr od py ++ rest) wc))) rfl (fun v s' m' u' hv hk => by
    show kk (some (unrv _ v)) _
    rw [hv.1, putw_rl (n := 43) (by decide) rfl rfl]
    rw [XW, ← fD_un [0, 1, 2, 3, 4, 5, 6, 7, 8, 9, 10, 11, 12, 13, 14, 22, 33, 34]] at hk
    exact hk)
  rw [← ha.1 [0, 1, 2, 3, 4, 5, 6, 7, 8, 9, 10, 11, 12, 13, 14, 22, 33, 34]] at hh
  exact hh
set_option maxRecDepth 20000 in
theorem eS6 (ha : La as) (h : ∀ (r2 r4 r5 : sv) (f : Nat → Option Nat) (K : Option sv → List sc → Prop), f 6 = some 16 → (∀ v s' m' u', Lv v → kk (some v) (XW s' m' k hi (upU us 6 u') dr od py ++ rest) → K (some v) (xS r2 r4 r5 hi s' m' f u')) → F (sR 0 :: as) (xS r2 r4 r5 hi s m f (us 6)) K) : cE (some 3) F (sR 0 :: as) (XW s m k hi us dr od py ++ rest) kk := by
  refine ⟨[0, 1, 2, 3, 4, 5, 6, 7, 8, 9, 10, 11, 12, 13, 14, 22, 35, 36], by decide, ?_⟩
  have hh := h (sR 33) (sR 57) (sR 60) (fun i => (fD 8 i).map (rn [0, 1, 2, 3, 4, 5, 6, 7, 8, 9, 10, 11, 12, 13, 14, 22, 35, 36])) (fun r wc => ck (Nat.beq 18 wc.length) (kk (r.map (unrv [0, 1, 2, 3, 4, 5, 6, 7, 8, 9, 10, 11, 12, 13, 14, 22, 35, 36])) (putw [0, 1, 2, 3, 4, 5, 6, 7, 8, 9, 10, 11, 12, 13, 14, 22, 35, 36] [0, 1, 2, 3, 4, 5, 6, 7, 8, 9, 10, 11, 12, 13, 14, 22, 35, 36] (XW s m k hi us dr od py ++ rest) wc))) rfl (fun v s' m' u' hv hk => by
    show kk (some (unrv _ v)) _
    rw [hv.1, putw_rl (n := 43) (by decide) rfl rfl]
    rw [XW, ← fD_un [0, 1, 2, 3, 4, 5, 6, 7, 8, 9, 10, 11, 12, 13, 14, 22, 35, 36]] at hk
    exact hk)
  rw [← ha.1 [0, 1, 2, 3, 4, 5, 6, 7, 8, 9, 10, 11, 12, 13, 14, 22, 35, 36]] at hh
  exact hh
set_option maxRecDepth 20000 in
theorem eS7 (ha : La as) (h : ∀ (r2 r4 r5 : sv) (f : Nat → Option Nat) (K : Option sv → List sc → Prop), f 7 = some 16 → (∀ v s' m' u', Lv v → kk (some v) (XW s' m' k hi (upU us 7 u') dr od py ++ rest) → K (some v) (xS r2 r4 r5 hi s' m' f u')) → F (sR 0 :: as) (xS r2 r4 r5 hi s m f (us 7)) K) : cE (some 3) F (sR 0 :: as) (XW s m k hi us dr od py ++ rest) kk := by
  refine ⟨[0, 1, 2, 3, 4, 5, 6, 7, 8, 9, 10, 11, 12, 13, 14, 22, 37, 38], by decide, ?_⟩
  have hh := h (sR 33) (sR 57) (sR 60) (fun i => (fD 8 i).map (rn [0, 1, 2, 3, 4, 5, 6, 7, 8, 9, 10, 11, 12, 13, 14, 22, 37, 38])) (fun r wc => ck (Nat.beq 18 wc.length) (kk (r.map (unrv [0, 1, 2, 3, 4, 5, 6, 7, 8, 9, 10, 11, 12, 13, 14, 22, 37, 38])) (putw [0, 1, 2, 3, 4, 5, 6, 7, 8, 9, 10, 11, 12, 13, 14, 22, 37, 38] [0, 1, 2, 3, 4, 5, 6, 7, 8, 9, 10, 11, 12, 13, 14, 22, 37, 38] (XW s m k hi us dr od py ++ rest) wc))) rfl (fun v s' m' u' hv hk => by
    show kk (some (unrv _ v)) _
    rw [hv.1, putw_rl (n := 43) (by decide) rfl rfl]
    rw [XW, ← fD_un [0, 1, 2, 3, 4, 5, 6, 7, 8, 9, 10, 11, 12, 13, 14, 22, 37, 38]] at hk
    exact hk)
  rw [← ha.1 [0, 1, 2, 3, 4, 5, 6, 7, 8, 9, 10, 11, 12, 13, 14, 22, 37, 38]] at hh
  exact hh
theorem eS (d : Nat) (hd : d < 8) (ha : La as) (h : ∀ (r2 r4 r5 : sv) (f : Nat → Option Nat) (K : Option sv → List sc → Prop), f d = some 16 → (∀ v s' m' u', Lv v → kk (some v) (XW s' m' k hi (upU us d u') dr od py ++ rest) → K (some v) (xS r2 r4 r5 hi s' m' f u')) → F (sR 0 :: as) (xS r2 r4 r5 hi s m f (us d)) K) : cE (some 3) F (sR 0 :: as) (XW s m k hi us dr od py ++ rest) kk := by
  match d, hd, h with
  | 0, _, h => exact eS0 ha h
  | 1, _, h => exact eS1 ha h
  | 2, _, h => exact eS2 ha h
  | 3, _, h => exact eS3 ha h
  | 4, _, h => exact eS4 ha h
  | 5, _, h => exact eS5 ha h
  | 6, _, h => exact eS6 ha h
  | 7, _, h => exact eS7 ha h
theorem upU_id (us : Nat → ShS) (d : Nat) : upU us d (us d) = us := by
  funext i
  unfold upU
  by_cases e : i = d
  · rw [if_pos e, e]
  · rw [if_neg e]
theorem shN (d : Int32) : ∃ n, n < 8 ∧ (0 ≤ d ∧ d ≤ 7 → n = ix d) := by
  by_cases h : 0 ≤ d ∧ d ≤ 7
  · obtain ⟨d', hd', ed⟩ := sh_n h
    exact ⟨d', hd', fun _ => by rw [ed]; exact (nI_clamp (by omega)).symm⟩
  · exact ⟨0, by decide, fun z => absurd z h⟩
theorem eSd {d : Int32} (ha : La as) (h : ∀ n, n < 8 → (0 ≤ d ∧ d ≤ 7 → n = ix d) → ∀ (r2 r4 r5 : sv) (f : Nat → Option Nat) (K : Option sv → List sc → Prop), (0 ≤ d ∧ d ≤ 7 → f (ix d) = some 16) → (∀ v s' m', Lv v → kk (some v) (XW s' m' k hi us dr od py ++ rest) → K (some v) (xS r2 r4 r5 hi s' m' f (us n))) → (∀ v s' m' u', Lv v → kk (some v) (XW s' m' k hi (upU us n u') dr od py ++ rest) → K (some v) (xS r2 r4 r5 hi s' m' f u')) → F (sR 0 :: sI d :: as) (xS r2 r4 r5 hi s m f (us n)) K) : cE (some 3) F (sR 0 :: sI d :: as) (XW s m k hi us dr od py ++ rest) kk := by
  obtain ⟨n, h8, hn⟩ := shN d
  refine eS n h8 ⟨fun is => by show _ :: _ = _; rw [ha.1]; rfl, fun x => by show _ :: _ = _; rw [ha.2]; rfl⟩ (fun r2 r4 r5 f K hf hK => h n h8 hn r2 r4 r5 f K (fun z => by rw [← hn z]; exact hf) (fun v s' m' hv hk => hK v s' m' (us n) hv (by rw [upU_id]; exact hk)) hK)
end EL
set_option maxRecDepth 20000 in
theorem eM {F : Fn} {as : List sv} {s m k : InnS} {hi : Int32} {us : Nat → ShS} {dr od py : PA} {r : InnS} {q : Pm} {t : Tm} {ou : Nat → Int64} {kk : Option sv → List sc → Prop} (ha : La as) (h : ∀ K : Option sv → List sc → Prop, (∀ v r' q' t', Lv v → kk (some v) (LWd s m k hi us dr od py r' q' t' ou) → K (some v) (modW r' q' t')) → F (sR 0 :: as) (modW r q t) K) : cSE (some 4) F (sR 43 :: as) (LWd s m k hi us dr od py r q t ou) kk := by
  refine ⟨43, XW s m k hi us dr od py, modW r q t, [aL 1 ou], sR 0 :: as, rfl, rfl, ?_, trivial, h _ (fun v r' q' t' hv hk => ⟨rfl, ?_⟩)⟩
  · show _ = _ :: _
    rw [ha.2]
    rfl
  · show kk (some (shv 43 v)) _
    rw [hv.2]
    exact hk
