/-! ===== the law's copies ===== -/
section EL
variable {F : Fn} {as : List sv} {s m k : InnS} {hi : Int32} {us : Nat → ShS} {dr od py : PA} {rest : List sc} {kk : Option sv → List sc → Prop}
set_option maxRecDepth 20000 in
theorem eT01 (ha : La as) (h : ∀ (r2 r4 r5 : sv) (f : Nat → Option Nat) (K : Option sv → List sc → Prop), f 0 = some 16 → f 1 = some 18 → (∀ v u', Lv v → kk (some v) (XW s m k hi (upU us 1 u') dr od py ++ rest) → K (some v) (xS2 r2 r4 r5 hi s m f (us 0) u')) → F (sR 0 :: as) (xS2 r2 r4 r5 hi s m f (us 0) (us 1)) K) : cE (some 3) F (sR 0 :: as) (XW s m k hi us dr od py ++ rest) kk := by
  refine ⟨[0, 1, 2, 3, 4, 5, 6, 7, 8, 9, 10, 11, 12, 13, 14, 22, 23, 24, 25, 26], by decide, ?_⟩
  have hh := h (sR 35) (sR 59) (sR 62) (fun i => (fD 8 i).map (rn [0, 1, 2, 3, 4, 5, 6, 7, 8, 9, 10, 11, 12, 13, 14, 22, 23, 24, 25, 26])) (fun r wc => ck (Nat.beq 20 wc.length) (kk (r.map (unrv [0, 1, 2, 3, 4, 5, 6, 7, 8, 9, 10, 11, 12, 13, 14, 22, 23, 24, 25, 26])) (putw [0, 1, 2, 3, 4, 5, 6, 7, 8, 9, 10, 11, 12, 13, 14, 22, 23, 24, 25, 26] [0, 1, 2, 3, 4, 5, 6, 7, 8, 9, 10, 11, 12, 13, 14, 22, 23, 24, 25, 26] (XW s m k hi us dr od py ++ rest) wc))) rfl rfl (fun v u' hv hk => by
    show kk (some (unrv _ v)) _
    rw [hv.1, putw_rl (n := 43) (by decide) rfl rfl]
    rw [XW, ← fD_un [0, 1, 2, 3, 4, 5, 6, 7, 8, 9, 10, 11, 12, 13, 14, 22, 23, 24, 25, 26]] at hk
    exact hk)
  rw [← ha.1 [0, 1, 2, 3, 4, 5, 6, 7, 8, 9, 10, 11, 12, 13, 14, 22, 23, 24, 25, 26]] at hh
  exact hh
set_option maxRecDepth 20000 in
theorem eT02 (ha : La as) (h : ∀ (r2 r4 r5 : sv) (f : Nat → Option Nat) (K : Option sv → List sc → Prop), f 0 = some 16 → f 2 = some 18 → (∀ v u', Lv v → kk (some v) (XW s m k hi (upU us 2 u') dr od py ++ rest) → K (some v) (xS2 r2 r4 r5 hi s m f (us 0) u')) → F (sR 0 :: as) (xS2 r2 r4 r5 hi s m f (us 0) (us 2)) K) : cE (some 3) F (sR 0 :: as) (XW s m k hi us dr od py ++ rest) kk := by
  refine ⟨[0, 1, 2, 3, 4, 5, 6, 7, 8, 9, 10, 11, 12, 13, 14, 22, 23, 24, 27, 28], by decide, ?_⟩
  have hh := h (sR 35) (sR 59) (sR 62) (fun i => (fD 8 i).map (rn [0, 1, 2, 3, 4, 5, 6, 7, 8, 9, 10, 11, 12, 13, 14, 22, 23, 24, 27, 28])) (fun r wc => ck (Nat.beq 20 wc.length) (kk (r.map (unrv [0, 1, 2, 3, 4, 5, 6, 7, 8, 9, 10, 11, 12, 13, 14, 22, 23, 24, 27, 28])) (putw [0, 1, 2, 3, 4, 5, 6, 7, 8, 9, 10, 11, 12, 13, 14, 22, 23, 24, 27, 28] [0, 1, 2, 3, 4, 5, 6, 7, 8, 9, 10, 11, 12, 13, 14, 22, 23, 24, 27, 28] (XW s m k hi us dr od py ++ rest) wc))) rfl rfl (fun v u' hv hk => by
    show kk (some (unrv _ v)) _
    rw [hv.1, putw_rl (n := 43) (by decide) rfl rfl]
    rw [XW, ← fD_un [0, 1, 2, 3, 4, 5, 6, 7, 8, 9, 10, 11, 12, 13, 14, 22, 23, 24, 27, 28]] at hk
    exact hk)
  rw [← ha.1 [0, 1, 2, 3, 4, 5, 6, 7, 8, 9, 10, 11, 12, 13, 14, 22, 23, 24, 27, 28]] at hh
  exact hh
set_option maxRecDepth 20000 in
theorem eT03 (ha : La as) (h : ∀ (r2 r4 r5 : sv) (f : Nat → Option Nat) (K : Option sv → List sc → Prop), f 0 = some 16 → f 3 = some 18 → (∀ v u', Lv v → kk (some v) (XW s m k hi (upU us 3 u') dr od py ++ rest) → K (some v) (xS2 r2 r4 r5 hi s m f (us 0) u')) → F (sR 0 :: as) (xS2 r2 r4 r5 hi s m f (us 0) (us 3)) K) : cE (some 3) F (sR 0 :: as) (XW s m k hi us dr od py ++ rest) kk := by
  refine ⟨[0, 1, 2, 3, 4, 5, 6, 7, 8, 9, 10, 11, 12, 13, 14, 22, 23, 24, 29, 30], by decide, ?_⟩
  have hh := h (sR 35) (sR 59) (sR 62) (fun i => (fD 8 i).map (rn [0, 1, 2, 3, 4, 5, 6, 7, 8, 9, 10, 11, 12, 13, 14, 22, 23, 24, 29, 30])) (fun r wc => ck (Nat.beq 20 wc.length) (kk (r.map (unrv [0, 1, 2, 3, 4, 5, 6, 7, 8, 9, 10, 11, 12, 13, 14, 22, 23, 24, 29, 30])) (putw [0, 1, 2, 3, 4, 5, 6, 7, 8, 9, 10, 11, 12, 13, 14, 22, 23, 24, 29, 30] [0, 1, 2, 3, 4, 5, 6, 7, 8, 9, 10, 11, 12, 13, 14, 22, 23, 24, 29, 30] (XW s m k hi us dr od py ++ rest) wc))) rfl rfl (fun v u' hv hk => by
    show kk (some (unrv _ v)) _
    rw [hv.1, putw_rl (n := 43) (by decide) rfl rfl]
    rw [XW, ← fD_un [0, 1, 2, 3, 4, 5, 6, 7, 8, 9, 10, 11, 12, 13, 14, 22, 23, 24, 29, 30]] at hk
    exact hk)
  rw [← ha.1 [0, 1, 2, 3, 4, 5, 6, 7, 8, 9, 10, 11, 12, 13, 14, 22, 23, 24, 29, 30]] at hh
  exact hh
set_option maxRecDepth 20000 in
theorem eT04 (ha : La as) (h : ∀ (r2 r4 r5 : sv) (f : Nat → Option Nat) (K : Option sv → List sc → Prop), f 0 = some 16 → f 4 = some 18 → (∀ v u', Lv v → kk (some v) (XW s m k hi (upU us 4 u') dr od py ++ rest) → K (some v) (xS2 r2 r4 r5 hi s m f (us 0) u')) → F (sR 0 :: as) (xS2 r2 r4 r5 hi s m f (us 0) (us 4)) K) : cE (some 3) F (sR 0 :: as) (XW s m k hi us dr od py ++ rest) kk := by
  refine ⟨[0, 1, 2, 3, 4, 5, 6, 7, 8, 9, 10, 11, 12, 13, 14, 22, 23, 24, 31, 32], by decide, ?_⟩
  have hh := h (sR 35) (sR 59) (sR 62) (fun i => (fD 8 i).map (rn [0, 1, 2, 3, 4, 5, 6, 7, 8, 9, 10, 11, 12, 13, 14, 22, 23, 24, 31, 32])) (fun r wc => ck (Nat.beq 20 wc.length) (kk (r.map (unrv [0, 1, 2, 3, 4, 5, 6, 7, 8, 9, 10, 11, 12, 13, 14, 22, 23, 24, 31, 32])) (putw [0, 1, 2, 3, 4, 5, 6, 7, 8, 9, 10, 11, 12, 13, 14, 22, 23, 24, 31, 32] [0, 1, 2, 3, 4, 5, 6, 7, 8, 9, 10, 11, 12, 13, 14, 22, 23, 24, 31, 32] (XW s m k hi us dr od py ++ rest) wc))) rfl rfl (fun v u' hv hk => by
    show kk (some (unrv _ v)) _
    rw [hv.1, putw_rl (n := 43) (by decide) rfl rfl]
    rw [XW, ← fD_un [0, 1, 2, 3, 4, 5, 6, 7, 8, 9, 10, 11, 12, 13, 14, 22, 23, 24, 31, 32]] at hk
    exact hk)
  rw [← ha.1 [0, 1, 2, 3, 4, 5, 6, 7, 8, 9, 10, 11, 12, 13, 14, 22, 23, 24, 31, 32]] at hh
  exact hh
set_option maxRecDepth 20000 in
theorem eT05 (ha : La as) (h : ∀ (r2 r4 r5 : sv) (f : Nat → Option Nat) (K : Option sv → List sc → Prop), f 0 = some 16 → f 5 = some 18 → (∀ v u', Lv v → kk (some v) (XW s m k hi (upU us 5 u') dr od py ++ rest) → K (some v) (xS2 r2 r4 r5 hi s m f (us 0) u')) → F (sR 0 :: as) (xS2 r2 r4 r5 hi s m f (us 0) (us 5)) K) : cE (some 3) F (sR 0 :: as) (XW s m k hi us dr od py ++ rest) kk := by
  refine ⟨[0, 1, 2, 3, 4, 5, 6, 7, 8, 9, 10, 11, 12, 13, 14, 22, 23, 24, 33, 34], by decide, ?_⟩
  have hh := h (sR 35) (sR 59) (sR 62) (fun i => (fD 8 i).map (rn [0, 1, 2, 3, 4, 5, 6, 7, 8, 9, 10, 11, 12, 13, 14, 22, 23, 24, 33, 34])) (fun r wc => ck (Nat.beq 20 wc.length) (kk (r.map (unrv [0, 1, 2, 3, 4, 5, 6, 7, 8, 9, 10, 11, 12, 13, 14, 22, 23, 24, 33, 34])) (putw [0, 1, 2, 3, 4, 5, 6, 7, 8, 9, 10, 11, 12, 13, 14, 22, 23, 24, 33, 34] [0, 1, 2, 3, 4, 5, 6, 7, 8, 9, 10, 11, 12, 13, 14, 22, 23, 24, 33, 34] (XW s m k hi us dr od py ++ rest) wc))) rfl rfl (fun v u' hv hk => by
    show kk (some (unrv _ v)) _
    rw [hv.1, putw_rl (n := 43) (by decide) rfl rfl]
    rw [XW, ← fD_un [0, 1, 2, 3, 4, 5, 6, 7, 8, 9, 10, 11, 12, 13, 14, 22, 23, 24, 33, 34]] at hk
    exact hk)
  rw [← ha.1 [0, 1, 2, 3, 4, 5, 6, 7, 8, 9, 10, 11, 12, 13, 14, 22, 23, 24, 33, 34]] at hh
  exact hh
set_option maxRecDepth 20000 in
theorem eT06 (ha : La as) (h : ∀ (r2 r4 r5 : sv) (f : Nat → Option Nat) (K : Option sv → List sc → Prop), f 0 = some 16 → f 6 = some 18 → (∀ v u', Lv v → kk (some v) (XW s m k hi (upU us 6 u') dr od py ++ rest) → K (some v) (xS2 r2 r4 r5 hi s m f (us 0) u')) → F (sR 0 :: as) (xS2 r2 r4 r5 hi s m f (us 0) (us 6)) K) : cE (some 3) F (sR 0 :: as) (XW s m k hi us dr od py ++ rest) kk := by
  refine ⟨[0, 1, 2, 3, 4, 5, 6, 7, 8, 9, 10, 11, 12, 13, 14, 22, 23, 24, 35, 36], by decide, ?_⟩
  have hh := h (sR 35) (sR 59) (sR 62) (fun i => (fD 8 i).map (rn [0, 1, 2, 3, 4, 5, 6, 7, 8, 9, 10, 11, 12, 13, 14, 22, 23, 24, 35, 36])) (fun r wc => ck (Nat.beq 20 wc.length) (kk (r.map (unrv [0, 1, 2, 3, 4, 5, 6, 7, 8, 9, 10, 11, 12, 13, 14, 22, 23, 24, 35, 36])) (putw [0, 1, 2, 3, 4, 5, 6, 7, 8, 9, 10, 11, 12, 13, 14, 22, 23, 24, 35, 36] [0, 1, 2, 3, 4, 5, 6, 7, 8, 9, 10, 11, 12, 13, 14, 22, 23, 24, 35, 36] (XW s m k hi us dr od py ++ rest) wc))) rfl rfl (fun v u' hv hk => by
    show kk (some (unrv _ v)) _
    rw [hv.1, putw_rl (n := 43) (by decide) rfl rfl]
    rw [XW, ← fD_un [0, 1, 2, 3, 4, 5, 6, 7, 8, 9, 10, 11, 12, 13, 14, 22, 23, 24, 35, 36]] at hk
    exact hk)
  rw [← ha.1 [0, 1, 2, 3, 4, 5, 6, 7, 8, 9, 10, 11, 12, 13, 14, 22, 23, 24, 35, 36]] at hh
  exact hh
set_option maxRecDepth 20000 in
theorem eT07 (ha : La as) (h : ∀ (r2 r4 r5 : sv) (f : Nat → Option Nat) (K : Option sv → List sc → Prop), f 0 = some 16 → f 7 = some 18 → (∀ v u', Lv v → kk (some v) (XW s m k hi (upU us 7 u') dr od py ++ rest) → K (some v) (xS2 r2 r4 r5 hi s m f (us 0) u')) → F (sR 0 :: as) (xS2 r2 r4 r5 hi s m f (us 0) (us 7)) K) : cE (some 3) F (sR 0 :: as) (XW s m k hi us dr od py ++ rest) kk := by
  refine ⟨[0, 1, 2, 3, 4, 5, 6, 7, 8, 9, 10, 11, 12, 13, 14, 22, 23, 24, 37, 38], by decide, ?_⟩
  have hh := h (sR 35) (sR 59) (sR 62) (fun i => (fD 8 i).map (rn [0, 1, 2, 3, 4, 5, 6, 7, 8, 9, 10, 11, 12, 13, 14, 22, 23, 24, 37, 38])) (fun r wc => ck (Nat.beq 20 wc.length) (kk (r.map (unrv [0, 1, 2, 3, 4, 5, 6, 7, 8, 9, 10, 11, 12, 13, 14, 22, 23, 24, 37, 38])) (putw [0, 1, 2, 3, 4, 5, 6, 7, 8, 9, 10, 11, 12, 13, 14, 22, 23, 24, 37, 38] [0, 1, 2, 3, 4, 5, 6, 7, 8, 9, 10, 11, 12, 13, 14, 22, 23, 24, 37, 38] (XW s m k hi us dr od py ++ rest) wc))) rfl rfl (fun v u' hv hk => by
    show kk (some (unrv _ v)) _
    rw [hv.1, putw_rl (n := 43) (by decide) rfl rfl]
    rw [XW, ← fD_un [0, 1, 2, 3, 4, 5, 6, 7, 8, 9, 10, 11, 12, 13, 14, 22, 23, 24, 37, 38]] at hk
    exact hk)
  rw [← ha.1 [0, 1, 2, 3, 4, 5, 6, 7, 8, 9, 10, 11, 12, 13, 14, 22, 23, 24, 37, 38]] at hh
  exact hh
set_option maxRecDepth 20000 in
theorem eT10 (ha : La as) (h : ∀ (r2 r4 r5 : sv) (f : Nat → Option Nat) (K : Option sv → List sc → Prop), f 1 = some 16 → f 0 = some 18 → (∀ v u', Lv v → kk (some v) (XW s m k hi (upU us 0 u') dr od py ++ rest) → K (some v) (xS2 r2 r4 r5 hi s m f (us 1) u')) → F (sR 0 :: as) (xS2 r2 r4 r5 hi s m f (us 1) (us 0)) K) : cE (some 3) F (sR 0 :: as) (XW s m k hi us dr od py ++ rest) kk := by
  refine ⟨[0, 1, 2, 3, 4, 5, 6, 7, 8, 9, 10, 11, 12, 13, 14, 22, 25, 26, 23, 24], by decide, ?_⟩
  have hh := h (sR 35) (sR 59) (sR 62) (fun i => (fD 8 i).map (rn [0, 1, 2, 3, 4, 5, 6, 7, 8, 9, 10, 11, 12, 13, 14, 22, 25, 26, 23, 24])) (fun r wc => ck (Nat.beq 20 wc.length) (kk (r.map (unrv [0, 1, 2, 3, 4, 5, 6, 7, 8, 9, 10, 11, 12, 13, 14, 22, 25, 26, 23, 24])) (putw [0, 1, 2, 3, 4, 5, 6, 7, 8, 9, 10, 11, 12, 13, 14, 22, 25, 26, 23, 24] [0, 1, 2, 3, 4, 5, 6, 7, 8, 9, 10, 11, 12, 13, 14, 22, 25, 26, 23, 24] (XW s m k hi us dr od py ++ rest) wc))) rfl rfl (fun v u' hv hk => by
    show kk (some (unrv _ v)) _
    rw [hv.1, putw_rl (n := 43) (by decide) rfl rfl]
    rw [XW, ← fD_un [0, 1, 2, 3, 4, 5, 6, 7, 8, 9, 10, 11, 12, 13, 14, 22, 25, 26, 23, 24]] at hk
    exact hk)
  rw [← ha.1 [0, 1, 2, 3, 4, 5, 6, 7, 8, 9, 10, 11, 12, 13, 14, 22, 25, 26, 23, 24]] at hh
  exact hh
set_option maxRecDepth 20000 in
theorem eT12 (ha : La as) (h : ∀ (r2 r4 r5 : sv) (f : Nat → Option Nat) (K : Option sv → List sc → Prop), f 1 = some 16 → f 2 = some 18 → (∀ v u', Lv v → kk (some v) (XW s m k hi (upU us 2 u') dr od py ++ rest) → K (some v) (xS2 r2 r4 r5 hi s m f (us 1) u')) → F (sR 0 :: as) (xS2 r2 r4 r5 hi s m f (us 1) (us 2)) K) : cE (some 3) F (sR 0 :: as) (XW s m k hi us dr od py ++ rest) kk := by
  refine ⟨[0, 1, 2, 3, 4, 5, 6, 7, 8, 9, 10, 11, 12, 13, 14, 22, 25, 26, 27, 28], by decide, ?_⟩
  have hh := h (sR 35) (sR 59) (sR 62) (fun i => (fD 8 i).map (rn [0, 1, 2, 3, 4, 5, 6, 7, 8, 9, 10, 11, 12, 13, 14, 22, 25, 26, 27, 28])) (fun r wc => ck (Nat.beq 20 wc.length) (kk (r.map (unrv [0, 1, 2, 3, 4, 5, 6, 7, 8, 9, 10, 11, 12, 13, 14, 22, 25, 26, 27, 28])) (putw [0, 1, 2, 3, 4, 5, 6, 7, 8, 9, 10, 11, 12, 13, 14, 22, 25, 26, 27, 28] [0, 1, 2, 3, 4, 5, 6, 7, 8, 9, 10, 11, 12, 13, 14, 22, 25, 26, 27, 28] (XW s m k hi us dr od py ++ rest) wc))) rfl rfl (fun v u' hv hk => by
    show kk (some (unrv _ v)) _
    rw [hv.1, putw_rl (n := 43) (by decide) rfl rfl]
    rw [XW, ← fD_un [0, 1, 2, 3, 4, 5, 6, 7, 8, 9, 10, 11, 12, 13, 14, 22, 25, 26, 27, 28]] at hk
    exact hk)
  rw [← ha.1 [0, 1, 2, 3, 4, 5, 6, 7, 8, 9, 10, 11, 12, 13, 14, 22, 25, 26, 27, 28]] at hh
  exact hh
set_option maxRecDepth 20000 in
theorem eT13 (ha : La as) (h : ∀ (r2 r4 r5 : sv) (f : Nat → Option Nat) (K : Option sv → List sc → Prop), f 1 = some 16 → f 3 = some 18 → (∀ v u', Lv v → kk (some v) (XW s m k hi (upU us 3 u') dr od py ++ rest) → K (some v) (xS2 r2 r4 r5 hi s m f (us 1) u')) → F (sR 0 :: as) (xS2 r2 r4 r5 hi s m f (us 1) (us 3)) K) : cE (some 3) F (sR 0 :: as) (XW s m k hi us dr od py ++ rest) kk := by
  refine ⟨[0, 1, 2, 3, 4, 5, 6, 7, 8, 9, 10, 11, 12, 13, 14, 22, 25, 26, 29, 30], by decide, ?_⟩
  have hh := h (sR 35) (sR 59) (sR 62) (fun i => (fD 8 i).map (rn [0, 1, 2, 3, 4, 5, 6, 7, 8, 9, 10, 11, 12, 13, 14, 22, 25, 26, 29, 30])) (fun r wc => ck (Nat.beq 20 wc.length) (kk (r.map (unrv [0, 1, 2, 3, 4, 5, 6, 7, 8, 9, 10, 11, 12, 13, 14, 22, 25, 26, 29, 30])) (putw [0, 1, 2, 3, 4, 5, 6, 7, 8, 9, 10, 11, 12, 13, 14, 22, 25, 26, 29, 30] [0, 1, 2, 3, 4, 5, 6, 7, 8, 9, 10, 11, 12, 13, 14, 22, 25, 26, 29, 30] (XW s m k hi us dr od py ++ rest) wc))) rfl rfl (fun v u' hv hk => by
    show kk (some (unrv _ v)) _
    rw [hv.1, putw_rl (n := 43) (by decide) rfl rfl]
    rw [XW, ← fD_un [0, 1, 2, 3, 4, 5, 6, 7, 8, 9, 10, 11, 12, 13, 14, 22, 25, 26, 29, 30]] at hk
    exact hk)
  rw [← ha.1 [0, 1, 2, 3, 4, 5, 6, 7, 8, 9, 10, 11, 12, 13, 14, 22, 25, 26, 29, 30]] at hh
  exact hh
set_option maxRecDepth 20000 in
theorem eT14 (ha : La as) (h : ∀ (r2 r4 r5 : sv) (f : Nat → Option Nat) (K : Option sv → List sc → Prop), f 1 = some 16 → f 4 = some 18 → (∀ v u', Lv v → kk (some v) (XW s m k hi (upU us 4 u') dr od py ++ rest) → K (some v) (xS2 r2 r4 r5 hi s m f (us 1) u')) → F (sR 0 :: as) (xS2 r2 r4 r5 hi s m f (us 1) (us 4)) K) : cE (some 3) F (sR 0 :: as) (XW s m k hi us dr od py ++ rest) kk := by
  refine ⟨[0, 1, 2, 3, 4, 5, 6, 7, 8, 9, 10, 11, 12, 13, 14, 22, 25, 26, 31, 32], by decide, ?_⟩
  have hh := h (sR 35) (sR 59) (sR 62) (fun i => (fD 8 i).map (rn [0, 1, 2, 3, 4, 5, 6, 7, 8, 9, 10, 11, 12, 13, 14, 22, 25, 26, 31, 32])) (fun r wc => ck (Nat.beq 20 wc.length) (kk (r.map (unrv [0, 1, 2, 3, 4, 5, 6, 7, 8, 9, 10, 11, 12, 13, 14, 22, 25, 26, 31, 32])) (putw [0, 1, 2, 3, 4, 5, 6, 7, 8, 9, 10, 11, 12, 13, 14, 22, 25, 26, 31, 32] [0, 1, 2, 3, 4, 5, 6, 7, 8, 9, 10, 11, 12, 13, 14, 22, 25, 26, 31, 32] (XW s m k hi us dr od py ++ rest) wc))) rfl rfl (fun v u' hv hk => by
    show kk (some (unrv _ v)) _
    rw [hv.1, putw_rl (n := 43) (by decide) rfl rfl]
    rw [XW, ← fD_un [0, 1, 2, 3, 4, 5, 6, 7, 8, 9, 10, 11, 12, 13, 14, 22, 25, 26, 31, 32]] at hk
    exact hk)
  rw [← ha.1 [0, 1, 2, 3, 4, 5, 6, 7, 8, 9, 10, 11, 12, 13, 14, 22, 25, 26, 31, 32]] at hh
  exact hh
set_option maxRecDepth 20000 in
theorem eT15 (ha : La as) (h : ∀ (r2 r4 r5 : sv) (f : Nat → Option Nat) (K : Option sv → List sc → Prop), f 1 = some 16 → f 5 = some 18 → (∀ v u', Lv v → kk (some v) (XW s m k hi (upU us 5 u') dr od py ++ rest) → K (some v) (xS2 r2 r4 r5 hi s m f (us 1) u')) → F (sR 0 :: as) (xS2 r2 r4 r5 hi s m f (us 1) (us 5)) K) : cE (some 3) F (sR 0 :: as) (XW s m k hi us dr od py ++ rest) kk := by
  refine ⟨[0, 1, 2, 3, 4, 5, 6, 7, 8, 9, 10, 11, 12, 13, 14, 22, 25, 26, 33, 34], by decide, ?_⟩
  have hh := h (sR 35) (sR 59) (sR 62) (fun i => (fD 8 i).map (rn [0, 1, 2, 3, 4, 5, 6, 7, 8, 9, 10, 11, 12, 13, 14, 22, 25, 26, 33, 34])) (fun r wc => ck (Nat.beq 20 wc.length) (kk (r.map (unrv [0, 1, 2, 3, 4, 5, 6, 7, 8, 9, 10, 11, 12, 13, 14, 22, 25, 26, 33, 34])) (putw [0, 1, 2, 3, 4, 5, 6, 7, 8, 9, 10, 11, 12, 13, 14, 22, 25, 26, 33, 34] [0, 1, 2, 3, 4, 5, 6, 7, 8, 9, 10, 11, 12, 13, 14, 22, 25, 26, 33, 34] (XW s m k hi us dr od py ++ rest) wc))) rfl rfl (fun v u' hv hk => by
    show kk (some (unrv _ v)) _
    rw [hv.1, putw_rl (n := 43) (by decide) rfl rfl]
    rw [XW, ← fD_un [0, 1, 2, 3, 4, 5, 6, 7, 8, 9, 10, 11, 12, 13, 14, 22, 25, 26, 33, 34]] at hk
    exact hk)
  rw [← ha.1 [0, 1, 2, 3, 4, 5, 6, 7, 8, 9, 10, 11, 12, 13, 14, 22, 25, 26, 33, 34]] at hh
  exact hh
set_option maxRecDepth 20000 in
theorem eT16 (ha : La as) (h : ∀ (r2 r4 r5 : sv) (f : Nat → Option Nat) (K : Option sv → List sc → Prop), f 1 = some 16 → f 6 = some 18 → (∀ v u', Lv v → kk (some v) (XW s m k hi (upU us 6 u') dr od py ++ rest) → K (some v) (xS2 r2 r4 r5 hi s m f (us 1) u')) → F (sR 0 :: as) (xS2 r2 r4 r5 hi s m f (us 1) (us 6)) K) : cE (some 3) F (sR 0 :: as) (XW s m k hi us dr od py ++ rest) kk := by
  refine ⟨[0, 1, 2, 3, 4, 5, 6, 7, 8, 9, 10, 11, 12, 13, 14, 22, 25, 26, 35, 36], by decide, ?_⟩
  have hh := h (sR 35) (sR 59) (sR 62) (fun i => (fD 8 i).map (rn [0, 1, 2, 3, 4, 5, 6, 7, 8, 9, 10, 11, 12, 13, 14, 22, 25, 26, 35, 36])) (fun r wc => ck (Nat.beq 20 wc.length) (kk (r.map (unrv [0, 1, 2, 3, 4, 5, 6, 7, 8, 9, 10, 11, 12, 13, 14, 22, 25, 26, 35, 36])) (putw [0, 1, 2, 3, 4, 5, 6, 7, 8, 9, 10, 11, 12, 13, 14, 22, 25, 26, 35, 36] [0, 1, 2, 3, 4, 5, 6, 7, 8, 9, 10, 11, 12, 13, 14, 22, 25, 26, 35, 36] (XW s m k hi us dr od py ++ rest) wc))) rfl rfl (fun v u' hv hk => by
    show kk (some (unrv _ v)) _
    rw [hv.1, putw_rl (n := 43) (by decide) rfl rfl]
    rw [XW, ← fD_un [0, 1, 2, 3, 4, 5, 6, 7, 8, 9, 10, 11, 12, 13, 14, 22, 25, 26, 35, 36]] at hk
    exact hk)
  rw [← ha.1 [0, 1, 2, 3, 4, 5, 6, 7, 8, 9, 10, 11, 12, 13, 14, 22, 25, 26, 35, 36]] at hh
  exact hh
set_option maxRecDepth 20000 in
theorem eT17 (ha : La as) (h : ∀ (r2 r4 r5 : sv) (f : Nat → Option Nat) (K : Option sv → List sc → Prop), f 1 = some 16 → f 7 = some 18 → (∀ v u', Lv v → kk (some v) (XW s m k hi (upU us 7 u') dr od py ++ rest) → K (some v) (xS2 r2 r4 r5 hi s m f (us 1) u')) → F (sR 0 :: as) (xS2 r2 r4 r5 hi s m f (us 1) (us 7)) K) : cE (some 3) F (sR 0 :: as) (XW s m k hi us dr od py ++ rest) kk := by
  refine ⟨[0, 1, 2, 3, 4, 5, 6, 7, 8, 9, 10, 11, 12, 13, 14, 22, 25, 26, 37, 38], by decide, ?_⟩
  have hh := h (sR 35) (sR 59) (sR 62) (fun i => (fD 8 i).map (rn [0, 1, 2, 3, 4, 5, 6, 7, 8, 9, 10, 11, 12, 13, 14, 22, 25, 26, 37, 38])) (fun r wc => ck (Nat.beq 20 wc.length) (kk (r.map (unrv [0, 1, 2, 3, 4, 5, 6, 7, 8, 9, 10, 11, 12, 13, 14, 22, 25, 26, 37, 38])) (putw [0, 1, 2, 3, 4, 5, 6, 7, 8, 9, 10, 11, 12, 13, 14, 22, 25, 26, 37, 38] [0, 1, 2, 3, 4, 5, 6, 7, 8, 9, 10, 11, 12, 13, 14, 22, 25, 26, 37, 38] (XW s m k hi us dr od py ++ rest) wc))) rfl rfl (fun v u' hv hk => by
    show kk (some (unrv _ v)) _
    rw [hv.1, putw_rl (n := 43) (by decide) rfl rfl]
    rw [XW, ← fD_un [0, 1, 2, 3, 4, 5, 6, 7, 8, 9, 10, 11, 12, 13, 14, 22, 25, 26, 37, 38]] at hk
    exact hk)
  rw [← ha.1 [0, 1, 2, 3, 4, 5, 6, 7, 8, 9, 10, 11, 12, 13, 14, 22, 25, 26, 37, 38]] at hh
  exact hh
set_option maxRecDepth 20000 in
theorem eT20 (ha : La as) (h : ∀ (r2 r4 r5 : sv) (f : Nat → Option Nat) (K : Option sv → List sc → Prop), f 2 = some 16 → f 0 = some 18 → (∀ v u', Lv v → kk (some v) (XW s m k hi (upU us 0 u') dr od py ++ rest) → K (some v) (xS2 r2 r4 r5 hi s m f (us 2) u')) → F (sR 0 :: as) (xS2 r2 r4 r5 hi s m f (us 2) (us 0)) K) : cE (some 3) F (sR 0 :: as) (XW s m k hi us dr od py ++ rest) kk := by
  refine ⟨[0, 1, 2, 3, 4, 5, 6, 7, 8, 9, 10, 11, 12, 13, 14, 22, 27, 28, 23, 24], by decide, ?_⟩
  have hh := h (sR 35) (sR 59) (sR 62) (fun i => (fD 8 i).map (rn [0, 1, 2, 3, 4, 5, 6, 7, 8, 9, 10, 11, 12, 13, 14, 22, 27, 28, 23, 24])) (fun r wc => ck (Nat.beq 20 wc.length) (kk (r.map (unrv [0, 1, 2, 3, 4, 5, 6, 7, 8, 9, 10, 11, 12, 13, 14, 22, 27, 28, 23, 24])) (putw [0, 1, 2, 3, 4, 5, 6, 7, 8, 9, 10, 11, 12, 13, 14, 22, 27, 28, 23, 24] [0, 1, 2, 3, 4, 5, 6, 7, 8, 9, 10, 11, 12, 13, 14, 22, 27, 28, 23, 24] (XW s m k hi us dr od py ++ rest) wc))) rfl rfl (fun v u' hv hk => by
    show kk (some (unrv _ v)) _
    rw [hv.1, putw_rl (n := 43) (by decide) rfl rfl]
    rw [XW, ← fD_un [0, 1, 2, 3, 4, 5, 6, 7, 8, 9, 10, 11, 12, 13, 14, 22, 27, 28, 23, 24]] at hk
    exact hk)
  rw [← ha.1 [0, 1, 2, 3, 4, 5, 6, 7, 8, 9, 10, 11, 12, 13, 14, 22, 27, 28, 23, 24]] at hh
  exact hh
set_option maxRecDepth 20000 in
theorem eT21 (ha : La as) (h : ∀ (r2 r4 r5 : sv) (f : Nat → Option Nat) (K : Option sv → List sc → Prop), f 2 = some 16 → f 1 = some 18 → (∀ v u', Lv v → kk (some v) (XW s m k hi (upU us 1 u') dr od py ++ rest) → K (some v) (xS2 r2 r4 r5 hi s m f (us 2) u')) → F (sR 0 :: as) (xS2 r2 r4 r5 hi s m f (us 2) (us 1)) K) : cE (some 3) F (sR 0 :: as) (XW s m k hi us dr od py ++ rest) kk := by
  refine ⟨[0, 1, 2, 3, 4, 5, 6, 7, 8, 9, 10, 11, 12, 13, 14, 22, 27, 28, 25, 26], by decide, ?_⟩
  have hh := h (sR 35) (sR 59) (sR 62) (fun i => (fD 8 i).map (rn [0, 1, 2, 3, 4, 5, 6, 7, 8, 9, 10, 11, 12, 13, 14, 22, 27, 28, 25, 26])) (fun r wc => ck (Nat.beq 20 wc.length) (kk (r.map (unrv [0, 1, 2, 3, 4, 5, 6, 7, 8, 9, 10, 11, 12, 13, 14, 22, 27, 28, 25, 26])) (putw [0, 1, 2, 3, 4, 5, 6, 7, 8, 9, 10, 11, 12, 13, 14, 22, 27, 28, 25, 26] [0, 1, 2, 3, 4, 5, 6, 7, 8, 9, 10, 11, 12, 13, 14, 22, 27, 28, 25, 26] (XW s m k hi us dr od py ++ rest) wc))) rfl rfl (fun v u' hv hk => by
    show kk (some (unrv _ v)) _
    rw [hv.1, putw_rl (n := 43) (by decide) rfl rfl]
    rw [XW, ← fD_un [0, 1, 2, 3, 4, 5, 6, 7, 8, 9, 10, 11, 12, 13, 14, 22, 27, 28, 25, 26]] at hk
    exact hk)
  rw [← ha.1 [0, 1, 2, 3, 4, 5, 6, 7, 8, 9, 10, 11, 12, 13, 14, 22, 27, 28, 25, 26]] at hh
  exact hh
set_option maxRecDepth 20000 in
theorem eT23 (ha : La as) (h : ∀ (r2 r4 r5 : sv) (f : Nat → Option Nat) (K : Option sv → List sc → Prop), f 2 = some 16 → f 3 = some 18 → (∀ v u', Lv v → kk (some v) (XW s m k hi (upU us 3 u') dr od py ++ rest) → K (some v) (xS2 r2 r4 r5 hi s m f (us 2) u')) → F (sR 0 :: as) (xS2 r2 r4 r5 hi s m f (us 2) (us 3)) K) : cE (some 3) F (sR 0 :: as) (XW s m k hi us dr od py ++ rest) kk := by
  refine ⟨[0, 1, 2, 3, 4, 5, 6, 7, 8, 9, 10, 11, 12, 13, 14, 22, 27, 28, 29, 30], by decide, ?_⟩
  have hh := h (sR 35) (sR 59) (sR 62) (fun i => (fD 8 i).map (rn [0, 1, 2, 3, 4, 5, 6, 7, 8, 9, 10, 11, 12, 13, 14, 22, 27, 28, 29, 30])) (fun r wc => ck (Nat.beq 20 wc.length) (kk (r.map (unrv [0, 1, 2, 3, 4, 5, 6, 7, 8, 9, 10, 11, 12, 13, 14, 22, 27, 28, 29, 30])) (putw [0, 1, 2, 3, 4, 5, 6, 7, 8, 9, 10, 11, 12, 13, 14, 22, 27, 28, 29, 30] [0, 1, 2, 3, 4, 5, 6, 7, 8, 9, 10, 11, 12, 13, 14, 22, 27, 28, 29, 30] (XW s m k hi us dr od py ++ rest) wc))) rfl rfl (fun v u' hv hk => by
    show kk (some (unrv _ v)) _
    rw [hv.1, putw_rl (n := 43) (by decide) rfl rfl]
    rw [XW, ← fD_un [0, 1, 2, 3, 4, 5, 6, 7, 8, 9, 10, 11, 12, 13, 14, 22, 27, 28, 29, 30]] at hk
    exact hk)
  rw [← ha.1 [0, 1, 2, 3, 4, 5, 6, 7, 8, 9, 10, 11, 12, 13, 14, 22, 27, 28, 29, 30]] at hh
  exact hh
set_option maxRecDepth 20000 in
theorem eT24 (ha : La as) (h : ∀ (r2 r4 r5 : sv) (f : Nat → Option Nat) (K : Option sv → List sc → Prop), f 2 = some 16 → f 4 = some 18 → (∀ v u', Lv v → kk (some v) (XW s m k hi (upU us 4 u') dr od py ++ rest) → K (some v) (xS2 r2 r4 r5 hi s m f (us 2) u')) → F (sR 0 :: as) (xS2 r2 r4 r5 hi s m f (us 2) (us 4)) K) : cE (some 3) F (sR 0 :: as) (XW s m k hi us dr od py ++ rest) kk := by
  refine ⟨[0, 1, 2, 3, 4, 5, 6, 7, 8, 9, 10, 11, 12, 13, 14, 22, 27, 28, 31, 32], by decide, ?_⟩
  have hh := h (sR 35) (sR 59) (sR 62) (fun i => (fD 8 i).map (rn [0, 1, 2, 3, 4, 5, 6, 7, 8, 9, 10, 11, 12, 13, 14, 22, 27, 28, 31, 32])) (fun r wc => ck (Nat.beq 20 wc.length) (kk (r.map (unrv [0, 1, 2, 3, 4, 5, 6, 7, 8, 9, 10, 11, 12, 13, 14, 22, 27, 28, 31, 32])) (putw [0, 1, 2, 3, 4, 5, 6, 7, 8, 9, 10, 11, 12, 13, 14, 22, 27, 28, 31, 32] [0, 1, 2, 3, 4, 5, 6, 7, 8, 9, 10, 11, 12, 13, 14, 22, 27, 28, 31, 32] (XW s m k hi us dr od py ++ rest) wc))) rfl rfl (fun v u' hv hk => by
    show kk (some (unrv _ v)) _
    rw [hv.1, putw_rl (n := 43) (by decide) rfl rfl]
    rw [XW, ← fD_un [0, 1, 2, 3, 4, 5, 6, 7, 8, 9, 10, 11, 12, 13, 14, 22, 27, 28, 31, 32]] at hk
    exact hk)
  rw [← ha.1 [0, 1, 2, 3, 4, 5, 6, 7, 8, 9, 10, 11, 12, 13, 14, 22, 27, 28, 31, 32]] at hh
  exact hh
set_option maxRecDepth 20000 in
theorem eT25 (ha : La as) (h : ∀ (r2 r4 r5 : sv) (f : Nat → Option Nat) (K : Option sv → List sc → Prop), f 2 = some 16 → f 5 = some 18 → (∀ v u', Lv v → kk (some v) (XW s m k hi (upU us 5 u') dr od py ++ rest) → K (some v) (xS2 r2 r4 r5 hi s m f (us 2) u')) → F (sR 0 :: as) (xS2 r2 r4 r5 hi s m f (us 2) (us 5)) K) : cE (some 3) F (sR 0 :: as) (XW s m k hi us dr od py ++ rest) kk := by
  refine ⟨[0, 1, 2, 3, 4, 5, 6, 7, 8, 9, 10, 11, 12, 13, 14, 22, 27, 28, 33, 34], by decide, ?_⟩
  have hh := h (sR 35) (sR 59) (sR 62) (fun i => (fD 8 i).map (rn [0, 1, 2, 3, 4, 5, 6, 7, 8, 9, 10, 11, 12, 13, 14, 22, 27, 28, 33, 34])) (fun r wc => ck (Nat.beq 20 wc.length) (kk (r.map (unrv [0, 1, 2, 3, 4, 5, 6, 7, 8, 9, 10, 11, 12, 13, 14, 22, 27, 28, 33, 34])) (putw [0, 1, 2, 3, 4, 5, 6, 7, 8, 9, 10, 11, 12, 13, 14, 22, 27, 28, 33, 34] [0, 1, 2, 3, 4, 5, 6, 7, 8, 9, 10, 11, 12, 13, 14, 22, 27, 28, 33, 34] (XW s m k hi us dr od py ++ rest) wc))) rfl rfl (fun v u' hv hk => by
    show kk (some (unrv _ v)) _
    rw [hv.1, putw_rl (n := 43) (by decide) rfl rfl]
    rw [XW, ← fD_un [0, 1, 2, 3, 4, 5, 6, 7, 8, 9, 10, 11, 12, 13, 14, 22, 27, 28, 33, 34]] at hk
    exact hk)
  rw [← ha.1 [0, 1, 2, 3, 4, 5, 6, 7, 8, 9, 10, 11, 12, 13, 14, 22, 27, 28, 33, 34]] at hh
  exact hh
set_option maxRecDepth 20000 in
theorem eT26 (ha : La as) (h : ∀ (r2 r4 r5 : sv) (f : Nat → Option Nat) (K : Option sv → List sc → Prop), f 2 = some 16 → f 6 = some 18 → (∀ v u', Lv v → kk (some v) (XW s m k hi (upU us 6 u') dr od py ++ rest) → K (some v) (xS2 r2 r4 r5 hi s m f (us 2) u')) → F (sR 0 :: as) (xS2 r2 r4 r5 hi s m f (us 2) (us 6)) K) : cE (some 3) F (sR 0 :: as) (XW s m k hi us dr od py ++ rest) kk := by
  refine ⟨[0, 1, 2, 3, 4, 5, 6, 7, 8, 9, 10, 11, 12, 13, 14, 22, 27, 28, 35, 36], by decide, ?_⟩
  have hh := h (sR 35) (sR 59) (sR 62) (fun i => (fD 8 i).map (rn [0, 1, 2, 3, 4, 5, 6, 7, 8, 9, 10, 11, 12, 13, 14, 22, 27, 28, 35, 36])) (fun r wc => ck (Nat.beq 20 wc.length) (kk (r.map (unrv [0, 1, 2, 3, 4, 5, 6, 7, 8, 9, 10, 11, 12, 13, 14, 22, 27, 28, 35, 36])) (putw [0, 1, 2, 3, 4, 5, 6, 7, 8, 9, 10, 11, 12, 13, 14, 22, 27, 28, 35, 36] [0, 1, 2, 3, 4, 5, 6, 7, 8, 9, 10, 11, 12, 13, 14, 22, 27, 28, 35, 36] (XW s m k hi us dr od py ++ rest) wc))) rfl rfl (fun v u' hv hk => by
    show kk (some (unrv _ v)) _
    rw [hv.1, putw_rl (n := 43) (by decide) rfl rfl]
    rw [XW, ← fD_un [0, 1, 2, 3, 4, 5, 6, 7, 8, 9, 10, 11, 12, 13, 14, 22, 27, 28, 35, 36]] at hk
    exact hk)
  rw [← ha.1 [0, 1, 2, 3, 4, 5, 6, 7, 8, 9, 10, 11, 12, 13, 14, 22, 27, 28, 35, 36]] at hh
  exact hh
set_option maxRecDepth 20000 in
theorem eT27 (ha : La as) (h : ∀ (r2 r4 r5 : sv) (f : Nat → Option Nat) (K : Option sv → List sc → Prop), f 2 = some 16 → f 7 = some 18 → (∀ v u', Lv v → kk (some v) (XW s m k hi (upU us 7 u') dr od py ++ rest) → K (some v) (xS2 r2 r4 r5 hi s m f (us 2) u')) → F (sR 0 :: as) (xS2 r2 r4 r5 hi s m f (us 2) (us 7)) K) : cE (some 3) F (sR 0 :: as) (XW s m k hi us dr od py ++ rest) kk := by
  refine ⟨[0, 1, 2, 3, 4, 5, 6, 7, 8, 9, 10, 11, 12, 13, 14, 22, 27, 28, 37, 38], by decide, ?_⟩
  have hh := h (sR 35) (sR 59) (sR 62) (fun i => (fD 8 i).map (rn [0, 1, 2, 3, 4, 5, 6, 7, 8, 9, 10, 11, 12, 13, 14, 22, 27, 28, 37, 38])) (fun r wc => ck (Nat.beq 20 wc.length) (kk (r.map (unrv [0, 1, 2, 3, 4, 5, 6, 7, 8, 9, 10, 11, 12, 13, 14, 22, 27, 28, 37, 38])) (putw [0, 1, 2, 3, 4, 5, 6, 7, 8, 9, 10, 11, 12, 13, 14, 22, 27, 28, 37, 38] [0, 1, 2, 3, 4, 5, 6, 7, 8, 9, 10, 11, 12, 13, 14, 22, 27, 28, 37, 38] (XW s m k hi us dr od py ++ rest) wc))) rfl rfl (fun v u' hv hk => by
    show kk (some (unrv _ v)) _
    rw [hv.1, putw_rl (n := 43) (by decide) rfl rfl]
    rw [XW, ← fD_un [0, 1, 2, 3, 4, 5, 6, 7, 8, 9, 10, 11, 12, 13, 14, 22, 27, 28, 37, 38]] at hk
    exact hk)
  rw [← ha.1 [0, 1, 2, 3, 4, 5, 6, 7, 8, 9, 10, 11, 12, 13, 14, 22, 27, 28, 37, 38]] at hh
  exact hh
set_option maxRecDepth 20000 in
theorem eT30 (ha : La as) (h : ∀ (r2 r4 r5 : sv) (f : Nat → Option Nat) (K : Option sv → List sc → Prop), f 3 = some 16 → f 0 = some 18 → (∀ v u', Lv v → kk (some v) (XW s m k hi (upU us 0 u') dr od py ++ rest) → K (some v) (xS2 r2 r4 r5 hi s m f (us 3) u')) → F (sR 0 :: as) (xS2 r2 r4 r5 hi s m f (us 3) (us 0)) K) : cE (some 3) F (sR 0 :: as) (XW s m k hi us dr od py ++ rest) kk := by
  refine ⟨[0, 1, 2, 3, 4, 5, 6, 7, 8, 9, 10, 11, 12, 13, 14, 22, 29, 30, 23, 24], by decide, ?_⟩
  have hh := h (sR 35) (sR 59) (sR 62) (fun i => (fD 8 i).map (rn [0, 1, 2, 3, 4, 5, 6, 7, 8, 9, 10, 11, 12, 13, 14, 22, 29, 30, 23, 24])) (fun r wc => ck (Nat.beq 20 wc.length) (kk (r.map (unrv [0, 1, 2, 3, 4, 5, 6, 7, 8, 9, 10, 11, 12, 13, 14, 22, 29, 30, 23, 24])) (putw [0, 1, 2, 3, 4, 5, 6, 7, 8, 9, 10, 11, 12, 13, 14, 22, 29, 30, 23, 24] [0, 1, 2, 3, 4, 5, 6, 7, 8, 9, 10, 11, 12, 13, 14, 22, 29, 30, 23, 24] (XW s m k hi us dr od py ++ rest) wc))) rfl rfl (fun v u' hv hk => by
    show kk (some (unrv _ v)) _
    rw [hv.1, putw_rl (n := 43) (by decide) rfl rfl]
    rw [XW, ← fD_un [0, 1, 2, 3, 4, 5, 6, 7, 8, 9, 10, 11, 12, 13, 14, 22, 29, 30, 23, 24]] at hk
    exact hk)
  rw [← ha.1 [0, 1, 2, 3, 4, 5, 6, 7, 8, 9, 10, 11, 12, 13, 14, 22, 29, 30, 23, 24]] at hh
  exact hh
set_option maxRecDepth 20000 in
theorem eT31 (ha : La as) (h : ∀ (r2 r4 r5 : sv) (f : Nat → Option Nat) (K : Option sv → List sc → Prop), f 3 = some 16 → f 1 = some 18 → (∀ v u', Lv v → kk (some v) (XW s m k hi (upU us 1 u') dr od py ++ rest) → K (some v) (xS2 r2 r4 r5 hi s m f (us 3) u')) → F (sR 0 :: as) (xS2 r2 r4 r5 hi s m f (us 3) (us 1)) K) : cE (some 3) F (sR 0 :: as) (XW s m k hi us dr od py ++ rest) kk := by
  refine ⟨[0, 1, 2, 3, 4, 5, 6, 7, 8, 9, 10, 11, 12, 13, 14, 22, 29, 30, 25, 26], by decide, ?_⟩
  have hh := h (sR 35) (sR 59) (sR 62) (fun i => (fD 8 i).map (rn [0, 1, 2, 3, 4, 5, 6, 7, 8, 9, 10, 11, 12, 13, 14, 22, 29, 30, 25, 26])) (fun r wc => ck (Nat.beq 20 wc.length) (kk (r.map (unrv [0, 1, 2, 3, 4, 5, 6, 7, 8, 9, 10, 11, 12, 13, 14, 22, 29, 30, 25, 26])) (putw [0, 1, 2, 3, 4, 5, 6, 7, 8, 9, 10, 11, 12, 13, 14, 22, 29, 30, 25, 26] [0, 1, 2, 3, 4, 5, 6, 7, 8, 9, 10, 11, 12, 13, 14, 22, 29, 30, 25, 26] (XW s m k hi us dr od py ++ rest) wc))) rfl rfl (fun v u' hv hk => by
    show kk (some (unrv _ v)) _
    rw [hv.1, putw_rl (n := 43) (by decide) rfl rfl]
    rw [XW, ← fD_un [0, 1, 2, 3, 4, 5, 6, 7, 8, 9, 10, 11, 12, 13, 14, 22, 29, 30, 25, 26]] at hk
    exact hk)
  rw [← ha.1 [0, 1, 2, 3, 4, 5, 6, 7, 8, 9, 10, 11, 12, 13, 14, 22, 29, 30, 25, 26]] at hh
  exact hh
set_option maxRecDepth 20000 in
theorem eT32 (ha : La as) (h : ∀ (r2 r4 r5 : sv) (f : Nat → Option Nat) (K : Option sv → List sc → Prop), f 3 = some 16 → f 2 = some 18 → (∀ v u', Lv v → kk (some v) (XW s m k hi (upU us 2 u') dr od py ++ rest) → K (some v) (xS2 r2 r4 r5 hi s m f (us 3) u')) → F (sR 0 :: as) (xS2 r2 r4 r5 hi s m f (us 3) (us 2)) K) : cE (some 3) F (sR 0 :: as) (XW s m k hi us dr od py ++ rest) kk := by
  refine ⟨[0, 1, 2, 3, 4, 5, 6, 7, 8, 9, 10, 11, 12, 13, 14, 22, 29, 30, 27, 28], by decide, ?_⟩
  have hh := h (sR 35) (sR 59) (sR 62) (fun i => (fD 8 i).map (rn [0, 1, 2, 3, 4, 5, 6, 7, 8, 9, 10, 11, 12, 13, 14, 22, 29, 30, 27, 28])) (fun r wc => ck (Nat.beq 20 wc.length) (kk (r.map (unrv [0, 1, 2, 3, 4, 5, 6, 7, 8, 9, 10, 11, 12, 13, 14, 22, 29, 30, 27, 28])) (putw [0, 1, 2, 3, 4, 5, 6, 7, 8, 9, 10, 11, 12, 13, 14, 22, 29, 30, 27, 28] [0, 1, 2, 3, 4, 5, 6, 7, 8, 9, 10, 11, 12, 13, 14, 22, 29, 30, 27, 28] (XW s m k hi us dr od py ++ rest) wc))) rfl rfl (fun v u' hv hk => by
    show kk (some (unrv _ v)) _
    rw [hv.1, putw_rl (n := 43) (by decide) rfl rfl]
    rw [XW, ← fD_un [0, 1, 2, 3, 4, 5, 6, 7, 8, 9, 10, 11, 12, 13, 14, 22, 29, 30, 27, 28]] at hk
    exact hk)
  rw [← ha.1 [0, 1, 2, 3, 4, 5, 6, 7, 8, 9, 10, 11, 12, 13, 14, 22, 29, 30, 27, 28]] at hh
  exact hh
set_option maxRecDepth 20000 in
theorem eT34 (ha : La as) (h : ∀ (r2 r4 r5 : sv) (f : Nat → Option Nat) (K : Option sv → List sc → Prop), f 3 = some 16 → f 4 = some 18 → (∀ v u', Lv v → kk (some v) (XW s m k hi (upU us 4 u') dr od py ++ rest) → K (some v) (xS2 r2 r4 r5 hi s m f (us 3) u')) → F (sR 0 :: as) (xS2 r2 r4 r5 hi s m f (us 3) (us 4)) K) : cE (some 3) F (sR 0 :: as) (XW s m k hi us dr od py ++ rest) kk := by
  refine ⟨[0, 1, 2, 3, 4, 5, 6, 7, 8, 9, 10, 11, 12, 13, 14, 22, 29, 30, 31, 32], by decide, ?_⟩
  have hh := h (sR 35) (sR 59) (sR 62) (fun i => (fD 8 i).map (rn [0, 1, 2, 3, 4, 5, 6, 7, 8, 9, 10, 11, 12, 13, 14, 22, 29, 30, 31, 32])) (fun r wc => ck (Nat.beq 20 wc.length) (kk (r.map (unrv [0, 1, 2, 3, 4, 5, 6, 7, 8, 9, 10, 11, 12, 13, 14, 22, 29, 30, 31, 32])) (putw [0, 1, 2, 3, 4, 5, 6, 7, 8, 9, 10, 11, 12, 13, 14, 22, 29, 30, 31, 32] [0, 1, 2, 3, 4, 5, 6, 7, 8, 9, 10, 11, 12, 13, 14, 22, 29, 30, 31, 32] (XW s m k hi us dr od py ++ rest) wc))) rfl rfl (fun v u' hv hk => by
    show kk (some (unrv _ v)) _
    rw [hv.1, putw_rl (n := 43) (by decide) rfl rfl]
    rw [XW, ← fD_un [0, 1, 2, 3, 4, 5, 6, 7, 8, 9, 10, 11, 12, 13, 14, 22, 29, 30, 31, 32]] at hk
    exact hk)
  rw [← ha.1 [0, 1, 2, 3, 4, 5, 6, 7, 8, 9, 10, 11, 12, 13, 14, 22, 29, 30, 31, 32]] at hh
  exact hh
set_option maxRecDepth 20000 in
theorem eT35 (ha : La as) (h : ∀ (r2 r4 r5 : sv) (f : Nat → Option Nat) (K : Option sv → List sc → Prop), f 3 = some 16 → f 5 = some 18 → (∀ v u', Lv v → kk (some v) (XW s m k hi (upU us 5 u') dr od py ++ rest) → K (some v) (xS2 r2 r4 r5 hi s m f (us 3) u')) → F (sR 0 :: as) (xS2 r2 r4 r5 hi s m f (us 3) (us 5)) K) : cE (some 3) F (sR 0 :: as) (XW s m k hi us dr od py ++ rest) kk := by
  refine ⟨[0, 1, 2, 3, 4, 5, 6, 7, 8, 9, 10, 11, 12, 13, 14, 22, 29, 30, 33, 34], by decide, ?_⟩
  have hh := h (sR 35) (sR 59) (sR 62) (fun i => (fD 8 i).map (rn [0, 1, 2, 3, 4, 5, 6, 7, 8, 9, 10, 11, 12, 13, 14, 22, 29, 30, 33, 34])) (fun r wc => ck (Nat.beq 20 wc.length) (kk (r.map (unrv [0, 1, 2, 3, 4, 5, 6, 7, 8, 9, 10, 11, 12, 13, 14, 22, 29, 30, 33, 34])) (putw [0, 1, 2, 3, 4, 5, 6, 7, 8, 9, 10, 11, 12, 13, 14, 22, 29, 30, 33, 34] [0, 1, 2, 3, 4, 5, 6, 7, 8, 9, 10, 11, 12, 13, 14, 22, 29, 30, 33, 34] (XW s m k hi us dr od py ++ rest) wc))) rfl rfl (fun v u' hv hk => by
    show kk (some (unrv _ v)) _
    rw [hv.1, putw_rl (n := 43) (by decide) rfl rfl]
    rw [XW, ← fD_un [0, 1, 2, 3, 4, 5, 6, 7, 8, 9, 10, 11, 12, 13, 14, 22, 29, 30, 33, 34]] at hk
    exact hk)
  rw [← ha.1 [0, 1, 2, 3, 4, 5, 6, 7, 8, 9, 10, 11, 12, 13, 14, 22, 29, 30, 33, 34]] at hh
  exact hh
set_option maxRecDepth 20000 in
theorem eT36 (ha : La as) (h : ∀ (r2 r4 r5 : sv) (f : Nat → Option Nat) (K : Option sv → List sc → Prop), f 3 = some 16 → f 6 = some 18 → (∀ v u', Lv v → kk (some v) (XW s m k hi (upU us 6 u') dr od py ++ rest) → K (some v) (xS2 r2 r4 r5 hi s m f (us 3) u')) → F (sR 0 :: as) (xS2 r2 r4 r5 hi s m f (us 3) (us 6)) K) : cE (some 3) F (sR 0 :: as) (XW s m k hi us dr od py ++ rest) kk := by
  refine ⟨[0, 1, 2, 3, 4, 5, 6, 7, 8, 9, 10, 11, 12, 13, 14, 22, 29, 30, 35, 36], by decide, ?_⟩
  have hh := h (sR 35) (sR 59) (sR 62) (fun i => (fD 8 i).map (rn [0, 1, 2, 3, 4, 5, 6, 7, 8, 9, 10, 11, 12, 13, 14, 22, 29, 30, 35, 36])) (fun r wc => ck (Nat.beq 20 wc.length) (kk (r.map (unrv [0, 1, 2, 3, 4, 5, 6, 7, 8, 9, 10, 11, 12, 13, 14, 22, 29, 30, 35, 36])) (putw [0, 1, 2, 3, 4, 5, 6, 7, 8, 9, 10, 11, 12, 13, 14, 22, 29, 30, 35, 36] [0, 1, 2, 3, 4, 5, 6, 7, 8, 9, 10, 11, 12, 13, 14, 22, 29, 30, 35, 36] (XW s m k hi us dr od py ++ rest) wc))) rfl rfl (fun v u' hv hk => by
    show kk (some (unrv _ v)) _
    rw [hv.1, putw_rl (n := 43) (by decide) rfl rfl]
    rw [XW, ← fD_un [0, 1, 2, 3, 4, 5, 6, 7, 8, 9, 10, 11, 12, 13, 14, 22, 29, 30, 35, 36]] at hk
    exact hk)
  rw [← ha.1 [0, 1, 2, 3, 4, 5, 6, 7, 8, 9, 10, 11, 12, 13, 14, 22, 29, 30, 35, 36]] at hh
  exact hh
set_option maxRecDepth 20000 in
theorem eT37 (ha : La as) (h : ∀ (r2 r4 r5 : sv) (f : Nat → Option Nat) (K : Option sv → List sc → Prop), f 3 = some 16 → f 7 = some 18 → (∀ v u', Lv v → kk (some v) (XW s m k hi (upU us 7 u') dr od py ++ rest) → K (some v) (xS2 r2 r4 r5 hi s m f (us 3) u')) → F (sR 0 :: as) (xS2 r2 r4 r5 hi s m f (us 3) (us 7)) K) : cE (some 3) F (sR 0 :: as) (XW s m k hi us dr od py ++ rest) kk := by
  refine ⟨[0, 1, 2, 3, 4, 5, 6, 7, 8, 9, 10, 11, 12, 13, 14, 22, 29, 30, 37, 38], by decide, ?_⟩
  have hh := h (sR 35) (sR 59) (sR 62) (fun i => (fD 8 i).map (rn [0, 1, 2, 3, 4, 5, 6, 7, 8, 9, 10, 11, 12, 13, 14, 22, 29, 30, 37, 38])) (fun r wc => ck (Nat.beq 20 wc.length) (kk (r.map (unrv [0, 1, 2, 3, 4, 5, 6, 7, 8, 9, 10, 11, 12, 13, 14, 22, 29, 30, 37, 38])) (putw [0, 1, 2, 3, 4, 5, 6, 7, 8, 9, 10, 11, 12, 13, 14, 22, 29, 30, 37, 38] [0, 1, 2, 3, 4, 5, 6, 7, 8, 9, 10, 11, 12, 13, 14, 22, 29, 30, 37, 38] (XW s m k hi us dr od py ++ rest) wc))) rfl rfl (fun v u' hv hk => by
    show kk (some (unrv _ v)) _
    rw [hv.1, putw_rl (n := 43) (by decide) rfl rfl]
    rw [XW, ← fD_un [0, 1, 2, 3, 4, 5, 6, 7, 8, 9, 10, 11, 12, 13, 14, 22, 29, 30, 37, 38]] at hk
    exact hk)
  rw [← ha.1 [0, 1, 2, 3, 4, 5, 6, 7, 8, 9, 10, 11, 12, 13, 14, 22, 29, 30, 37, 38]] at hh
  exact hh
set_option maxRecDepth 20000 in
theorem eT40 (ha : La as) (h : ∀ (r2 r4 r5 : sv) (f : Nat → Option Nat) (K : Option sv → List sc → Prop), f 4 = some 16 → f 0 = some 18 → (∀ v u', Lv v → kk (some v) (XW s m k hi (upU us 0 u') dr od py ++ rest) → K (some v) (xS2 r2 r4 r5 hi s m f (us 4) u')) → F (sR 0 :: as) (xS2 r2 r4 r5 hi s m f (us 4) (us 0)) K) : cE (some 3) F (sR 0 :: as) (XW s m k hi us dr od py ++ rest) kk := by
  refine ⟨[0, 1, 2, 3, 4, 5, 6, 7, 8, 9, 10, 11, 12, 13, 14, 22, 31, 32, 23, 24], by decide, ?_⟩
  have hh := h (sR 35) (sR 59) (sR 62) (fun i => (fD 8 i).map (rn [0, 1, 2, 3, 4, 5, 6, 7, 8, 9, 10, 11, 12, 13, 14, 22, 31, 32, 23, 24])) (fun r wc => ck (Nat.beq 20 wc.length) (kk (r.map (unrv [0, 1, 2, 3, 4, 5, 6, 7, 8, 9, 10, 11, 12, 13, 14, 22, 31, 32, 23, 24])) (putw [0, 1, 2, 3, 4, 5, 6, 7, 8, 9, 10, 11, 12, 13, 14, 22, 31, 32, 23, 24] [0, 1, 2, 3, 4, 5, 6, 7, 8, 9, 10, 11, 12, 13, 14, 22, 31, 32, 23, 24] (XW s m k hi us dr od py ++ rest) wc))) rfl rfl (fun v u' hv hk => by
    show kk (some (unrv _ v)) _
    rw [hv.1, putw_rl (n := 43) (by decide) rfl rfl]
    rw [XW, ← fD_un [0, 1, 2, 3, 4, 5, 6, 7, 8, 9, 10, 11, 12, 13, 14, 22, 31, 32, 23, 24]] at hk
    exact hk)
  rw [← ha.1 [0, 1, 2, 3, 4, 5, 6, 7, 8, 9, 10, 11, 12, 13, 14, 22, 31, 32, 23, 24]] at hh
  exact hh
set_option maxRecDepth 20000 in
theorem eT41 (ha : La as) (h : ∀ (r2 r4 r5 : sv) (f : Nat → Option Nat) (K : Option sv → List sc → Prop), f 4 = some 16 → f 1 = some 18 → (∀ v u', Lv v → kk (some v) (XW s m k hi (upU us 1 u') dr od py ++ rest) → K (some v) (xS2 r2 r4 r5 hi s m f (us 4) u')) → F (sR 0 :: as) (xS2 r2 r4 r5 hi s m f (us 4) (us 1)) K) : cE (some 3) F (sR 0 :: as) (XW s m k hi us dr od py ++ rest) kk := by
  refine ⟨[0, 1, 2, 3, 4, 5, 6, 7, 8, 9, 10, 11, 12, 13, 14, 22, 31, 32, 25, 26], by decide, ?_⟩
  have hh := h (sR 35) (sR 59) (sR 62) (fun i => (fD 8 i).map (rn [0, 1, 2, 3, 4, 5, 6, 7, 8, 9, 10, 11, 12, 13, 14, 22, 31, 32, 25, 26])) (fun r wc => ck (Nat.beq 20 wc.length) (kk (r.map (unrv [0, 1, 2, 3, 4, 5, 6, 7, 8, 9, 10, 11, 12, 13, 14, 22, 31, 32, 25, 26])) (putw [0, 1, 2, 3, 4, 5, 6, 7, 8, 9, 10, 11, 12, 13, 14, 22, 31, 32, 25, 26] [0, 1, 2, 3, 4, 5, 6, 7, 8, 9, 10, 11, 12, 13, 14, 22, 31, 32, 25, 26] (XW s m k hi us dr od py ++ rest) wc))) rfl rfl (fun v u' hv hk => by
    show kk (some (unrv _ v)) _
    rw [hv.1, putw_rl (n := 43) (by decide) rfl rfl]
    rw [XW, ← fD_un [0, 1, 2, 3, 4, 5, 6, 7, 8, 9, 10, 11, 12, 13, 14, 22, 31, 32, 25, 26]] at hk
    exact hk)
  rw [← ha.1 [0, 1, 2, 3, 4, 5, 6, 7, 8, 9, 10, 11, 12, 13, 14, 22, 31, 32, 25, 26]] at hh
  exact hh
set_option maxRecDepth 20000 in
theorem eT42 (ha : La as) (h : ∀ (r2 r4 r5 : sv) (f : Nat → Option Nat) (K : Option sv → List sc → Prop), f 4 = some 16 → f 2 = some 18 → (∀ v u', Lv v → kk (some v) (XW s m k hi (upU us 2 u') dr od py ++ rest) → K (some v) (xS2 r2 r4 r5 hi s m f (us 4) u')) → F (sR 0 :: as) (xS2 r2 r4 r5 hi s m f (us 4) (us 2)) K) : cE (some 3) F (sR 0 :: as) (XW s m k hi us dr od py ++ rest) kk := by
  refine ⟨[0, 1, 2, 3, 4, 5, 6, 7, 8, 9, 10, 11, 12, 13, 14, 22, 31, 32, 27, 28], by decide, ?_⟩
  have hh := h (sR 35) (sR 59) (sR 62) (fun i => (fD 8 i).map (rn [0, 1, 2, 3, 4, 5, 6, 7, 8, 9, 10, 11, 12, 13, 14, 22, 31, 32, 27, 28])) (fun r wc => ck (Nat.beq 20 wc.length) (kk (r.map (unrv [0, 1, 2, 3, 4, 5, 6, 7, 8, 9, 10, 11, 12, 13, 14, 22, 31, 32, 27, 28])) (putw [0, 1, 2, 3, 4, 5, 6, 7, 8, 9, 10, 11, 12, 13, 14, 22, 31, 32, 27, 28] [0, 1, 2, 3, 4, 5, 6, 7, 8, 9, 10, 11, 12, 13, 14, 22, 31, 32, 27, 28] (XW s m k hi us dr od py ++ rest) wc))) rfl rfl (fun v u' hv hk => by
    show kk (some (unrv _ v)) _
    rw [hv.1, putw_rl (n := 43) (by decide) rfl rfl]
    rw [XW, ← fD_un [0, 1, 2, 3, 4, 5, 6, 7, 8, 9, 10, 11, 12, 13, 14, 22, 31, 32, 27, 28]] at hk
    exact hk)
  rw [← ha.1 [0, 1, 2, 3, 4, 5, 6, 7, 8, 9, 10, 11, 12, 13, 14, 22, 31, 32, 27, 28]] at hh
  exact hh
set_option maxRecDepth 20000 in
theorem eT43 (ha : La as) (h : ∀ (r2 r4 r5 : sv) (f : Nat → Option Nat) (K : Option sv → List sc → Prop), f 4 = some 16 → f 3 = some 18 → (∀ v u', Lv v → kk (some v) (XW s m k hi (upU us 3 u') dr od py ++ rest) → K (some v) (xS2 r2 r4 r5 hi s m f (us 4) u')) → F (sR 0 :: as) (xS2 r2 r4 r5 hi s m f (us 4) (us 3)) K) : cE (some 3) F (sR 0 :: as) (XW s m k hi us dr od py ++ rest) kk := by
  refine ⟨[0, 1, 2, 3, 4, 5, 6, 7, 8, 9, 10, 11, 12, 13, 14, 22, 31, 32, 29, 30], by decide, ?_⟩
  have hh := h (sR 35) (sR 59) (sR 62) (fun i => (fD 8 i).map (rn [0, 1, 2, 3, 4, 5, 6, 7, 8, 9, 10, 11, 12, 13, 14, 22, 31, 32, 29, 30])) (fun r wc => ck (Nat.beq 20 wc.length) (kk (r.map (unrv [0, 1, 2, 3, 4, 5, 6, 7, 8, 9, 10, 11, 12, 13, 14, 22, 31, 32, 29, 30])) (putw [0, 1, 2, 3, 4, 5, 6, 7, 8, 9, 10, 11, 12, 13, 14, 22, 31, 32, 29, 30] [0, 1, 2, 3, 4, 5, 6, 7, 8, 9, 10, 11, 12, 13, 14, 22, 31, 32, 29, 30] (XW s m k hi us dr od py ++ rest) wc))) rfl rfl (fun v u' hv hk => by
    show kk (some (unrv _ v)) _
    rw [hv.1, putw_rl (n := 43) (by decide) rfl rfl]
    rw [XW, ← fD_un [0, 1, 2, 3, 4, 5, 6, 7, 8, 9, 10, 11, 12, 13, 14, 22, 31, 32, 29, 30]] at hk
    exact hk)
  rw [← ha.1 [0, 1, 2, 3, 4, 5, 6, 7, 8, 9, 10, 11, 12, 13, 14, 22, 31, 32, 29, 30]] at hh
  exact hh
set_option maxRecDepth 20000 in
theorem eT45 (ha : La as) (h : ∀ (r2 r4 r5 : sv) (f : Nat → Option Nat) (K : Option sv → List sc → Prop), f 4 = some 16 → f 5 = some 18 → (∀ v u', Lv v → kk (some v) (XW s m k hi (upU us 5 u') dr od py ++ rest) → K (some v) (xS2 r2 r4 r5 hi s m f (us 4) u')) → F (sR 0 :: as) (xS2 r2 r4 r5 hi s m f (us 4) (us 5)) K) : cE (some 3) F (sR 0 :: as) (XW s m k hi us dr od py ++ rest) kk := by
  refine ⟨[0, 1, 2, 3, 4, 5, 6, 7, 8, 9, 10, 11, 12, 13, 14, 22, 31, 32, 33, 34], by decide, ?_⟩
  have hh := h (sR 35) (sR 59) (sR 62) (fun i => (fD 8 i).map (rn [0, 1, 2, 3, 4, 5, 6, 7, 8, 9, 10, 11, 12, 13, 14, 22, 31, 32, 33, 34])) (fun r wc => ck (Nat.beq 20 wc.length) (kk (r.map (unrv [0, 1, 2, 3, 4, 5, 6, 7, 8, 9, 10, 11, 12, 13, 14, 22, 31, 32, 33, 34])) (putw [0, 1, 2, 3, 4, 5, 6, 7, 8, 9, 10, 11, 12, 13, 14, 22, 31, 32, 33, 34] [0, 1, 2, 3, 4, 5, 6, 7, 8, 9, 10, 11, 12, 13, 14, 22, 31, 32, 33, 34] (XW s m k hi us dr od py ++ rest) wc))) rfl rfl (fun v u' hv hk => by
    show kk (some (unrv _ v)) _
    rw [hv.1, putw_rl (n := 43) (by decide) rfl rfl]
    rw [XW, ← fD_un [0, 1, 2, 3, 4, 5, 6, 7, 8, 9, 10, 11, 12, 13, 14, 22, 31, 32, 33, 34]] at hk
    exact hk)
  rw [← ha.1 [0, 1, 2, 3, 4, 5, 6, 7, 8, 9, 10, 11, 12, 13, 14, 22, 31, 32, 33, 34]] at hh
  exact hh
set_option maxRecDepth 20000 in
theorem eT46 (ha : La as) (h : ∀ (r2 r4 r5 : sv) (f : Nat → Option Nat) (K : Option sv → List sc → Prop), f 4 = some 16 → f 6 = some 18 → (∀ v u', Lv v → kk (some v) (XW s m k hi (upU us 6 u') dr od py ++ rest) → K (some v) (xS2 r2 r4 r5 hi s m f (us 4) u')) → F (sR 0 :: as) (xS2 r2 r4 r5 hi s m f (us 4) (us 6)) K) : cE (some 3) F (sR 0 :: as) (XW s m k hi us dr od py ++ rest) kk := by
  refine ⟨[0, 1, 2, 3, 4, 5, 6, 7, 8, 9, 10, 11, 12, 13, 14, 22, 31, 32, 35, 36], by decide, ?_⟩
  have hh := h (sR 35) (sR 59) (sR 62) (fun i => (fD 8 i).map (rn [0, 1, 2, 3, 4, 5, 6, 7, 8, 9, 10, 11, 12, 13, 14, 22, 31, 32, 35, 36])) (fun r wc => ck (Nat.beq 20 wc.length) (kk (r.map (unrv [0, 1, 2, 3, 4, 5, 6, 7, 8, 9, 10, 11, 12, 13, 14, 22, 31, 32, 35, 36])) (putw [0, 1, 2, 3, 4, 5, 6, 7, 8, 9, 10, 11, 12, 13, 14, 22, 31, 32, 35, 36] [0, 1, 2, 3, 4, 5, 6, 7, 8, 9, 10, 11, 12, 13, 14, 22, 31, 32, 35, 36] (XW s m k hi us dr od py ++ rest) wc))) rfl rfl (fun v u' hv hk => by
    show kk (some (unrv _ v)) _
    rw [hv.1, putw_rl (n := 43) (by decide) rfl rfl]
    rw [XW, ← fD_un [0, 1, 2, 3, 4, 5, 6, 7, 8, 9, 10, 11, 12, 13, 14, 22, 31, 32, 35, 36]] at hk
    exact hk)
  rw [← ha.1 [0, 1, 2, 3, 4, 5, 6, 7, 8, 9, 10, 11, 12, 13, 14, 22, 31, 32, 35, 36]] at hh
  exact hh
set_option maxRecDepth 20000 in
theorem eT47 (ha : La as) (h : ∀ (r2 r4 r5 : sv) (f : Nat → Option Nat) (K : Option sv → List sc → Prop), f 4 = some 16 → f 7 = some 18 → (∀ v u', Lv v → kk (some v) (XW s m k hi (upU us 7 u') dr od py ++ rest) → K (some v) (xS2 r2 r4 r5 hi s m f (us 4) u')) → F (sR 0 :: as) (xS2 r2 r4 r5 hi s m f (us 4) (us 7)) K) : cE (some 3) F (sR 0 :: as) (XW s m k hi us dr od py ++ rest) kk := by
  refine ⟨[0, 1, 2, 3, 4, 5, 6, 7, 8, 9, 10, 11, 12, 13, 14, 22, 31, 32, 37, 38], by decide, ?_⟩
  have hh := h (sR 35) (sR 59) (sR 62) (fun i => (fD 8 i).map (rn [0, 1, 2, 3, 4, 5, 6, 7, 8, 9, 10, 11, 12, 13, 14, 22, 31, 32, 37, 38])) (fun r wc => ck (Nat.beq 20 wc.length) (kk (r.map (unrv [0, 1, 2, 3, 4, 5, 6, 7, 8, 9, 10, 11, 12, 13, 14, 22, 31, 32, 37, 38])) (putw [0, 1, 2, 3, 4, 5, 6, 7, 8, 9, 10, 11, 12, 13, 14, 22, 31, 32, 37, 38] [0, 1, 2, 3, 4, 5, 6, 7, 8, 9, 10, 11, 12, 13, 14, 22, 31, 32, 37, 38] (XW s m k hi us dr od py ++ rest) wc))) rfl rfl (fun v u' hv hk => by
    show kk (some (unrv _ v)) _
    rw [hv.1, putw_rl (n := 43) (by decide) rfl rfl]
    rw [XW, ← fD_un [0, 1, 2, 3, 4, 5, 6, 7, 8, 9, 10, 11, 12, 13, 14, 22, 31, 32, 37, 38]] at hk
    exact hk)
  rw [← ha.1 [0, 1, 2, 3, 4, 5, 6, 7, 8, 9, 10, 11, 12, 13, 14, 22, 31, 32, 37, 38]] at hh
  exact hh
set_option maxRecDepth 20000 in
theorem eT50 (ha : La as) (h : ∀ (r2 r4 r5 : sv) (f : Nat → Option Nat) (K : Option sv → List sc → Prop), f 5 = some 16 → f 0 = some 18 → (∀ v u', Lv v → kk (some v) (XW s m k hi (upU us 0 u') dr od py ++ rest) → K (some v) (xS2 r2 r4 r5 hi s m f (us 5) u')) → F (sR 0 :: as) (xS2 r2 r4 r5 hi s m f (us 5) (us 0)) K) : cE (some 3) F (sR 0 :: as) (XW s m k hi us dr od py ++ rest) kk := by
  refine ⟨[0, 1, 2, 3, 4, 5, 6, 7, 8, 9, 10, 11, 12, 13, 14, 22, 33, 34, 23, 24], by decide, ?_⟩
  have hh := h (sR 35) (sR 59) (sR 62) (fun i => (fD 8 i).map (rn [0, 1, 2, 3, 4, 5, 6, 7, 8, 9, 10, 11, 12, 13, 14, 22, 33, 34, 23, 24])) (fun r wc => ck (Nat.beq 20 wc.length) (kk (r.map (unrv [0, 1, 2, 3, 4, 5, 6, 7, 8, 9, 10, 11, 12, 13, 14, 22, 33, 34, 23, 24])) (putw [0, 1, 2, 3, 4, 5, 6, 7, 8, 9, 10, 11, 12, 13, 14, 22, 33, 34, 23, 24] [0, 1, 2, 3, 4, 5, 6, 7, 8, 9, 10, 11, 12, 13, 14, 22, 33, 34, 23, 24] (XW s m k hi us dr od py ++ rest) wc))) rfl rfl (fun v u' hv hk => by
    show kk (some (unrv _ v)) _
    rw [hv.1, putw_rl (n := 43) (by decide) rfl rfl]
    rw [XW, ← fD_un [0, 1, 2, 3, 4, 5, 6, 7, 8, 9, 10, 11, 12, 13, 14, 22, 33, 34, 23, 24]] at hk
    exact hk)
  rw [← ha.1 [0, 1, 2, 3, 4, 5, 6, 7, 8, 9, 10, 11, 12, 13, 14, 22, 33, 34, 23, 24]] at hh
  exact hh
set_option maxRecDepth 20000 in
theorem eT51 (ha : La as) (h : ∀ (r2 r4 r5 : sv) (f : Nat → Option Nat) (K : Option sv → List sc → Prop), f 5 = some 16 → f 1 = some 18 → (∀ v u', Lv v → kk (some v) (XW s m k hi (upU us 1 u') dr od py ++ rest) → K (some v) (xS2 r2 r4 r5 hi s m f (us 5) u')) → F (sR 0 :: as) (xS2 r2 r4 r5 hi s m f (us 5) (us 1)) K) : cE (some 3) F (sR 0 :: as) (XW s m k hi us dr od py ++ rest) kk := by
  refine ⟨[0, 1, 2, 3, 4, 5, 6, 7, 8, 9, 10, 11, 12, 13, 14, 22, 33, 34, 25, 26], by decide, ?_⟩
  have hh := h (sR 35) (sR 59) (sR 62) (fun i => (fD 8 i).map (rn [0, 1, 2, 3, 4, 5, 6, 7, 8, 9, 10, 11, 12, 13, 14, 22, 33, 34, 25, 26])) (fun r wc => ck (Nat.beq 20 wc.length) (kk (r.map (unrv [0, 1, 2, 3, 4, 5, 6, 7, 8, 9, 10, 11, 12, 13, 14, 22, 33, 34, 25, 26])) (putw [0, 1, 2, 3, 4, 5, 6, 7, 8, 9, 10, 11, 12, 13, 14, 22, 33, 34, 25, 26] [0, 1, 2, 3, 4, 5, 6, 7, 8, 9, 10, 11, 12, 13, 14, 22, 33, 34, 25, 26] (XW s m k hi us dr od py ++ rest) wc))) rfl rfl (fun v u' hv hk => by
    show kk (some (unrv _ v)) _
    rw [hv.1, putw_rl (n := 43) (by decide) rfl rfl]
    rw [XW, ← fD_un [0, 1, 2, 3, 4, 5, 6, 7, 8, 9, 10, 11, 12, 13, 14, 22, 33, 34, 25, 26]] at hk
    exact hk)
  rw [← ha.1 [0, 1, 2, 3, 4, 5, 6, 7, 8, 9, 10, 11, 12, 13, 14, 22, 33, 34, 25, 26]] at hh
  exact hh
set_option maxRecDepth 20000 in
theorem eT52 (ha : La as) (h : ∀ (r2 r4 r5 : sv) (f : Nat → Option Nat) (K : Option sv → List sc → Prop), f 5 = some 16 → f 2 = some 18 → (∀ v u', Lv v → kk (some v) (XW s m k hi (upU us 2 u') dr od py ++ rest) → K (some v) (xS2 r2 r4 r5 hi s m f (us 5) u')) → F (sR 0 :: as) (xS2 r2 r4 r5 hi s m f (us 5) (us 2)) K) : cE (some 3) F (sR 0 :: as) (XW s m k hi us dr od py ++ rest) kk := by
  refine ⟨[0, 1, 2, 3, 4, 5, 6, 7, 8, 9, 10, 11, 12, 13, 14, 22, 33, 34, 27, 28], by decide, ?_⟩
  have hh := h (sR 35) (sR 59) (sR 62) (fun i => (fD 8 i).map (rn [0, 1, 2, 3, 4, 5, 6, 7, 8, 9, 10, 11, 12, 13, 14, 22, 33, 34, 27, 28])) (fun r wc => ck (Nat.beq 20 wc.length) (kk (r.map (unrv [0, 1, 2, 3, 4, 5, 6, 7, 8, 9, 10, 11, 12, 13, 14, 22, 33, 34, 27, 28])) (putw [0, 1, 2, 3, 4, 5, 6, 7, 8, 9, 10, 11, 12, 13, 14, 22, 33, 34, 27, 28] [0, 1, 2, 3, 4, 5, 6, 7, 8, 9, 10, 11, 12, 13, 14, 22, 33, 34, 27, 28] (XW s m k hi us dr od py ++ rest) wc))) rfl rfl (fun v u' hv hk => by
    show kk (some (unrv _ v)) _
    rw [hv.1, putw_rl (n := 43) (by decide) rfl rfl]
    rw [XW, ← fD_un [0, 1, 2, 3, 4, 5, 6, 7, 8, 9, 10, 11, 12, 13, 14, 22, 33, 34, 27, 28]] at hk
    exact hk)
  rw [← ha.1 [0, 1, 2, 3, 4, 5, 6, 7, 8, 9, 10, 11, 12, 13, 14, 22, 33, 34, 27, 28]] at hh
  exact hh
set_option maxRecDepth 20000 in
theorem eT53 (ha : La as) (h : ∀ (r2 r4 r5 : sv) (f : Nat → Option Nat) (K : Option sv → List sc → Prop), f 5 = some 16 → f 3 = some 18 → (∀ v u', Lv v → kk (some v) (XW s m k hi (upU us 3 u') dr od py ++ rest) → K (some v) (xS2 r2 r4 r5 hi s m f (us 5) u')) → F (sR 0 :: as) (xS2 r2 r4 r5 hi s m f (us 5) (us 3)) K) : cE (some 3) F (sR 0 :: as) (XW s m k hi us dr od py ++ rest) kk := by
  refine ⟨[0, 1, 2, 3, 4, 5, 6, 7, 8, 9, 10, 11, 12, 13, 14, 22, 33, 34, 29, 30], by decide, ?_⟩
  have hh := h (sR 35) (sR 59) (sR 62) (fun i => (fD 8 i).map (rn [0, 1, 2, 3, 4, 5, 6, 7, 8, 9, 10, 11, 12, 13, 14, 22, 33, 34, 29, 30])) (fun r wc => ck (Nat.beq 20 wc.length) (kk (r.map (unrv [0, 1, 2, 3, 4, 5, 6, 7, 8, 9, 10, 11, 12, 13, 14, 22, 33, 34, 29, 30])) (putw [0, 1, 2, 3, 4, 5, 6, 7, 8, 9, 10, 11, 12, 13, 14, 22, 33, 34, 29, 30] [0, 1, 2, 3, 4, 5, 6, 7, 8, 9, 10, 11, 12, 13, 14, 22, 33, 34, 29, 30] (XW s m k hi us dr od py ++ rest) wc))) rfl rfl (fun v u' hv hk => by
    show kk (some (unrv _ v)) _
    rw [hv.1, putw_rl (n := 43) (by decide) rfl rfl]
    rw [XW, ← fD_un [0, 1, 2, 3, 4, 5, 6, 7, 8, 9, 10, 11, 12, 13, 14, 22, 33, 34, 29, 30]] at hk
    exact hk)
  rw [← ha.1 [0, 1, 2, 3, 4, 5, 6, 7, 8, 9, 10, 11, 12, 13, 14, 22, 33, 34, 29, 30]] at hh
  exact hh
set_option maxRecDepth 20000 in
theorem eT54 (ha : La as) (h : ∀ (r2 r4 r5 : sv) (f : Nat → Option Nat) (K : Option sv → List sc → Prop), f 5 = some 16 → f 4 = some 18 → (∀ v u', Lv v → kk (some v) (XW s m k hi (upU us 4 u') dr od py ++ rest) → K (some v) (xS2 r2 r4 r5 hi s m f (us 5) u')) → F (sR 0 :: as) (xS2 r2 r4 r5 hi s m f (us 5) (us 4)) K) : cE (some 3) F (sR 0 :: as) (XW s m k hi us dr od py ++ rest) kk := by
  refine ⟨[0, 1, 2, 3, 4, 5, 6, 7, 8, 9, 10, 11, 12, 13, 14, 22, 33, 34, 31, 32], by decide, ?_⟩
  have hh := h (sR 35) (sR 59) (sR 62) (fun i => (fD 8 i).map (rn [0, 1, 2, 3, 4, 5, 6, 7, 8, 9, 10, 11, 12, 13, 14, 22, 33, 34, 31, 32])) (fun r wc => ck (Nat.beq 20 wc.length) (kk (r.map (unrv [0, 1, 2, 3, 4, 5, 6, 7, 8, 9, 10, 11, 12, 13, 14, 22, 33, 34, 31, 32])) (putw [0, 1, 2, 3, 4, 5, 6, 7, 8, 9, 10, 11, 12, 13, 14, 22, 33, 34, 31, 32] [0, 1, 2, 3, 4, 5, 6, 7, 8, 9, 10, 11, 12, 13, 14, 22, 33, 34, 31, 32] (XW s m k hi us dr od py ++ rest) wc))) rfl rfl (fun v u' hv hk => by
    show kk (some (unrv _ v)) _
    rw [hv.1, putw_rl (n := 43) (by decide) rfl rfl]
    rw [XW, ← fD_un [0, 1, 2, 3, 4, 5, 6, 7, 8, 9, 10, 11, 12, 13, 14, 22, 33, 34, 31, 32]] at hk
    exact hk)
  rw [← ha.1 [0, 1, 2, 3, 4, 5, 6, 7, 8, 9, 10, 11, 12, 13, 14, 22, 33, 34, 31, 32]] at hh
  exact hh
set_option maxRecDepth 20000 in
theorem eT56 (ha : La as) (h : ∀ (r2 r4 r5 : sv) (f : Nat → Option Nat) (K : Option sv → List sc → Prop), f 5 = some 16 → f 6 = some 18 → (∀ v u', Lv v → kk (some v) (XW s m k hi (upU us 6 u') dr od py ++ rest) → K (some v) (xS2 r2 r4 r5 hi s m f (us 5) u')) → F (sR 0 :: as) (xS2 r2 r4 r5 hi s m f (us 5) (us 6)) K) : cE (some 3) F (sR 0 :: as) (XW s m k hi us dr od py ++ rest) kk := by
  refine ⟨[0, 1, 2, 3, 4, 5, 6, 7, 8, 9, 10, 11, 12, 13, 14, 22, 33, 34, 35, 36], by decide, ?_⟩
  have hh := h (sR 35) (sR 59) (sR 62) (fun i => (fD 8 i).map (rn [0, 1, 2, 3, 4, 5, 6, 7, 8, 9, 10, 11, 12, 13, 14, 22, 33, 34, 35, 36])) (fun r wc => ck (Nat.beq 20 wc.length) (kk (r.map (unrv [0, 1, 2, 3, 4, 5, 6, 7, 8, 9, 10, 11, 12, 13, 14, 22, 33, 34, 35, 36])) (putw [0, 1, 2, 3, 4, 5, 6, 7, 8, 9, 10, 11, 12, 13, 14, 22, 33, 34, 35, 36] [0, 1, 2, 3, 4, 5, 6, 7, 8, 9, 10, 11, 12, 13, 14, 22, 33, 34, 35, 36] (XW s m k hi us dr od py ++ rest) wc))) rfl rfl (fun v u' hv hk => by
    show kk (some (unrv _ v)) _
    rw [hv.1, putw_rl (n := 43) (by decide) rfl rfl]
    rw [XW, ← fD_un [0, 1, 2, 3, 4, 5, 6, 7, 8, 9, 10, 11, 12, 13, 14, 22, 33, 34, 35, 36]] at hk
    exact hk)
  rw [← ha.1 [0, 1, 2, 3, 4, 5, 6, 7, 8, 9, 10, 11, 12, 13, 14, 22, 33, 34, 35, 36]] at hh
  exact hh
set_option maxRecDepth 20000 in
theorem eT57 (ha : La as) (h : ∀ (r2 r4 r5 : sv) (f : Nat → Option Nat) (K : Option sv → List sc → Prop), f 5 = some 16 → f 7 = some 18 → (∀ v u', Lv v → kk (some v) (XW s m k hi (upU us 7 u') dr od py ++ rest) → K (some v) (xS2 r2 r4 r5 hi s m f (us 5) u')) → F (sR 0 :: as) (xS2 r2 r4 r5 hi s m f (us 5) (us 7)) K) : cE (some 3) F (sR 0 :: as) (XW s m k hi us dr od py ++ rest) kk := by
  refine ⟨[0, 1, 2, 3, 4, 5, 6, 7, 8, 9, 10, 11, 12, 13, 14, 22, 33, 34, 37, 38], by decide, ?_⟩
  have hh := h (sR 35) (sR 59) (sR 62) (fun i => (fD 8 i).map (rn [0, 1, 2, 3, 4, 5, 6, 7, 8, 9, 10, 11, 12, 13, 14, 22, 33, 34, 37, 38])) (fun r wc => ck (Nat.beq 20 wc.length) (kk (r.map (unrv [0, 1, 2, 3, 4, 5, 6, 7, 8, 9, 10, 11, 12, 13, 14, 22, 33, 34, 37, 38])) (putw [0, 1, 2, 3, 4, 5, 6, 7, 8, 9, 10, 11, 12, 13, 14, 22, 33, 34, 37, 38] [0, 1, 2, 3, 4, 5, 6, 7, 8, 9, 10, 11, 12, 13, 14, 22, 33, 34, 37, 38] (XW s m k hi us dr od py ++ rest) wc))) rfl rfl (fun v u' hv hk => by
    show kk (some (unrv _ v)) _
    rw [hv.1, putw_rl (n := 43) (by decide) rfl rfl]
    rw [XW, ← fD_un [0, 1, 2, 3, 4, 5, 6, 7, 8, 9, 10, 11, 12, 13, 14, 22, 33, 34, 37, 38]] at hk
    exact hk)
  rw [← ha.1 [0, 1, 2, 3, 4, 5, 6, 7, 8, 9, 10, 11, 12, 13, 14, 22, 33, 34, 37, 38]] at hh
  exact hh
set_option maxRecDepth 20000 in
theorem eT60 (ha : La as) (h : ∀ (r2 r4 r5 : sv) (f : Nat → Option Nat) (K : Option sv → List sc → Prop), f 6 = some 16 → f 0 = some 18 → (∀ v u', Lv v → kk (some v) (XW s m k hi (upU us 0 u') dr od py ++ rest) → K (some v) (xS2 r2 r4 r5 hi s m f (us 6) u')) → F (sR 0 :: as) (xS2 r2 r4 r5 hi s m f (us 6) (us 0)) K) : cE (some 3) F (sR 0 :: as) (XW s m k hi us dr od py ++ rest) kk := by
  refine ⟨[0, 1, 2, 3, 4, 5, 6, 7, 8, 9, 10, 11, 12, 13, 14, 22, 35, 36, 23, 24], by decide, ?_⟩
  have hh := h (sR 35) (sR 59) (sR 62) (fun i => (fD 8 i).map (rn [0, 1, 2, 3, 4, 5, 6, 7, 8, 9, 10, 11, 12, 13, 14, 22, 35, 36, 23, 24])) (fun r wc => ck (Nat.beq 20 wc.length) (kk (r.map (unrv [0, 1, 2, 3, 4, 5, 6, 7, 8, 9, 10, 11, 12, 13, 14, 22, 35, 36, 23, 24])) (putw [0, 1, 2, 3, 4, 5, 6, 7, 8, 9, 10, 11, 12, 13, 14, 22, 35, 36, 23, 24] [0, 1, 2, 3, 4, 5, 6, 7, 8, 9, 10, 11, 12, 13, 14, 22, 35, 36, 23, 24] (XW s m k hi us dr od py ++ rest) wc))) rfl rfl (fun v u' hv hk => by
    show kk (some (unrv _ v)) _
    rw [hv.1, putw_rl (n := 43) (by decide) rfl rfl]
    rw [XW, ← fD_un [0, 1, 2, 3, 4, 5, 6, 7, 8, 9, 10, 11, 12, 13, 14, 22, 35, 36, 23, 24]] at hk
    exact hk)
  rw [← ha.1 [0, 1, 2, 3, 4, 5, 6, 7, 8, 9, 10, 11, 12, 13, 14, 22, 35, 36, 23, 24]] at hh
  exact hh
set_option maxRecDepth 20000 in
theorem eT61 (ha : La as) (h : ∀ (r2 r4 r5 : sv) (f : Nat → Option Nat) (K : Option sv → List sc → Prop), f 6 = some 16 → f 1 = some 18 → (∀ v u', Lv v → kk (some v) (XW s m k hi (upU us 1 u') dr od py ++ rest) → K (some v) (xS2 r2 r4 r5 hi s m f (us 6) u')) → F (sR 0 :: as) (xS2 r2 r4 r5 hi s m f (us 6) (us 1)) K) : cE (some 3) F (sR 0 :: as) (XW s m k hi us dr od py ++ rest) kk := by
  refine ⟨[0, 1, 2, 3, 4, 5, 6, 7, 8, 9, 10, 11, 12, 13, 14, 22, 35, 36, 25, 26], by decide, ?_⟩
  have hh := h (sR 35) (sR 59) (sR 62) (fun i => (fD 8 i).map (rn [0, 1, 2, 3, 4, 5, 6, 7, 8, 9, 10, 11, 12, 13, 14, 22, 35, 36, 25, 26])) (fun r wc => ck (Nat.beq 20 wc.length) (kk (r.map (unrv [0, 1, 2, 3, 4, 5, 6, 7, 8, 9, 10, 11, 12, 13, 14, 22, 35, 36, 25, 26])) (putw [0, 1, 2, 3, 4, 5, 6, 7, 8, 9, 10, 11, 12, 13, 14, 22, 35, 36, 25, 26] [0, 1, 2, 3, 4, 5, 6, 7, 8, 9, 10, 11, 12, 13, 14, 22, 35, 36, 25, 26] (XW s m k hi us dr od py ++ rest) wc))) rfl rfl (fun v u' hv hk => by
    show kk (some (unrv _ v)) _
    rw [hv.1, putw_rl (n := 43) (by decide) rfl rfl]
    rw [XW, ← fD_un [0, 1, 2, 3, 4, 5, 6, 7, 8, 9, 10, 11, 12, 13, 14, 22, 35, 36, 25, 26]] at hk
    exact hk)
  rw [← ha.1 [0, 1, 2, 3, 4, 5, 6, 7, 8, 9, 10, 11, 12, 13, 14, 22, 35, 36, 25, 26]] at hh
  exact hh
set_option maxRecDepth 20000 in
theorem eT62 (ha : La as) (h : ∀ (r2 r4 r5 : sv) (f : Nat → Option Nat) (K : Option sv → List sc → Prop), f 6 = some 16 → f 2 = some 18 → (∀ v u', Lv v → kk (some v) (XW s m k hi (upU us 2 u') dr od py ++ rest) → K (some v) (xS2 r2 r4 r5 hi s m f (us 6) u')) → F (sR 0 :: as) (xS2 r2 r4 r5 hi s m f (us 6) (us 2)) K) : cE (some 3) F (sR 0 :: as) (XW s m k hi us dr od py ++ rest) kk := by
  refine ⟨[0, 1, 2, 3, 4, 5, 6, 7, 8, 9, 10, 11, 12, 13, 14, 22, 35, 36, 27, 28], by decide, ?_⟩
  have hh := h (sR 35) (sR 59) (sR 62) (fun i => (fD 8 i).map (rn [0, 1, 2, 3, 4, 5, 6, 7, 8, 9, 10, 11, 12, 13, 14, 22, 35, 36, 27, 28])) (fun r wc => ck (Nat.beq 20 wc.length) (kk (r.map (unrv [0, 1, 2, 3, 4, 5, 6, 7, 8, 9, 10, 11, 12, 13, 14, 22, 35, 36, 27, 28])) (putw [0, 1, 2, 3, 4, 5, 6, 7, 8, 9, 10, 11, 12, 13, 14, 22, 35, 36, 27, 28] [0, 1, 2, 3, 4, 5, 6, 7, 8, 9, 10, 11, 12, 13, 14, 22, 35, 36, 27, 28] (XW s m k hi us dr od py ++ rest) wc))) rfl rfl (fun v u' hv hk => by
    show kk (some (unrv _ v)) _
    rw [hv.1, putw_rl (n := 43) (by decide) rfl rfl]
    rw [XW, ← fD_un [0, 1, 2, 3, 4, 5, 6, 7, 8, 9, 10, 11, 12, 13, 14, 22, 35, 36, 27, 28]] at hk
    exact hk)
  rw [← ha.1 [0, 1, 2, 3, 4, 5, 6, 7, 8, 9, 10, 11, 12, 13, 14, 22, 35, 36, 27, 28]] at hh
  exact hh
set_option maxRecDepth 20000 in
theorem eT63 (ha : La as) (h : ∀ (r2 r4 r5 : sv) (f : Nat → Option Nat) (K : Option sv → List sc → Prop), f 6 = some 16 → f 3 = some 18 → (∀ v u', Lv v → kk (some v) (XW s m k hi (upU us 3 u') dr od py ++ rest) → K (some v) (xS2 r2 r4 r5 hi s m f (us 6) u')) → F (sR 0 :: as) (xS2 r2 r4 r5 hi s m f (us 6) (us 3)) K) : cE (some 3) F (sR 0 :: as) (XW s m k hi us dr od py ++ rest) kk := by
  refine ⟨[0, 1, 2, 3, 4, 5, 6, 7, 8, 9, 10, 11, 12, 13, 14, 22, 35, 36, 29, 30], by decide, ?_⟩
  have hh := h (sR 35) (sR 59) (sR 62) (fun i => (fD 8 i).map (rn [0, 1, 2, 3, 4, 5, 6, 7, 8, 9, 10, 11, 12, 13, 14, 22, 35, 36, 29, 30])) (fun r wc => ck (Nat.beq 20 wc.length) (kk (r.map (unrv [0, 1, 2, 3, 4, 5, 6, 7, 8, 9, 10, 11, 12, 13, 14, 22, 35, 36, 29, 30])) (putw [0, 1, 2, 3, 4, 5, 6, 7, 8, 9, 10, 11, 12, 13, 14, 22, 35, 36, 29, 30] [0, 1, 2, 3, 4, 5, 6, 7, 8, 9, 10, 11, 12, 13, 14, 22, 35, 36, 29, 30] (XW s m k hi us dr od py ++ rest) wc))) rfl rfl (fun v u' hv hk => by
    show kk (some (unrv _ v)) _
    rw [hv.1, putw_rl (n := 43) (by decide) rfl rfl]
    rw [XW, ← fD_un [0, 1, 2, 3, 4, 5, 6, 7, 8, 9, 10, 11, 12, 13, 14, 22, 35, 36, 29, 30]] at hk
    exact hk)
  rw [← ha.1 [0, 1, 2, 3, 4, 5, 6, 7, 8, 9, 10, 11, 12, 13, 14, 22, 35, 36, 29, 30]] at hh
  exact hh
set_option maxRecDepth 20000 in
theorem eT64 (ha : La as) (h : ∀ (r2 r4 r5 : sv) (f : Nat → Option Nat) (K : Option sv → List sc → Prop), f 6 = some 16 → f 4 = some 18 → (∀ v u', Lv v → kk (some v) (XW s m k hi (upU us 4 u') dr od py ++ rest) → K (some v) (xS2 r2 r4 r5 hi s m f (us 6) u')) → F (sR 0 :: as) (xS2 r2 r4 r5 hi s m f (us 6) (us 4)) K) : cE (some 3) F (sR 0 :: as) (XW s m k hi us dr od py ++ rest) kk := by
  refine ⟨[0, 1, 2, 3, 4, 5, 6, 7, 8, 9, 10, 11, 12, 13, 14, 22, 35, 36, 31, 32], by decide, ?_⟩
  have hh := h (sR 35) (sR 59) (sR 62) (fun i => (fD 8 i).map (rn [0, 1, 2, 3, 4, 5, 6, 7, 8, 9, 10, 11, 12, 13, 14, 22, 35, 36, 31, 32])) (fun r wc => ck (Nat.beq 20 wc.length) (kk (r.map (unrv [0, 1, 2, 3, 4, 5, 6, 7, 8, 9, 10, 11, 12, 13, 14, 22, 35, 36, 31, 32])) (putw [0, 1, 2, 3, 4, 5, 6, 7, 8, 9, 10, 11, 12, 13, 14, 22, 35, 36, 31, 32] [0, 1, 2, 3, 4, 5, 6, 7, 8, 9, 10, 11, 12, 13, 14, 22, 35, 36, 31, 32] (XW s m k hi us dr od py ++ rest) wc))) rfl rfl (fun v u' hv hk => by
    show kk (some (unrv _ v)) _
    rw [hv.1, putw_rl (n := 43) (by decide) rfl rfl]
    rw [XW, ← fD_un [0, 1, 2, 3, 4, 5, 6, 7, 8, 9, 10, 11, 12, 13, 14, 22, 35, 36, 31, 32]] at hk
    exact hk)
  rw [← ha.1 [0, 1, 2, 3, 4, 5, 6, 7, 8, 9, 10, 11, 12, 13, 14, 22, 35, 36, 31, 32]] at hh
  exact hh
set_option maxRecDepth 20000 in
theorem eT65 (ha : La as) (h : ∀ (r2 r4 r5 : sv) (f : Nat → Option Nat) (K : Option sv → List sc → Prop), f 6 = some 16 → f 5 = some 18 → (∀ v u', Lv v → kk (some v) (XW s m k hi (upU us 5 u') dr od py ++ rest) → K (some v) (xS2 r2 r4 r5 hi s m f (us 6) u')) → F (sR 0 :: as) (xS2 r2 r4 r5 hi s m f (us 6) (us 5)) K) : cE (some 3) F (sR 0 :: as) (XW s m k hi us dr od py ++ rest) kk := by
  refine ⟨[0, 1, 2, 3, 4, 5, 6, 7, 8, 9, 10, 11, 12, 13, 14, 22, 35, 36, 33, 34], by decide, ?_⟩
  have hh := h (sR 35) (sR 59) (sR 62) (fun i => (fD 8 i).map (rn [0, 1, 2, 3, 4, 5, 6, 7, 8, 9, 10, 11, 12, 13, 14, 22, 35, 36, 33, 34])) (fun r wc => ck (Nat.beq 20 wc.length) (kk (r.map (unrv [0, 1, 2, 3, 4, 5, 6, 7, 8, 9, 10, 11, 12, 13, 14, 22, 35, 36, 33, 34])) (putw [0, 1, 2, 3, 4, 5, 6, 7, 8, 9, 10, 11, 12, 13, 14, 22, 35, 36, 33, 34] [0, 1, 2, 3, 4, 5, 6, 7, 8, 9, 10, 11, 12, 13, 14, 22, 35, 36, 33, 34] (XW s m k hi us dr od py ++ rest) wc))) rfl rfl (fun v u' hv hk => by
    show kk (some (unrv _ v)) _
    rw [hv.1, putw_rl (n := 43) (by decide) rfl rfl]
    rw [XW, ← fD_un [0, 1, 2, 3, 4, 5, 6, 7, 8, 9, 10, 11, 12, 13, 14, 22, 35, 36, 33, 34]] at hk
    exact hk)
  rw [← ha.1 [0, 1, 2, 3, 4, 5, 6, 7, 8, 9, 10, 11, 12, 13, 14, 22, 35, 36, 33, 34]] at hh
  exact hh
set_option maxRecDepth 20000 in
theorem eT67 (ha : La as) (h : ∀ (r2 r4 r5 : sv) (f : Nat → Option Nat) (K : Option sv → List sc → Prop), f 6 = some 16 → f 7 = some 18 → (∀ v u', Lv v → kk (some v) (XW s m k hi (upU us 7 u') dr od py ++ rest) → K (some v) (xS2 r2 r4 r5 hi s m f (us 6) u')) → F (sR 0 :: as) (xS2 r2 r4 r5 hi s m f (us 6) (us 7)) K) : cE (some 3) F (sR 0 :: as) (XW s m k hi us dr od py ++ rest) kk := by
  refine ⟨[0, 1, 2, 3, 4, 5, 6, 7, 8, 9, 10, 11, 12, 13, 14, 22, 35, 36, 37, 38], by decide, ?_⟩
  have hh := h (sR 35) (sR 59) (sR 62) (fun i => (fD 8 i).map (rn [0, 1, 2, 3, 4, 5, 6, 7, 8, 9, 10, 11, 12, 13, 14, 22, 35, 36, 37, 38])) (fun r wc => ck (Nat.beq 20 wc.length) (kk (r.map (unrv [0, 1, 2, 3, 4, 5, 6, 7, 8, 9, 10, 11, 12, 13, 14, 22, 35, 36, 37, 38])) (putw [0, 1, 2, 3, 4, 5, 6, 7, 8, 9, 10, 11, 12, 13, 14, 22, 35, 36, 37, 38] [0, 1, 2, 3, 4, 5, 6, 7, 8, 9, 10, 11, 12, 13, 14, 22, 35, 36, 37, 38] (XW s m k hi us dr od py ++ rest) wc))) rfl rfl (fun v u' hv hk => by
    show kk (some (unrv _ v)) _
    rw [hv.1, putw_rl (n := 43) (by decide) rfl rfl]
    rw [XW, ← fD_un [0, 1, 2, 3, 4, 5, 6, 7, 8, 9, 10, 11, 12, 13, 14, 22, 35, 36, 37, 38]] at hk
    exact hk)
  rw [← ha.1 [0, 1, 2, 3, 4, 5, 6, 7, 8, 9, 10, 11, 12, 13, 14, 22, 35, 36, 37, 38]] at hh
  exact hh
set_option maxRecDepth 20000 in
theorem eT70 (ha : La as) (h : ∀ (r2 r4 r5 : sv) (f : Nat → Option Nat) (K : Option sv → List sc → Prop), f 7 = some 16 → f 0 = some 18 → (∀ v u', Lv v → kk (some v) (XW s m k hi (upU us 0 u') dr od py ++ rest) → K (some v) (xS2 r2 r4 r5 hi s m f (us 7) u')) → F (sR 0 :: as) (xS2 r2 r4 r5 hi s m f (us 7) (us 0)) K) : cE (some 3) F (sR 0 :: as) (XW s m k hi us dr od py ++ rest) kk := by
  refine ⟨[0, 1, 2, 3, 4, 5, 6, 7, 8, 9, 10, 11, 12, 13, 14, 22, 37, 38, 23, 24], by decide, ?_⟩
  have hh := h (sR 35) (sR 59) (sR 62) (fun i => (fD 8 i).map (rn [0, 1, 2, 3, 4, 5, 6, 7, 8, 9, 10, 11, 12, 13, 14, 22, 37, 38, 23, 24])) (fun r wc => ck (Nat.beq 20 wc.length) (kk (r.map (unrv [0, 1, 2, 3, 4, 5, 6, 7, 8, 9, 10, 11, 12, 13, 14, 22, 37, 38, 23, 24])) (putw [0, 1, 2, 3, 4, 5, 6, 7, 8, 9, 10, 11, 12, 13, 14, 22, 37, 38, 23, 24] [0, 1, 2, 3, 4, 5, 6, 7, 8, 9, 10, 11, 12, 13, 14, 22, 37, 38, 23, 24] (XW s m k hi us dr od py ++ rest) wc))) rfl rfl (fun v u' hv hk => by
    show kk (some (unrv _ v)) _
    rw [hv.1, putw_rl (n := 43) (by decide) rfl rfl]
    rw [XW, ← fD_un [0, 1, 2, 3, 4, 5, 6, 7, 8, 9, 10, 11, 12, 13, 14, 22, 37, 38, 23, 24]] at hk
    exact hk)
  rw [← ha.1 [0, 1, 2, 3, 4, 5, 6, 7, 8, 9, 10, 11, 12, 13, 14, 22, 37, 38, 23, 24]] at hh
  exact hh
set_option maxRecDepth 20000 in
theorem eT71 (ha : La as) (h : ∀ (r2 r4 r5 : sv) (f : Nat → Option Nat) (K : Option sv → List sc → Prop), f 7 = some 16 → f 1 = some 18 → (∀ v u', Lv v → kk (some v) (XW s m k hi (upU us 1 u') dr od py ++ rest) → K (some v) (xS2 r2 r4 r5 hi s m f (us 7) u')) → F (sR 0 :: as) (xS2 r2 r4 r5 hi s m f (us 7) (us 1)) K) : cE (some 3) F (sR 0 :: as) (XW s m k hi us dr od py ++ rest) kk := by
  refine ⟨[0, 1, 2, 3, 4, 5, 6, 7, 8, 9, 10, 11, 12, 13, 14, 22, 37, 38, 25, 26], by decide, ?_⟩
  have hh := h (sR 35) (sR 59) (sR 62) (fun i => (fD 8 i).map (rn [0, 1, 2, 3, 4, 5, 6, 7, 8, 9, 10, 11, 12, 13, 14, 22, 37, 38, 25, 26])) (fun r wc => ck (Nat.beq 20 wc.length) (kk (r.map (unrv [0, 1, 2, 3, 4, 5, 6, 7, 8, 9, 10, 11, 12, 13, 14, 22, 37, 38, 25, 26])) (putw [0, 1, 2, 3, 4, 5, 6, 7, 8, 9, 10, 11, 12, 13, 14, 22, 37, 38, 25, 26] [0, 1, 2, 3, 4, 5, 6, 7, 8, 9, 10, 11, 12, 13, 14, 22, 37, 38, 25, 26] (XW s m k hi us dr od py ++ rest) wc))) rfl rfl (fun v u' hv hk => by
    show kk (some (unrv _ v)) _
    rw [hv.1, putw_rl (n := 43) (by decide) rfl rfl]
    rw [XW, ← fD_un [0, 1, 2, 3, 4, 5, 6, 7, 8, 9, 10, 11, 12, 13, 14, 22, 37, 38, 25, 26]] at hk
    exact hk)
  rw [← ha.1 [0, 1, 2, 3, 4, 5, 6, 7, 8, 9, 10, 11, 12, 13, 14, 22, 37, 38, 25, 26]] at hh
  exact hh
set_option maxRecDepth 20000 in
theorem eT72 (ha : La as) (h : ∀ (r2 r4 r5 : sv) (f : Nat → Option Nat) (K : Option sv → List sc → Prop), f 7 = some 16 → f 2 = some 18 → (∀ v u', Lv v → kk (some v) (XW s m k hi (upU us 2 u') dr od py ++ rest) → K (some v) (xS2 r2 r4 r5 hi s m f (us 7) u')) → F (sR 0 :: as) (xS2 r2 r4 r5 hi s m f (us 7) (us 2)) K) : cE (some 3) F (sR 0 :: as) (XW s m k hi us dr od py ++ rest) kk := by
  refine ⟨[0, 1, 2, 3, 4, 5, 6, 7, 8, 9, 10, 11, 12, 13, 14, 22, 37, 38, 27, 28], by decide, ?_⟩
  have hh := h (sR 35) (sR 59) (sR 62) (fun i => (fD 8 i).map (rn [0, 1, 2, 3, 4, 5, 6, 7, 8, 9, 10, 11, 12, 13, 14, 22, 37, 38, 27, 28])) (fun r wc => ck (Nat.beq 20 wc.length) (kk (r.map (unrv [0, 1, 2, 3, 4, 5, 6, 7, 8, 9, 10, 11, 12, 13, 14, 22, 37, 38, 27, 28])) (putw [0, 1, 2, 3, 4, 5, 6, 7, 8, 9, 10, 11, 12, 13, 14, 22, 37, 38, 27, 28] [0, 1, 2, 3, 4, 5, 6, 7, 8, 9, 10, 11, 12, 13, 14, 22, 37, 38, 27, 28] (XW s m k hi us dr od py ++ rest) wc))) rfl rfl (fun v u' hv hk => by
    show kk (some (unrv _ v)) _
    rw [hv.1, putw_rl (n := 43) (by decide) rfl rfl]
    rw [XW, ← fD_un [0, 1, 2, 3, 4, 5, 6, 7, 8, 9, 10, 11, 12, 13, 14, 22, 37, 38, 27, 28]] at hk
    exact hk)
  rw [← ha.1 [0, 1, 2, 3, 4, 5, 6, 7, 8, 9, 10, 11, 12, 13, 14, 22, 37, 38, 27, 28]] at hh
  exact hh
set_option maxRecDepth 20000 in
theorem eT73 (ha : La as) (h : ∀ (r2 r4 r5 : sv) (f : Nat → Option Nat) (K : Option sv → List sc → Prop), f 7 = some 16 → f 3 = some 18 → (∀ v u', Lv v → kk (some v) (XW s m k hi (upU us 3 u') dr od py ++ rest) → K (some v) (xS2 r2 r4 r5 hi s m f (us 7) u')) → F (sR 0 :: as) (xS2 r2 r4 r5 hi s m f (us 7) (us 3)) K) : cE (some 3) F (sR 0 :: as) (XW s m k hi us dr od py ++ rest) kk := by
  refine ⟨[0, 1, 2, 3, 4, 5, 6, 7, 8, 9, 10, 11, 12, 13, 14, 22, 37, 38, 29, 30], by decide, ?_⟩
  have hh := h (sR 35) (sR 59) (sR 62) (fun i => (fD 8 i).map (rn [0, 1, 2, 3, 4, 5, 6, 7, 8, 9, 10, 11, 12, 13, 14, 22, 37, 38, 29, 30])) (fun r wc => ck (Nat.beq 20 wc.length) (kk (r.map (unrv [0, 1, 2, 3, 4, 5, 6, 7, 8, 9, 10, 11, 12, 13, 14, 22, 37, 38, 29, 30])) (putw [0, 1, 2, 3, 4, 5, 6, 7, 8, 9, 10, 11, 12, 13, 14, 22, 37, 38, 29, 30] [0, 1, 2, 3, 4, 5, 6, 7, 8, 9, 10, 11, 12, 13, 14, 22, 37, 38, 29, 30] (XW s m k hi us dr od py ++ rest) wc))) rfl rfl (fun v u' hv hk => by
    show kk (some (unrv _ v)) _
    rw [hv.1, putw_rl (n := 43) (by decide) rfl rfl]
    rw [XW, ← fD_un [0, 1, 2, 3, 4, 5, 6, 7, 8, 9, 10, 11, 12, 13, 14, 22, 37, 38, 29, 30]] at hk
    exact hk)
  rw [← ha.1 [0, 1, 2, 3, 4, 5, 6, 7, 8, 9, 10, 11, 12, 13, 14, 22, 37, 38, 29, 30]] at hh
  exact hh
set_option maxRecDepth 20000 in
theorem eT74 (ha : La as) (h : ∀ (r2 r4 r5 : sv) (f : Nat → Option Nat) (K : Option sv → List sc → Prop), f 7 = some 16 → f 4 = some 18 → (∀ v u', Lv v → kk (some v) (XW s m k hi (upU us 4 u') dr od py ++ rest) → K (some v) (xS2 r2 r4 r5 hi s m f (us 7) u')) → F (sR 0 :: as) (xS2 r2 r4 r5 hi s m f (us 7) (us 4)) K) : cE (some 3) F (sR 0 :: as) (XW s m k hi us dr od py ++ rest) kk := by
  refine ⟨[0, 1, 2, 3, 4, 5, 6, 7, 8, 9, 10, 11, 12, 13, 14, 22, 37, 38, 31, 32], by decide, ?_⟩
  have hh := h (sR 35) (sR 59) (sR 62) (fun i => (fD 8 i).map (rn [0, 1, 2, 3, 4, 5, 6, 7, 8, 9, 10, 11, 12, 13, 14, 22, 37, 38, 31, 32])) (fun r wc => ck (Nat.beq 20 wc.length) (kk (r.map (unrv [0, 1, 2, 3, 4, 5, 6, 7, 8, 9, 10, 11, 12, 13, 14, 22, 37, 38, 31, 32])) (putw [0, 1, 2, 3, 4, 5, 6, 7, 8, 9, 10, 11, 12, 13, 14, 22, 37, 38, 31, 32] [0, 1, 2, 3, 4, 5, 6, 7, 8, 9, 10, 11, 12, 13, 14, 22, 37, 38, 31, 32] (XW s m k hi us dr od py ++ rest) wc))) rfl rfl (fun v u' hv hk => by
    show kk (some (unrv _ v)) _
    rw [hv.1, putw_rl (n := 43) (by decide) rfl rfl]
    rw [XW, ← fD_un [0, 1, 2, 3, 4, 5, 6, 7, 8, 9, 10, 11, 12, 13, 14, 22, 37, 38, 31, 32]] at hk
    exact hk)
  rw [← ha.1 [0, 1, 2, 3, 4, 5, 6, 7, 8, 9, 10, 11, 12, 13, 14, 22, 37, 38, 31, 32]] at hh
  exact hh
set_option maxRecDepth 20000 in
theorem eT75 (ha : La as) (h : ∀ (r2 r4 r5 : sv) (f : Nat → Option Nat) (K : Option sv → List sc → Prop), f 7 = some 16 → f 5 = some 18 → (∀ v u', Lv v → kk (some v) (XW s m k hi (upU us 5 u') dr od py ++ rest) → K (some v) (xS2 r2 r4 r5 hi s m f (us 7) u')) → F (sR 0 :: as) (xS2 r2 r4 r5 hi s m f (us 7) (us 5)) K) : cE (some 3) F (sR 0 :: as) (XW s m k hi us dr od py ++ rest) kk := by
  refine ⟨[0, 1, 2, 3, 4, 5, 6, 7, 8, 9, 10, 11, 12, 13, 14, 22, 37, 38, 33, 34], by decide, ?_⟩
  have hh := h (sR 35) (sR 59) (sR 62) (fun i => (fD 8 i).map (rn [0, 1, 2, 3, 4, 5, 6, 7, 8, 9, 10, 11, 12, 13, 14, 22, 37, 38, 33, 34])) (fun r wc => ck (Nat.beq 20 wc.length) (kk (r.map (unrv [0, 1, 2, 3, 4, 5, 6, 7, 8, 9, 10, 11, 12, 13, 14, 22, 37, 38, 33, 34])) (putw [0, 1, 2, 3, 4, 5, 6, 7, 8, 9, 10, 11, 12, 13, 14, 22, 37, 38, 33, 34] [0, 1, 2, 3, 4, 5, 6, 7, 8, 9, 10, 11, 12, 13, 14, 22, 37, 38, 33, 34] (XW s m k hi us dr od py ++ rest) wc))) rfl rfl (fun v u' hv hk => by
    show kk (some (unrv _ v)) _
    rw [hv.1, putw_rl (n := 43) (by decide) rfl rfl]
    rw [XW, ← fD_un [0, 1, 2, 3, 4, 5, 6, 7, 8, 9, 10, 11, 12, 13, 14, 22, 37, 38, 33, 34]] at hk
    exact hk)
  rw [← ha.1 [0, 1, 2, 3, 4, 5, 6, 7, 8, 9, 10, 11, 12, 13, 14, 22, 37, 38, 33, 34]] at hh
  exact hh
set_option maxRecDepth 20000 in
theorem eT76 (ha : La as) (h : ∀ (r2 r4 r5 : sv) (f : Nat → Option Nat) (K : Option sv → List sc → Prop), f 7 = some 16 → f 6 = some 18 → (∀ v u', Lv v → kk (some v) (XW s m k hi (upU us 6 u') dr od py ++ rest) → K (some v) (xS2 r2 r4 r5 hi s m f (us 7) u')) → F (sR 0 :: as) (xS2 r2 r4 r5 hi s m f (us 7) (us 6)) K) : cE (some 3) F (sR 0 :: as) (XW s m k hi us dr od py ++ rest) kk := by
  refine ⟨[0, 1, 2, 3, 4, 5, 6, 7, 8, 9, 10, 11, 12, 13, 14, 22, 37, 38, 35, 36], by decide, ?_⟩
  have hh := h (sR 35) (sR 59) (sR 62) (fun i => (fD 8 i).map (rn [0, 1, 2, 3, 4, 5, 6, 7, 8, 9, 10, 11, 12, 13, 14, 22, 37, 38, 35, 36])) (fun r wc => ck (Nat.beq 20 wc.length) (kk (r.map (unrv [0, 1, 2, 3, 4, 5, 6, 7, 8, 9, 10, 11, 12, 13, 14, 22, 37, 38, 35, 36])) (putw [0, 1, 2, 3, 4, 5, 6, 7, 8, 9, 10, 11, 12, 13, 14, 22, 37, 38, 35, 36] [0, 1, 2, 3, 4, 5, 6, 7, 8, 9, 10, 11, 12, 13, 14, 22, 37, 38, 35, 36] (XW s m k hi us dr od py ++ rest) wc))) rfl rfl (fun v u' hv hk => by
    show kk (some (unrv _ v)) _
    rw [hv.1, putw_rl (n := 43) (by decide) rfl rfl]
    rw [XW, ← fD_un [0, 1, 2, 3, 4, 5, 6, 7, 8, 9, 10, 11, 12, 13, 14, 22, 37, 38, 35, 36]] at hk
    exact hk)
  rw [← ha.1 [0, 1, 2, 3, 4, 5, 6, 7, 8, 9, 10, 11, 12, 13, 14, 22, 37, 38, 35, 36]] at hh
  exact hh
theorem eT (d e : Nat) (hd : d < 8) (he : e < 8) (hne : ¬ d = e) (ha : La as) (h : ∀ (r2 r4 r5 : sv) (f : Nat → Option Nat) (K : Option sv → List sc → Prop), f d = some 16 → f e = some 18 → (∀ v u', Lv v → kk (some v) (XW s m k hi (upU us e u') dr od py ++ rest) → K (some v) (xS2 r2 r4 r5 hi s m f (us d) u')) → F (sR 0 :: as) (xS2 r2 r4 r5 hi s m f (us d) (us e)) K) : cE (some 3) F (sR 0 :: as) (XW s m k hi us dr od py ++ rest) kk := by
  match d, hd, e, he, hne, h with
  | 0, _, 0, _, hne, h => exact absurd rfl hne
  | 0, _, 1, _, hne, h => exact eT01 ha h
  | 0, _, 2, _, hne, h => exact eT02 ha h
  | 0, _, 3, _, hne, h => exact eT03 ha h
  | 0, _, 4, _, hne, h => exact eT04 ha h
  | 0, _, 5, _, hne, h => exact eT05 ha h
  | 0, _, 6, _, hne, h => exact eT06 ha h
  | 0, _, 7, _, hne, h => exact eT07 ha h
  | 1, _, 0, _, hne, h => exact eT10 ha h
  | 1, _, 1, _, hne, h => exact absurd rfl hne
  | 1, _, 2, _, hne, h => exact eT12 ha h
  | 1, _, 3, _, hne, h => exact eT13 ha h
  | 1, _, 4, _, hne, h => exact eT14 ha h
  | 1, _, 5, _, hne, h => exact eT15 ha h
  | 1, _, 6, _, hne, h => exact eT16 ha h
  | 1, _, 7, _, hne, h => exact eT17 ha h
  | 2, _, 0, _, hne, h => exact eT20 ha h
  | 2, _, 1, _, hne, h => exact eT21 ha h
  | 2, _, 2, _, hne, h => exact absurd rfl hne
  | 2, _, 3, _, hne, h => exact eT23 ha h
  | 2, _, 4, _, hne, h => exact eT24 ha h
  | 2, _, 5, _, hne, h => exact eT25 ha h
  | 2, _, 6, _, hne, h => exact eT26 ha h
  | 2, _, 7, _, hne, h => exact eT27 ha h
  | 3, _, 0, _, hne, h => exact eT30 ha h
  | 3, _, 1, _, hne, h => exact eT31 ha h
  | 3, _, 2, _, hne, h => exact eT32 ha h
  | 3, _, 3, _, hne, h => exact absurd rfl hne
  | 3, _, 4, _, hne, h => exact eT34 ha h
  | 3, _, 5, _, hne, h => exact eT35 ha h
  | 3, _, 6, _, hne, h => exact eT36 ha h
  | 3, _, 7, _, hne, h => exact eT37 ha h
  | 4, _, 0, _, hne, h => exact eT40 ha h
  | 4, _, 1, _, hne, h => exact eT41 ha h
  | 4, _, 2, _, hne, h => exact eT42 ha h
  | 4, _, 3, _, hne, h => exact eT43 ha h
  | 4, _, 4, _, hne, h => exact absurd rfl hne
  | 4, _, 5, _, hne, h => exact eT45 ha h
  | 4, _, 6, _, hne, h => exact eT46 ha h
  | 4, _, 7, _, hne, h => exact eT47 ha h
  | 5, _, 0, _, hne, h => exact eT50 ha h
  | 5, _, 1, _, hne, h => exact eT51 ha h
  | 5, _, 2, _, hne, h => exact eT52 ha h
  | 5, _, 3, _, hne, h => exact eT53 ha h
  | 5, _, 4, _, hne, h => exact eT54 ha h
  | 5, _, 5, _, hne, h => exact absurd rfl hne
  | 5, _, 6, _, hne, h => exact eT56 ha h
  | 5, _, 7, _, hne, h => exact eT57 ha h
  | 6, _, 0, _, hne, h => exact eT60 ha h
  | 6, _, 1, _, hne, h => exact eT61 ha h
  | 6, _, 2, _, hne, h => exact eT62 ha h
  | 6, _, 3, _, hne, h => exact eT63 ha h
  | 6, _, 4, _, hne, h => exact eT64 ha h
  | 6, _, 5, _, hne, h => exact eT65 ha h
  | 6, _, 6, _, hne, h => exact absurd rfl hne
  | 6, _, 7, _, hne, h => exact eT67 ha h
  | 7, _, 0, _, hne, h => exact eT70 ha h
  | 7, _, 1, _, hne, h => exact eT71 ha h
  | 7, _, 2, _, hne, h => exact eT72 ha h
  | 7, _, 3, _, hne, h => exact eT73 ha h
  | 7, _, 4, _, hne, h => exact eT74 ha h
  | 7, _, 5, _, hne, h => exact eT75 ha h
  | 7, _, 6, _, hne, h => exact eT76 ha h
  | 7, _, 7, _, hne, h => exact absurd rfl hne
end EL
