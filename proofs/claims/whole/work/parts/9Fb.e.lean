/-! ===== the law's calls on the class: which part of its world ===== -/
def Lv (v : sv) : Prop := (∀ is, unrv is v = v) ∧ ∀ n, shv n v = v
def La (as : List sv) : Prop := (∀ is, as.map (renv is) = as) ∧ ∀ n, as.map (shv n) = as
section EL
variable {F : Fn} {as : List sv} {s m k : InnS} {hi : Int32} {us : Nat → ShS} {dr od py : PA} {rest : List sc} {kk : Option sv → List sc → Prop}
set_option maxRecDepth 20000 in
theorem e1 (ha : La as) (h : ∀ (r1 r2 r3 r4 r5 : sv) (K : Option sv → List sc → Prop), (∀ v s', Lv v → kk (some v) (XW s' m k hi us dr od py ++ rest) → K (some v) (x1W r1 r2 r3 r4 r5 hi s')) → F (sR 0 :: as) (x1W r1 r2 r3 r4 r5 hi s) K) : cE (some 3) F (sR 0 :: as) (XW s m k hi us dr od py ++ rest) kk := by
  refine ⟨[0, 1, 2, 3, 4, 5, 6, 7], by decide, ?_⟩
  have hh := h (sR 16) (sR 23) (sR 30) (sR 47) (sR 50) (fun r wc => ck (Nat.beq 8 wc.length) (kk (r.map (unrv [0, 1, 2, 3, 4, 5, 6, 7])) (putw [0, 1, 2, 3, 4, 5, 6, 7] [0, 1, 2, 3, 4, 5, 6, 7] (XW s m k hi us dr od py ++ rest) wc))) (fun v s' hv hk => by
    show kk (some (unrv _ v)) _
    rw [hv.1]; exact hk)
  rw [← ha.1 [0, 1, 2, 3, 4, 5, 6, 7]] at hh
  exact hh
end EL
