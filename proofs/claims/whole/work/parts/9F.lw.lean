/-! ===== the law's world, what holds at its loop ===== -/
def shc1 (u : ShS) (n : Nat) : List sc := [oC 2 [sI (uO u), sI (uK u), sI (uF u), sI (uS u), sI (uM u), sR (n + 1)], aI 100 (uC u)]
def shL (us : Nat → ShS) : List sc := shc1 (us 0) 23 ++ (shc1 (us 1) 25 ++ (shc1 (us 2) 27 ++ (shc1 (us 3) 29 ++ (shc1 (us 4) 31 ++ (shc1 (us 5) 33 ++ (shc1 (us 6) 35 ++ shc1 (us 7) 37))))))
def XW (s m k : InnS) (hi : Int32) (us : Nat → ShS) (dr od py : PA) : List sc := oC 3 [sR 1, sR 8, sR 15, sI hi, sR 22, sR 39, sR 42] :: (innAt 1 s ++ (innAt 8 m ++ (innAt 15 k ++ (aR 8 (fD 8) :: (shL us ++ [oC 1 [sR 40, sR 41], aI 7 dr, aI 7 od, aI 8 py])))))
def LWd (s m k : InnS) (hi : Int32) (us : Nat → ShS) (dr od py : PA) (r : InnS) (q : Pm) (t : Tm) (ou : Nat → Int64) : List sc := XW s m k hi us dr od py ++ ((modW r q t).map (shc 43) ++ [aL 1 ou])
def LI (s m k : InnS) (hi : Int32) (us : Nat → ShS) (r : InnS) (q : Pm) (t : Tm) : Prop := IQ s ∧ ZB m ∧ ZB k ∧ (∃ a b, r = snS s a b) ∧ TZ t ∧ SQ q us ∧ hi = qB q ∧ (¬ hi = 0 → IQ k ∧ ∀ p, p < 50 → qI q p = enc k p)
def lvJ (j : Nat) : List (Option sv) := [some (sR 1000), some (sR 0), some (sR 43), some (sR 65), some (sI (nI j))]
def C98 (j c0 s0 : Nat) : List (Option sv) → List sv → List sc → Nat → Nat → Prop := fun lv st w cl sl => ∃ (s m k : InnS) (hi : Int32) (us : Nat → ShS) (dr od py : PA) (r : InnS) (q : Pm) (t : Tm) (ou : Nat → Int64), LI s m k hi us r q t ∧ lv = lvJ j ∧ st = [] ∧ w = LWd s m k hi us dr od py r q t ou ∧ cl ≤ c0 + 1 ∧ sl ≤ s0 + 6
def cutL (j c0 s0 : Nat) : Cut := fun z => cond (Nat.beq z 1598) (some ([true, true, true, true, true], C98 j c0 s0)) none
def no3 : Ft := fun _ => none
def noI : Nat → Option Int32 := fun _ => none
def noL : Nat → Option Int64 := fun _ => none
/-- a case of the law: from its place to the loop's end -/
def LCase (pr : List (Nat × (Instr × Nat × Nat × Int32))) (ct : Tz) (pc : Nat) : Prop := ∀ (j L c0 s0 : Nat) (xs : Nat → Int32) (s m k : InnS) (hi : Int32) (us : Nat → ShS) (dr od py : PA) (r : InnS) (q : Pm) (t : Tm) (ou : Nat → Int64), j + 6 ≤ L → L ≤ 3072 → c0 + 1 ≤ 601024 → s0 + 6 ≤ 7293034 → LI s m k hi us r q t → wpz (lkB pr) 8 none none 0 601024 7293034 nw0 no3 noI noL (ctabz ct) (some (L, xs)) (cutL j c0 s0) 400 pc (lvJ j) [] (LWd s m k hi us dr od py r q t ou) c0 s0
theorem vin {j L m : Nat} (h : j + 6 ≤ L) (hL : L ≤ 3072) (hm : m < 6) : vp_in (nI j + nI m) L := by
  rw [nI_add]
  exact vp_in_nI (by omega) (by omega)
theorem C98_i {j c0 s0 : Nat} {s m k : InnS} {hi : Int32} {us : Nat → ShS} {dr od py : PA} {r : InnS} {q : Pm} {t : Tm} {ou : Nat → Int64} {cl sl : Nat} (h : LI s m k hi us r q t) (h1 : cl ≤ c0 + 1) (h2 : sl ≤ s0 + 6) : C98 j c0 s0 (lvJ j) [] (LWd s m k hi us dr od py r q t ou) cl sl := ⟨s, m, k, hi, us, dr, od, py, r, q, t, ou, h, rfl, rfl, rfl, h1, h2⟩
