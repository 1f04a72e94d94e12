/-! ===== the law's loop ===== -/
def csH : List Nat := [208, 233, 270, 295, 332, 369, 406, 443, 468, 517, 554, 591, 616, 641, 678, 727, 752, 789, 814, 839, 864, 913, 950, 999, 1073, 1099, 1124, 1149, 1198, 1211, 1224, 1249, 1310, 1359, 1408, 1475, 1548, 1573]
def T5 : List Bool := [true, true, true, true, true]
def cutH (P : List (Option sv) → List sv → List sc → Nat → Nat → Prop) : Cut := fun z => cond (List.elem z (1598 :: 1604 :: csH)) (some (T5, P)) none
def cutI (P : List (Option sv) → List sv → List sc → Nat → Nat → Prop) : Cut := fun z => cond (Nat.beq z 23) (some (T5, P)) none
theorem hd_le {j L : Nat} (hj : j ≤ 4000) (hL : L ≤ 3072) (h : ¬ nI j > Int32.ofNat L - 6) : j + 6 ≤ L := by
  have h1 := Int32.not_lt.mp h
  rw [Int32.le_iff_toInt_le, Int32.toInt_sub, show (Int32.ofNat L).toInt = (L : Int) from nI_toInt (by omega), show (nI j).toInt = (j : Int) from nI_toInt (by omega), show (6 : Int32).toInt = 6 from rfl] at h1
  rw [Int.bmod_eq_of_le (by omega) (by omega)] at h1
  omega
theorem hd_gt {j L : Nat} (hj : j ≤ 4000) (hL : L ≤ 3072) (h : nI j > Int32.ofNat L - 6) : ¬ j + 6 ≤ L := by
  have h1 : Int32.ofNat L - 6 < nI j := h
  rw [Int32.lt_iff_toInt_lt, Int32.toInt_sub, show (Int32.ofNat L).toInt = (L : Int) from nI_toInt (by omega), show (nI j).toInt = (j : Int) from nI_toInt (by omega), show (6 : Int32).toInt = 6 from rfl] at h1
  rw [Int.bmod_eq_of_le (by omega) (by omega)] at h1
  omega
section LAWZ
variable {p : Program} {l : Launch} {e : Env} {s : State} {m : MethodId} {args : Array Value} {below : List Frame} {meth : Method} {c : Code} {D : va_G} {σ0 : Nat → Nat} {cA : Nat → ClassId} {A : Nat → Prop} {Q : State → Prop} {L : Nat} {xs : Nat → Int32}
/-- what stays through the law -/
def LX (p : Program) (s : State) (m : MethodId) (args : Array Value) (meth : Method) (c : Code) (D : va_G) (σ0 : Nat → Nat) (cA : Nat → ClassId) (A : Nat → Prop) (L : Nat) (xs : Nat → Int32) : Prop := Cx p s m args meth c D cA cL_law 8 ret RL ∧ NW s ∧ EX s ∧ (∀ q, s.heap.size ≤ q → A q) ∧ (va_X (σ0 1000) L xs s s.heap ∧ σ0 1000 < s.heap.size ∧ ¬ A (σ0 1000)) ∧ L ≤ 3072
theorem fdo_n : fdo RL no3 := fun _ _ _ _ h => by cases h
theorem cdo_n : cdo RL noI noL := ⟨fun _ _ h => by cases h, fun _ _ h => by cases h⟩
theorem nwo_n : nwo RL nw0 := fun _ _ _ _ h => by cases h
end LAWZ
