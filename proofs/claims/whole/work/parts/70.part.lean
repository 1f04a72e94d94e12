/-! ===== fractions ===== -/
def EU (x y j : Nat) : Prop := j = 0 ∨ (y < x ∧ x * y * 2 ^ (j - 1) < 2 ^ 62)
theorem eu_j {x y j : Nat} (h : EU x y j) (hy : 0 < y) : j < 1000 := by
  rcases h with h | ⟨h1, h2⟩
  · omega
  · have h3 : 0 < x * y := Nat.mul_pos (by omega) hy
    have h4 : 2 ^ (j - 1) ≤ x * y * 2 ^ (j - 1) := Nat.le_mul_of_pos_left _ h3
    have h5 : 2 ^ (j - 1) < 2 ^ 62 := Nat.lt_of_le_of_lt h4 h2
    have h6 := (Nat.pow_lt_pow_iff_right (by decide : 1 < 2)).mp h5
    omega
theorem eu_s {x y j : Nat} (h : EU x y j) (hy : 0 < y) (hx2 : x < 2 ^ 31) (hy2 : y < 2 ^ 31) : EU y (x % y) (j + 1) := by
  have hm := Nat.mod_lt x hy
  refine Or.inr ⟨hm, ?_⟩
  rw [Nat.add_sub_cancel]
  rcases h with h | ⟨h1, h2⟩
  · rw [h, Nat.pow_zero, Nat.mul_one]
    have : y * (x % y) < 2 ^ 31 * 2 ^ 31 := Nat.mul_lt_mul'' hy2 (by omega)
    exact this
  · have h3 : 2 * (x % y) ≤ x := by
      have e := Nat.div_add_mod x y
      have h4 : 1 ≤ x / y := Nat.div_pos (by omega) hy
      have h5 : y * 1 ≤ y * (x / y) := Nat.mul_le_mul_left y h4
      omega
    cases j with
    | zero => simp at h2 ⊢; exact Nat.lt_of_le_of_lt (by rw [Nat.mul_comm x y]; exact Nat.mul_le_mul_left y (by omega)) h2
    | succ j =>
      rw [Nat.add_sub_cancel] at h2
      rw [Nat.pow_succ, show y * (x % y) * (2 ^ j * 2) = y * (2 * (x % y)) * 2 ^ j by rw [Nat.mul_comm (2 ^ j) 2, ← Nat.mul_assoc, Nat.mul_assoc y, Nat.mul_comm (x % y) 2]]
      refine Nat.lt_of_le_of_lt (Nat.mul_le_mul_right _ ?_) h2
      rw [Nat.mul_comm x y]
      exact Nat.mul_le_mul_left y h3
theorem gcd_s (x y : Nat) : Nat.gcd y (x % y) = Nat.gcd x y := by
  rw [Nat.gcd_comm y (x % y), ← Nat.gcd_rec y x, Nat.gcd_comm]
theorem l0_ {y : Nat} (hy : y < 2 ^ 31) : lg_cmp (lN y) 0 = 0 ↔ y = 0 := (lg_eq _ _).trans (lN_eq (b := 0) hy (by decide))
theorem l0_ne {y : Nat} (hy : y < 2 ^ 31) (h : 0 < y) : ¬ lN y = 0 := fun z => by
  have := (lN_eq (b := 0) hy (by decide)).mp z
  omega
theorem lrem_ {x y : Nat} (hx : x < 2 ^ 31) (h0 : 0 < y) (hy : y < 2 ^ 31) : jremL (lN x) (lN y) = lN (x % y) := pk_lRem (by omega) h0 (by omega)
def F_X5_sharedDivisor : Fn := fun as w K => ∃ a b : Nat, as = [sL (lN a), sL (lN b)] ∧ a < 2 ^ 31 ∧ b < 2 ^ 31 ∧ K (some (.inr (.inl (lN (Nat.gcd a b))))) w
def ctb_X5_sharedDivisor : List (Nat × (List sv → List sc → (List sv → List sc → Prop) → Prop)) := []
theorem cok_X5_sharedDivisor : CallOK cX5_sharedDivisor 11 (some .long) RX5 1 ctb_X5_sharedDivisor := CallOK_nil
theorem ct_X5_sharedDivisor : Ct yX5_sharedDivisor cX5_sharedDivisor 11 (some .long) 1 F_X5_sharedDivisor := by
  intro l D σ cA sz as w K h
  obtain ⟨a, b, rfl, ha, hb, h⟩ := h
  refine metL (pr := lkB pX5_sharedDivisor) (rk := 3) (ct := ctb_X5_sharedDivisor) (fld := lkB flX5) (cst := lkB csX5) (cstL := lkB clX5) [(9, ([false, false, false, false, true, false, true, false, true], fun n lv st w' => ∃ x y j, j ≤ 1000 ∧ n = 1000 - j ∧ x < 2 ^ 31 ∧ y < 2 ^ 31 ∧ Nat.gcd x y = Nat.gcd a b ∧ EU x y j ∧ lv = [none, none, none, none, some (sL (lN x)), none, some (sL (lN y)), none, some (sI (nI j))] ∧ st = [] ∧ w' = w))] pX5_sharedDivisor_ok kX5_sharedDivisor.2.2.2.2.2 fdX5 cdX5 rto3 cok_X5_sharedDivisor (Nat.le_of_ble_eq_true rfl) ?_ ?_ l D σ cA sz
  · refine List.forall_mem_cons.mpr ⟨?_, cut0⟩
    rintro n lv st w' ⟨x, y, j, hj, rfl, hx, hy, hg, hE, rfl, rfl, rfl⟩
    have fin : y = 0 → K (some (.inr (.inl (lN x)))) w' := fun z => by
      rw [z, Nat.gcd_zero_right] at hg
      rw [hg]; exact h
    conv => whnf
    refine ⟨fun hc => ?_, fun hc => ?_⟩
    · have ej : j = 1000 := lp_ge (M := 1000) hj (by decide) hc
      conv => whnf
      refine fin (Nat.eq_zero_of_not_pos (fun z => ?_))
      have := eu_j hE z
      omega
    have hlt : j < 1000 := lp_lt (M := 1000) hj (by decide) hc
    conv => whnf
    refine ⟨fun h1 => ?_, fun h1 => ?_⟩
    · conv => whnf
      exact fin ((l0_ hy).mp h1)
    have hy0 : 0 < y := Nat.pos_of_ne_zero (fun z => h1 ((l0_ hy).mpr z))
    conv => whnf
    refine ⟨l0_ne hy hy0, ?_⟩
    rw [lrem_ hx hy0 hy]
    have hm := Nat.mod_lt x hy0
    conv => whnf
    exact ⟨1000 - (j + 1), by omega, y, x % y, j + 1, hlt, rfl, hy, by omega, by rw [gcd_s]; exact hg, eu_s hE hy0 hx hy, by rw [← nI_1]; rfl, rfl, rfl⟩
  · skip
    repeat' ((conv => whnf); (first | refine And.intro (by first | decide | with_reducible assumption) ?_ | with_reducible refine And.intro (fun hc => ?_) (fun hc => ?_) | with_reducible refine And.intro (fun hc => ?_) ?_ | fail))
    all_goals try (conv => whnf)
    exact ⟨1000, a, b, 0, by decide, rfl, ha, hb, rfl, Or.inl rfl, rfl, rfl, rfl⟩
def F_X6_divisor : Fn := fun as w K => ∃ a b : Nat, as = [sL (lN a), sL (lN b)] ∧ a < 2 ^ 31 ∧ b < 2 ^ 31 ∧ K (some (.inr (.inl (lN (Nat.gcd a b))))) w
def ctb_X6_divisor : List (Nat × (List sv → List sc → (List sv → List sc → Prop) → Prop)) := []
theorem cok_X6_divisor : CallOK cX6_divisor 10 (some .long) RX6 1 ctb_X6_divisor := CallOK_nil
theorem ct_X6_divisor : Ct yX6_divisor cX6_divisor 10 (some .long) 1 F_X6_divisor := by
  intro l D σ cA sz as w K h
  obtain ⟨a, b, rfl, ha, hb, h⟩ := h
  refine metL (pr := lkB pX6_divisor) (rk := 3) (ct := ctb_X6_divisor) (fld := lkB flX6) (cst := lkB csX6) (cstL := lkB clX6) [(6, ([false, false, false, false, true, false, true, false], fun n lv st w' => ∃ x y, n = y ∧ x < 2 ^ 31 ∧ y < 2 ^ 31 ∧ Nat.gcd x y = Nat.gcd a b ∧ lv = [none, none, none, none, some (sL (lN x)), none, some (sL (lN y)), none] ∧ st = [] ∧ w' = w))] pX6_divisor_ok kX6_divisor.2.2.2.2.2 fdX6 cdX6 rto3 cok_X6_divisor (Nat.le_of_ble_eq_true rfl) ?_ ?_ l D σ cA sz
  · refine List.forall_mem_cons.mpr ⟨?_, cut0⟩
    rintro n lv st w' ⟨x, y, rfl, hx, hy, hg, rfl, rfl, rfl⟩
    conv => whnf
    refine ⟨fun h1 => ?_, fun h1 => ?_⟩
    · have z := (l0_ hy).mp h1
      conv => whnf
      rw [z, Nat.gcd_zero_right] at hg
      rw [hg]; exact h
    have hy0 : 0 < n := Nat.pos_of_ne_zero (fun z => h1 ((l0_ hy).mpr z))
    conv => whnf
    refine ⟨l0_ne hy hy0, ?_⟩
    rw [lrem_ hx hy0 hy]
    have hm := Nat.mod_lt x hy0
    conv => whnf
    exact ⟨x % n, hm, n, x % n, rfl, hy, by omega, by rw [gcd_s]; exact hg, rfl, rfl, rfl⟩
  · skip
    repeat' ((conv => whnf); (first | refine And.intro (by first | decide | with_reducible assumption) ?_ | with_reducible refine And.intro (fun hc => ?_) (fun hc => ?_) | with_reducible refine And.intro (fun hc => ?_) ?_ | fail))
    all_goals try (conv => whnf)
    exact ⟨b, a, b, rfl, ha, hb, rfl, rfl, rfl, rfl⟩
def pfN (a b : Nat) (part : Int32) : Nat := if a = 0 then (if part = 0 then 0 else 1) else if part = 0 then a / Nat.gcd a b else b / Nat.gcd a b
theorem gcd_lt {a b : Nat} (ha : a < 2 ^ 31) (hb : b < 2 ^ 31) : Nat.gcd a b < 2 ^ 31 := by
  rcases Nat.eq_zero_or_pos a with z | z
  · rw [z, Nat.gcd_zero_left]; exact hb
  · exact Nat.lt_of_le_of_lt (Nat.le_of_dvd z (Nat.gcd_dvd_left a b)) ha
theorem lg_le0 {y : Nat} (hy : y < 2 ^ 31) : lg_cmp (lN y) 0 ≤ 0 ↔ y = 0 := by
  have h1 : 0 < lg_cmp (lN y) 0 ↔ 0 < y := (lg_gt _ _).trans (lN_lt (a := 0) (by decide) hy)
  rw [← Int32.not_lt, h1]
  omega
theorem lg_gt0 {y : Nat} (hy : y < 2 ^ 31) : 0 < lg_cmp (lN y) 0 ↔ 0 < y := (lg_gt _ _).trans (lN_lt (a := 0) (by decide) hy)
theorem ldiv_ {x y : Nat} (hx : x < 2 ^ 31) (h0 : 0 < y) (hy : y < 2 ^ 31) : lN x / lN y = lN (x / y) := pk_lDiv (by omega) h0 (by omega)
def F_X5_partOf : Fn := fun as w K => ∃ (a b : Nat) (part : Int32), as = [sL (lN a), sL (lN b), sI part] ∧ a < 2 ^ 31 ∧ b < 2 ^ 31 ∧ (0 < a → 0 < b) ∧ (part = 0 ∨ part = 1) ∧ K (some (.inr (.inl (lN (pfN a b part))))) w
def ctb_X5_partOf : List (Nat × (List sv → List sc → (List sv → List sc → Prop) → Prop)) := [(2, cS none 2 F_X5_sharedDivisor)]
theorem cok_X5_partOf : CallOK cX5_partOf 7 (some .long) RX5 2 ctb_X5_partOf := CallOK_cons (site_same (rnS (pX5_partOf_ok 2 _ rfl) ct_X5_sharedDivisor kX5_sharedDivisor lRX5_313 (by decide))) (CallOK_nil)
theorem ct_X5_partOf : Ct yX5_partOf cX5_partOf 7 (some .long) 2 F_X5_partOf := by
  intro l D σ cA sz as w K h
  obtain ⟨a, b, part, rfl, ha, hb, hab, hp, h⟩ := h
  have hgl := gcd_lt ha hb
  refine metL (pr := lkB pX5_partOf) (rk := 3) (ct := ctb_X5_partOf) (fld := lkB flX5) (cst := lkB csX5) (cstL := lkB clX5) [] pX5_partOf_ok kX5_partOf.2.2.2.2.2 fdX5 cdX5 rto3 cok_X5_partOf (Nat.le_of_ble_eq_true rfl) cut0 ?_ l D σ cA sz
  conv => whnf
  refine ⟨a, b, rfl, ha, hb, ?_⟩
  conv => whnf
  refine ⟨fun h1 => ?_, fun h1 => ?_⟩
  · have h1 := (lg_le0 hgl).mp h1
    have hz := Nat.eq_zero_of_gcd_eq_zero_left h1
    conv => whnf
    refine ⟨fun h2 => ?_, fun h2 => ?_⟩
    · conv => whnf
      exact kL h (by unfold pfN; rw [if_pos hz, if_neg h2]; rfl)
    · conv => whnf
      exact kL h (by unfold pfN; rw [if_pos hz, if_pos h2]; rfl)
  have hg0 : 0 < Nat.gcd a b := Nat.pos_of_ne_zero (fun z => h1 ((lg_le0 hgl).mpr z))
  conv => whnf
  refine ⟨fun h1 => ?_, fun h1 => ?_⟩
  · have hb0 := (lg_gt0 hb).mp h1
    conv => whnf
    refine ⟨fun h2 => ?_, fun h2 => ?_⟩
    · conv => whnf
      refine ⟨l0_ne hgl hg0, ?_⟩
      rw [ldiv_ hb hg0 hgl]
      conv => whnf
      refine kL h ?_
      unfold pfN
      by_cases hz : a = 0
      · rw [if_pos hz, if_neg h2, hz, Nat.gcd_zero_left, Nat.div_self hb0]
      · rw [if_neg hz, if_neg h2]
    · conv => whnf
      refine ⟨l0_ne hgl hg0, ?_⟩
      rw [ldiv_ ha hg0 hgl]
      conv => whnf
      refine kL h ?_
      unfold pfN
      by_cases hz : a = 0
      · rw [if_pos hz, if_pos h2, hz, Nat.zero_div]
      · rw [if_neg hz, if_pos h2]
  · have hb0 : b = 0 := Nat.eq_zero_of_not_pos (fun z => h1 ((lg_gt0 hb).mpr z))
    have hz : a = 0 := Nat.eq_zero_of_not_pos (fun z => by have := hab z; omega)
    rw [hz, hb0] at hg0
    exact absurd hg0 (by decide)
def F_X6_partOf : Fn := fun as w K => ∃ (a b : Nat) (part : Int32), as = [sL (lN a), sL (lN b), sI part] ∧ a < 2 ^ 31 ∧ b < 2 ^ 31 ∧ (0 < a → 0 < b) ∧ (part = 0 ∨ part = 1) ∧ K (some (.inr (.inl (lN (pfN a b part))))) w
def ctb_X6_partOf : List (Nat × (List sv → List sc → (List sv → List sc → Prop) → Prop)) := [(12, cS none 2 F_X6_divisor)]
theorem cok_X6_partOf : CallOK cX6_partOf 7 (some .long) RX6 2 ctb_X6_partOf := CallOK_cons (site_same (rnS (pX6_partOf_ok 12 _ rfl) ct_X6_divisor kX6_divisor lRX6_295 (by decide))) (CallOK_nil)
theorem ct_X6_partOf : Ct yX6_partOf cX6_partOf 7 (some .long) 2 F_X6_partOf := by
  intro l D σ cA sz as w K h
  obtain ⟨a, b, part, rfl, ha, hb, hab, hp, h⟩ := h
  have hgl := gcd_lt ha hb
  refine metL (pr := lkB pX6_partOf) (rk := 3) (ct := ctb_X6_partOf) (fld := lkB flX6) (cst := lkB csX6) (cstL := lkB clX6) [] pX6_partOf_ok kX6_partOf.2.2.2.2.2 fdX6 cdX6 rto3 cok_X6_partOf (Nat.le_of_ble_eq_true rfl) cut0 ?_ l D σ cA sz
  conv => whnf
  refine ⟨fun h1 => ?_, fun h1 => ?_⟩
  · have hz : ¬ a = 0 := fun z => h1 ((l0_ ha).mpr z)
    have hg0 : 0 < Nat.gcd a b := Nat.gcd_pos_of_pos_left b (by omega)
    conv => whnf
    refine ⟨a, b, rfl, ha, hb, ?_⟩
    conv => whnf
    refine ⟨fun h2 => ?_, fun h2 => ?_⟩
    · conv => whnf
      refine ⟨l0_ne hgl hg0, ?_⟩
      rw [ldiv_ hb hg0 hgl]
      conv => whnf
      exact kL h (by unfold pfN; rw [if_neg hz, if_neg h2])
    · conv => whnf
      refine ⟨l0_ne hgl hg0, ?_⟩
      rw [ldiv_ ha hg0 hgl]
      conv => whnf
      exact kL h (by unfold pfN; rw [if_neg hz, if_pos h2])
  · have hz := (l0_ ha).mp h1
    conv => whnf
    refine kL h ?_
    unfold pfN
    rw [if_pos hz]
    rcases hp with e | e
    · rw [if_pos e, e]; decide
    · rw [if_neg (by rw [e]; decide), e]; decide
def F_X5_refusedLong : Fn := fun as w K => as = [sI (-1)] ∧ K (some (.inr (.inl (1000000001)))) w
def ctb_X5_refusedLong : List (Nat × (List sv → List sc → (List sv → List sc → Prop) → Prop)) := []
theorem cok_X5_refusedLong : CallOK cX5_refusedLong 1 (some .long) RX5 1 ctb_X5_refusedLong := CallOK_nil
theorem ct_X5_refusedLong : Ct yX5_refusedLong cX5_refusedLong 1 (some .long) 1 F_X5_refusedLong := by
  intro l D σ cA sz as w K h
  obtain ⟨rfl, h⟩ := h
  refine metL (pr := lkB pX5_refusedLong) (rk := 3) (ct := ctb_X5_refusedLong) (fld := lkB flX5) (cst := lkB csX5) (cstL := lkB clX5) [] pX5_refusedLong_ok kX5_refusedLong.2.2.2.2.2 fdX5 cdX5 rto3 cok_X5_refusedLong (Nat.le_of_ble_eq_true rfl) cut0 ?_ l D σ cA sz
  conv => whnf
  exact kL h (by decide)
