/-! ===== the inn, as numbers ===== -/
abbrev PA : Type := Nat → Int32
def heldI (v hi : Int32) : Int32 := if v < 0 then 0 else if hi < v then hi else v
def cookD (f w n : Int32) : Int32 := if jrem n (f + 2) = 0 then w else -4
def dreamK (k f w la n : Int32) : Int32 :=
  if k = 1 then 1 else if k = 2 then jrem (w + n) 10 else if k = 3 then cookD f w n else if k = 4 then 0 else if k = 5 then jrem (la + 1 + f) 10 else if k = 6 then 9 else if k = 7 then (if jrem n 2 = 0 then la else cookD f w n) else w
def eatsK (k : Int32) : Int32 := if k = 2 ∨ k = 7 then 2 else 1
def gainK (k f p la : Int32) : Int32 :=
  if k = 1 then 1 else if k = 4 then 1 else if k = 2 then p / 2 else if k = 3 then 9 - p else if k = 5 then p / 2 - 3 else if k = 6 then f else if k = 7 then heldI (8 - p) 9 else (if p = la then 0 else 2)
def costK (k f : Int32) : Int32 :=
  if k = 1 then 1 else if k = 2 then 3 + f else if k = 3 then 6 else if k = 5 then (3 + f) / 2 else if k = 7 then heldI (6 - f) 6 else if k = 0 then 3 else 0
/-! plain numbers' contracts -/
def F_X5_within : Fn := fun as w K => match as with
  | [.inl v, .inl lo, .inl hi] => K (some (.inl (bp (lo ≤ v ∧ v ≤ hi)))) w
  | _ => False
def ctb_X5_within : List (Nat × (List sv → List sc → (List sv → List sc → Prop) → Prop)) := []
theorem cok_X5_within : CallOK cX5_within 3 (some .boolean) RX5 1 ctb_X5_within := CallOK_nil
theorem ct_X5_within : Ct yX5_within cX5_within 3 (some .boolean) 1 F_X5_within := by
  intro l D σ cA sz as w K h
  unfold F_X5_within at h
  split at h
  · rename_i v lo hi
    refine metL (pr := lkB pX5_within) (rk := 2) (ct := ctb_X5_within) (fld := lkB flX5) (cst := lkB csX5) (cstL := lkB clX5) [] pX5_within_ok kX5_within.2.2.2.2.2 fdX5 cdX5 rto2 cok_X5_within (Nat.le_of_ble_eq_true rfl) cut0 ?_ l D σ cA sz
    conv => whnf
    refine ⟨fun h1 => ?_, fun h1 => ?_⟩
    · conv => whnf
      exact kB0 h (fun q => absurd h1 (Int32.not_lt.mpr q.1))
    · conv => whnf
      refine ⟨fun h2 => ?_, fun h2 => ?_⟩
      · conv => whnf
        exact kB0 h (fun q => absurd h2 (Int32.not_lt.mpr q.2))
      · conv => whnf
        exact kB h ⟨Int32.not_lt.mp h1, Int32.not_lt.mp h2⟩
  · exact h.elim
def F_X1_eats : Fn := fun as w K => match as with
  | [.inl k] => K (some (.inl (eatsK k))) w
  | _ => False
def ctb_X1_eats : List (Nat × (List sv → List sc → (List sv → List sc → Prop) → Prop)) := []
theorem cok_X1_eats : CallOK cX1_eats 1 (some .int) RX1 1 ctb_X1_eats := CallOK_nil
theorem ct_X1_eats : Ct yX1_eats cX1_eats 1 (some .int) 1 F_X1_eats := by
  intro l D σ cA sz as w K h
  unfold F_X1_eats at h
  split at h
  · rename_i k
    refine metL (pr := lkB pX1_eats) (rk := 1) (ct := ctb_X1_eats) (fld := lkB flX1) (cst := lkB csX1) (cstL := lkB clX1) [] pX1_eats_ok kX1_eats.2.2.2.2.2 fdX1 cdX1 rto1 cok_X1_eats (Nat.le_of_ble_eq_true rfl) cut0 ?_ l D σ cA sz
    repeat' ((conv => whnf); (first | refine And.intro (by first | decide | with_reducible assumption) ?_ | with_reducible refine And.intro (fun hc => ?_) (fun hc => ?_) | with_reducible refine And.intro (fun hc => ?_) ?_ | fail))
    all_goals try (conv => whnf)
    all_goals exact kI h (by simp_all [eatsK])
  · exact h.elim
def F_X1_cooksDream : Fn := fun as w K => match as with
  | [.inl f, .inl wi, .inl n] => 0 < f + 2 ∧ K (some (.inl (cookD f wi n))) w
  | _ => False
def ctb_X1_cooksDream : List (Nat × (List sv → List sc → (List sv → List sc → Prop) → Prop)) := []
theorem cok_X1_cooksDream : CallOK cX1_cooksDream 4 (some .int) RX1 1 ctb_X1_cooksDream := CallOK_nil
theorem ct_X1_cooksDream : Ct yX1_cooksDream cX1_cooksDream 4 (some .int) 1 F_X1_cooksDream := by
  intro l D σ cA sz as w K h
  unfold F_X1_cooksDream at h
  split at h
  · rename_i f wi n
    obtain ⟨h0, h⟩ := h
    have h1 : ¬ f + 2 = 0 := fun q => by rw [q] at h0; exact absurd h0 (by decide)
    refine metL (pr := lkB pX1_cooksDream) (rk := 1) (ct := ctb_X1_cooksDream) (fld := lkB flX1) (cst := lkB csX1) (cstL := lkB clX1) [] pX1_cooksDream_ok kX1_cooksDream.2.2.2.2.2 fdX1 cdX1 rto1 cok_X1_cooksDream (Nat.le_of_ble_eq_true rfl) cut0 ?_ l D σ cA sz
    repeat' ((conv => whnf); (first | refine And.intro (by first | decide | with_reducible assumption) ?_ | with_reducible refine And.intro (fun hc => ?_) (fun hc => ?_) | with_reducible refine And.intro (fun hc => ?_) ?_ | fail))
    all_goals try (conv => whnf)
    · exact absurd h0 (Int32.not_lt.mpr hc)
    all_goals exact kI h (by simp_all [cookD])
  · exact h.elim
theorem ofI1 : Int32.ofInt 1 = 1 ∧ Int32.ofInt (1 + 1) = 2 ∧ Int32.ofInt (1 + 1 + 1) = 3 ∧ Int32.ofInt (1 + 1 + 1 + 1) = 4 ∧ Int32.ofInt (1 + 1 + 1 + 1 + 1) = 5 ∧ Int32.ofInt (1 + 1 + 1 + 1 + 1 + 1) = 6 ∧ Int32.ofInt (1 + 1 + 1 + 1 + 1 + 1 + 1) = 7 := by decide
theorem out17 {k : Int32} (h : k.toInt < 1 ∨ 7 < k.toInt) : k ≠ 1 ∧ k ≠ 2 ∧ k ≠ 3 ∧ k ≠ 4 ∧ k ≠ 5 ∧ k ≠ 6 ∧ k ≠ 7 := by
  refine ⟨?_, ?_, ?_, ?_, ?_, ?_, ?_⟩ <;> (rintro rfl; revert h; decide)
def F_X1_dream : Fn := fun as w K => match as with
  | [.inl k, .inl f, .inl wi, .inl la, .inl n] => 0 < f + 2 ∧ K (some (.inl (dreamK k f wi la n))) w
  | _ => False
def ctb_X1_dream : List (Nat × (List sv → List sc → (List sv → List sc → Prop) → Prop)) := [(58, cS none 3 F_X1_cooksDream), (91, cS none 3 F_X1_cooksDream)]
theorem cok_X1_dream : CallOK cX1_dream 5 (some .int) RX1 2 ctb_X1_dream := CallOK_cons (site_same (rnS (pX1_dream_ok 58 _ rfl) ct_X1_cooksDream kX1_cooksDream lRX1_15 (by decide))) (CallOK_cons (site_same (rnS (pX1_dream_ok 91 _ rfl) ct_X1_cooksDream kX1_cooksDream lRX1_15 (by decide))) (CallOK_nil))
theorem ct_X1_dream : Ct yX1_dream cX1_dream 5 (some .int) 2 F_X1_dream := by
  intro l D σ cA sz as w K h
  unfold F_X1_dream at h
  split at h
  · rename_i k f wi la n
    obtain ⟨h0, h⟩ := h
    refine metL (pr := lkB pX1_dream) (rk := 1) (ct := ctb_X1_dream) (fld := lkB flX1) (cst := lkB csX1) (cstL := lkB clX1) [] pX1_dream_ok kX1_dream.2.2.2.2.2 fdX1 cdX1 rto1 cok_X1_dream (Nat.le_of_ble_eq_true rfl) cut0 ?_ l D σ cA sz
    repeat' ((conv => whnf); (first | refine And.intro (by first | decide | with_reducible assumption) ?_ | with_reducible refine And.intro (fun hc => ?_) (fun hc => ?_) | with_reducible refine And.intro (fun hc => ?_) ?_ | fail))
    all_goals try (conv => whnf)
    · obtain ⟨a1, a2, a3, a4, a5, a6, a7⟩ := out17 hc
      exact kI h (by simp [dreamK, *])
    all_goals first | trivial | exact kI h (by simp_all [dreamK, ofI1])
  · exact h.elim
/-- a number below n -/
def rng (n : Nat) (x : Int32) : Prop := ∃ j : Nat, j < n ∧ x = nI j
theorem max8 {p : Int32} (h : rng 10 p) : heldI (8 - p) 9 = jmax 0 (8 - p) := by
  obtain ⟨j, hj, rfl⟩ := h
  exact (by decide : ∀ j : Fin 10, heldI (8 - nI j.val) 9 = jmax 0 (8 - nI j.val)) ⟨j, hj⟩
theorem max6 {p : Int32} (h : rng 10 p) : heldI (6 - p) 6 = jmax 0 (6 - p) := by
  obtain ⟨j, hj, rfl⟩ := h
  exact (by decide : ∀ j : Fin 10, heldI (6 - nI j.val) 6 = jmax 0 (6 - nI j.val)) ⟨j, hj⟩
theorem i32_lt (a b : Int32) : a < b ↔ a.toInt < b.toInt := Int32.lt_iff_toInt_lt
theorem i32_le (a b : Int32) : a ≤ b ↔ a.toInt ≤ b.toInt := Int32.le_iff_toInt_le
theorem i32_eq (a b : Int32) : a = b ↔ a.toInt = b.toInt := Int32.toInt_inj.symm
theorem held_mm (v : Int32) : heldI v 99 = jmax 0 (jmin 99 v) := by
  have e0 : (0 : Int32).toInt = 0 := rfl
  have e9 : (99 : Int32).toInt = 99 := rfl
  simp only [heldI, jmax, jmin, i32_lt, e0, e9]
  repeat' split
  all_goals first | rfl | omega | (rw [i32_eq]; omega)
theorem held_m (v : Int32) (h : ¬ v < 0) : heldI v 9999 = jmin 9999 v := by
  have e0 : (0 : Int32).toInt = 0 := rfl
  have e9 : (9999 : Int32).toInt = 9999 := rfl
  simp only [heldI, jmin, i32_lt, e0, e9] at h ⊢
  repeat' split
  all_goals first | rfl | omega | (rw [i32_eq]; omega)
theorem held_m9 (v : Int32) (h : ¬ v < 0) : heldI v 99 = jmin 99 v := by
  have e0 : (0 : Int32).toInt = 0 := rfl
  have e9 : (99 : Int32).toInt = 99 := rfl
  simp only [heldI, jmin, i32_lt, e0, e9] at h ⊢
  repeat' split
  all_goals first | rfl | omega | (rw [i32_eq]; omega)
theorem rng_f2 {f : Int32} (h : rng 10 f) : 0 < f + 2 := by
  obtain ⟨j, hj, rfl⟩ := h
  exact (by decide : ∀ j : Fin 10, 0 < nI j.val + 2) ⟨j, hj⟩
def F_X1_gain : Fn := fun as w K => match as with
  | [.inl k, .inl f, .inl p, .inl la] => rng 10 p ∧ K (some (.inl (gainK k f p la))) w
  | _ => False
def ctb_X1_gain : List (Nat × (List sv → List sc → (List sv → List sc → Prop) → Prop)) := [(68, cMax)]
theorem cok_X1_gain : CallOK cX1_gain 4 (some .int) RX1 1 ctb_X1_gain := CallOK_cons (site_max (pX1_gain_ok 68 _ rfl) lRX1_19 (by decide)) (CallOK_nil)
theorem ct_X1_gain : Ct yX1_gain cX1_gain 4 (some .int) 1 F_X1_gain := by
  intro l D σ cA sz as w K h
  unfold F_X1_gain at h
  split at h
  · rename_i k f p la
    obtain ⟨h0, h⟩ := h
    refine metL (pr := lkB pX1_gain) (rk := 1) (ct := ctb_X1_gain) (fld := lkB flX1) (cst := lkB csX1) (cstL := lkB clX1) [] pX1_gain_ok kX1_gain.2.2.2.2.2 fdX1 cdX1 rto1 cok_X1_gain (Nat.le_of_ble_eq_true rfl) cut0 ?_ l D σ cA sz
    repeat' ((conv => whnf); (first | refine And.intro (by first | decide | with_reducible assumption) ?_ | with_reducible refine And.intro (fun hc => ?_) (fun hc => ?_) | with_reducible refine And.intro (fun hc => ?_) ?_ | fail))
    all_goals try (conv => whnf)
    all_goals first | trivial | (refine kI h ?_; clear h; simp_all [gainK, ofI1, max8]; done) | (have a := out17 (k := k) (by assumption); refine kI h ?_; clear h; simp_all [gainK]; done)
  · exact h.elim
def F_X1_price : Fn := fun as w K => match as with
  | [.inl k, .inl f] => (rng 10 f ∧ rng 8 k) ∧ K (some (.inl (costK k f))) w
  | _ => False
theorem out17' {k : Int32} (h : k.toInt < 1 ∨ 7 < k.toInt) (h8 : rng 8 k) : k = 0 := by
  obtain ⟨j, hj, rfl⟩ := h8
  rw [nI_toInt (by omega)] at h
  have : j = 0 := by omega
  subst this; rfl
def ctb_X1_price : List (Nat × (List sv → List sc → (List sv → List sc → Prop) → Prop)) := [(66, cMax)]
theorem cok_X1_price : CallOK cX1_price 2 (some .int) RX1 1 ctb_X1_price := CallOK_cons (site_max (pX1_price_ok 66 _ rfl) lRX1_19 (by decide)) (CallOK_nil)
theorem ct_X1_price : Ct yX1_price cX1_price 2 (some .int) 1 F_X1_price := by
  intro l D σ cA sz as w K h
  unfold F_X1_price at h
  split at h
  · rename_i k f
    obtain ⟨⟨h0, h8⟩, h⟩ := h
    refine metL (pr := lkB pX1_price) (rk := 1) (ct := ctb_X1_price) (fld := lkB flX1) (cst := lkB csX1) (cstL := lkB clX1) [] pX1_price_ok kX1_price.2.2.2.2.2 fdX1 cdX1 rto1 cok_X1_price (Nat.le_of_ble_eq_true rfl) cut0 ?_ l D σ cA sz
    repeat' ((conv => whnf); (first | refine And.intro (by first | decide | with_reducible assumption) ?_ | with_reducible refine And.intro (fun hc => ?_) (fun hc => ?_) | with_reducible refine And.intro (fun hc => ?_) ?_ | fail))
    all_goals try (conv => whnf)
    all_goals first | trivial | (refine kI h ?_; clear h; simp_all [costK, ofI1, max6]; done) | (have a := out17' (k := k) (by assumption) h8; refine kI h ?_; clear h; simp_all [costK]; done)
  · exact h.elim
def F_X1_isKind : Fn := fun as w K => match as with
  | [.inl k] => K (some (.inl (bp (0 ≤ k ∧ k ≤ 7)))) w
  | _ => False
def ctb_X1_isKind : List (Nat × (List sv → List sc → (List sv → List sc → Prop) → Prop)) := [(4, cS none 3 F_X5_within)]
theorem cok_X1_isKind : CallOK cX1_isKind 1 (some .boolean) RX1 2 ctb_X1_isKind := CallOK_cons (site_same (rnN (pX1_isKind_ok 4 _ rfl) ct_X5_within kX5_within (List.mem_of_getElem? (i := 1) rfl) (by decide))) (CallOK_nil)
theorem ct_X1_isKind : Ct yX1_isKind cX1_isKind 1 (some .boolean) 2 F_X1_isKind := by
  intro l D σ cA sz as w K h
  unfold F_X1_isKind at h
  split at h
  · rename_i k
    refine metL (pr := lkB pX1_isKind) (rk := 2) (ct := ctb_X1_isKind) (fld := lkB flX1) (cst := lkB csX1) (cstL := lkB clX1) [] pX1_isKind_ok kX1_isKind.2.2.2.2.2 fdX1 cdX1 rto2 cok_X1_isKind (Nat.le_of_ble_eq_true rfl) cut0 ?_ l D σ cA sz
    repeat' ((conv => whnf); (first | refine And.intro (by first | decide | with_reducible assumption) ?_ | with_reducible refine And.intro (fun hc => ?_) (fun hc => ?_) | with_reducible refine And.intro (fun hc => ?_) ?_ | fail))
    all_goals try (conv => whnf)
    exact ⟨bp_01 _, h⟩
  · exact h.elim
def F_X5_isPlate : Fn := fun as w K => match as with
  | [.inl k] => K (some (.inl (bp (0 ≤ k ∧ k ≤ 9)))) w
  | _ => False
def ctb_X5_isPlate : List (Nat × (List sv → List sc → (List sv → List sc → Prop) → Prop)) := [(4, cS none 3 F_X5_within)]
theorem cok_X5_isPlate : CallOK cX5_isPlate 1 (some .boolean) RX5 2 ctb_X5_isPlate := CallOK_cons (site_same (rnS (pX5_isPlate_ok 4 _ rfl) ct_X5_within kX5_within lRX5_129 (by decide))) (CallOK_nil)
theorem ct_X5_isPlate : Ct yX5_isPlate cX5_isPlate 1 (some .boolean) 2 F_X5_isPlate := by
  intro l D σ cA sz as w K h
  unfold F_X5_isPlate at h
  split at h
  · skip
    refine metL (pr := lkB pX5_isPlate) (rk := 2) (ct := ctb_X5_isPlate) (fld := lkB flX5) (cst := lkB csX5) (cstL := lkB clX5) [] pX5_isPlate_ok kX5_isPlate.2.2.2.2.2 fdX5 cdX5 rto2 cok_X5_isPlate (Nat.le_of_ble_eq_true rfl) cut0 ?_ l D σ cA sz
    repeat' ((conv => whnf); (first | refine And.intro (by first | decide | with_reducible assumption) ?_ | with_reducible refine And.intro (fun hc => ?_) (fun hc => ?_) | with_reducible refine And.intro (fun hc => ?_) ?_ | fail))
    all_goals try (conv => whnf)
    exact ⟨bp_01 _, h⟩
  · exact h.elim
def F_X5_isWhile : Fn := fun as w K => match as with
  | [.inl k] => K (some (.inl (bp (0 ≤ k ∧ k ≤ 60)))) w
  | _ => False
def ctb_X5_isWhile : List (Nat × (List sv → List sc → (List sv → List sc → Prop) → Prop)) := [(4, cS none 3 F_X5_within)]
theorem cok_X5_isWhile : CallOK cX5_isWhile 1 (some .boolean) RX5 2 ctb_X5_isWhile := CallOK_cons (site_same (rnS (pX5_isWhile_ok 4 _ rfl) ct_X5_within kX5_within lRX5_129 (by decide))) (CallOK_nil)
theorem ct_X5_isWhile : Ct yX5_isWhile cX5_isWhile 1 (some .boolean) 2 F_X5_isWhile := by
  intro l D σ cA sz as w K h
  unfold F_X5_isWhile at h
  split at h
  · skip
    refine metL (pr := lkB pX5_isWhile) (rk := 2) (ct := ctb_X5_isWhile) (fld := lkB flX5) (cst := lkB csX5) (cstL := lkB clX5) [] pX5_isWhile_ok kX5_isWhile.2.2.2.2.2 fdX5 cdX5 rto2 cok_X5_isWhile (Nat.le_of_ble_eq_true rfl) cut0 ?_ l D σ cA sz
    repeat' ((conv => whnf); (first | refine And.intro (by first | decide | with_reducible assumption) ?_ | with_reducible refine And.intro (fun hc => ?_) (fun hc => ?_) | with_reducible refine And.intro (fun hc => ?_) ?_ | fail))
    all_goals try (conv => whnf)
    exact ⟨bp_01 _, h⟩
  · exact h.elim
def F_X5_isShelf : Fn := fun as w K => match as with
  | [.inl k] => K (some (.inl (bp (0 ≤ k ∧ k ≤ 7)))) w
  | _ => False
def ctb_X5_isShelf : List (Nat × (List sv → List sc → (List sv → List sc → Prop) → Prop)) := [(4, cS none 3 F_X5_within)]
theorem cok_X5_isShelf : CallOK cX5_isShelf 1 (some .boolean) RX5 2 ctb_X5_isShelf := CallOK_cons (site_same (rnS (pX5_isShelf_ok 4 _ rfl) ct_X5_within kX5_within lRX5_129 (by decide))) (CallOK_nil)
theorem ct_X5_isShelf : Ct yX5_isShelf cX5_isShelf 1 (some .boolean) 2 F_X5_isShelf := by
  intro l D σ cA sz as w K h
  unfold F_X5_isShelf at h
  split at h
  · skip
    refine metL (pr := lkB pX5_isShelf) (rk := 2) (ct := ctb_X5_isShelf) (fld := lkB flX5) (cst := lkB csX5) (cstL := lkB clX5) [] pX5_isShelf_ok kX5_isShelf.2.2.2.2.2 fdX5 cdX5 rto2 cok_X5_isShelf (Nat.le_of_ble_eq_true rfl) cut0 ?_ l D σ cA sz
    repeat' ((conv => whnf); (first | refine And.intro (by first | decide | with_reducible assumption) ?_ | with_reducible refine And.intro (fun hc => ?_) (fun hc => ?_) | with_reducible refine And.intro (fun hc => ?_) ?_ | fail))
    all_goals try (conv => whnf)
    exact ⟨bp_01 _, h⟩
  · exact h.elim
def F_X5_isDigit : Fn := fun as w K => match as with
  | [.inl k] => K (some (.inl (bp (0 ≤ k ∧ k ≤ 9)))) w
  | _ => False
def ctb_X5_isDigit : List (Nat × (List sv → List sc → (List sv → List sc → Prop) → Prop)) := [(4, cS none 3 F_X5_within)]
theorem cok_X5_isDigit : CallOK cX5_isDigit 1 (some .boolean) RX5 2 ctb_X5_isDigit := CallOK_cons (site_same (rnS (pX5_isDigit_ok 4 _ rfl) ct_X5_within kX5_within lRX5_129 (by decide))) (CallOK_nil)
theorem ct_X5_isDigit : Ct yX5_isDigit cX5_isDigit 1 (some .boolean) 2 F_X5_isDigit := by
  intro l D σ cA sz as w K h
  unfold F_X5_isDigit at h
  split at h
  · skip
    refine metL (pr := lkB pX5_isDigit) (rk := 2) (ct := ctb_X5_isDigit) (fld := lkB flX5) (cst := lkB csX5) (cstL := lkB clX5) [] pX5_isDigit_ok kX5_isDigit.2.2.2.2.2 fdX5 cdX5 rto2 cok_X5_isDigit (Nat.le_of_ble_eq_true rfl) cut0 ?_ l D σ cA sz
    repeat' ((conv => whnf); (first | refine And.intro (by first | decide | with_reducible assumption) ?_ | with_reducible refine And.intro (fun hc => ?_) (fun hc => ?_) | with_reducible refine And.intro (fun hc => ?_) ?_ | fail))
    all_goals try (conv => whnf)
    exact ⟨bp_01 _, h⟩
  · exact h.elim
def F_X3_isSort : Fn := fun as w K => match as with
  | [.inl k] => K (some (.inl (bp (0 ≤ k ∧ k ≤ 2)))) w
  | _ => False
def ctb_X3_isSort : List (Nat × (List sv → List sc → (List sv → List sc → Prop) → Prop)) := [(3, cS none 3 F_X5_within)]
theorem cok_X3_isSort : CallOK cX3_isSort 1 (some .boolean) RX3 2 ctb_X3_isSort := CallOK_cons (site_same (rnN (pX3_isSort_ok 3 _ rfl) ct_X5_within kX5_within (List.mem_of_getElem? (i := 2) rfl) (by decide))) (CallOK_nil)
theorem ct_X3_isSort : Ct yX3_isSort cX3_isSort 1 (some .boolean) 2 F_X3_isSort := by
  intro l D σ cA sz as w K h
  unfold F_X3_isSort at h
  split at h
  · skip
    refine metL (pr := lkB pX3_isSort) (rk := 2) (ct := ctb_X3_isSort) (fld := lkB flX3) (cst := lkB csX3) (cstL := lkB clX3) [] pX3_isSort_ok kX3_isSort.2.2.2.2.2 fdX3 cdX3 rto2 cok_X3_isSort (Nat.le_of_ble_eq_true rfl) cut0 ?_ l D σ cA sz
    repeat' ((conv => whnf); (first | refine And.intro (by first | decide | with_reducible assumption) ?_ | with_reducible refine And.intro (fun hc => ?_) (fun hc => ?_) | with_reducible refine And.intro (fun hc => ?_) ?_ | fail))
    all_goals try (conv => whnf)
    exact ⟨bp_01 _, h⟩
  · exact h.elim
def narrowI (s v : Int32) : Int32 := if s = 0 then v.toInt8.toInt32 else if s = 1 then v.toInt16.toInt32 else v
def F_X3_lowestBits : Fn := fun as w K => match as with
  | [.inl s, .inl v] => K (some (.inl (narrowI s v))) w
  | _ => False
def ctb_X3_lowestBits : List (Nat × (List sv → List sc → (List sv → List sc → Prop) → Prop)) := []
theorem cok_X3_lowestBits : CallOK cX3_lowestBits 2 (some .int) RX3 1 ctb_X3_lowestBits := CallOK_nil
theorem ct_X3_lowestBits : Ct yX3_lowestBits cX3_lowestBits 2 (some .int) 1 F_X3_lowestBits := by
  intro l D σ cA sz as w K h
  unfold F_X3_lowestBits at h
  split at h
  · skip
    refine metL (pr := lkB pX3_lowestBits) (rk := 1) (ct := ctb_X3_lowestBits) (fld := lkB flX3) (cst := lkB csX3) (cstL := lkB clX3) [] pX3_lowestBits_ok kX3_lowestBits.2.2.2.2.2 fdX3 cdX3 rto1 cok_X3_lowestBits (Nat.le_of_ble_eq_true rfl) cut0 ?_ l D σ cA sz
    repeat' ((conv => whnf); (first | refine And.intro (by first | decide | with_reducible assumption) ?_ | with_reducible refine And.intro (fun hc => ?_) (fun hc => ?_) | with_reducible refine And.intro (fun hc => ?_) ?_ | fail))
    all_goals try (conv => whnf)
    all_goals exact kI h (by clear h; simp_all [narrowI])
  · exact h.elim
