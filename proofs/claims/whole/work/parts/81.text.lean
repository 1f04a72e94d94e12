/-! ===== the text of an inn ===== -/
def dgN (x : Int32) : Nat := if x = 103 ∨ x = 108 ∨ x = 104 then 3 else if x = 119 ∨ x = 101 ∨ x = 98 ∨ x = 100 then 2 else 0
theorem dg23 (x : Int32) : dgN x = 0 ∨ dgN x = 2 ∨ dgN x = 3 := by
  unfold dgN
  split
  · exact Or.inr (Or.inr rfl)
  · split
    · exact Or.inr (Or.inl rfl)
    · exact Or.inl rfl
abbrev DG (c : PA) (n j : Nat) : Prop := j < n ∧ 48 ≤ c j ∧ c j ≤ 57
/-- the statement at p is as it must be -/
def gdS (c : PA) (n p : Nat) : Prop := (p < n ∧ ¬ dgN (c p) = 0) ∧ DG c n (p + 1) ∧ DG c n (p + 2) ∧ (dgN (c p) = 3 → DG c n (p + 3)) ∧ p + dgN (c p) + 1 < n ∧ c (p + dgN (c p) + 1) = 59
/-- where it isn't -/
def bdP (c : PA) (n p : Nat) : Nat := if ¬ (p < n ∧ ¬ dgN (c p) = 0) then p else if ¬ DG c n (p + 1) then p + 1 else if ¬ DG c n (p + 2) then p + 2 else if dgN (c p) = 3 ∧ ¬ DG c n (p + 3) then p + 3 else p + dgN (c p) + 1
def pkN (c : PA) : Nat → Nat
  | 0 => 0
  | k + 1 => pkN c k + dgN (c (pkN c k)) + 2
noncomputable def kE (c : PA) (n : Nat) : Nat := fst (fun k => ¬ gdS c n (pkN c k)) 60
theorem gd_up {c : PA} {n p : Nat} (h : gdS c n p) : p + 3 < n ∧ p + dgN (c p) + 2 ≤ n ∧ 2 ≤ dgN (c p) := by
  obtain ⟨⟨h1, h2⟩, h3, h4, h5, h6, h7⟩ := h
  rcases dg23 (c p) with e | e | e
  · exact absurd e h2
  · rw [e] at h6 ⊢; omega
  · rw [e] at h6 ⊢; omega
theorem pk_up {c : PA} {n : Nat} : ∀ k, (∀ j, j < k → gdS c n (pkN c j)) → 4 * k ≤ pkN c k ∧ pkN c k ≤ n
  | 0, _ => ⟨Nat.le_refl 0, Nat.zero_le _⟩
  | k + 1, h => by
    have h1 := pk_up k (fun j hj => h j (by omega))
    have h2 := gd_up (h k (by omega))
    show 4 * (k + 1) ≤ pkN c k + dgN (c (pkN c k)) + 2 ∧ pkN c k + dgN (c (pkN c k)) + 2 ≤ n
    omega
theorem kE_is {c : PA} {n k : Nat} (hn : n ≤ 100) (h : ∀ j, j < k → gdS c n (pkN c j)) (h0 : ¬ gdS c n (pkN c k)) : kE c n = k := by
  have := pk_up k h
  exact fst_some (P := fun k => ¬ gdS c n (pkN c k)) h0 (fun i hi z => z (h i hi)) (by omega)
noncomputable def txF (c : PA) (n : Nat) : Int32 := if 0 < kE c n ∧ pkN c (kE c n) = n then -1 else nI (bdP c n (pkN c (kE c n)))
theorem tx_bad {c : PA} {n k : Nat} (hn : n ≤ 100) (h : ∀ j, j < k → gdS c n (pkN c j)) (h0 : ¬ gdS c n (pkN c k)) (h1 : ¬ (0 < k ∧ pkN c k = n)) : txF c n = nI (bdP c n (pkN c k)) := by
  unfold txF
  rw [kE_is hn h h0, if_neg h1]
theorem gd_n {c : PA} {n : Nat} : ¬ gdS c n n := fun h => absurd h.1.1 (Nat.lt_irrefl n)
theorem tx_ok {c : PA} {n k : Nat} (hn : n ≤ 100) (hk : 0 < k) (h : ∀ j, j < k → gdS c n (pkN c j)) (h1 : pkN c k = n) : txF c n = -1 := by
  unfold txF
  rw [kE_is hn h (by rw [h1]; exact gd_n), if_pos ⟨hk, h1⟩]
def F_X4_digitsBehind : Fn := fun as w K => match as with
  | [.inl x] => K (some (.inl (nI (dgN x)))) w
  | _ => False
theorem dg_out {x : Int32} (h : x.toInt < 98 ∨ 119 < x.toInt) : dgN x = 0 := by
  unfold dgN
  rw [if_neg, if_neg]
  · rintro (rfl | rfl | rfl | rfl) <;> (revert h; decide)
  · rintro (rfl | rfl | rfl) <;> (revert h; decide)
def ctb_X4_digitsBehind : List (Nat × (List sv → List sc → (List sv → List sc → Prop) → Prop)) := []
theorem cok_X4_digitsBehind : CallOK cX4_digitsBehind 1 (some .int) RX4 1 ctb_X4_digitsBehind := CallOK_nil
theorem ct_X4_digitsBehind : Ct yX4_digitsBehind cX4_digitsBehind 1 (some .int) 1 F_X4_digitsBehind := by
  intro l D σ cA sz as w K h
  unfold F_X4_digitsBehind at h
  split at h
  · rename_i x
    refine metL (pr := lkB pX4_digitsBehind) (rk := 1) (ct := ctb_X4_digitsBehind) (fld := lkB flX4) (cst := lkB csX4) (cstL := lkB clX4) [] pX4_digitsBehind_ok kX4_digitsBehind.2.2.2.2.2 fdX4 cdX4 rto1 cok_X4_digitsBehind (Nat.le_of_ble_eq_true rfl) cut0 ?_ l D σ cA sz
    repeat' ((conv => whnf); (first | refine And.intro (by first | decide | with_reducible assumption) ?_ | with_reducible refine And.intro (fun hc => ?_) (fun hc => ?_) | with_reducible refine And.intro (fun hc => ?_) ?_ | fail))
    all_goals try (conv => whnf)
    · exact kI h (by rw [dg_out hc]; rfl)
    all_goals first | trivial | exact kI h (by rw [hc]; decide)
  · exact h.elim
def F_X4_isLetter : Fn := fun as w K => match as with
  | [.inl x] => K (some (.inl (bp (¬ dgN x = 0)))) w
  | _ => False
theorem nI_z {a : Nat} (h : a < 2 ^ 31) : nI a = 0 ↔ a = 0 := by
  rw [← nI_0]
  exact nI_eq h (by decide)
theorem dg_lt (x : Int32) : dgN x < 4 := by
  rcases dg23 x with e | e | e <;> omega
def ctb_X4_isLetter : List (Nat × (List sv → List sc → (List sv → List sc → Prop) → Prop)) := [(1, cS none 1 F_X4_digitsBehind)]
theorem cok_X4_isLetter : CallOK cX4_isLetter 1 (some .boolean) RX4 2 ctb_X4_isLetter := CallOK_cons (site_same (rnS (pX4_isLetter_ok 1 _ rfl) ct_X4_digitsBehind kX4_digitsBehind lRX4_21 (by decide))) (CallOK_nil)
theorem ct_X4_isLetter : Ct yX4_isLetter cX4_isLetter 1 (some .boolean) 2 F_X4_isLetter := by
  intro l D σ cA sz as w K h
  unfold F_X4_isLetter at h
  split at h
  · rename_i x
    have hx := dg_lt x
    refine metL (pr := lkB pX4_isLetter) (rk := 2) (ct := ctb_X4_isLetter) (fld := lkB flX4) (cst := lkB csX4) (cstL := lkB clX4) [] pX4_isLetter_ok kX4_isLetter.2.2.2.2.2 fdX4 cdX4 rto2 cok_X4_isLetter (Nat.le_of_ble_eq_true rfl) cut0 ?_ l D σ cA sz
    conv => whnf
    refine ⟨fun hc => ?_, fun hc => ?_⟩
    · have hc := (nI_z (by omega)).mp hc
      conv => whnf
      exact kB0 h (fun z => z hc)
    · conv => whnf
      exact kB h (fun z => hc (by rw [z]; rfl))
  · exact h.elim
def F_X4_digitAt : Fn := fun as w K => ∃ (u : ShS) (n i : Nat), as = [sR 0, sI (nI i)] ∧ w = shW u ∧ uM u = nI n ∧ n ≤ 100 ∧ i < n ∧ K (some (.inl (uC u i - 48))) w
def ctb_X4_digitAt : List (Nat × (List sv → List sc → (List sv → List sc → Prop) → Prop)) := [(2, cS (some 2) 2 F_X3_hasCell)]
theorem cok_X4_digitAt : CallOK cX4_digitAt 2 (some .int) RX4 3 ctb_X4_digitAt := CallOK_cons (site_same (rnV (pX4_digitAt_ok 2 _ rfl) ct_X3_hasCell kX3_hasCell lRX4_29 (by decide))) (CallOK_nil)
theorem ct_X4_digitAt : Ct yX4_digitAt cX4_digitAt 2 (some .int) 3 F_X4_digitAt := by
  intro l D σ cA sz as w K h
  obtain ⟨u, n, i, rfl, rfl, eM, hn, hi, h⟩ := h
  have hc : 0 ≤ nI i ∧ nI i ≤ uM u - 1 := by
    rw [eM, show nI n - 1 = nI (n - 1) from nI_sub (a := n) (b := 1) (by omega)]
    exact ⟨nI_pos' (by omega), nI_le (by omega) (by omega)⟩
  refine metL (pr := lkB pX4_digitAt) (rk := 1) (ct := ctb_X4_digitAt) (fld := lkB flX4) (cst := lkB csX4) (cstL := lkB clX4) [] pX4_digitAt_ok kX4_digitAt.2.2.2.2.2 fdX4 cdX4 rto1 cok_X4_digitAt (Nat.le_of_ble_eq_true rfl) cut0 ?_ l D σ cA sz
  conv => whnf
  refine ⟨u, nI i, rfl, rfl, ?_⟩
  conv => whnf
  refine ⟨fun z => absurd hc (bp_0.mp z), fun _ => ?_⟩
  conv => whnf
  refine ⟨vp_in_nI (by omega) (by decide), ?_⟩
  rw [show (nI i).toNatClampNeg = i from nI_clamp (by omega)]
  conv => whnf
  exact h
theorem dgt (x : Int32) : (0 ≤ x - 48 ∧ x - 48 ≤ 9) ↔ 48 ≤ x ∧ x ≤ 57 := by
  refine ⟨fun h => ?_, fun h => ?_⟩
  · obtain ⟨j, hj, e⟩ := in_rng (n := 9) (by decide) h
    have e2 : x = nI (j + 48) := by
      rw [← nI_add, ← e]
      exact (Int32.sub_add_cancel x 48).symm
    rw [e2]
    exact ⟨show nI 48 ≤ nI (j + 48) from nI_le (by omega) (by omega), show nI (j + 48) ≤ nI 57 from nI_le (by omega) (by decide)⟩
  · obtain ⟨j, hj, e⟩ := in_rng (n := 57) (x := x) (by decide) ⟨Int32.le_trans (by decide) h.1, h.2⟩
    have h48 : 48 ≤ j := (nI_leI (by decide) (by omega)).mp (show nI 48 ≤ nI j from by rw [← e]; exact h.1)
    rw [e, show nI j - 48 = nI (j - 48) from nI_sub (a := j) (b := 48) h48]
    exact ⟨nI_pos' (by omega), show nI (j - 48) ≤ nI 9 from nI_le (by omega) (by decide)⟩
/-- so far in the statement at p -/
def prP (c : PA) (n p o : Nat) : Prop := o ≤ dgN (c p) + 1 ∧ (0 < o → p < n ∧ ¬ dgN (c p) = 0) ∧ (1 < o → DG c n (p + 1)) ∧ (2 < o → DG c n (p + 2)) ∧ (3 < o → DG c n (p + 3))
def dlF (L o : Nat) : Int32 := if o = 0 then -1 else nI (L + 1 - o)
theorem dl_0 (L : Nat) : dlF L 0 = -1 := rfl
theorem dl_s {L o : Nat} (h : 0 < o) : dlF L o = nI (L + 1 - o) := by unfold dlF; rw [if_neg (by omega)]
theorem nI_m1 {a : Nat} (h : a < 2 ^ 31) : ¬ nI a = -1 := fun z => absurd (nI_pos' h) (by rw [z]; decide)
theorem nI_dec (a : Nat) : nI (a + 1) + -1 = nI a := by rw [← Int32.sub_eq_add_neg]; exact nI_pred a
theorem bd_0 {c : PA} {n p : Nat} (h : ¬ (p < n ∧ ¬ dgN (c p) = 0)) : bdP c n p = p := by unfold bdP; rw [if_pos h]
theorem bd_at {c : PA} {n p o : Nat} (h : prP c n p o) (h0 : 0 < o) (hb : (o ≤ dgN (c p) ∧ ¬ DG c n (p + o)) ∨ (o = dgN (c p) + 1 ∧ ¬ (p + o < n ∧ c (p + o) = 59))) : bdP c n p = p + o ∧ ¬ gdS c n p := by
  obtain ⟨h1, h2, h3, h4, h5⟩ := h
  have hL := h2 h0
  rcases dg23 (c p) with e | e | e
  · exact absurd e hL.2
  · rw [e] at h1 hb
    rcases (show o = 1 ∨ o = 2 ∨ o = 3 by omega) with rfl | rfl | rfl
    · have hb := hb.resolve_right (fun z => by omega)
      refine ⟨?_, fun z => hb.2 z.2.1⟩
      unfold bdP
      rw [if_neg (fun z => z hL), if_pos hb.2]
    · have hb := hb.resolve_right (fun z => by omega)
      refine ⟨?_, fun z => hb.2 z.2.2.1⟩
      unfold bdP
      rw [if_neg (fun z => z hL), if_neg (fun z => z (h3 (by omega))), if_pos hb.2]
    · have hb := hb.resolve_left (fun z => by omega)
      refine ⟨?_, fun z => hb.2 ?_⟩
      · unfold bdP
        rw [if_neg (fun z => z hL), if_neg (fun z => z (h3 (by omega))), if_neg (fun z => z (h4 (by omega))), if_neg (fun z => by omega), e]
      · have := z.2.2.2.2
        rw [e] at this
        exact this
  · rw [e] at h1 hb
    rcases (show o = 1 ∨ o = 2 ∨ o = 3 ∨ o = 4 by omega) with rfl | rfl | rfl | rfl
    · have hb := hb.resolve_right (fun z => by omega)
      refine ⟨?_, fun z => hb.2 z.2.1⟩
      unfold bdP
      rw [if_neg (fun z => z hL), if_pos hb.2]
    · have hb := hb.resolve_right (fun z => by omega)
      refine ⟨?_, fun z => hb.2 z.2.2.1⟩
      unfold bdP
      rw [if_neg (fun z => z hL), if_neg (fun z => z (h3 (by omega))), if_pos hb.2]
    · have hb := hb.resolve_right (fun z => by omega)
      refine ⟨?_, fun z => hb.2 (z.2.2.2.1 e)⟩
      unfold bdP
      rw [if_neg (fun z => z hL), if_neg (fun z => z (h3 (by omega))), if_neg (fun z => z (h4 (by omega))), if_pos ⟨e, hb.2⟩]
    · have hb := hb.resolve_left (fun z => by omega)
      refine ⟨?_, fun z => hb.2 ?_⟩
      · unfold bdP
        rw [if_neg (fun z => z hL), if_neg (fun z => z (h3 (by omega))), if_neg (fun z => z (h4 (by omega))), if_neg (fun z => z.2 (h5 (by omega))), e]
      · have := z.2.2.2.2
        rw [e] at this
        exact this
theorem gd_at {c : PA} {n p : Nat} (h : prP c n p (dgN (c p) + 1)) (hb : p + dgN (c p) + 1 < n ∧ c (p + dgN (c p) + 1) = 59) : gdS c n p := by
  obtain ⟨h1, h2, h3, h4, h5⟩ := h
  have hL := h2 (by omega)
  rcases dg23 (c p) with e | e | e
  · exact absurd e hL.2
  · exact ⟨hL, h3 (by omega), h4 (by omega), fun z => by omega, hb⟩
  · exact ⟨hL, h3 (by omega), h4 (by omega), fun z => h5 (by omega), hb⟩
theorem pr_1 {c : PA} {n p : Nat} (h1 : p < n) (h2 : ¬ dgN (c p) = 0) : prP c n p 1 := ⟨by omega, fun _ => ⟨h1, h2⟩, fun z => by omega, fun z => by omega, fun z => by omega⟩
theorem pr_s {c : PA} {n p o : Nat} (h : prP c n p o) (h0 : 0 < o) (ho : o ≤ dgN (c p)) (hd : DG c n (p + o)) : prP c n p (o + 1) := by
  obtain ⟨h1, h2, h3, h4, h5⟩ := h
  have := dg_lt (c p)
  refine ⟨by omega, fun _ => h2 h0, fun z => ?_, fun z => ?_, fun z => ?_⟩
  · rcases (show o = 1 ∨ 1 < o by omega) with rfl | z
    · exact hd
    · exact h3 z
  · rcases (show o = 2 ∨ 2 < o by omega) with rfl | z
    · exact hd
    · exact h4 z
  · rcases (show o = 3 ∨ 3 < o by omega) with rfl | z
    · exact hd
    · exact h5 z
def F_X4_placeOfBadByte : Fn := fun as w K => ∃ (u : ShS) (n : Nat), as = [sR 0] ∧ w = shW u ∧ uM u = nI n ∧ n ≤ 100 ∧ K (some (.inl (txF (uC u) n))) w
def ctb_X4_placeOfBadByte : List (Nat × (List sv → List sc → (List sv → List sc → Prop) → Prop)) := [(25, cS none 1 F_X4_digitsBehind), (43, cS none 1 F_X5_isDigit)]
theorem cok_X4_placeOfBadByte : CallOK cX4_placeOfBadByte 4 (some .int) RX4 3 ctb_X4_placeOfBadByte := CallOK_cons (site_same (rnS (pX4_placeOfBadByte_ok 25 _ rfl) ct_X4_digitsBehind kX4_digitsBehind lRX4_21 (by decide))) (CallOK_cons (site_same (rnN (pX4_placeOfBadByte_ok 43 _ rfl) ct_X5_isDigit kX5_isDigit (List.mem_of_getElem? (i := 3) rfl) (by decide))) (CallOK_nil))
theorem ct_X4_placeOfBadByte : Ct yX4_placeOfBadByte cX4_placeOfBadByte 4 (some .int) 3 F_X4_placeOfBadByte := by
  intro l D σ cA sz as w K h
  obtain ⟨u, n, rfl, rfl, eM, hn, h⟩ := h
  refine metL (pr := lkB pX4_placeOfBadByte) (rk := 1) (ct := ctb_X4_placeOfBadByte) (fld := lkB flX4) (cst := lkB csX4) (cstL := lkB clX4) [(4, ([true, true, true, false], fun x lv st w => ∃ (k o i : Nat), i = pkN (uC u) k + o ∧ i ≤ n ∧ x = n - i ∧ (∀ j, j < k → gdS (uC u) n (pkN (uC u) j)) ∧ prP (uC u) n (pkN (uC u) k) o ∧ lv = [some (sR 0), some (sI (dlF (dgN (uC u (pkN (uC u) k))) o)), some (sI (nI i)), none] ∧ st = [] ∧ w = shW u))] pX4_placeOfBadByte_ok kX4_placeOfBadByte.2.2.2.2.2 fdX4 cdX4 rto1 cok_X4_placeOfBadByte (Nat.le_of_ble_eq_true rfl) ?_ ?_ l D σ cA sz
  · refine List.forall_mem_cons.mpr ⟨?_, cut0⟩
    rintro x lv st w ⟨k, o, i, ei, hi, rfl, hall, hpr, rfl, rfl, rfl⟩
    generalize hp : pkN (uC u) k = p at ei hpr ⊢
    have hsuc : pkN (uC u) (k + 1) = p + dgN (uC u p) + 2 := by
      show pkN (uC u) k + dgN (uC u (pkN (uC u) k)) + 2 = _
      rw [hp]
    have hL := dg_lt (uC u p)
    have hup := pk_up k hall
    rw [hp] at hup
    conv => whnf
    refine ⟨fun hc => ?_, fun hc => ?_⟩
    · rw [eM] at hc
      have ein := lp_ge hi (by omega) hc
      rcases Nat.eq_zero_or_pos n with hn0 | hn0
      · have hk0 : k = 0 := by omega
        have hh : txF (uC u) n = nI n := by
          rw [tx_bad hn hall (by rw [hp]; exact fun z => by have := z.1.1; omega) (by omega), hp, bd_0 (by omega)]
          congr 1
          omega
        conv => whnf
        rw [eM]
        refine ⟨fun _ => ?_, fun z => absurd (by rw [hn0]; decide) z⟩
        conv => whnf
        refine ⟨fun _ => ?_, fun z => absurd rfl z⟩
        conv => whnf
        rw [eM]
        exact kI h hh
      · rcases Nat.eq_zero_or_pos o with ho | ho
        · subst ho
          have hk0 : 0 < k := by
            rcases Nat.eq_zero_or_pos k with h0 | h0
            · subst h0
              have : p = 0 := hp.symm
              omega
            · exact h0
          have hh : txF (uC u) n = -1 := tx_ok hn hk0 hall (by rw [hp]; omega)
          rw [dl_0]
          conv => whnf
          rw [eM]
          refine ⟨fun z => absurd z (nI_nle hn0 (by omega)), fun _ => ?_⟩
          conv => whnf
          refine ⟨fun z => absurd rfl z, fun _ => ?_⟩
          conv => whnf
          refine ⟨fun z => absurd z (by decide), fun _ => ?_⟩
          conv => whnf
          exact kI h hh
        · obtain ⟨b1, b2⟩ := bd_at hpr ho (by
            rcases Nat.lt_or_ge (dgN (uC u p)) o with z | z
            · exact Or.inr ⟨by have := hpr.1; omega, fun y => by omega⟩
            · exact Or.inl ⟨z, fun y => by have := y.1; omega⟩)
          have hh : txF (uC u) n = nI n := by
            rw [tx_bad hn hall (by rw [hp]; exact b2) (by rw [hp]; omega), hp, b1]
            congr 1
            omega
          rw [dl_s ho]
          conv => whnf
          rw [eM]
          refine ⟨fun z => absurd z (nI_nle hn0 (by omega)), fun _ => ?_⟩
          conv => whnf
          refine ⟨fun _ => ?_, fun z => absurd z (nI_m1 (by omega))⟩
          conv => whnf
          refine ⟨fun _ => ?_, fun z => absurd rfl z⟩
          conv => whnf
          rw [eM]
          exact kI h hh
    · rw [eM] at hc
      have hlt := lp_lt hi (by omega) hc
      have eix : (nI i).toNatClampNeg = p + o := by rw [show (nI i).toNatClampNeg = i from nI_clamp (by omega), ei]
      conv => whnf
      refine ⟨vp_in_nI (by omega) (by decide), ?_⟩
      rw [eix]
      rcases Nat.eq_zero_or_pos o with ho | ho
      · subst ho
        rw [dl_0, Nat.add_zero]
        rw [Nat.add_zero] at ei
        conv => whnf
        refine ⟨fun z => absurd rfl z, fun _ => ?_⟩
        conv => whnf
        refine ⟨fun h1 => ?_, fun h1 => ?_⟩
        · have h1 : ¬ dgN (uC u p) = 0 := fun z => h1 (by rw [z]; rfl)
          conv => whnf
          exact ⟨n - (i + 1), by omega, k, 1, i + 1, by rw [hp, ei], hlt, rfl, hall, by rw [hp]; exact pr_1 (by omega) h1, by rw [← nI_1, hp]; rfl, rfl, rfl⟩
        · have h1 := (nI_z (by omega)).mp h1
          conv => whnf
          refine kI h ?_
          rw [tx_bad hn hall (by rw [hp]; exact fun z => z.1.2 h1) (by rw [hp]; omega), hp, bd_0 (fun z => z.2 h1), ei]
      · rw [dl_s ho]
        conv => whnf
        refine ⟨fun _ => ?_, fun z => absurd z (nI_m1 (by omega))⟩
        rcases Nat.lt_or_ge (dgN (uC u p)) o with ho2 | ho2
        · have eo : o = dgN (uC u p) + 1 := by have := hpr.1; omega
          rw [show dgN (uC u p) + 1 - o = 0 by omega]
          conv => whnf
          refine ⟨fun _ => ?_, fun z => absurd (by decide) z⟩
          conv => whnf
          refine ⟨fun h1 => ?_, fun h1 => ?_⟩
          · have h1 : uC u (p + o) = 59 := h1
            have hg : gdS (uC u) n p := by
              refine gd_at (by rw [← eo]; exact hpr) ⟨by omega, ?_⟩
              rw [show p + dgN (uC u p) + 1 = p + o by omega]
              exact h1
            conv => whnf
            exact ⟨n - (i + 1), by omega, k + 1, 0, i + 1, by rw [hsuc]; omega, hlt, rfl, lt_s hall (by rw [hp]; exact hg), ⟨Nat.zero_le _, fun z => by omega, fun z => by omega, fun z => by omega, fun z => by omega⟩, by rw [← nI_1]; rfl, rfl, rfl⟩
          · have h1 : ¬ uC u (p + o) = 59 := h1
            obtain ⟨b1, b2⟩ := bd_at hpr ho (Or.inr ⟨eo, fun z => h1 z.2⟩)
            conv => whnf
            refine kI h ?_
            rw [tx_bad hn hall (by rw [hp]; exact b2) (by rw [hp]; omega), hp, b1, ei]
        · conv => whnf
          refine ⟨fun z => absurd z (nI_nle (by omega) (by omega)), fun _ => ?_⟩
          conv => whnf
          refine ⟨fun h1 => ?_, fun h1 => ?_⟩
          · have h1 := (dgt (uC u (p + o))).mp (bp_n h1)
            conv => whnf
            exact ⟨n - (i + 1), by omega, k, o + 1, i + 1, by rw [hp]; omega, hlt, rfl, hall, by rw [hp]; exact pr_s hpr ho ho2 ⟨by omega, h1⟩, by rw [← nI_1, hp, dl_s (by omega), ← nI_dec (dgN (uC u p) + 1 - (o + 1)), show dgN (uC u p) + 1 - (o + 1) + 1 = dgN (uC u p) + 1 - o by omega]; rfl, rfl, rfl⟩
          · have h1 : ¬ (48 ≤ uC u (p + o) ∧ uC u (p + o) ≤ 57) := fun z => bp_0.mp h1 ((dgt _).mpr z)
            obtain ⟨b1, b2⟩ := bd_at hpr ho (Or.inl ⟨ho2, fun z => h1 z.2⟩)
            conv => whnf
            refine kI h ?_
            rw [tx_bad hn hall (by rw [hp]; exact b2) (by rw [hp]; omega), hp, b1, ei]
  · conv => whnf
    exact ⟨n - 0, 0, 0, 0, rfl, Nat.zero_le _, rfl, (fun j hj => absurd hj (Nat.not_lt_zero _)), ⟨Nat.zero_le _, fun z => by omega, fun z => by omega, fun z => by omega, fun z => by omega⟩, rfl, rfl, rfl⟩
