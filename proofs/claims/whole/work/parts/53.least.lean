/-! ===== least: what lacks, and more stock is no worse ===== -/
theorem or_ne (x : Int32) {j : Nat} (hj : j < 32) : ¬ (x ||| jshl 1 (nI j)) = 0 := fun h => by
  have e : bt (x ||| jshl 1 (nI j)) j = true := by rw [b_or, bt_one hj hj]; simp
  rw [h, b_0] at e; cases e
theorem lch_A (s : InnS) (g d : Int32) : iA (laS (chS s g d) g) = heldI (iA s + 1) 9999 ∧ iLn (laS (chS s g d) g) = iLn s ||| jshl 1 g := ⟨rfl, rfl⟩
theorem ch_A (s : InnS) (g d : Int32) : iA (chS s g d) = iA s ∧ iLn (chS s g d) = iLn s := ⟨rfl, rfl⟩
theorem sv_A (s : InnS) (g k e d : Int32) : iA (svS (chS (tkS s k e) g d) g k) = iA s ∧ iLn (svS (chS (tkS s k e) g d) g k) = iLn s := ⟨rfl, rfl⟩
/-- one lacks his breakfast -/
def lackP (s : InnS) (g k : Int32) : Prop := ¬ k = -4 ∧ ¬ eatsK (iK s (ix g)) ≤ iP s (ix k)
theorem bf_la {s : InnS} {g k : Int32} : (¬ lackP s g k ∧ iA (bfS s g k) = iA s ∧ iLn (bfS s g k) = iLn s) ∨ (lackP s g k ∧ iA (bfS s g k) = heldI (iA s + 1) 9999 ∧ iLn (bfS s g k) = iLn s ||| jshl 1 g) := by
  unfold bfS
  by_cases h4 : k = -4
  · rw [if_pos h4]; exact Or.inl ⟨fun z => z.1 h4, ch_A s g _⟩
  · rw [if_neg h4]
    by_cases he : eatsK (iK s (ix g)) ≤ iP s (ix k)
    · rw [if_pos he]; exact Or.inl ⟨fun z => z.2 he, sv_A ..⟩
    · rw [if_neg he]; exact Or.inr ⟨⟨h4, he⟩, lch_A s g _⟩
theorem held_inc {a : Nat} (h : a < 9999) : heldI (nI a + 1) 9999 = nI (a + 1) := by
  rw [nI_1]
  unfold heldI
  rw [if_neg (nI_pos (by omega)), if_neg (show ¬ (9999 : Int32) < nI (a + 1) from nI_nlt (a := 9999) (by omega) (by decide))]
theorem gf_la {s : InnS} {mare sil : Int32} {a : Nat} (hA : iA s = nI a) (hL : iLn s = 0) (ha : a + 7 < 9999) : ∀ j, j ≤ 7 → ∃ c, c ≤ j ∧ iA (gfS mare sil j s) = nI (a + c) ∧ (c = 0 ↔ iLn (gfS mare sil j s) = 0)
  | 0, _ => ⟨0, Nat.le_refl _, hA, fun _ => hL, fun _ => rfl⟩
  | j + 1, hj => by
    obtain ⟨c, h1, h2, h3⟩ := gf_la (mare := mare) (sil := sil) hA hL ha j (by omega)
    show ∃ c, c ≤ j + 1 ∧ iA (gsS (gfS mare sil j s) mare sil (nI j)) = _ ∧ (_ ↔ iLn (gsS (gfS mare sil j s) mare sil (nI j)) = 0)
    generalize gfS mare sil j s = t at h2 h3 ⊢
    unfold gsS
    split
    · rcases bf_la (s := t) (g := nI j) (k := pkS t mare sil (nI j)) with ⟨-, e1, e2⟩ | ⟨-, e1, e2⟩
      · rw [e1, e2]; exact ⟨c, by omega, h2, h3⟩
      · rw [e1, e2, h2, held_inc (by omega)]
        exact ⟨c + 1, by omega, rfl, fun z => by omega, fun z => absurd z (or_ne _ (by omega))⟩
    · exact ⟨c, by omega, h2, h3⟩
theorem night_la {s : InnS} {mare sil : Int32} {a : Nat} (hG : GS s) (hA : iA s = nI a) (ha : a + 7 < 9999) : ∃ c, c ≤ 7 ∧ iA (nightS mare sil s) = nI (a + c) ∧ (c = 0 ↔ iLn (nightS mare sil s) = 0) := by
  obtain ⟨G, hG7, hGG⟩ := hG.2.1
  unfold nightS
  rw [hGG, show ix (nI G) = G from nI_clamp (by omega)]
  obtain ⟨c, h1, h2⟩ := gf_la (s := nbS s) (mare := mare) (sil := sil) (show iA (nbS s) = nI a from hA) rfl ha G (by omega)
  exact ⟨c, by omega, h2⟩
theorem nights_la {s : InnS} {N a : Nat} (hG : GS s) (hN : iN s = nI N) (hA : iA s = nI a) : ∀ n, N + n < 90000 → a + 7 * n < 9999 → ∃ c, c ≤ 7 * n ∧ iA (nightsS n s) = nI (a + c) ∧ (c = 0 ↔ ∀ j, j < n → iLn (nightsS (j + 1) s) = 0)
  | 0, _, _ => ⟨0, Nat.le_refl _, hA, fun _ => lt_0, fun _ => rfl⟩
  | n + 1, hn, hn2 => by
    obtain ⟨c, h1, h2, h3⟩ := nights_la hG hN hA n (by omega) (by omega)
    obtain ⟨g1, g2⟩ := nights_keep hG hN n (by omega)
    obtain ⟨c', h4, h5, h6⟩ := night_la (mare := 0) (sil := 0) g1 h2 (by omega)
    refine ⟨c + c', by omega, by rw [← Nat.add_assoc]; exact h5, fun z => ?_, fun z => ?_⟩
    · have z1 : c = 0 := by omega
      have z2 : c' = 0 := by omega
      exact lt_s (h3.mp z1) (h6.mp z2)
    · have z1 := h3.mpr (fun j hj => z j (by omega))
      have z2 := h6.mpr (z n (by omega))
      omega
/-- the same inn with other plates -/
abbrev ptS (s : InnS) (P : PA) : InnS := (iK s, iF s, iW s, iL s, iH s, P, iG s, iT s, iN s, iS s, iA s, iSn s, iLn s)
/-- no plate is less -/
def ML (s : InnS) (P : PA) : Prop := ∀ k, k < 10 → iP s k ≤ P k ∧ rng 100 (P k)
theorem ch_pt (s : InnS) (P : PA) (g d : Int32) : chS (ptS s P) g d = ptS (chS s g d) P := rfl
theorem sv_pt (s : InnS) (P : PA) (g k e d : Int32) : svS (chS (tkS (ptS s P) k e) g d) g k = ptS (svS (chS (tkS s k e) g d) g k) (upd P (ix k) (P (ix k) - e)) := rfl
theorem sv_iP (s : InnS) (g k e d : Int32) : iP (svS (chS (tkS s k e) g d) g k) = upd (iP s) (ix k) (iP s (ix k) - e) := rfl
theorem ch_iP (s : InnS) (g d : Int32) : iP (chS s g d) = iP s := rfl
theorem rng_subs {x y e : Int32} (hx : rng 100 x) (hy : rng 100 y) (he : e = nI 2 ∨ e = nI 1) (h1 : e ≤ x) (h2 : x ≤ y) : x - e ≤ y - e ∧ rng 100 (y - e) := by
  obtain ⟨a, ha, rfl⟩ := hx
  obtain ⟨b, hb, rfl⟩ := hy
  have hab := (nI_leI (by omega) (by omega)).mp h2
  rcases he with rfl | rfl
  · have hea := (nI_leI (by omega) (by omega)).mp h1
    rw [pk_sub hea, pk_sub (by omega)]
    exact ⟨nI_le (by omega) (by omega), b - 2, by omega, rfl⟩
  · have hea := (nI_leI (by omega) (by omega)).mp h1
    rw [pk_sub hea, pk_sub (by omega)]
    exact ⟨nI_le (by omega) (by omega), b - 1, by omega, rfl⟩
theorem bf_ml {s : InnS} {P : PA} {g k : Int32} (hG : GS s) (h : ML s P) (hk : k = -4 ∨ rng 10 k) (hn : ¬ lackP s g k) : ∃ P', bfS (ptS s P) g k = ptS (bfS s g k) P' ∧ ML (bfS s g k) P' := by
  unfold bfS
  by_cases h4 : k = -4
  · rw [if_pos h4, if_pos h4, ch_pt]
    exact ⟨P, rfl, by unfold ML; rw [ch_iP]; exact h⟩
  · rw [if_neg h4, if_neg h4]
    obtain ⟨i, hi, ek⟩ := hk.resolve_left h4
    have eix : ix k = i := by rw [ek]; exact nI_clamp (by omega)
    have he : eatsK (iK s (ix g)) ≤ iP s (ix k) := Classical.not_not.mp (fun z => hn ⟨h4, z⟩)
    have hi10 : ix k < 10 := by rw [eix]; exact hi
    have he2 : eatsK (iK s (ix g)) ≤ P (ix k) := Int32.le_trans he (h (ix k) hi10).1
    rw [if_pos he, if_pos (show eatsK (iK (ptS s P) (ix g)) ≤ iP (ptS s P) (ix k) from he2), sv_pt]
    refine ⟨_, rfl, fun q hq => ?_⟩
    rw [sv_iP]
    by_cases e : q = ix k
    · rw [e, pk_us, pk_us]
      exact rng_subs (hG.2.2.2.2.1 _ hi10) (h _ hi10).2 (eats_12 _) he (h _ hi10).1
    · rw [pk_un e, pk_un e]; exact h q hq
theorem gf_ml {s : InnS} {P : PA} {mare sil : Int32} {N : Nat} (hG : GS s) (hN : iN s = nI N) (hN2 : N < 100000) (h : ML s P) : ∀ j, j ≤ 7 → iLn (gfS mare sil j s) = 0 → ∃ P', gfS mare sil j (ptS s P) = ptS (gfS mare sil j s) P' ∧ ML (gfS mare sil j s) P'
  | 0, _, _ => ⟨P, rfl, h⟩
  | j + 1, hj, hL => by
    have hL' : iLn (gsS (gfS mare sil j s) mare sil (nI j)) = 0 := hL
    have hg := GS_gf (mare := mare) (sil := sil) hG hN hN2 j (by omega)
    have hk := gf_keep (s := s) (mare := mare) (sil := sil) j
    have ih := gf_ml (mare := mare) (sil := sil) hG hN hN2 h j (by omega)
    show ∃ P', gsS (gfS mare sil j (ptS s P)) mare sil (nI j) = ptS (gsS (gfS mare sil j s) mare sil (nI j)) P' ∧ ML (gsS (gfS mare sil j s) mare sil (nI j)) P'
    have hNt := hk.1.trans hN
    generalize gfS mare sil j (ptS s P) = u at ih ⊢
    generalize gfS mare sil j s = t at ih hL' hg hNt ⊢
    by_cases hb : tb (iT t) (nI j)
    · rw [gs_t hb] at hL' ⊢
      rcases bf_la (s := t) (g := nI j) (k := pkS t mare sil (nI j)) with ⟨e0, e1, e2⟩ | ⟨-, e1, e2⟩
      · rw [e2] at hL'
        obtain ⟨P', rfl, hml⟩ := ih hL'
        rw [gs_t (show tb (iT (ptS t P')) (nI j) from hb)]
        have epk : pkS (ptS t P') mare sil (nI j) = pkS t mare sil (nI j) := rfl
        rw [epk]
        exact bf_ml hg hml (pick_ok hg (by omega) hNt hN2) e0
      · rw [e2] at hL'
        exact absurd hL' (or_ne _ (by omega))
    · rw [gs_f hb] at hL' ⊢
      obtain ⟨P', rfl, hml⟩ := ih hL'
      rw [gs_f (show ¬ tb (iT (ptS t P')) (nI j) from hb)]
      exact ⟨P', rfl, hml⟩
theorem held2 : ∀ a : Fin 100, heldI (nI a.val + 2) 99 = nI (min 99 (a.val + 2)) := by decide +kernel
theorem nb_pt (s : InnS) (P : PA) : nbS (ptS s P) = ptS (nbS s) (upd P (ix (jrem (iN s + 1) 10)) (heldI (P (ix (jrem (iN s + 1) 10)) + 2) 99)) := rfl
theorem nb_iP (s : InnS) : iP (nbS s) = upd (iP s) (ix (jrem (iN s + 1) 10)) (heldI (iP s (ix (jrem (iN s + 1) 10)) + 2) 99) := rfl
theorem night_ml {s : InnS} {P : PA} {mare sil : Int32} {N : Nat} (hG : GS s) (hN : iN s = nI N) (hN2 : N < 90000) (h : ML s P) (hL : iLn (nightS mare sil s) = 0) : ∃ P', nightS mare sil (ptS s P) = ptS (nightS mare sil s) P' ∧ ML (nightS mare sil s) P' := by
  obtain ⟨G, hG7, hGG⟩ := hG.2.1
  have hN1 : iN s + 1 = nI (N + 1) := by rw [hN, nI_1]
  have ek : ix (jrem (iN s + 1) 10) = (N + 1) % 10 := by
    rw [hN1, show jrem (nI (N + 1)) 10 = nI ((N + 1) % 10) from jrem_nI (d := 10) (by omega) (by decide) (by decide)]
    exact nI_clamp (by omega)
  unfold nightS at hL ⊢
  rw [show iG (ptS s P) = iG s from rfl, nb_pt]
  rw [hGG, show ix (nI G) = G from nI_clamp (by omega)] at hL ⊢
  refine gf_ml (GS_nb hG) hN1 (by omega) (fun k hk => ?_) G (by omega) hL
  rw [nb_iP, ek]
  by_cases e : k = (N + 1) % 10
  · rw [← e, pk_us, pk_us]
    obtain ⟨a, ha, e1⟩ := hG.2.2.2.2.1 k hk
    obtain ⟨b, hb, e2⟩ := (h k hk).2
    have hab := (h k hk).1
    rw [e1, e2] at hab
    rw [e1, e2]
    have hab := (nI_leI (by omega) (by omega)).mp hab
    rw [held2 ⟨a, ha⟩, held2 ⟨b, hb⟩]
    exact ⟨nI_le (by show min 99 (a + 2) ≤ min 99 (b + 2); omega) (by show min 99 (b + 2) < _; omega), min 99 (b + 2), by omega, rfl⟩
  · rw [pk_un e, pk_un e]; exact h k hk
theorem nights_ml {s : InnS} {P : PA} {N : Nat} (hG : GS s) (hN : iN s = nI N) (h : ML s P) : ∀ n, N + n < 90000 → (∀ j, j < n → iLn (nightsS (j + 1) s) = 0) → (∃ P', nightsS n (ptS s P) = ptS (nightsS n s) P' ∧ ML (nightsS n s) P') ∧ ∀ j, j < n → iLn (nightsS (j + 1) (ptS s P)) = 0
  | 0, _, _ => ⟨⟨P, rfl, h⟩, lt_0⟩
  | n + 1, hn, hL => by
    obtain ⟨⟨P1, e1, h1⟩, h2⟩ := nights_ml hG hN h n (by omega) (fun j hj => hL j (by omega))
    obtain ⟨g1, g2⟩ := nights_keep hG hN n (by omega)
    obtain ⟨P2, e2, h3⟩ := night_ml (mare := 0) (sil := 0) g1 g2 (by omega) h1 (hL n (by omega))
    have e3 : nightsS (n + 1) (ptS s P) = ptS (nightsS (n + 1) s) P2 := by
      show nightS 0 0 (nightsS n (ptS s P)) = _
      rw [e1, e2]
      rfl
    refine ⟨⟨P2, e3, h3⟩, lt_s h2 ?_⟩
    rw [e3]
    exact hL n (by omega)
/-- another stock -/
abbrev pbS (s : InnS) (k v : Int32) : InnS := (iK s, iF s, iW s, iL s, iH s, upd (iP s) (ix k) v, iG s, iT s, iN s, iS s, iA s, iSn s, iLn s)
theorem GS_pb {s : InnS} {k v : Int32} (h : GS s) (hv : rng 100 v) : GS (pbS s k v) := by
  refine ⟨h.1, h.2.1, h.2.2.1, h.2.2.2.1, fun q hq => ?_, h.2.2.2.2.2⟩
  show rng 100 (upd (iP s) (ix k) v q)
  by_cases e : q = ix k
  · rw [e, pk_us]; exact hv
  · rw [pk_un e]; exact h.2.2.2.2.1 q hq
theorem ZB_pb {s : InnS} {k v : Int32} (h : ZB s) (hk : ix k < 10) : ZB (pbS s k v) := by
  refine ⟨h.1, fun q hq => ?_⟩
  show upd (iP s) (ix k) _ q = 0
  rw [pk_un (by omega)]; exact h.2 q hq
def SU (s : InnS) (k : Int32) (n v : Nat) : Prop := ∀ j, j < n → iLn (nightsS (j + 1) (pbS s k (nI v))) = 0
theorem SU_up {s : InnS} {k : Int32} {N n v v' : Nat} (hG : GS s) (hN : iN s = nI N) (hn : N + n < 90000) (hv : v ≤ v') (hv' : v' < 100) (h : SU s k n v) : SU s k n v' := by
  have hg := GS_pb (k := k) hG ⟨v, by omega, rfl⟩
  have e : pbS s k (nI v') = ptS (pbS s k (nI v)) (upd (iP s) (ix k) (nI v')) := rfl
  have hml : ML (pbS s k (nI v)) (upd (iP s) (ix k) (nI v')) := fun q hq => by
    show upd (iP s) (ix k) (nI v) q ≤ _ ∧ _
    by_cases e : q = ix k
    · rw [e, pk_us, pk_us]; exact ⟨nI_le hv (by omega), v', hv', rfl⟩
    · rw [pk_un e, pk_un e]; exact ⟨Int32.le_refl _, hG.2.2.2.2.1 q hq⟩
  have := (nights_ml hg (show iN (pbS s k (nI v)) = nI N from hN) hml n hn h).2
  unfold SU
  rw [e]
  exact this
/-- what lacks is no more than the nights tell -/
def LB (s : InnS) (N : Nat) : Prop := ∃ a, iA s = nI a ∧ a ≤ 7 * N
theorem SU_la {s : InnS} {k : Int32} {N n v : Nat} (hG : GS s) (hN : iN s = nI N) (hN9 : N ≤ 999) (hn : n ≤ 20) (hv : v < 100) (hL : LB s N) : SU s k n v ↔ iA (nightsS n (pbS s k (nI v))) = iA s := by
  obtain ⟨a, ha, ha2⟩ := hL
  obtain ⟨c, h1, h2, h3⟩ := nights_la (GS_pb (k := k) hG ⟨v, hv, rfl⟩) (show iN (pbS s k (nI v)) = nI N from hN) (show iA (pbS s k (nI v)) = nI a from ha) n (by omega) (by omega)
  unfold SU
  rw [← h3, h2, ha]
  rw [nI_eq (by omega) (by omega)]
  omega
noncomputable def leN (s : InnS) (k : Int32) (n : Nat) : Nat := fst (SU s k n) 100
noncomputable def leR (s : InnS) (k n : Int32) : Int32 := if (0 ≤ k ∧ k ≤ 9) ∧ (1 ≤ n ∧ n ≤ 20) then (if leN s k (ix n) = 100 then -4 else nI (leN s k (ix n))) else -1
theorem n20 {n : Int32} (h : 1 ≤ n ∧ n ≤ 20) : ∃ j, 1 ≤ j ∧ j ≤ 20 ∧ n = nI j := by
  have h0 : ¬ n < 0 := fun q => absurd (Int32.lt_of_lt_of_le q (by decide : (0 : Int32) ≤ 1)) (Int32.not_lt.mpr h.1)
  obtain ⟨j, hj, hx⟩ := nI_of2 (M := 20) (n := 20) rfl h0 h.2
  refine ⟨j, ?_, hj, hx⟩
  rw [hx] at h
  exact (nI_leI (by decide) (by omega)).mp (show nI 1 ≤ nI j from h.1)
theorem ix_k {k : Int32} (h : vp_in k 10) : ix k < 10 := Nat.not_le.mp (fun q => h (Or.inr q))
def F_X5_suffices : Fn := fun as w K => ∃ (r2 r3 r4 r5 : sv) (hi : Int32) (s m : InnS) (N n v : Nat) (k : Int32), as = [sR 0, sI k, sI (nI v), sI (nI n)] ∧ w = x2W r2 r3 r4 r5 hi s m ∧ ZB s ∧ GS s ∧ iN s = nI N ∧ N + n < 90000 ∧ v < 100 ∧ vp_in k 10 ∧ ZB m ∧ ∀ m', ZB m' → K (some (.inl (bp (SU s k n v)))) (x2W r2 r3 r4 r5 hi s m')
def ctb_X5_suffices : List (Nat × (List sv → List sc → (List sv → List sc → Prop) → Prop)) := [(1, cS (some 3) 1 F_X5_inMind), (17, cG [8, 9, 10, 11, 12, 13, 14] (some 0) 2 F_X0_passUnlacking)]
theorem cok_X5_suffices : CallOK cX5_suffices 5 (some .boolean) RX5 6 ctb_X5_suffices := CallOK_cons (site_same (rnV (pX5_suffices_ok 1 _ rfl) ct_X5_inMind kX5_inMind lRX5_58 (by decide))) (CallOK_cons (site_gen [8, 9, 10, 11, 12, 13, 14] (by decide) (rnV (pX5_suffices_ok 17 _ rfl) ct_X0_passUnlacking kX0_passUnlacking lRX5_177 (by decide))) (CallOK_nil))
theorem ct_X5_suffices : Ct yX5_suffices cX5_suffices 5 (some .boolean) 6 F_X5_suffices := by
  intro l D σ cA sz as w K h
  obtain ⟨r2, r3, r4, r5, hi, s, m, N, n, v, k, rfl, rfl, hZ, hG, hN, hN2, hv, hk, hM, h⟩ := h
  refine metL (pr := lkB pX5_suffices) (rk := 2) (ct := ctb_X5_suffices) (fld := lkB flX5) (cst := lkB csX5) (cstL := lkB clX5) [] pX5_suffices_ok kX5_suffices.2.2.2.2.2.2.2 fdX5 cdX5 rto2 cok_X5_suffices (Nat.le_of_ble_eq_true rfl) cut0 ?_ l D σ cA sz
  conv => whnf
  refine ⟨r2, r3, r4, r5, hi, s, m, rfl, rfl, hZ, hM, ?_⟩
  conv => whnf
  refine ⟨hk, ?_⟩
  conv => whnf
  refine ⟨pbS s k (nI v), n, N, rfl, rfl, ZB_pb hZ (ix_k hk), GS_pb hG ⟨v, hv, rfl⟩, hN, hN2, fun s' hs' => ?_⟩
  conv => whnf
  exact ⟨bp_01 _, h s' hs'⟩
def F_X5_least : Fn := fun as w K => ∃ (r2 r3 r4 r5 : sv) (hi : Int32) (s m : InnS) (N : Nat) (k n : Int32), as = [sR 0, sI k, sI n] ∧ w = x2W r2 r3 r4 r5 hi s m ∧ IV s N ∧ ZB m ∧ ∀ m', ZB m' → K (some (.inl (leR s k n))) (x2W r2 r3 r4 r5 hi s m')
def ctb_X5_least : List (Nat × (List sv → List sc → (List sv → List sc → Prop) → Prop)) := [(1, cS none 1 F_X5_isPlate), (11, cS none 3 F_X5_within), (54, cS (some 3) 4 F_X5_suffices)]
theorem cok_X5_least : CallOK cX5_least 7 (some .int) RX5 7 ctb_X5_least := CallOK_cons (site_same (rnS (pX5_least_ok 1 _ rfl) ct_X5_isPlate kX5_isPlate lRX5_110 (by decide))) (CallOK_cons (site_same (rnS (pX5_least_ok 11 _ rfl) ct_X5_within kX5_within lRX5_129 (by decide))) (CallOK_cons (site_same (rnV (pX5_least_ok 54 _ rfl) ct_X5_suffices kX5_suffices lRX5_174 (by decide))) (CallOK_nil)))
theorem ct_X5_least : Ct yX5_least cX5_least 7 (some .int) 7 F_X5_least := by
  intro l D σ cA sz as w K h
  obtain ⟨r2, r3, r4, r5, hi, s, m, N, k, n, rfl, rfl, ⟨hZ, hG, hN, hN9, hB⟩, hM, h⟩ := h
  have h0 := h m hM
  refine metL (pr := lkB pX5_least) (rk := 1) (ct := ctb_X5_least) (fld := lkB flX5) (cst := lkB csX5) (cstL := lkB clX5) [(28, ([true, true, true, true, true, true, false], fun x lv st w => ∃ (lo up stp : Nat) (m' : InnS), x = 101 - stp ∧ lo ≤ up ∧ up ≤ 100 ∧ stp + (up - lo) ≤ 100 ∧ ((0 ≤ k ∧ k ≤ 9) ∧ (1 ≤ n ∧ n ≤ 20)) ∧ (∀ v, v < lo → ¬ SU s k (ix n) v) ∧ (∀ v, up ≤ v → v < 100 → SU s k (ix n) v) ∧ ZB m' ∧ lv = [some (sR 0), some (sI k), some (sI n), some (sI (nI lo)), some (sI (nI up)), some (sI (nI stp)), none] ∧ st = [] ∧ w = x2W r2 r3 r4 r5 hi s m'))] pX5_least_ok kX5_least.2.2.2.2.2.2.2 fdX5 cdX5 rto1 cok_X5_least (Nat.le_of_ble_eq_true rfl) ?_ ?_ l D σ cA sz
  · refine List.forall_mem_cons.mpr ⟨?_, cut0⟩
    rintro x lv st w ⟨lo, up, stp, m', rfl, h1, h2, h3, hC, hlo, hup, hM', rfl, rfl, rfl⟩
    obtain ⟨n', hn1, hn', en⟩ := n20 hC.2
    have eix : ix n = n' := by rw [en]; exact nI_clamp (by omega)
    have hr : leR s k n = if leN s k n' = 100 then -4 else nI (leN s k n') := by
      unfold leR
      rw [if_pos hC, eix]
    rw [eix] at hlo hup
    have done : up ≤ lo → leN s k n' = lo := fun hle => by
      unfold leN
      rcases Nat.lt_or_ge lo 100 with q | q
      · exact fst_some (hup lo hle q) hlo q
      · have : lo = 100 := by omega
        rw [this]
        exact fst_none (fun i hi => hlo i (by omega))
    have hv := plate_in hC.1
    have fin : up ≤ lo → (nI lo ≤ 99 → K (some (.inl (nI lo))) (x2W r2 r3 r4 r5 hi s m')) ∧ (¬ nI lo ≤ 99 → K (some (.inl (-4))) (x2W r2 r3 r4 r5 hi s m')) := fun hle => by
      have hr2 := hr
      rw [done hle] at hr2
      refine ⟨fun z => kI (h _ hM') ?_, fun z => kI (h _ hM') ?_⟩
      · have := (nI_leI (by omega) (by decide)).mp (show nI lo ≤ nI 99 from z)
        rw [hr2, if_neg (by omega)]
      · rw [hr2, if_pos]
        have : ¬ lo ≤ 99 := fun q => z (nI_le q (by decide))
        omega
    conv => whnf
    refine ⟨fun hc => ?_, fun hc => ?_⟩
    · have hs : stp = 100 := by
        have := (nI_ltI (by decide) (by omega)).mp (show nI 99 < nI stp from hc)
        omega
      have fin := fin (by omega)
      conv => whnf
      refine ⟨fun hz => ?_, fun hz => ?_⟩
      · conv => whnf
        exact fin.1 hz
      · conv => whnf
        exact fin.2 hz
    · have hs : stp ≤ 99 := Nat.not_lt.mp (fun z => hc (show nI 99 < nI stp from nI_lt z (by omega)))
      conv => whnf
      refine ⟨fun hc2 => ?_, fun hc2 => ?_⟩
      · have fin := fin ((nI_leI (by omega) (by omega)).mp hc2)
        conv => whnf
        refine ⟨fun hz => ?_, fun hz => ?_⟩
        · conv => whnf
          exact fin.1 hz
        · conv => whnf
          exact fin.2 hz
      · have hlt : lo < up := Nat.not_le.mp (fun z => hc2 (nI_le z (by omega)))
        have ev : (nI lo + nI up) / 2 = nI ((lo + up) / 2) := by rw [nI_add]; exact pk_div (d := 2) (by omega) (by decide) (by decide)
        conv => whnf
        refine ⟨by decide, ?_⟩
        rw [ev]
        generalize hvv : (lo + up) / 2 = v
        have hv1 : lo ≤ v := by omega
        have hv2 : v < up := by omega
        conv => whnf
        refine ⟨r2, r3, r4, r5, hi, s, m', N, n', v, k, by rw [en], rfl, hZ, hG, hN, by omega, by omega, hv, hM', fun m2 hm2 => ?_⟩
        conv => whnf
        refine ⟨fun hb => ?_, fun hb => ?_⟩
        · have hb := bp_0.mp hb
          conv => whnf
          refine ⟨101 - (stp + 1), by omega, v + 1, up, stp + 1, m2, rfl, hv2, h2, by omega, hC, ?_, ?_, hm2, by rw [← nI_1 v, ← nI_1 stp]; rfl, rfl, rfl⟩
          · rw [eix]
            exact fun w hw hsu => hb (SU_up hG hN (by omega) (show w ≤ v by omega) (by omega) hsu)
          · rw [eix]; exact hup
        · have hb := bp_n hb
          conv => whnf
          refine ⟨101 - (stp + 1), by omega, lo, v, stp + 1, m2, rfl, hv1, by omega, by omega, hC, by rw [eix]; exact hlo, ?_, hm2, by rw [← nI_1 stp]; rfl, rfl, rfl⟩
          rw [eix]
          exact fun w hw hw2 => SU_up hG hN (by omega) hw hw2 hb
  · conv => whnf
    refine ⟨fun hc => ?_, fun hc1 => ?_⟩
    · conv => whnf
      exact kI h0 (by unfold leR; rw [if_neg (fun q => bp_0.mp hc q.1)])
    conv => whnf
    refine ⟨fun hc2 => ?_, fun hc => ?_⟩
    rotate_left
    · conv => whnf
      exact kI h0 (by unfold leR; rw [if_neg (fun q => bp_0.mp hc q.2)])
    conv => whnf
    exact ⟨101, 0, 100, 0, m, rfl, by decide, by decide, by decide, ⟨bp_n hc1, bp_n hc2⟩, lt_0, fun v h1 h2 => by omega, hM, rfl, rfl, rfl⟩
def F_X6_least : Fn := fun as w K => ∃ (s : InnS) (q : Pm) (t : Tm) (N : Nat) (k n : Int32), as = [sR 0, sI k, sI n] ∧ w = modW s q t ∧ TZ t ∧ IV s N ∧ LB s N ∧ ∀ a b t', TZ t' → K (some (.inl (leR s k n))) (modW (snS s a b) q t')
def ctb_X6_least : List (Nat × (List sv → List sc → (List sv → List sc → Prop) → Prop)) := [(6, cS none 1 F_X6_isPlate), (18, cS none 3 F_X6_in), (36, cS (some 4) 1 F_X6_think), (63, cS (some 4) 2 F_X6_lackingThen)]
theorem cok_X6_least : CallOK cX6_least 6 (some .int) RX6 7 ctb_X6_least := CallOK_cons (site_same (rnS (pX6_least_ok 6 _ rfl) ct_X6_isPlate kX6_isPlate lRX6_220 (by decide))) (CallOK_cons (site_same (rnS (pX6_least_ok 18 _ rfl) ct_X6_in kX6_in lRX6_81 (by decide))) (CallOK_cons (site_same (rnV (pX6_least_ok 36 _ rfl) ct_X6_think kX6_think lRX6_190 (by decide))) (CallOK_cons (site_same (rnV (pX6_least_ok 63 _ rfl) ct_X6_lackingThen kX6_lackingThen lRX6_241 (by decide))) (CallOK_nil))))
theorem ct_X6_least : Ct yX6_least cX6_least 6 (some .int) 7 F_X6_least := by
  intro l D σ cA sz as w K h
  obtain ⟨s, q, t, N, k, n, rfl, rfl, hT, ⟨hZ, hG, hN, hN9, hB⟩, hL, h⟩ := h
  have h0 := h (iSn s) (iLn s) (tq0 t) hT
  have hT0 : TZ (tq0 t) := hT
  refine metL (pr := lkB pX6_least) (rk := 1) (ct := ctb_X6_least) (fld := lkB flX6) (cst := lkB csX6) (cstL := lkB clX6) [(42, ([true, true, true, true, true, true], fun x lv st w => ∃ (v : Nat) (f a b : Int32) (t1 : Tm), v ≤ 100 ∧ x = 100 - v ∧ ((0 ≤ k ∧ k ≤ 9) ∧ (1 ≤ n ∧ n ≤ 20)) ∧ TZ t1 ∧ KP s t1 ∧ ((f = -4 ∧ ∀ i, i < v → ¬ SU s k (ix n) i) ∨ (0 ≤ f ∧ f = leR s k n)) ∧ lv = [some (sR 0), some (sI k), some (sI n), some (sI f), some (sI (iA s)), some (sI (nI v))] ∧ st = [] ∧ w = modW (snS s a b) q t1))] pX6_least_ok kX6_least.2.2.2.2.2.2.2 fdX6 cdX6 rto1 cok_X6_least (Nat.le_of_ble_eq_true rfl) ?_ ?_ l D σ cA sz
  · refine List.forall_mem_cons.mpr ⟨?_, cut0⟩
    rintro x lv st w ⟨v, f, a, b, t1, hv, rfl, hC, hT1, hk1, hf, rfl, rfl, rfl⟩
    obtain ⟨n', hn1, hn', en⟩ := n20 hC.2
    have eix : ix n = n' := by rw [en]; exact nI_clamp (by omega)
    have hr : leR s k n = if leN s k n' = 100 then -4 else nI (leN s k n') := by
      unfold leR
      rw [if_pos hC, eix]
    rw [eix] at hf
    have hki := plate_in hC.1
    conv => whnf
    refine ⟨fun hc => ?_, fun hc => ?_⟩
    · obtain rfl := lp_ge hv (by decide) hc
      conv => whnf
      refine kI (h a b t1 hT1) ?_
      rcases hf with ⟨e, hall⟩ | e
      · have : leN s k n' = 100 := fst_none hall
        rw [hr, this, if_pos rfl, e]
      · exact e.2.symm
    · have hlt := lp_lt hv (by decide) hc
      conv => whnf
      refine ⟨fun h1 => ?_, fun h1 => ?_⟩
      · conv => whnf
        refine kI (h a b t1 hT1) ?_
        rcases hf with ⟨e, -⟩ | e
        · rw [e] at h1; exact absurd h1 (by decide)
        · exact e.2.symm
      · have hall : ∀ i, i < v → ¬ SU s k n' i := by
          rcases hf with ⟨-, e⟩ | e
          · exact e
          · exact absurd e.1 h1
        have hsu := SU_la (k := k) (v := v) hG hN hN9 hn' hlt hL
        obtain ⟨a', b', e1⟩ := nights_sn (pbS s k (nI v)) a b n'
        have eA : iA (nightsS n' (snS (pbS s k (nI v)) a b)) = iA (nightsS n' (pbS s k (nI v))) := by rw [e1]; rfl
        repeat' ((conv => whnf); (first | refine And.intro (by first | decide | with_reducible assumption) ?_ | with_reducible refine And.intro (fun hc => ?_) (fun hc => ?_) | with_reducible refine And.intro (fun hc => ?_) ?_ | fail))
        all_goals try (conv => whnf)
        refine ⟨snS (pbS s k (nI v)) a b, s, q, t1, N, n', by rw [en], rfl, hT1, hk1, ZB_pb hZ (ix_k hki), hZ, GS_pb (k := k) hG ⟨v, hlt, rfl⟩, hN, by omega, fun a2 b2 t2 hs2 hk2 => ?_⟩
        rw [eA]
        conv => whnf
        refine ⟨fun h2 => ?_, fun h2 => ?_⟩
        · conv => whnf
          exact ⟨100 - (v + 1), by omega, v + 1, -4, a2, b2, t2, hlt, rfl, hC, hs2.tz hT1, hk2, Or.inl ⟨rfl, by rw [eix]; exact lt_s hall (fun z => h2 (hsu.mp z))⟩, by rw [← nI_1 v]; rfl, rfl, rfl⟩
        · conv => whnf
          exact ⟨100 - (v + 1), by omega, v + 1, nI v, a2, b2, t2, hlt, rfl, hC, hs2.tz hT1, hk2, Or.inr ⟨nI_pos' (by omega), by
            have : leN s k n' = v := fst_some (hsu.mpr h2) hall hlt
            rw [hr, this, if_neg (by omega)]⟩, by rw [← nI_1 v]; rfl, rfl, rfl⟩
  · conv => whnf
    refine ⟨fun hc => ?_, fun hc1 => ?_⟩
    · conv => whnf
      exact kI h0 (by unfold leR; rw [if_neg (fun q => bp_0.mp hc q.1)])
    conv => whnf
    refine ⟨fun hc2 => ?_, fun hc => ?_⟩
    rotate_left
    · conv => whnf
      have hc := bp_0.mp ((in_ii 1 n 20).symm.trans hc)
      exact kI h0 (by unfold leR; rw [if_neg (fun q => hc q.2)])
    conv => whnf
    refine ⟨s, q, tq0 t, rfl, rfl, fun t1 hs1 hk1 => ?_⟩
    conv => whnf
    exact ⟨100, 0, -4, iSn s, iLn s, t1, by decide, rfl, ⟨bp_n hc1, bp_n (fun z => hc2 ((in_ii 1 n 20).trans z))⟩, hs1.tz hT0, hk1, Or.inl ⟨rfl, lt_0⟩, rfl, rfl, rfl⟩
