/-! ===== whom the night served last doesn't matter ===== -/
section SNL
variable {s : InnS} {a b : Int32}
theorem ns_pos : ∀ n, nightsS (n + 1) (snS s a b) = nightsS (n + 1) s
  | 0 => night_sn 0 0 s a b
  | n + 1 => by
    show nightS 0 0 (nightsS (n + 1) (snS s a b)) = nightS 0 0 (nightsS (n + 1) s)
    rw [ns_pos n]
theorem ns_iH (n : Nat) : iH (nightsS n (snS s a b)) = iH (nightsS n s) := by
  cases n with
  | zero => rfl
  | succ n => rw [ns_pos]
theorem ns_iL (n : Nat) : iL (nightsS n (snS s a b)) = iL (nightsS n s) := by
  cases n with
  | zero => rfl
  | succ n => rw [ns_pos]
theorem ns_iP (n : Nat) : iP (nightsS n (snS s a b)) = iP (nightsS n s) := by
  cases n with
  | zero => rfl
  | succ n => rw [ns_pos]
theorem ns_iT (n : Nat) : iT (nightsS n (snS s a b)) = iT (nightsS n s) := by
  cases n with
  | zero => rfl
  | succ n => rw [ns_pos]
theorem ns_iS (n : Nat) : iS (nightsS n (snS s a b)) = iS (nightsS n s) := by
  cases n with
  | zero => rfl
  | succ n => rw [ns_pos]
theorem ns_iA (n : Nat) : iA (nightsS n (snS s a b)) = iA (nightsS n s) := by
  cases n with
  | zero => rfl
  | succ n => rw [ns_pos]
theorem gu_sn (g w : Int32) : guF (snS s a b) g w = guF s g w := rfl
theorem la_sn (k : Int32) : laF (snS s a b) k = laF s k := rfl
theorem gt_sn (g n w : Int32) : gtF (snS s a b) g n w = gtF s g n w := by
  unfold gtF
  rw [ns_iH, ns_iL]
  rfl
theorem lt_sn (k n : Int32) : ltF (snS s a b) k n = ltF s k n := by
  unfold ltF
  rw [ns_iP]
theorem th_sn (n w : Int32) : thF (snS s a b) n w = thF s n w := by
  unfold thF
  rw [ns_iT, ns_iS, ns_iA]
theorem lvN_sn (o : Nat) : lvN (snS s a b) o = lvN s o := by
  unfold lvN
  rw [gone_sn]
  rfl
theorem lvF_sn : ∀ o, lvF (snS s a b) o = lvF s o
  | 0 => rfl
  | o + 1 => by
    show (if lvN (snS s a b) o < (lvF (snS s a b) o).2 then (nI o, lvN (snS s a b) o) else lvF (snS s a b) o) = _
    rw [lvN_sn, lvF_sn o]
    rfl
theorem lv_sn (g : Int32) : lvR (snS s a b) g = lvR s g := by
  unfold lvR
  simp only [lvF_sn, ns_iT]
  rfl
theorem ou_sn (k : Int32) : ouF (snS s a b) k = ouF s k := by
  unfold ouF
  simp only [ns_iP]
theorem ta_sn (g w : Int32) : taF (snS s a b) g w = taF s g w := by
  unfold taF
  rw [ns_pos 0]
  rfl
theorem bwV_sn (g : Int32) (n k : Nat) : bwV (snS s a b) g n k = bwV s g n k := by
  unfold bwV
  rw [show wbS (snS s a b) g (nI k) = snS (wbS s g (nI k)) a b from rfl, ns_iH]
theorem bwF_sn (g : Int32) (n : Nat) : ∀ k, bwF (snS s a b) g n k = bwF s g n k
  | 0 => rfl
  | k + 1 => by
    show (if (bwF (snS s a b) g n k).2 < bwV (snS s a b) g n k then (nI k, bwV (snS s a b) g n k) else bwF (snS s a b) g n k) = _
    rw [bwV_sn, bwF_sn g n k]
    rfl
theorem bw_sn (g n w : Int32) : bwR (snS s a b) g n w = bwR s g n w := by
  unfold bwR
  rw [bwF_sn]
  rfl
theorem buV_sn (n k : Nat) : buV (snS s a b) n k = buV s n k := by
  unfold buV
  rw [show stS (snS s a b) (nI k) 5 = snS (stS s (nI k) 5) a b from rfl, ns_iA]
theorem buF_sn (n : Nat) : ∀ k, buF (snS s a b) n k = buF s n k
  | 0 => by
    show (_, iA (nightsS n (snS s a b))) = _
    rw [ns_iA]
    rfl
  | k + 1 => by
    show (if buV (snS s a b) n k < (buF (snS s a b) n k).2 then (nI k, buV (snS s a b) n k) else buF (snS s a b) n k) = _
    rw [buV_sn, buF_sn n k]
    rfl
theorem bu_sn (n : Int32) : buR (snS s a b) n = buR s n := by
  unfold buR
  rw [buF_sn]
theorem SU_sn (k : Int32) (n v : Nat) : SU (snS s a b) k n v = SU s k n v := by
  unfold SU
  rw [show pbS (snS s a b) k (nI v) = snS (pbS s k (nI v)) a b from rfl]
  simp only [ns_pos]
theorem le_sn (k n : Int32) : leR (snS s a b) k n = leR s k n := by
  have e : leN (snS s a b) k (ix n) = leN s k (ix n) := by
    unfold leN
    rw [show SU (snS s a b) k (ix n) = SU s k (ix n) from funext (fun v => SU_sn k (ix n) v)]
  unfold leR
  rw [e]
theorem hbV_sn (x who : Int32) (n G : Nat) : hbV (snS s a b) x who n G = hbV s x who n G := by
  unfold hbV
  rw [show thS (snS s a b) x = snS (thS s x) a b from rfl, ns_iH, ns_iT]
theorem seF_sn (n G : Nat) : ∀ g, seF (snS s a b) n G g = seF s n G g
  | 0 => rfl
  | g + 1 => by
    have e1 : seA (snS s a b) n G g = seA s n G g := by unfold seA; rw [hbV_sn]; rfl
    have e2 : seB (snS s a b) n G g = seB s n G g := by unfold seB; rw [hbV_sn]; rfl
    show @ite _ (tb (iT s) (nI g) ∧ seA (snS s a b) n G g < seB (snS s a b) n G g ∧ (seF (snS s a b) n G g).2 < seB (snS s a b) n G g) (Classical.propDecidable _) (nI g, seB (snS s a b) n G g) (seF (snS s a b) n G g) = _
    rw [e1, e2, seF_sn n G g]
    rfl
theorem se_sn (n : Int32) : seR (snS s a b) n = seR s n := by
  unfold seR
  rw [seF_sn]
  rfl
theorem st_sn (i : Int32) : stR (snS s a b) i = stR s i := rfl
theorem sa_sn (w : Int32) : saF (snS s a b) w = saF s w := rfl
theorem wy_sn (w g k : Int32) : wyS w (snS s a b) g k = snS (wyS w s g k) a b := by
  unfold wyS
  split <;> rfl
theorem ws_sn (u : ShS) (d g w : Int32) : wsF (snS s a b) u d g w = wsF s u d g w := by
  have e : wiP (snS s a b) u g w (ix (uM u)) = wiP s u g w (ix (uM u)) := by
    funext k
    unfold wiP
    rw [wy_sn]
    exact propext (hsP_sn _ _ _ _ _ _)
  unfold wsF
  rw [e]
  rfl
theorem ww_sn (u : ShS) (d g : Int32) : wwF (snS s a b) u d g = wwF s u d g := by
  have e : wvP (snS s a b) u g (ix (uM u)) = wvP s u g (ix (uM u)) := by
    funext k
    unfold wvP
    rw [show wbS (snS s a b) g (nI k) = snS (wbS s g (nI k)) a b from rfl]
    exact propext (lsP_sn _ _ _ _ _ _)
  unfold wwF
  rw [e]
  rfl
theorem tw_sn (x y : Int32) (n : Nat) (z : Int32) : twS (snS s a b) x y n z = twS s x y n z := by
  unfold twS
  rw [night_sn]
theorem tu_sn (x y n : Int32) : tuR (snS s a b) x y n = tuR s x y n := by
  have e : twP (snS s a b) x y (ix n) = twP s x y (ix n) := by
    funext p
    unfold twP pyA pyB
    rw [tw_sn, tw_sn, tw_sn]
  unfold tuR
  rw [e]
  rfl
theorem mr_sn (m n : Nat) : iH (mrS (snS s a b) m n) = iH (mrS s m n) := by
  cases n with
  | zero => rfl
  | succ n =>
    have : ∀ k, mrS (snS s a b) m (k + 1) = mrS s m (k + 1) := by
      intro k
      induction k with
      | zero => exact night_sn _ _ _ _ _
      | succ k ih =>
        show nightS _ 0 (mrS (snS s a b) m (k + 1)) = nightS _ 0 (mrS s m (k + 1))
        rw [ih]
    rw [this n]
theorem AN_sn (g v : Int32) (t n : Nat) : ∀ m, AN (snS s a b) g v t n m = AN s g v t n m
  | 0 => rfl
  | m + 1 => by
    show AN (snS s a b) g v t n m + (if v ≤ iH (mrS (snS s a b) m n) (ix g) then wN t m n else 0) = _
    rw [AN_sn g v t n m, mr_sn]
    rfl
theorem ma_sn (g n t v p : Int32) : maR (snS s a b) g n t v p = maR s g n t v p := by
  unfold maR
  rw [AN_sn]
  rfl
theorem me_sn (p : Int32) : meF (snS s a b) p = meF s p := rfl
theorem fo_sn (u : ShS) (d : Int32) : foF (snS s a b) u d = foF s u d := rfl
theorem ju_sn (u : ShS) (d : Int32) : juF (snS s a b) u d = juF s u d := by
  have e : juP (snS s a b) u = juP s u := by
    funext k
    unfold juP
    rw [ns_iP]
  unfold juF
  rw [e]
theorem yrA_sn (G : Nat) (z : Int32) : yrA (snS s a b) G z = snS (yrA s G z) a b := rfl
theorem yrV_sn (G : Nat) (w z : Int32) : yrV (snS s a b) G w z = yrV s G w z := by
  unfold yrV
  rw [yrA_sn, ns_iS, ns_iT, iS_sn]
theorem yrF_sn (G : Nat) (w z : Int32) : ∀ k, yrF (snS s a b) G w z k = yrF s G w z k
  | 0 => rfl
  | k + 1 => by
    show ((yrF (snS s a b) G w z k).1 + yrV (snS s a b) G w (yrF (snS s a b) G w z k).2, sdN (sdN (yrF (snS s a b) G w z k).2 G) 10) = ((yrF s G w z k).1 + yrV s G w (yrF s G w z k).2, sdN (sdN (yrF s G w z k).2 G) 10)
    rw [yrF_sn G w z k, yrV_sn]
theorem yr_sn (n z w : Int32) : yrR (snS s a b) n z w = yrR s n z w := by
  unfold yrR
  rw [yrF_sn]
  rfl
theorem co_sn (w : Int32) : coF (snS s a b) w = coF s w := rfl
theorem wi_sn (g k : Int32) : wiR (snS s a b) g k = wiR s g k ∧ wiS (snS s a b) g k = snS (wiS s g k) a b := by
  refine ⟨rfl, ?_⟩
  unfold wiS
  by_cases h : wiC s g k
  · rw [@if_pos _ (Classical.propDecidable _) h, @if_pos _ (Classical.propDecidable _) (show wiC (snS s a b) g k from h)]
    rfl
  · rw [@if_neg _ (Classical.propDecidable _) h, @if_neg _ (Classical.propDecidable _) (show ¬ wiC (snS s a b) g k from h)]
theorem he_sn (g v : Int32) : heR (snS s a b) g v = heR s g v ∧ heS (snS s a b) g v = snS (heS s g v) a b := by
  refine ⟨rfl, ?_⟩
  unfold heS
  by_cases h : heC s g v ∧ tb (iT s) g
  · rw [@if_pos _ (Classical.propDecidable _) h, @if_pos _ (Classical.propDecidable _) (show heC (snS s a b) g v ∧ tb (iT (snS s a b)) g from h)]
    rfl
  · rw [@if_neg _ (Classical.propDecidable _) h, @if_neg _ (Classical.propDecidable _) (show ¬ (heC (snS s a b) g v ∧ tb (iT (snS s a b)) g) from h)]
theorem fi_sn (k v : Int32) : fiR (snS s a b) k v = fiR s k v ∧ fiS (snS s a b) k v = snS (fiS s k v) a b := by
  refine ⟨rfl, ?_⟩
  unfold fiS
  by_cases h : fiC k v
  · rw [@if_pos _ (Classical.propDecidable _) h, @if_pos _ (Classical.propDecidable _) h]
    rfl
  · rw [@if_neg _ (Classical.propDecidable _) h, @if_neg _ (Classical.propDecidable _) h]
theorem ni_sn (n : Int32) : niR (snS s a b) n = niR s n ∧ ∃ a' b', niS (snS s a b) n = snS (niS s n) a' b' := by
  refine ⟨?_, ?_⟩
  · unfold niR
    rw [ns_iT]
    rfl
  · unfold niS
    by_cases h : (1 ≤ n ∧ n ≤ 60) ∧ ¬ 999 < iN s + n
    · rw [if_pos h, if_pos (show (1 ≤ n ∧ n ≤ 60) ∧ ¬ 999 < iN (snS s a b) + n from h)]
      exact nights_sn s a b (ix n)
    · rw [if_neg h, if_neg (show ¬ ((1 ≤ n ∧ n ≤ 60) ∧ ¬ 999 < iN (snS s a b) + n) from h)]
      exact ⟨a, b, rfl⟩
theorem teP_sn (c : PA) (p : Nat) : teP c p (snS s a b) = teP c p s := rfl
theorem teS_sn (c : PA) (p : Nat) : ∃ a' b', teS c p (snS s a b) = snS (teS c p s) a' b' := by
  unfold teS
  split
  · exact ⟨a, b, rfl⟩
  · split
    · exact ⟨a, b, rfl⟩
    · split
      · exact ⟨a, b, rfl⟩
      · split
        · exact ⟨a, b, rfl⟩
        · split
          · exact ⟨a, b, rfl⟩
          · split
            · exact ⟨a, b, rfl⟩
            · exact nights_sn s a b _
theorem tlS_sn (c : PA) : ∀ k, ∃ a' b', tlS c (snS s a b) k = snS (tlS c s k) a' b'
  | 0 => ⟨a, b, rfl⟩
  | k + 1 => by
    obtain ⟨a', b', e⟩ := tlS_sn c k
    show ∃ a' b', teS c (pkN c k) (tlS c (snS s a b) k) = snS (teS c (pkN c k) (tlS c s k)) a' b'
    rw [e]
    exact teS_sn c (pkN c k)
theorem kF_sn (c : PA) (E : Nat) : kF c (snS s a b) E = kF c s E := by
  unfold kF
  congr 1
  funext k
  obtain ⟨a', b', e⟩ := tlS_sn (s := s) (a := a) (b := b) c k
  rw [e, teP_sn]
theorem in_sn (u : ShS) (d : Int32) : inR (snS s a b) u d = inR s u d ∧ ∃ a' b', inS (snS s a b) u d = snS (inS s u d) a' b' := by
  refine ⟨?_, ?_⟩
  · unfold inR
    rw [kF_sn]
  · unfold inS
    rw [kF_sn]
    split
    · exact tlS_sn _ _
    · exact ⟨a, b, rfl⟩
end SNL
