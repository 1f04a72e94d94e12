/-! ===== the whole invariant of an inn ===== -/
def TS (x : Int32) (s : InnS) : Prop := ∀ i, bt x i = false → bt (iT s) i = false
section TSS
variable {x : Int32} {s : InnS}
theorem TS_ch {g d : Int32} (h : TS x s) : TS x (chS s g d) := by
  intro i hi
  show bt (chT _ _ _) i = false
  unfold chT
  split
  · rw [b_and, h i hi]; rfl
  · exact h i hi
theorem TS_bf {g k : Int32} (h : TS x s) : TS x (bfS s g k) := by
  unfold bfS
  by_cases h4 : k = -4
  · rw [if_pos h4]; exact TS_ch h
  · rw [if_neg h4]
    by_cases he : eatsK (iK s (ix g)) ≤ iP s (ix k)
    · rw [if_pos he]
      intro i hi
      rw [iT_sv]
      exact TS_ch (s := tkS s k (eatsK (iK s (ix g)))) h i hi
    · rw [if_neg he]
      intro i hi
      rw [iT_la]
      exact TS_ch h i hi
theorem TS_gf {mare sil : Int32} (h : TS x s) : ∀ j, TS x (gfS mare sil j s)
  | 0 => h
  | j + 1 => by
    show TS x (gsS _ _ _ _)
    unfold gsS
    split
    · exact TS_bf (TS_gf h j)
    · exact TS_gf h j
theorem TS_night {mare sil : Int32} (h : TS x s) : TS x (nightS mare sil s) := TS_gf (s := nbS s) h _
theorem TS_nights (h : TS x s) : ∀ n, TS x (nightsS n s)
  | 0 => h
  | n + 1 => TS_night (TS_nights h n)
theorem iG_nights : ∀ n, iG (nightsS n s) = iG s
  | 0 => rfl
  | n + 1 => by
    show iG (nightS 0 0 (nightsS n s)) = _
    rw [night_keep.2.1, iG_nights n]
theorem TG_nights (h : TG s) (n : Nat) : TG (nightsS n s) := by
  intro i hi
  rw [iG_nights] at hi
  exact TS_nights (x := iT s) (fun i hi => hi) n i (h i hi)
end TSS
def IQ (s : InnS) : Prop := ∃ N, IV s N ∧ TG s ∧ LB s N
section IQS
variable {s : InnS}
theorem IQ_ni {n N : Nat} (hI : IV s N) (hT : TG s) (hL : LB s N) (hn : N + n ≤ 999) (h60 : n ≤ 60) : IQ (nightsS n s) := by
  refine ⟨N + n, IV_ni hI hn, TG_nights hT n, ?_⟩
  obtain ⟨a, ha, ha2⟩ := hL
  obtain ⟨c, h1, h2, -⟩ := nights_la hI.2.1 hI.2.2.1 ha n (by omega) (by omega)
  exact ⟨a + c, h2, by omega⟩
theorem TG_or {g : Int32} {j G : Nat} (hT : TG s) (eG : ix (iG s) ≤ G) (eg : g = nI j) (hj : j < G) (h32 : G < 32) : ∀ i, G ≤ i → bt (iT s ||| jshl 1 g) i = false := by
  intro i hi
  by_cases h : i < 32
  · rw [b_or, hT i (by omega), eg, bt_one (by omega) h, decide_eq_false (by omega)]
    rfl
  · exact b_big (by omega)
theorem IQ_ad {k f w : Int32} (h : IQ s) (h7 : iG s < 7) (hf : rng 10 f) (hw : rng 10 w) : IQ (adS s k f w) := by
  obtain ⟨N, hI, hT, hL⟩ := h
  refine ⟨N, IV_ad hI h7 hf hw, ?_, hL⟩
  obtain ⟨G, hG8, eG⟩ := hI.2.1.2.1
  have e1 : ix (iG s) = G := by rw [eG]; exact nI_clamp (by omega)
  have hG7 : G < 7 := by
    rw [eG] at h7
    exact (nI_ltI (by omega) (by decide)).mp (show nI G < nI 7 from h7)
  intro i hi
  have e2 : ix (iG (adS s k f w)) = G + 1 := by
    show ix (iG s + 1) = G + 1
    rw [eG, nI_1]; exact nI_clamp (by omega)
  rw [e2] at hi
  exact TG_or (j := G) (G := G + 1) hT (by omega) eG (by omega) (by omega) i hi
theorem IQ_te {c : PA} {n p : Nat} (h : IQ s) (hg : gdS c n p) (ht : teP c p s) : IQ (teS c p s) := by
  obtain ⟨N, hI, hT, hL⟩ := id h
  obtain ⟨⟨g1, g2⟩, d1, d2, d3, -⟩ := id hg
  have r1 := dg_rng d1.2
  have r2 := dg_rng d2.2
  rcases dg_let g2 with (z | z | z) | (z | z | z | z)
  · have r3 := dg_rng (d3 (by rw [z]; decide)).2
    rw [te_g z]
    exact IQ_ad h (ht.1 z).2 r2 r3
  · have r3 := dg_rng (d3 (by rw [z]; decide)).2
    rw [te_l z]
    exact ⟨N, IV_pp hI r1 (dg_2 r2 r3), hT, hL⟩
  · have r3 := dg_rng (d3 (by rw [z]; decide)).2
    have hk := ht.2.1 (Or.inr (Or.inr z))
    rw [te_h z]
    refine ⟨N, IV_hh hI (kn_rng hI.2.1 hk) (dg_2 r2 r3), ?_, hL⟩
    obtain ⟨G, hG8, eG⟩ := hI.2.1.2.1
    have e1 : ix (iG s) = G := by rw [eG]; exact nI_clamp (by omega)
    obtain ⟨j, hj, ej⟩ := kn hG8 (by rw [← eG]; exact hk)
    intro i hi
    have hi : ix (iG s) ≤ i := hi
    exact TG_or (j := j) (G := G) hT (by omega) ej hj (by omega) i (by omega)
  · rw [te_w z]
    exact ⟨N, IV_wb hI (kn_rng hI.2.1 (ht.2.1 (Or.inl z))) r2, hT, hL⟩
  · rw [te_e z]
    exact ⟨N, IV_ls hI (kn_rng hI.2.1 (ht.2.1 (Or.inr (Or.inl z)))) r2, hT, hL⟩
  · rw [te_b z]
    exact ⟨N, IV_st hI r1 r2, hT, hL⟩
  · rw [te_d z]
    obtain ⟨n', en, ei, h1, h60, h9⟩ := pn_n hI (ht.2.2.2 z)
    rw [ei]
    exact IQ_ni hI hT hL h9 h60
theorem IQ_tl {c : PA} {n : Nat} (h : IQ s) : ∀ k, (∀ j, j < k → gdS c n (pkN c j)) → (∀ j, j < k → teP c (pkN c j) (tlS c s j)) → IQ (tlS c s k)
  | 0, _, _ => h
  | k + 1, hg, ht => IQ_te (IQ_tl h k (fun j hj => hg j (by omega)) (fun j hj => ht j (by omega))) (hg k (by omega)) (ht k (by omega))
theorem fst_all {P : Nat → Prop} {m : Nat} (h : fst P m = m) : ∀ i, i < m → ¬ P i := by
  intro i hi hp
  have : ∀ k, ∀ i, i < k → P i → ∃ j, j < k ∧ P j ∧ ∀ i, i < j → ¬ P i := by
    intro k
    induction k with
    | zero => intro i hi; omega
    | succ k ih =>
      intro i hi hp
      by_cases hx : ∃ i, i < k ∧ P i
      · obtain ⟨i, h1, h2⟩ := hx
        obtain ⟨j, h3, h4⟩ := ih i h1 h2
        exact ⟨j, by omega, h4⟩
      · exact ⟨i, hi, hp, fun i2 h2 h3 => hx ⟨i2, by omega, h3⟩⟩
  obtain ⟨j, h1, h2, h3⟩ := this m i hi hp
  have := fst_some h2 h3 h1
  omega
theorem IQ_in {u : ShS} {d : Int32} (h : IQ s) (hu : reF u d 2 = 0 → ix (uM u) ≤ 100) : IQ (inS s u d) := by
  unfold inS
  split
  · rename_i hc
    obtain ⟨h1, h2, h3, h4⟩ := hc
    obtain ⟨g1, g2, g3, g4⟩ := tx_good (hu h1) h3
    refine IQ_tl h _ g3 (fun j hj => ?_)
    have := fst_all (P := fun k => ¬ teP (uC u) (pkN (uC u) k) (tlS (uC u) s k)) h4 j hj
    exact Classical.not_not.mp this
  · exact h
theorem IQ_wi {g k : Int32} (h : IQ s) : IQ (wiS s g k) := by
  obtain ⟨N, hI, hT, hL⟩ := h
  unfold wiS
  by_cases hc : wiC s g k
  · rw [@if_pos _ (Classical.propDecidable _) hc]
    obtain ⟨j, hj, ek⟩ := in_rng (n := 9) (by decide) hc.2
    exact ⟨N, IV_wb hI (kn_rng hI.2.1 hc.1) ⟨j, by omega, ek⟩, hT, hL⟩
  · rw [@if_neg _ (Classical.propDecidable _) hc]
    exact ⟨N, hI, hT, hL⟩
theorem IQ_he {g v : Int32} (h : IQ s) : IQ (heS s g v) := by
  obtain ⟨N, hI, hT, hL⟩ := h
  unfold heS
  by_cases hc : heC s g v ∧ tb (iT s) g
  · rw [@if_pos _ (Classical.propDecidable _) hc]
    obtain ⟨j, hj, ek⟩ := in_rng (n := 99) (x := v) (by decide) ⟨Int32.le_trans (by decide) hc.1.2.1, hc.1.2.2⟩
    exact ⟨N, IV_he hI (kn_rng hI.2.1 hc.1.1) ⟨j, by omega, ek⟩, hT, hL⟩
  · rw [@if_neg _ (Classical.propDecidable _) hc]
    exact ⟨N, hI, hT, hL⟩
theorem IQ_fi {k v : Int32} (h : IQ s) : IQ (fiS s k v) := by
  obtain ⟨N, hI, hT, hL⟩ := h
  unfold fiS
  by_cases hc : fiC k v
  · rw [@if_pos _ (Classical.propDecidable _) hc]
    obtain ⟨i, hi, ei⟩ := in_rng (n := 9) (by decide) hc.1
    obtain ⟨j, hj, ek⟩ := in_rng (n := 99) (by decide) hc.2
    exact ⟨N, IV_pp hI ⟨i, by omega, ei⟩ ⟨j, by omega, ek⟩, hT, hL⟩
  · rw [@if_neg _ (Classical.propDecidable _) hc]
    exact ⟨N, hI, hT, hL⟩
theorem IQ_nS {n : Int32} (h : IQ s) : IQ (niS s n) := by
  obtain ⟨N, hI, hT, hL⟩ := h
  unfold niS
  by_cases hc : (1 ≤ n ∧ n ≤ 60) ∧ ¬ 999 < iN s + n
  · rw [if_pos hc]
    obtain ⟨n', en, ei, h1, h60, h9⟩ := pn_n hI ⟨hc.1, Int32.not_lt.mp hc.2⟩
    rw [ei]
    exact IQ_ni hI hT hL h9 h60
  · rw [if_neg hc]
    exact ⟨N, hI, hT, hL⟩
theorem IQ_ss {a b : Int32} (h : IQ s) : IQ (snS s a b) := h
end IQS
/-- the start -/
theorem plF_at : ∀ k i, plF k i = if i < k then 5 else 0
  | 0, i => by rw [if_neg (by omega)]; rfl
  | k + 1, i => by
    show upd (plF k) k 5 i = _
    by_cases e : i = k
    · rw [e, pk_us, if_pos (by omega)]
    · rw [pk_un e, plF_at k i]
      by_cases h : i < k
      · rw [if_pos h, if_pos (by omega)]
      · rw [if_neg h, if_neg (by omega)]
theorem IQ_0 : IQ inn0 := by
  have z : ∀ n, 0 < n → rng n (0 : Int32) := fun n hn => ⟨0, hn, rfl⟩
  refine ⟨0, ⟨⟨fun j hj => ⟨rfl, rfl, rfl, rfl, rfl⟩, fun k hk => ?_⟩, ⟨fun j hj => ⟨z 10 (by decide), z 10 (by decide), z 10 (by decide)⟩, z 8 (by decide), z 10000 (by decide), z 10000 (by decide), fun k hk => ?_, fun j hj => z 100 (by decide)⟩, rfl, by decide, z 128 (by decide)⟩, fun i _ => b_0 i, ⟨0, rfl, by decide⟩⟩
  · show plF 10 k = 0
    rw [plF_at, if_neg (by omega)]
  · show rng 100 (plF 10 k)
    rw [plF_at, if_pos hk]
    exact ⟨5, by decide, rfl⟩
