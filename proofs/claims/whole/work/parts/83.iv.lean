/-! ===== what holds between calls, behind each change ===== -/
theorem upd_rng {f : PA} {k L M : Nat} {x : Int32} (hf : ∀ j, j < L → rng M (f j)) (hx : rng M x) : ∀ j, j < L → rng M (upd f k x j) := by
  intro j hj
  by_cases e : j = k
  · rw [e, pk_us]; exact hx
  · rw [pk_un e]; exact hf j hj
theorem upd_z {f : PA} {k L : Nat} {x : Int32} (hf : ∀ j, L ≤ j → f j = 0) (hk : k < L) : ∀ j, L ≤ j → upd f k x j = 0 := by
  intro j hj
  rw [pk_un (by omega)]
  exact hf j hj
theorem there_or : ∀ (n : Fin 128) (j : Fin 7), ix (nI n.val ||| jshl 1 (nI j.val)) < 128 ∧ nI (ix (nI n.val ||| jshl 1 (nI j.val))) = nI n.val ||| jshl 1 (nI j.val) := by decide +kernel
theorem TB_or {x g : Int32} (hx : rng 128 x) (hg : rng 7 g) : rng 128 (x ||| jshl 1 g) := by
  obtain ⟨n, hn, rfl⟩ := hx
  obtain ⟨j, hj, rfl⟩ := hg
  obtain ⟨h1, h2⟩ := there_or ⟨n, hn⟩ ⟨j, hj⟩
  exact ⟨_, h1, h2.symm⟩
theorem rng_ix {n : Nat} {x : Int32} (h : rng n x) (hn : n < 2 ^ 31) : ix x < n := by
  obtain ⟨j, hj, rfl⟩ := h
  rw [show ix (nI j) = j from nI_clamp (by omega)]; exact hj
theorem rng_up {n m : Nat} {x : Int32} (h : rng n x) (hm : n ≤ m) : rng m x := by
  obtain ⟨j, hj, e⟩ := h
  exact ⟨j, by omega, e⟩
theorem kn_rng {s : InnS} {g : Int32} (hG : GS s) (h : knP s g) : rng 7 g := by
  obtain ⟨G, hG7, hGG⟩ := hG.2.1
  obtain ⟨j, hj, ej⟩ := kn hG7 (by rw [← hGG]; exact h)
  exact ⟨j, by omega, ej⟩
section IVS
variable {s : InnS} {N : Nat}
theorem IV_wb {g k : Int32} (h : IV s N) (hg : rng 7 g) (hk : rng 10 k) : IV (wbS s g k) N := ⟨ZB_ws h.1 (rng_ix hg (by decide)), GS_ws h.2.1 hk, h.2.2⟩
theorem IV_ls {g k : Int32} (h : IV s N) (hg : rng 7 g) (hk : rng 10 k) : IV (lsS s g k) N := by
  obtain ⟨⟨z1, z2⟩, ⟨g1, g2⟩, h3⟩ := h
  have hi := rng_ix hg (by decide)
  exact ⟨⟨fun j hj => ⟨(z1 j hj).1, (z1 j hj).2.1, (z1 j hj).2.2.1, upd_z (fun j hj => (z1 j hj).2.2.2.1) hi j hj, (z1 j hj).2.2.2.2⟩, z2⟩, ⟨fun j hj => ⟨(g1 j hj).1, (g1 j hj).2.1, upd_rng (L := 7) (fun j hj => (g1 j hj).2.2) hk j hj⟩, g2⟩, h3⟩
theorem IV_he {g v : Int32} (h : IV s N) (hg : rng 7 g) (hv : rng 100 v) : IV (iK s, iF s, iW s, iL s, upd (iH s) (ix g) v, iP s, iG s, iT s, iN s, iS s, iA s, iSn s, iLn s) N := by
  obtain ⟨⟨z1, z2⟩, ⟨g1, g2, g3, g4, g5, g6⟩, h3⟩ := h
  have hi := rng_ix hg (by decide)
  exact ⟨⟨fun j hj => ⟨(z1 j hj).1, (z1 j hj).2.1, (z1 j hj).2.2.1, (z1 j hj).2.2.2.1, upd_z (fun j hj => (z1 j hj).2.2.2.2) hi j hj⟩, z2⟩, ⟨g1, g2, g3, g4, g5, upd_rng (L := 7) g6 hv⟩, h3⟩
theorem IV_hh {g v : Int32} (h : IV s N) (hg : rng 7 g) (hv : rng 100 v) : IV (hhS s g v) N := by
  obtain ⟨h1, h2, h3, h4, h5⟩ := IV_he h hg hv
  exact ⟨h1, h2, h3, h4, TB_or h5 hg⟩
theorem IV_pp {k v : Int32} (h : IV s N) (hk : rng 10 k) (hv : rng 100 v) : IV (ppS s k v) N := by
  obtain ⟨⟨z1, z2⟩, ⟨g1, g2, g3, g4, g5, g6⟩, h3⟩ := h
  have hi := rng_ix hk (by decide)
  exact ⟨⟨z1, upd_z z2 hi⟩, ⟨g1, g2, g3, g4, upd_rng (L := 10) g5 hv, g6⟩, h3⟩
theorem st_rng {x y : Int32} (hx : rng 100 x) (hy : rng 10 y) : ¬ x + y < 0 ∧ rng 100 (jmin 99 (x + y)) := by
  obtain ⟨i, hi, rfl⟩ := hx
  obtain ⟨j, hj, rfl⟩ := hy
  have h : ¬ nI i + nI j < 0 := by rw [nI_add]; exact nI_pos (by omega)
  exact ⟨h, by rw [← held_m9 _ h]; exact rng_held _⟩
theorem IV_st {k v : Int32} (h : IV s N) (hk : rng 10 k) (hv : rng 10 v) : IV (stS s k v) N := IV_pp h hk (st_rng (h.2.1.2.2.2.2.1 _ (rng_ix hk (by decide))) hv).2
theorem IV_ad {k f w : Int32} (h : IV s N) (h7 : iG s < 7) (hf : rng 10 f) (hw : rng 10 w) : IV (adS s k f w) N := by
  obtain ⟨⟨z1, z2⟩, ⟨g1, g2, g3, g4, g5, g6⟩, h3, h4, h5⟩ := h
  have hg : rng 7 (iG s) := by
    obtain ⟨G, hG8, eG⟩ := g2
    rw [eG] at h7 ⊢
    exact ⟨G, (nI_ltI (by omega) (by decide)).mp (show nI G < nI 7 from h7), rfl⟩
  have hi := rng_ix hg (by decide)
  refine ⟨⟨fun j hj => ⟨upd_z (fun j hj => (z1 j hj).1) hi j hj, upd_z (fun j hj => (z1 j hj).2.1) hi j hj, upd_z (fun j hj => (z1 j hj).2.2.1) hi j hj, upd_z (fun j hj => (z1 j hj).2.2.2.1) hi j hj, upd_z (fun j hj => (z1 j hj).2.2.2.2) hi j hj⟩, z2⟩, ⟨fun j hj => ⟨upd_rng (L := 7) (fun j hj => (g1 j hj).1) hf j hj, upd_rng (L := 7) (fun j hj => (g1 j hj).2.1) hw j hj, upd_rng (L := 7) (fun j hj => (g1 j hj).2.2) ⟨0, by decide, rfl⟩ j hj⟩, ?_, g3, g4, g5, upd_rng (L := 7) g6 ⟨50, by decide, rfl⟩⟩, h3, h4, TB_or h5 hg⟩
  obtain ⟨G, hG7, eG⟩ := hg
  show rng 8 (iG s + 1)
  rw [eG, nI_1]
  exact ⟨G + 1, by omega, rfl⟩
theorem IV_ni {n : Nat} (h : IV s N) (hn : N + n ≤ 999) : IV (nightsS n s) (N + n) := by
  obtain ⟨h1, h2, h3, h4, h5⟩ := h
  obtain ⟨k1, k2⟩ := nights_keep h2 h3 n (by omega)
  exact ⟨ZB_nights h1 h2 h3 n (by omega), k1, k2, hn, TB_nights h5 n⟩
theorem pn_n {n : Int32} (h : IV s N) (hp : pnC s n) : ∃ n', n = nI n' ∧ ix n = n' ∧ 1 ≤ n' ∧ n' ≤ 60 ∧ N + n' ≤ 999 := by
  obtain ⟨n', hn1, hn, en⟩ := n60 hp.1
  refine ⟨n', en, by rw [en]; exact nI_clamp (by omega), hn1, hn, ?_⟩
  have := hp.2
  rw [h.2.2.1, en, nI_add] at this
  exact (nI_leI (by have := h.2.2.2.1; omega) (by decide)).mp (show nI (N + n') ≤ nI 999 from this)
theorem IV_te {c : PA} {n p : Nat} (h : IV s N) (hg : gdS c n p) (ht : teP c p s) : ∃ N', IV (teS c p s) N' := by
  obtain ⟨⟨g1, g2⟩, d1, d2, d3, -⟩ := id hg
  have r1 := dg_rng d1.2
  have r2 := dg_rng d2.2
  rcases dg_let g2 with (z | z | z) | (z | z | z | z)
  · have r3 := dg_rng (d3 (by rw [z]; decide)).2
    rw [te_g z]
    exact ⟨N, IV_ad h (ht.1 z).2 r2 r3⟩
  · have r3 := dg_rng (d3 (by rw [z]; decide)).2
    rw [te_l z]
    exact ⟨N, IV_pp h r1 (dg_2 r2 r3)⟩
  · have r3 := dg_rng (d3 (by rw [z]; decide)).2
    rw [te_h z]
    exact ⟨N, IV_hh h (kn_rng h.2.1 (ht.2.1 (Or.inr (Or.inr z)))) (dg_2 r2 r3)⟩
  · rw [te_w z]
    exact ⟨N, IV_wb h (kn_rng h.2.1 (ht.2.1 (Or.inl z))) r2⟩
  · rw [te_e z]
    exact ⟨N, IV_ls h (kn_rng h.2.1 (ht.2.1 (Or.inr (Or.inl z)))) r2⟩
  · rw [te_b z]
    exact ⟨N, IV_st h r1 r2⟩
  · rw [te_d z]
    obtain ⟨n', en, ei, h1, h60, h9⟩ := pn_n h (ht.2.2.2 z)
    rw [ei]
    exact ⟨_, IV_ni h h9⟩
end IVS
/-! the text, told -/
noncomputable def tlS (c : PA) (s : InnS) : Nat → InnS
  | 0 => s
  | k + 1 => teS c (pkN c k) (tlS c s k)
noncomputable def kF (c : PA) (s : InnS) (E : Nat) : Nat := fst (fun k => ¬ teP c (pkN c k) (tlS c s k)) E
theorem IV_tl {c : PA} {s : InnS} {N n : Nat} (h : IV s N) : ∀ k, (∀ j, j < k → gdS c n (pkN c j)) → (∀ j, j < k → teP c (pkN c j) (tlS c s j)) → ∃ N', IV (tlS c s k) N'
  | 0, _, _ => ⟨N, h⟩
  | k + 1, hg, ht => by
    obtain ⟨N', h'⟩ := IV_tl h k (fun j hj => hg j (by omega)) (fun j hj => ht j (by omega))
    exact IV_te h' (hg k (by omega)) (ht k (by omega))
theorem nolet {c : PA} {n p i : Nat} (h : gdS c n p) (h1 : p < i) (h2 : i < p + dgN (c p) + 2) : dgN (c i) = 0 := by
  have hd : ∀ x : Int32, 48 ≤ x ∧ x ≤ 57 → dgN x = 0 := fun x hx => Classical.byContradiction (fun z => by
    rcases dg_let z with (z | z | z) | (z | z | z | z) <;> (rw [z] at hx; exact absurd hx.2 (by decide)))
  obtain ⟨⟨g1, g2⟩, d1, d2, d3, d4, d5⟩ := h
  rcases dg23 (c p) with e | e | e
  · exact absurd e g2
  · rw [e] at h2 d5
    rcases (show i = p + 1 ∨ i = p + 2 ∨ i = p + 2 + 1 by omega) with rfl | rfl | rfl
    · exact hd _ d1.2
    · exact hd _ d2.2
    · rw [d5]; decide
  · rw [e] at h2 d5
    rcases (show i = p + 1 ∨ i = p + 2 ∨ i = p + 3 ∨ i = p + 3 + 1 by omega) with rfl | rfl | rfl | rfl
    · exact hd _ d1.2
    · exact hd _ d2.2
    · exact hd _ (d3 e).2
    · rw [d5]; decide
theorem pk_mono {c : PA} {n E : Nat} (hg : ∀ j, j < E → gdS c n (pkN c j)) : ∀ {i j : Nat}, i < j → j ≤ E → pkN c i < pkN c j := by
  intro i j hij
  induction j with
  | zero => omega
  | succ j ih =>
    intro hj
    have : pkN c j < pkN c (j + 1) := by
      show pkN c j < pkN c j + dgN (c (pkN c j)) + 2
      omega
    rcases (show i = j ∨ i < j by omega) with rfl | h
    · exact this
    · exact Nat.lt_trans (ih h (by omega)) this
/-- the answer of inn, and the inn behind it -/
noncomputable def inR (s : InnS) (u : ShS) (d : Int32) : Int32 := if reF u d 2 = 0 then (if uS u = 0 then (if txF (uC u) (ix (uM u)) = -1 then (if kF (uC u) s (kE (uC u) (ix (uM u))) = kE (uC u) (ix (uM u)) then nI (kE (uC u) (ix (uM u))) else -2000 - nI (pkN (uC u) (kF (uC u) s (kE (uC u) (ix (uM u)))))) else -1000 - txF (uC u) (ix (uM u))) else -12) else reF u d 2
noncomputable def inS (s : InnS) (u : ShS) (d : Int32) : InnS := if reF u d 2 = 0 ∧ uS u = 0 ∧ txF (uC u) (ix (uM u)) = -1 ∧ kF (uC u) s (kE (uC u) (ix (uM u))) = kE (uC u) (ix (uM u)) then tlS (uC u) s (kE (uC u) (ix (uM u))) else s
theorem kE_go {c : PA} {n : Nat} : ∀ k, (∀ j, j < k → gdS c n (pkN c j)) ∨ ∃ k', k' < k ∧ (∀ j, j < k' → gdS c n (pkN c j)) ∧ ¬ gdS c n (pkN c k')
  | 0 => Or.inl (fun j hj => absurd hj (Nat.not_lt_zero _))
  | k + 1 => by
    rcases kE_go (c := c) (n := n) k with h | ⟨k', h1, h2⟩
    · by_cases hg : gdS c n (pkN c k)
      · exact Or.inl (lt_s h hg)
      · exact Or.inr ⟨k, by omega, h, hg⟩
    · exact Or.inr ⟨k', by omega, h2⟩
theorem kE_ex {c : PA} {n : Nat} (hn : n ≤ 100) : kE c n ≤ 25 ∧ (∀ j, j < kE c n → gdS c n (pkN c j)) ∧ ¬ gdS c n (pkN c (kE c n)) := by
  rcases kE_go (c := c) (n := n) 26 with h | ⟨k, h1, h2, h3⟩
  · have := pk_up 26 h
    omega
  · rw [kE_is hn h2 h3]
    exact ⟨by omega, h2, h3⟩
theorem bd_le (c : PA) (n p : Nat) : bdP c n p ≤ p + 4 := by
  have := dg_lt (c p)
  unfold bdP
  repeat' split
  all_goals omega
/-- a good text: its statements' number -/
theorem tx_good {c : PA} {n : Nat} (hn : n ≤ 100) (h : txF c n = -1) : 0 < kE c n ∧ pkN c (kE c n) = n ∧ (∀ j, j < kE c n → gdS c n (pkN c j)) ∧ kE c n ≤ 25 := by
  obtain ⟨h1, h2, h3⟩ := kE_ex (c := c) hn
  have h0 : 0 < kE c n ∧ pkN c (kE c n) = n := Classical.byContradiction (fun z => by
    unfold txF at h
    rw [if_neg z] at h
    have h4 := pk_up _ h2
    have h5 := bd_le c n (pkN c (kE c n))
    exact absurd h (nI_m1 (by omega)))
  exact ⟨h0.1, h0.2, h2, h1⟩
theorem tx_pos {c : PA} {n : Nat} (hn : n ≤ 100) (h : ¬ txF c n = -1) : ¬ txF c n < 0 := by
  obtain ⟨h1, h2, h3⟩ := kE_ex (c := c) hn
  unfold txF at h ⊢
  split at h
  · exact absurd rfl h
  · rename_i z
    rw [if_neg z]
    have h4 := pk_up _ h2
    have h5 := bd_le c n (pkN c (kE c n))
    exact nI_pos (by omega)
