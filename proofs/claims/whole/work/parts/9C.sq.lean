/-! ===== the shelves of both sides ===== -/
def upU (us : Nat → ShS) (d : Nat) (u : ShS) : Nat → ShS := fun i => if i = d then u else us i
theorem upU_s (us : Nat → ShS) (d : Nat) (u : ShS) : upU us d u d = u := if_pos rfl
theorem upU_n {us : Nat → ShS} {d i : Nat} {u : ShS} (h : i ≠ d) : upU us d u i = us i := if_neg h
def SQ (q : Pm) (us : Nat → ShS) : Prop := ∀ d, d < 8 → SR q d (us d) ∧ SH (us d)
theorem SQ_d {q : Pm} {us : Nat → ShS} (h : SQ q us) {d : Int32} (hd : 0 ≤ d ∧ d ≤ 7) : SR q (ix d) (us (ix d)) ∧ SH (us (ix d)) := by
  obtain ⟨d', hd', ed⟩ := sh_n hd
  have : ix d = d' := by rw [ed]; exact nI_clamp (by omega)
  rw [this]
  exact h d' hd'
theorem SQ_ke {q : Pm} {us : Nat → ShS} {d : Nat} {what k fi : Int32} (h : SQ q us) (hw : what = 0 ∨ (what = 1 ∧ rng 8 k ∧ rng 10 fi)) : SQ (keQ q d what k fi) (upU us d (keU (us d) what k fi)) := by
  intro i hi
  obtain ⟨⟨r1, r2, r3⟩, hS⟩ := h i hi
  by_cases e : i = d
  · subst e
    rw [upU_s]
    rcases hw with rfl | ⟨rfl, h1, h2⟩
    · refine ⟨⟨pk_us, fun z => absurd (show (0 : Int32) = 1 from z) (by decide), fun z => absurd (show (0 : Int32) = 2 from z) (by decide)⟩, ⟨0, by decide, rfl⟩, fun z => absurd (show (0 : Int32) = 1 from z) (by decide), fun z => absurd (show (0 : Int32) = 2 from z) (by decide)⟩
    · exact ⟨⟨pk_us, fun _ => ⟨pk_us, pk_us⟩, fun z => absurd (show (1 : Int32) = 2 from z) (by decide)⟩, ⟨1, by decide, rfl⟩, fun _ => ⟨h1, h2⟩, fun z => absurd (show (1 : Int32) = 2 from z) (by decide)⟩
  · rw [upU_n e]
    exact ⟨⟨by rw [← r1]; exact pk_un e, fun z => ⟨by rw [← (r2 z).1]; exact pk_un e, by rw [← (r2 z).2]; exact pk_un e⟩, r3⟩, hS⟩
theorem SH_m {u : ShS} (h : SH u) (h2 : uO u = 2) : ix (uM u) ≤ 100 := by
  obtain ⟨n, hn, -, e⟩ := sz_n h h2
  omega
theorem SQ_ro {q : Pm} {us : Nat → ShS} {d : Nat} {so n : Int32} (h : SQ q us) (hs : rng 3 so) (hn : rng 101 n) : SQ (roQ q d so n) (upU us d (roU (us d) so n)) := by
  intro i hi
  obtain ⟨⟨r1, r2, r3⟩, hS⟩ := h i hi
  by_cases e : i = d
  · subst e
    rw [upU_s]
    obtain ⟨m, hm, em⟩ := hn
    have e1 : ix n = m := by rw [em]; exact nI_clamp (by omega)
    refine ⟨⟨pk_us, fun z => absurd (show (2 : Int32) = 1 from z) (by decide), fun _ => ⟨pk_us, pk_us, fun j hj => ?_⟩⟩, ⟨2, by decide, rfl⟩, fun z => absurd (show (2 : Int32) = 1 from z) (by decide), fun _ => ⟨hs, ⟨m, hm, em⟩⟩⟩
    have hj : j < ix n := hj
    show zrL (qR q) (100 * i) 100 (100 * i + j) = (zrF (uC (us i)) (ix n) j).toInt64
    rw [zrL_in _ _ _ _ (by omega), zr_lo _ _ _ hj]
    rfl
  · rw [upU_n e]
    refine ⟨⟨by rw [← r1]; exact pk_un e, r2, fun z => ⟨by rw [← (r3 z).1]; exact pk_un e, by rw [← (r3 z).2.1]; exact pk_un e, fun j hj => ?_⟩⟩, hS⟩
    have := SH_m hS z
    show zrL (qR q) (100 * d) 100 (100 * i + j) = _
    rw [zrL_out _ _ _ _ (by omega)]
    exact (r3 z).2.2 j hj
theorem SQ_pu {q : Pm} {us : Nat → ShS} {d : Nat} {i v : Int32} (h : SQ q us) (hd : d < 8) (h2 : uO (us d) = 2) (hi : 0 ≤ i ∧ i ≤ uM (us d) - 1) : SQ (puQ q d i v) (upU us d (puU (us d) i v)) := by
  obtain ⟨j, n, hj, hn, ei, eM⟩ := cell_n (h d hd).2 h2 hi
  have e1 : ix i = j := by rw [ei]; exact nI_clamp (by omega)
  intro i' hi'
  obtain ⟨⟨r1, r2, r3⟩, hS⟩ := h i' hi'
  by_cases e : i' = d
  · subst e
    rw [upU_s]
    refine ⟨⟨r1, r2, fun z => ⟨(r3 z).1, (r3 z).2.1, fun y hy => ?_⟩⟩, hS⟩
    show vp_updL (qR q) (100 * i' + ix i) (narrowI (qS q i') v).toInt64 (100 * i' + y) = (upd (uC (us i')) (ix i) (narrowI (uS (us i')) v) y).toInt64
    by_cases ey : y = ix i
    · rw [ey, pk_uLs, pk_us, (r3 z).1]
    · rw [pk_uLn (by omega), pk_un ey]
      exact (r3 z).2.2 y hy
  · rw [upU_n e]
    refine ⟨⟨r1, r2, fun z => ⟨(r3 z).1, (r3 z).2.1, fun y hy => ?_⟩⟩, hS⟩
    have := SH_m hS z
    show vp_updL (qR q) (100 * d + ix i) (narrowI (qS q d) v).toInt64 (100 * i' + y) = _
    rw [pk_uLn (by omega)]
    exact (r3 z).2.2 y hy
theorem SQ_cp {q : Pm} {us : Nat → ShS} {d e : Nat} {i j n : Int32} (h : SQ q us) (hd : d < 8) (he : e < 8) (h2 : uO (us d) = 2) (h3 : uO (us e) = 2) (p1 : hcP (us d) i n) (p2 : hcP (us e) j n) : SQ (cpQ q d e i j n) (upU us e (cpU (us d) (us e) i j n)) := by
  obtain ⟨i1, n1, M1, ei, en, eM, hM, hs1⟩ := hc_n (h d hd).2 h2 p1
  obtain ⟨j1, n2, M2, ej, en2, eM2, hM2, hs2⟩ := hc_n (h e he).2 h3 p2
  obtain rfl : n2 = n1 := by
    rw [en] at en2
    exact ((nI_eq (by omega) (by omega)).mp en2).symm
  have xi : ix i = i1 := by rw [ei]; exact nI_clamp (by omega)
  have xj : ix j = j1 := by rw [ej]; exact nI_clamp (by omega)
  have xn : ix n = n2 := by rw [en]; exact nI_clamp (by omega)
  have x1 : ix (uM (us d)) = M1 := by rw [eM]; exact nI_clamp (by omega)
  have x2 : ix (uM (us e)) = M2 := by rw [eM2]; exact nI_clamp (by omega)
  intro i' hi'
  obtain ⟨⟨r1, r2, r3⟩, hS⟩ := h i' hi'
  by_cases ee : i' = e
  · subst ee
    rw [upU_s]
    refine ⟨⟨r1, r2, fun z => ⟨(r3 z).1, (r3 z).2.1, fun y hy => ?_⟩⟩, hS⟩
    have hy : y < ix (uM (us i')) := hy
    show cpL (fun k => qR q (100 * d + ix i + k)) (qR q) (100 * i' + ix j) (ix n) (100 * i' + y) = (va_cpy (uC (us d)) (uC (us i')) (ix i) (ix j) (ix n) y).toInt64
    rw [xi, xj, xn]
    by_cases hin : j1 ≤ y ∧ y < j1 + n2
    · rw [pk_cpy_in hin.1 hin.2, show 100 * i' + y = 100 * i' + j1 + (y - j1) by omega, cpL_in _ _ _ _ _ (by omega)]
      show qR q (100 * d + i1 + (y - j1)) = _
      rw [Nat.add_assoc]
      exact ((h d hd).1.2.2 h2).2.2 _ (by omega)
    · rw [pk_cpy_out (by omega), cpL_out _ _ _ _ _ (by omega)]
      exact (r3 z).2.2 y hy
  · rw [upU_n ee]
    refine ⟨⟨r1, r2, fun z => ⟨(r3 z).1, (r3 z).2.1, fun y hy => ?_⟩⟩, hS⟩
    have := SH_m hS z
    show cpL (fun k => qR q (100 * d + ix i + k)) (qR q) (100 * e + ix j) (ix n) (100 * i' + y) = _
    rw [xi, xj, xn, cpL_out _ _ _ _ _ (by omega)]
    exact (r3 z).2.2 y hy
