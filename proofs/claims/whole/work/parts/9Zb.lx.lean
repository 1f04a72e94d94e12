/-! ===== the law's two cases that throw ===== -/
theorem ctabz_in : ∀ {t : Tz} {pc : Nat} {lv : List (Option sv)} {st : List sv} {w : List sc} {cl sl : Nat} {kk : List sv → List sc → Nat → Nat → Prop}, ctabz t pc lv st w cl sl kk → ∃ f, (pc, f) ∈ t ∧ f lv st w cl sl kk
  | [], _, _, _, _, _, _, _, h => h.elim
  | (q, f) :: t, pc, lv, st, w, cl, sl, kk, h => by
    unfold ctabz at h
    by_cases e : pc = q
    · rw [if_pos e] at h
      exact ⟨f, by rw [e]; exact List.mem_cons_self, h⟩
    · rw [if_neg e] at h
      obtain ⟨g, h1, h2⟩ := ctabz_in h
      exact ⟨g, List.mem_cons_of_mem _ h1, h2⟩
theorem vu_eq {f : Nat → Int64} {i : Nat} {x : Int64} : vp_updL f i x i = x := by simp [vp_updL]
theorem el_v {u : ShS} {d i : Int32} (h : elT u d i = 0) : elV u d i = (uC u (ix i)).toInt64 := by unfold elV; rw [if_pos h]
def ctL_toss : Tz := [(1580, cD 601024 7293034 (some 3) 2 F_X5_toss 1 6), (1590, cM 601024 7293034 (some 4) 2 F_X6_toss 0 0)]
set_option maxRecDepth 20000 in
theorem lc_toss : LCase pL_c37 ctL_toss 1573 := by
  intro j L c0 s0 xs s m k hi us dr od py r q t ou hj hL hc hs hI
  obtain ⟨⟨N, hV, hTG, hLB⟩, hM, hK, ⟨ra, rb, rfl⟩, hT, hQ, hB, hIm⟩ := id hI
  conv => whnf
  refine ⟨vin (m := 1) hj hL (by decide), ?_⟩
  conv => whnf
  refine ⟨⟨by omega, by omega⟩, ?_⟩
  refine eSd ⟨fun _ => rfl, fun _ => rfl⟩ (fun n8 hn8 hn r2 r4 r5 f K hf hK1 hK2 => ⟨r2, r4, r5, hi, s, m, f, us n8, _, rfl, rfl, (fun z => ⟨hf z, (hQ n8 hn8).2⟩), hK1 _ _ _  ⟨fun _ => rfl, fun _ => rfl⟩ ?_⟩)
  conv => whnf
  refine ⟨vin (m := 1) hj hL (by decide), ?_⟩
  conv => whnf
  refine ⟨⟨by omega, by omega⟩, ?_⟩
  refine eM ⟨fun _ => rfl, fun _ => rfl⟩ (fun K hK3 => ⟨snS s ra rb, q, t, us n8, _, rfl, rfl, hT, (fun z => by rw [← hn z]; exact hQ n8 hn8), fun t' hT' => hK3 _ _ _ _ ⟨fun _ => rfl, fun _ => rfl⟩ ?_⟩)
  conv => whnf
  refine ⟨fun _ => ?_, fun z => absurd (rfl) z⟩
  conv => whnf
  exact C98_i ⟨⟨N, hV, hTG, hLB⟩, hM, hK, ⟨_, _, rfl⟩, hT', hQ, hB, hIm⟩ (by omega) (by omega)
def ctL_element : Tz := [(1422, cDs 601024 7293034 none 4 F_L_element 1 6), (1440, cM 601024 7293034 (some 4) 3 F_X6_element 0 0), (1446, cM 601024 7293034 (some 4) 1 F_X6_thrown 0 0)]
set_option maxRecDepth 20000 in
theorem lc_element : LCase pL_c34 ctL_element 1408 := by
  intro j L c0 s0 xs s m k hi us dr od py r q t ou hj hL hc hs hI
  obtain ⟨⟨N, hV, hTG, hLB⟩, hM, hK, ⟨ra, rb, rfl⟩, hT, hQ, hB, hIm⟩ := id hI
  conv => whnf
  refine ⟨vin (m := 1) hj hL (by decide), ?_⟩
  conv => whnf
  refine ⟨vin (m := 2) hj hL (by decide), ?_⟩
  conv => whnf
  refine ⟨⟨by omega, by omega⟩, ?_⟩
  conv => whnf
  refine ⟨s, m, k, hi, us, dr, od, py, snS s ra rb, q, t, ou, _, _, rfl, rfl, fun n hn => (hQ n hn).2, fun n8 hn8 hn => ⟨fun h0 => ?_, fun h0 => ?_, fun h0 => ?_⟩⟩
  · conv => whnf
    refine ⟨vin (m := 1) hj hL (by decide), ?_⟩
    conv => whnf
    refine ⟨vin (m := 2) hj hL (by decide), ?_⟩
    conv => whnf
    refine ⟨⟨by omega, by omega⟩, ?_⟩
    refine eM ⟨fun _ => rfl, fun _ => rfl⟩ (fun K hK3 => ⟨snS s ra rb, q, t, us n8, _, _, rfl, rfl, (fun z => by rw [← hn z]; exact hQ n8 hn8), ?_⟩)
    rw [h0, el_v h0]
    refine hK3 _ _ _ _ ⟨fun _ => rfl, fun _ => rfl⟩ ?_
    conv => whnf
    refine ⟨⟨by omega, by omega⟩, ?_⟩
    refine eM ⟨fun _ => rfl, fun _ => rfl⟩ (fun K hK4 => ⟨snS s ra rb, q, thT t 0, rfl, rfl, hK4 _ _ _ _ ⟨fun _ => rfl, fun _ => rfl⟩ ?_⟩)
    conv => whnf
    refine ⟨fun _ => ?_, fun z => absurd rfl z⟩
    conv => whnf
    refine ⟨fun z => absurd rfl z, fun _ => ?_⟩
    conv => whnf
    refine ⟨show vp_in (nI 0) 1 from vp_in_nI (by decide) (by decide), ?_⟩
    conv => whnf
    refine ⟨fun _ => ?_, fun z => absurd ((lg_eq _ _).mpr vu_eq) z⟩
    conv => whnf
    exact C98_i ⟨⟨N, hV, hTG, hLB⟩, hM, hK, ⟨_, _, rfl⟩, ⟨hT.1, hT.2⟩, hQ, hB, hIm⟩ (by omega) (by omega)
  · conv => whnf
    refine ⟨vin (m := 1) hj hL (by decide), ?_⟩
    conv => whnf
    refine ⟨vin (m := 2) hj hL (by decide), ?_⟩
    conv => whnf
    refine ⟨⟨by omega, by omega⟩, ?_⟩
    refine eM ⟨fun _ => rfl, fun _ => rfl⟩ (fun K hK3 => ⟨snS s ra rb, q, t, us n8, _, _, rfl, rfl, (fun z => by rw [← hn z]; exact hQ n8 hn8), ?_⟩)
    rw [h0]
    refine hK3 _ _ _ _ ⟨fun _ => rfl, fun _ => rfl⟩ ?_
    conv => whnf
    refine ⟨⟨by omega, by omega⟩, ?_⟩
    refine eM ⟨fun _ => rfl, fun _ => rfl⟩ (fun K hK4 => ⟨snS s ra rb, q, thT t 1, rfl, rfl, hK4 _ _ _ _ ⟨fun _ => rfl, fun _ => rfl⟩ ?_⟩)
    conv => whnf
    refine ⟨fun _ => ?_, fun z => absurd rfl z⟩
    conv => whnf
    refine ⟨fun _ => ?_, fun z => absurd z (by decide)⟩
    conv => whnf
    exact C98_i ⟨⟨N, hV, hTG, hLB⟩, hM, hK, ⟨_, _, rfl⟩, ⟨hT.1, hT.2⟩, hQ, hB, hIm⟩ (by omega) (by omega)
  · conv => whnf
    refine ⟨vin (m := 1) hj hL (by decide), ?_⟩
    conv => whnf
    refine ⟨vin (m := 2) hj hL (by decide), ?_⟩
    conv => whnf
    refine ⟨⟨by omega, by omega⟩, ?_⟩
    refine eM ⟨fun _ => rfl, fun _ => rfl⟩ (fun K hK3 => ⟨snS s ra rb, q, t, us n8, _, _, rfl, rfl, (fun z => by rw [← hn z]; exact hQ n8 hn8), ?_⟩)
    rw [h0]
    refine hK3 _ _ _ _ ⟨fun _ => rfl, fun _ => rfl⟩ ?_
    conv => whnf
    refine ⟨⟨by omega, by omega⟩, ?_⟩
    refine eM ⟨fun _ => rfl, fun _ => rfl⟩ (fun K hK4 => ⟨snS s ra rb, q, thT t 2, rfl, rfl, hK4 _ _ _ _ ⟨fun _ => rfl, fun _ => rfl⟩ ?_⟩)
    conv => whnf
    refine ⟨fun _ => ?_, fun z => absurd rfl z⟩
    conv => whnf
    refine ⟨fun _ => ?_, fun z => absurd z (by decide)⟩
    conv => whnf
    exact C98_i ⟨⟨N, hV, hTG, hLB⟩, hM, hK, ⟨_, _, rfl⟩, ⟨hT.1, hT.2⟩, hQ, hB, hIm⟩ (by omega) (by omega)
section LAWX
variable {p : Program} {l : Launch} {e : Env} {s : State} {m : MethodId} {args : Array Value} {below : List Frame} {meth : Method} {c : Code} {D : va_G} {σ0 : Nat → Nat} {cA : Nat → ClassId} {A : Nat → Prop} {Q : State → Prop} {L : Nat} {xs : Nat → Int32}
theorem zcaseX {pr : List (Nat × (Instr × Nat × Nat × Int32))} {ct : Tz} {pc : Nat} (hpr : ∀ pc q, lkB pr pc = some q → xdec cL_law pc = some q)
    (hC : ∀ pc lv st w cl sl kk, ctabz ct pc lv st w cl sl kk → (∀ st' w' cl' sl', kk st' w' cl' sl' → ZY p l e room_1 s m args below meth c D σ0 0 cA A s.heap 8 Q (pc + 3) lv st' w' cl' sl') → ZY p l e room_1 s m args below meth c D σ0 0 cA A s.heap 8 Q pc lv st w cl sl)
    (lc : LCase pr ct pc) (X : LX p s m args meth c D σ0 cA A L xs) : ZC p l e s m args below meth c D σ0 cA A Q L pc := by
  intro j c0 s0 s' m' k hi us dr od py r q t ou hj hc hs hI hN
  obtain ⟨hX, hnw, hex, hA, hsc, hL⟩ := X
  refine wpz_sound (R := room_1) (cut := cutL j c0 s0) hpr hX fdo_n cdo_n nwo_n (fun cf h => by cases h) hA (fun L' xs' h => by cases h; exact hsc) (fun i h => by cases h) hC (fun pc mm P h => ?_) _ _ _ _ _ _ _ (lc j L c0 s0 xs s' m' k hi us dr od py r q t ou hj hL hc hs hI)
  unfold cutL at h
  cases hz : Nat.beq pc 1598 with
  | false => rw [hz] at h; cases h
  | true =>
    rw [hz] at h
    cases h
    have := Nat.eq_of_beq_eq_true hz
    subst this
    exact hN
theorem z37 (hl : l.stackTraces = false) (hXP : XP A s) (X : LX p s m args meth c D σ0 cA A L xs) : ZC p l e s m args below meth c D σ0 cA A Q L 1573 := by
  refine zcaseX pL_c37_ok ?_ lc_toss X
  obtain ⟨hX, hnw, hex, hA, hsc, hL⟩ := X
  intro pc lv st w cl sl kk h hk
  obtain ⟨g, hg, h⟩ := ctabz_in h
  rcases List.mem_cons.mp hg with hg | hg
  · cases hg
    intro σ hσ
    exact site_C (R := room_1) hA (run_VH hl hX hnw hXP hA (pL_c37_ok 1580 _ rfl) ct_X5_toss (uw1 (by decide +kernel)) (uw1 (by decide +kernel)) (uw1 (by decide +kernel)) (uw1 (by decide +kernel)) ⟨by decide +kernel, by decide +kernel, by decide +kernel⟩ (ci := 3) rfl (uw1 (by decide +kernel)) (by decide) ⟨by decide, by decide⟩) h (fun st' w' cl' sl' z => hk st' w' cl' sl' z σ hσ)
  rcases List.mem_cons.mp hg with hg | hg
  · cases hg
    exact site_M (R := room_1) (run_VZ (pL_c37_ok 1590 _ rfl) ct_X6_toss kX6_toss (uw1 (by decide +kernel)) (by decide)) p l e s m args below meth c D σ0 cA A Q hX hnw hex hA lv st w cl sl kk h hk
  · cases hg
theorem z34 (hl : l.stackTraces = false) (hXP : XP A s) (X : LX p s m args meth c D σ0 cA A L xs) : ZC p l e s m args below meth c D σ0 cA A Q L 1408 := by
  refine zcaseX pL_c34_ok ?_ lc_element X
  obtain ⟨hX, hnw, hex, hA, hsc, hL⟩ := X
  intro pc lv st w cl sl kk h hk
  obtain ⟨g, hg, h⟩ := ctabz_in h
  rcases List.mem_cons.mp hg with hg | hg
  · cases hg
    intro σ hσ
    exact site_Cs (R := room_1) hA (run_SH hl hX hnw hXP hA (pL_c34_ok 1422 _ rfl) ct_L_element (uw1 (by decide +kernel)) (uw1 (by decide +kernel)) (uw1 (by decide +kernel)) ⟨by decide +kernel, by decide +kernel, by decide +kernel⟩ lRL_164 (by decide) ⟨by decide, by decide⟩) h (fun st' w' cl' sl' z => hk st' w' cl' sl' z σ hσ)
  rcases List.mem_cons.mp hg with hg | hg
  · cases hg
    exact site_M (R := room_1) (run_VZ (pL_c34_ok 1440 _ rfl) ct_X6_element kX6_element (uw1 (by decide +kernel)) (by decide)) p l e s m args below meth c D σ0 cA A Q hX hnw hex hA lv st w cl sl kk h hk
  rcases List.mem_cons.mp hg with hg | hg
  · cases hg
    exact site_M (R := room_1) (run_VZ (pL_c34_ok 1446 _ rfl) ct_X6_thrown kX6_thrown (uw1 (by decide +kernel)) (by decide)) p l e s m args below meth c D σ0 cA A Q hX hnw hex hA lv st w cl sl kk h hk
  · cases hg
end LAWX
