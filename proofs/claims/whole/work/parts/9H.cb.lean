/-! ===== cases that change something ===== -/
theorem wi_x {s : InnS} {a b c d g k : Int32} : ∃ a' b', snS (wiS (snS s a b) g k) c d = snS (wiS s g k) a' b' := ⟨c, d, by rw [(wi_sn _ _).2]; rfl⟩
theorem he_x {s : InnS} {a b c d g k : Int32} : ∃ a' b', snS (heS (snS s a b) g k) c d = snS (heS s g k) a' b' := ⟨c, d, by rw [(he_sn _ _).2]; rfl⟩
theorem fi_x {s : InnS} {a b c d g k : Int32} : ∃ a' b', snS (fiS (snS s a b) g k) c d = snS (fiS s g k) a' b' := ⟨c, d, by rw [(fi_sn _ _).2]; rfl⟩
theorem ni_x {s : InnS} {a b c d n : Int32} : ∃ a' b', snS (niS (snS s a b) n) c d = snS (niS s n) a' b' := by
  obtain ⟨-, a', b', e⟩ := ni_sn (s := s) (a := a) (b := b) n
  exact ⟨c, d, by rw [e]; rfl⟩
theorem in_x {s : InnS} {u : ShS} {a b c d n : Int32} : ∃ a' b', snS (inS (snS s a b) u n) c d = snS (inS s u n) a' b' := by
  obtain ⟨-, a', b', e⟩ := in_sn (s := s) (a := a) (b := b) u n
  exact ⟨c, d, by rw [e]; rfl⟩
theorem re_O {u : ShS} {d v : Int32} (h : reF u d v = 0) : (0 ≤ d ∧ d ≤ 7) ∧ uO u = v := by
  unfold reF at h
  split at h
  · rename_i h1
    split at h
    · exact absurd h (by decide)
    · split at h
      · rename_i h2; exact ⟨h1, h2⟩
      · exact absurd h (by decide)
  · exact absurd h (by decide)
def ctL_wishes : Tz := [(345, cD 601024 7293034 (some 3) 3 F_X5_wishes 0 0), (361, cM 601024 7293034 (some 4) 3 F_X6_wishes 0 0)]
theorem cokL_wishes : CallZ cL_law 8 ret RL room_1 0 ctL_wishes := CallZ_cons (site_D (R := room_1) (run_VZ (pL_c4_ok 345 _ rfl) ct_X5_wishes kX5_wishes (uw1 (by decide +kernel)) (by decide))) (CallZ_cons (site_M (R := room_1) (run_VZ (pL_c4_ok 361 _ rfl) ct_X6_wishes kX6_wishes (uw1 (by decide +kernel)) (by decide))) CallZ_nil)
set_option maxRecDepth 20000 in
theorem lc_wishes : LCase pL_c4 ctL_wishes 332 := by
  intro j L c0 s0 xs s m k hi us dr od py r q t ou hj hL hc hs hI
  obtain ⟨⟨N, hV, hTG, hLB⟩, hM, hK, ⟨ra, rb, rfl⟩, hT, hQ, hB, hIm⟩ := id hI
  conv => whnf
  refine ⟨vin (m := 1) hj hL (by decide), ?_⟩
  conv => whnf
  refine ⟨vin (m := 2) hj hL (by decide), ?_⟩
  conv => whnf
  refine ⟨⟨by omega, by omega⟩, ?_⟩
  refine e1 ⟨fun _ => rfl, fun _ => rfl⟩ (fun r1 r2 r3 r4 r5 K hK1 => ⟨r1, r2, r3, r4, r5, hi, s, _, _, rfl, rfl, hV.2.1, hK1 _ _  ⟨fun _ => rfl, fun _ => rfl⟩ ?_⟩)
  conv => whnf
  refine ⟨vin (m := 1) hj hL (by decide), ?_⟩
  conv => whnf
  refine ⟨vin (m := 2) hj hL (by decide), ?_⟩
  conv => whnf
  refine ⟨⟨by omega, by omega⟩, ?_⟩
  refine eM ⟨fun _ => rfl, fun _ => rfl⟩ (fun K hK3 => ⟨snS s ra rb, q, t, _, _, rfl, rfl, hT, hV.2.1, fun a b t' hT' => hK3 _ _ _ _ ⟨fun _ => rfl, fun _ => rfl⟩ ?_⟩)
  conv => whnf
  refine ⟨fun _ => ?_, fun z => absurd ((wi_sn _ _).1.symm) z⟩
  conv => whnf
  exact C98_i ⟨IQ_wi ⟨N, hV, hTG, hLB⟩, hM, hK, wi_x, hT', hQ, hB, hIm⟩ (by omega) (by omega)
def ctL_heals : Tz := [(382, cD 601024 7293034 (some 3) 3 F_X5_heals 0 0), (398, cM 601024 7293034 (some 4) 3 F_X6_heals 0 0)]
theorem cokL_heals : CallZ cL_law 8 ret RL room_1 0 ctL_heals := CallZ_cons (site_D (R := room_1) (run_VZ (pL_c5_ok 382 _ rfl) ct_X5_heals kX5_heals (uw1 (by decide +kernel)) (by decide))) (CallZ_cons (site_M (R := room_1) (run_VZ (pL_c5_ok 398 _ rfl) ct_X6_heals kX6_heals (uw1 (by decide +kernel)) (by decide))) CallZ_nil)
set_option maxRecDepth 20000 in
theorem lc_heals : LCase pL_c5 ctL_heals 369 := by
  intro j L c0 s0 xs s m k hi us dr od py r q t ou hj hL hc hs hI
  obtain ⟨⟨N, hV, hTG, hLB⟩, hM, hK, ⟨ra, rb, rfl⟩, hT, hQ, hB, hIm⟩ := id hI
  conv => whnf
  refine ⟨vin (m := 1) hj hL (by decide), ?_⟩
  conv => whnf
  refine ⟨vin (m := 2) hj hL (by decide), ?_⟩
  conv => whnf
  refine ⟨⟨by omega, by omega⟩, ?_⟩
  refine e1 ⟨fun _ => rfl, fun _ => rfl⟩ (fun r1 r2 r3 r4 r5 K hK1 => ⟨r1, r2, r3, r4, r5, hi, s, _, _, rfl, rfl, hV.2.1, hK1 _ _  ⟨fun _ => rfl, fun _ => rfl⟩ ?_⟩)
  conv => whnf
  refine ⟨vin (m := 1) hj hL (by decide), ?_⟩
  conv => whnf
  refine ⟨vin (m := 2) hj hL (by decide), ?_⟩
  conv => whnf
  refine ⟨⟨by omega, by omega⟩, ?_⟩
  refine eM ⟨fun _ => rfl, fun _ => rfl⟩ (fun K hK3 => ⟨snS s ra rb, q, t, _, _, rfl, rfl, hT, hV.2.1, fun a b t' hT' => hK3 _ _ _ _ ⟨fun _ => rfl, fun _ => rfl⟩ ?_⟩)
  conv => whnf
  refine ⟨fun _ => ?_, fun z => absurd ((he_sn _ _).1.symm) z⟩
  conv => whnf
  exact C98_i ⟨IQ_he ⟨N, hV, hTG, hLB⟩, hM, hK, he_x, hT', hQ, hB, hIm⟩ (by omega) (by omega)
def ctL_fills : Tz := [(419, cD 601024 7293034 (some 3) 3 F_X5_fills 0 0), (435, cM 601024 7293034 (some 4) 3 F_X6_fills 0 0)]
theorem cokL_fills : CallZ cL_law 8 ret RL room_1 0 ctL_fills := CallZ_cons (site_D (R := room_1) (run_VZ (pL_c6_ok 419 _ rfl) ct_X5_fills kX5_fills (uw1 (by decide +kernel)) (by decide))) (CallZ_cons (site_M (R := room_1) (run_VZ (pL_c6_ok 435 _ rfl) ct_X6_fills kX6_fills (uw1 (by decide +kernel)) (by decide))) CallZ_nil)
set_option maxRecDepth 20000 in
theorem lc_fills : LCase pL_c6 ctL_fills 406 := by
  intro j L c0 s0 xs s m k hi us dr od py r q t ou hj hL hc hs hI
  obtain ⟨⟨N, hV, hTG, hLB⟩, hM, hK, ⟨ra, rb, rfl⟩, hT, hQ, hB, hIm⟩ := id hI
  conv => whnf
  refine ⟨vin (m := 1) hj hL (by decide), ?_⟩
  conv => whnf
  refine ⟨vin (m := 2) hj hL (by decide), ?_⟩
  conv => whnf
  refine ⟨⟨by omega, by omega⟩, ?_⟩
  refine e1 ⟨fun _ => rfl, fun _ => rfl⟩ (fun r1 r2 r3 r4 r5 K hK1 => ⟨r1, r2, r3, r4, r5, hi, s, _, _, rfl, rfl, hK1 _ _  ⟨fun _ => rfl, fun _ => rfl⟩ ?_⟩)
  conv => whnf
  refine ⟨vin (m := 1) hj hL (by decide), ?_⟩
  conv => whnf
  refine ⟨vin (m := 2) hj hL (by decide), ?_⟩
  conv => whnf
  refine ⟨⟨by omega, by omega⟩, ?_⟩
  refine eM ⟨fun _ => rfl, fun _ => rfl⟩ (fun K hK3 => ⟨snS s ra rb, q, t, _, _, rfl, rfl, hT, fun a b t' hT' => hK3 _ _ _ _ ⟨fun _ => rfl, fun _ => rfl⟩ ?_⟩)
  conv => whnf
  refine ⟨fun _ => ?_, fun z => absurd ((fi_sn _ _).1.symm) z⟩
  conv => whnf
  exact C98_i ⟨IQ_fi ⟨N, hV, hTG, hLB⟩, hM, hK, fi_x, hT', hQ, hB, hIm⟩ (by omega) (by omega)
def ctL_nights : Tz := [(450, cD 601024 7293034 (some 3) 2 F_X5_nights 0 0), (460, cM 601024 7293034 (some 4) 2 F_X6_nights 0 0)]
theorem cokL_nights : CallZ cL_law 8 ret RL room_1 0 ctL_nights := CallZ_cons (site_D (R := room_1) (run_VZ (pL_c7_ok 450 _ rfl) ct_X5_nights kX5_nights (uw1 (by decide +kernel)) (by decide))) (CallZ_cons (site_M (R := room_1) (run_VZ (pL_c7_ok 460 _ rfl) ct_X6_nights kX6_nights (uw1 (by decide +kernel)) (by decide))) CallZ_nil)
set_option maxRecDepth 20000 in
theorem lc_nights : LCase pL_c7 ctL_nights 443 := by
  intro j L c0 s0 xs s m k hi us dr od py r q t ou hj hL hc hs hI
  obtain ⟨⟨N, hV, hTG, hLB⟩, hM, hK, ⟨ra, rb, rfl⟩, hT, hQ, hB, hIm⟩ := id hI
  conv => whnf
  refine ⟨vin (m := 1) hj hL (by decide), ?_⟩
  conv => whnf
  refine ⟨⟨by omega, by omega⟩, ?_⟩
  refine e1 ⟨fun _ => rfl, fun _ => rfl⟩ (fun r1 r2 r3 r4 r5 K hK1 => ⟨r1, r2, r3, r4, r5, hi, s, N, _, rfl, rfl, hV, hK1 _ _  ⟨fun _ => rfl, fun _ => rfl⟩ ?_⟩)
  conv => whnf
  refine ⟨vin (m := 1) hj hL (by decide), ?_⟩
  conv => whnf
  refine ⟨⟨by omega, by omega⟩, ?_⟩
  refine eM ⟨fun _ => rfl, fun _ => rfl⟩ (fun K hK3 => ⟨snS s ra rb, q, t, N, _, rfl, rfl, hT, hV, fun a b t' hT' => hK3 _ _ _ _ ⟨fun _ => rfl, fun _ => rfl⟩ ?_⟩)
  conv => whnf
  refine ⟨fun _ => ?_, fun z => absurd ((ni_sn _).1.symm) z⟩
  conv => whnf
  exact C98_i ⟨IQ_nS ⟨N, hV, hTG, hLB⟩, hM, hK, ni_x, hT', hQ, hB, hIm⟩ (by omega) (by omega)
def ctL_inn : Tz := [(215, cD 601024 7293034 (some 3) 2 F_X5_inn 0 0), (225, cM 601024 7293034 (some 4) 2 F_X6_inn 0 0)]
theorem cokL_inn : CallZ cL_law 8 ret RL room_1 0 ctL_inn := CallZ_cons (site_D (R := room_1) (run_VZ (pL_c0_ok 215 _ rfl) ct_X5_inn kX5_inn (uw1 (by decide +kernel)) (by decide))) (CallZ_cons (site_M (R := room_1) (run_VZ (pL_c0_ok 225 _ rfl) ct_X6_inn kX6_inn (uw1 (by decide +kernel)) (by decide))) CallZ_nil)
set_option maxRecDepth 20000 in
theorem lc_inn : LCase pL_c0 ctL_inn 208 := by
  intro j L c0 s0 xs s m k hi us dr od py r q t ou hj hL hc hs hI
  obtain ⟨⟨N, hV, hTG, hLB⟩, hM, hK, ⟨ra, rb, rfl⟩, hT, hQ, hB, hIm⟩ := id hI
  conv => whnf
  refine ⟨vin (m := 1) hj hL (by decide), ?_⟩
  conv => whnf
  refine ⟨⟨by omega, by omega⟩, ?_⟩
  refine eSd ⟨fun _ => rfl, fun _ => rfl⟩ (fun n8 hn8 hn r2 r4 r5 f K hf hK1 hK2 => ⟨r2, r4, r5, hi, s, m, f, us n8, N, _, rfl, rfl, (fun z => ⟨hf z, (hQ n8 hn8).2⟩), hV, hM, fun mm hMM => hK1 _ _ _  ⟨fun _ => rfl, fun _ => rfl⟩ ?_⟩)
  conv => whnf
  refine ⟨vin (m := 1) hj hL (by decide), ?_⟩
  conv => whnf
  refine ⟨⟨by omega, by omega⟩, ?_⟩
  refine eM ⟨fun _ => rfl, fun _ => rfl⟩ (fun K hK3 => ⟨snS s ra rb, q, t, us n8, N, _, rfl, rfl, hT, hV, (fun z => by rw [← hn z]; exact hQ n8 hn8), fun a b t' hT' => hK3 _ _ _ _ ⟨fun _ => rfl, fun _ => rfl⟩ ?_⟩)
  conv => whnf
  refine ⟨fun _ => ?_, fun z => absurd ((in_sn _ _).1.symm) z⟩
  conv => whnf
  exact C98_i ⟨IQ_in ⟨N, hV, hTG, hLB⟩ (fun z => SH_m (hQ n8 hn8).2 (re_O z).2), hMM, hK, in_x, hT', hQ, hB, hIm⟩ (by omega) (by omega)
def ctL_whatIs : Tz := [(883, cD 601024 7293034 (some 3) 4 F_X5_whatIs 0 0), (905, cM 601024 7293034 (some 4) 4 F_X6_whatIs 0 0)]
theorem cokL_whatIs : CallZ cL_law 8 ret RL room_1 0 ctL_whatIs := CallZ_cons (site_D (R := room_1) (run_VZ (pL_c20_ok 883 _ rfl) ct_X5_whatIs kX5_whatIs (uw1 (by decide +kernel)) (by decide))) (CallZ_cons (site_M (R := room_1) (run_VZ (pL_c20_ok 905 _ rfl) ct_X6_whatIs kX6_whatIs (uw1 (by decide +kernel)) (by decide))) CallZ_nil)
set_option maxRecDepth 20000 in
theorem lc_whatIs : LCase pL_c20 ctL_whatIs 864 := by
  intro j L c0 s0 xs s m k hi us dr od py r q t ou hj hL hc hs hI
  obtain ⟨⟨N, hV, hTG, hLB⟩, hM, hK, ⟨ra, rb, rfl⟩, hT, hQ, hB, hIm⟩ := id hI
  conv => whnf
  refine ⟨vin (m := 1) hj hL (by decide), ?_⟩
  conv => whnf
  refine ⟨vin (m := 2) hj hL (by decide), ?_⟩
  conv => whnf
  refine ⟨vin (m := 3) hj hL (by decide), ?_⟩
  conv => whnf
  refine ⟨⟨by omega, by omega⟩, ?_⟩
  refine eSd ⟨fun _ => rfl, fun _ => rfl⟩ (fun n8 hn8 hn r2 r4 r5 f K hf hK1 hK2 => ⟨r2, r4, r5, hi, s, m, f, us n8, N, _, _, _, rfl, rfl, (fun z => ⟨hf z, (hQ n8 hn8).2⟩), hV, hM, fun mm hMM => hK1 _ _ _  ⟨fun _ => rfl, fun _ => rfl⟩ ?_⟩)
  conv => whnf
  refine ⟨vin (m := 1) hj hL (by decide), ?_⟩
  conv => whnf
  refine ⟨vin (m := 2) hj hL (by decide), ?_⟩
  conv => whnf
  refine ⟨vin (m := 3) hj hL (by decide), ?_⟩
  conv => whnf
  refine ⟨⟨by omega, by omega⟩, ?_⟩
  refine eM ⟨fun _ => rfl, fun _ => rfl⟩ (fun K hK3 => ⟨snS s ra rb, q, t, us n8, N, _, _, _, rfl, rfl, hT, hV, (fun z => by rw [← hn z]; exact hQ n8 hn8), fun a b t' hT' => hK3 _ _ _ _ ⟨fun _ => rfl, fun _ => rfl⟩ ?_⟩)
  conv => whnf
  refine ⟨fun _ => ?_, fun z => absurd ((ws_sn _ _ _ _).symm) z⟩
  conv => whnf
  exact C98_i ⟨⟨N, hV, hTG, hLB⟩, hMM, hK, ⟨_, _, rfl⟩, hT', hQ, hB, hIm⟩ (by omega) (by omega)
def ctL_whatWish : Tz := [(926, cD 601024 7293034 (some 3) 3 F_X5_whatWish 0 0), (942, cM 601024 7293034 (some 4) 3 F_X6_whatWish 0 0)]
theorem cokL_whatWish : CallZ cL_law 8 ret RL room_1 0 ctL_whatWish := CallZ_cons (site_D (R := room_1) (run_VZ (pL_c21_ok 926 _ rfl) ct_X5_whatWish kX5_whatWish (uw1 (by decide +kernel)) (by decide))) (CallZ_cons (site_M (R := room_1) (run_VZ (pL_c21_ok 942 _ rfl) ct_X6_whatWish kX6_whatWish (uw1 (by decide +kernel)) (by decide))) CallZ_nil)
set_option maxRecDepth 20000 in
theorem lc_whatWish : LCase pL_c21 ctL_whatWish 913 := by
  intro j L c0 s0 xs s m k hi us dr od py r q t ou hj hL hc hs hI
  obtain ⟨⟨N, hV, hTG, hLB⟩, hM, hK, ⟨ra, rb, rfl⟩, hT, hQ, hB, hIm⟩ := id hI
  conv => whnf
  refine ⟨vin (m := 1) hj hL (by decide), ?_⟩
  conv => whnf
  refine ⟨vin (m := 2) hj hL (by decide), ?_⟩
  conv => whnf
  refine ⟨⟨by omega, by omega⟩, ?_⟩
  refine eSd ⟨fun _ => rfl, fun _ => rfl⟩ (fun n8 hn8 hn r2 r4 r5 f K hf hK1 hK2 => ⟨r2, r4, r5, hi, s, m, f, us n8, N, _, _, rfl, rfl, (fun z => ⟨hf z, (hQ n8 hn8).2⟩), hV, hM, fun mm hMM => hK1 _ _ _  ⟨fun _ => rfl, fun _ => rfl⟩ ?_⟩)
  conv => whnf
  refine ⟨vin (m := 1) hj hL (by decide), ?_⟩
  conv => whnf
  refine ⟨vin (m := 2) hj hL (by decide), ?_⟩
  conv => whnf
  refine ⟨⟨by omega, by omega⟩, ?_⟩
  refine eM ⟨fun _ => rfl, fun _ => rfl⟩ (fun K hK3 => ⟨snS s ra rb, q, t, us n8, N, _, _, rfl, rfl, hT, hV, (fun z => by rw [← hn z]; exact hQ n8 hn8), fun a b t' hT' => hK3 _ _ _ _ ⟨fun _ => rfl, fun _ => rfl⟩ ?_⟩)
  conv => whnf
  refine ⟨fun _ => ?_, fun z => absurd ((ww_sn _ _ _).symm) z⟩
  conv => whnf
  exact C98_i ⟨⟨N, hV, hTG, hLB⟩, hMM, hK, ⟨_, _, rfl⟩, hT', hQ, hB, hIm⟩ (by omega) (by omega)
def ctL_judge : Tz := [(1131, cD 601024 7293034 (some 3) 2 F_X5_judge 0 0), (1141, cM 601024 7293034 (some 4) 2 F_X6_judge 0 0)]
theorem cokL_judge : CallZ cL_law 8 ret RL room_1 0 ctL_judge := CallZ_cons (site_D (R := room_1) (run_VZ (pL_c26_ok 1131 _ rfl) ct_X5_judge kX5_judge (uw1 (by decide +kernel)) (by decide))) (CallZ_cons (site_M (R := room_1) (run_VZ (pL_c26_ok 1141 _ rfl) ct_X6_judge kX6_judge (uw1 (by decide +kernel)) (by decide))) CallZ_nil)
set_option maxRecDepth 20000 in
theorem lc_judge : LCase pL_c26 ctL_judge 1124 := by
  intro j L c0 s0 xs s m k hi us dr od py r q t ou hj hL hc hs hI
  obtain ⟨⟨N, hV, hTG, hLB⟩, hM, hK, ⟨ra, rb, rfl⟩, hT, hQ, hB, hIm⟩ := id hI
  conv => whnf
  refine ⟨vin (m := 1) hj hL (by decide), ?_⟩
  conv => whnf
  refine ⟨⟨by omega, by omega⟩, ?_⟩
  refine eSd ⟨fun _ => rfl, fun _ => rfl⟩ (fun n8 hn8 hn r2 r4 r5 f K hf hK1 hK2 => ⟨r2, r4, r5, hi, s, m, f, us n8, N, _, rfl, rfl, (fun z => ⟨hf z, (hQ n8 hn8).2⟩), hV, hM, fun mm hMM => hK1 _ _ _  ⟨fun _ => rfl, fun _ => rfl⟩ ?_⟩)
  conv => whnf
  refine ⟨vin (m := 1) hj hL (by decide), ?_⟩
  conv => whnf
  refine ⟨⟨by omega, by omega⟩, ?_⟩
  refine eM ⟨fun _ => rfl, fun _ => rfl⟩ (fun K hK3 => ⟨snS s ra rb, q, t, us n8, N, _, rfl, rfl, hT, hV, (fun z => by rw [← hn z]; exact hQ n8 hn8), fun a b t' hT' => hK3 _ _ _ _ ⟨fun _ => rfl, fun _ => rfl⟩ ?_⟩)
  conv => whnf
  refine ⟨fun _ => ?_, fun z => absurd ((ju_sn _ _).symm) z⟩
  conv => whnf
  exact C98_i ⟨⟨N, hV, hTG, hLB⟩, hMM, hK, ⟨_, _, rfl⟩, hT', hQ, hB, hIm⟩ (by omega) (by omega)
def ctL_forged : Tz := [(1106, cD 601024 7293034 (some 3) 2 F_X5_forged 0 0), (1116, cM 601024 7293034 (some 4) 2 F_X6_forged 0 0)]
theorem cokL_forged : CallZ cL_law 8 ret RL room_1 0 ctL_forged := CallZ_cons (site_D (R := room_1) (run_VZ (pL_c25_ok 1106 _ rfl) ct_X5_forged kX5_forged (uw1 (by decide +kernel)) (by decide))) (CallZ_cons (site_M (R := room_1) (run_VZ (pL_c25_ok 1116 _ rfl) ct_X6_forged kX6_forged (uw1 (by decide +kernel)) (by decide))) CallZ_nil)
set_option maxRecDepth 20000 in
theorem lc_forged : LCase pL_c25 ctL_forged 1099 := by
  intro j L c0 s0 xs s m k hi us dr od py r q t ou hj hL hc hs hI
  obtain ⟨⟨N, hV, hTG, hLB⟩, hM, hK, ⟨ra, rb, rfl⟩, hT, hQ, hB, hIm⟩ := id hI
  conv => whnf
  refine ⟨vin (m := 1) hj hL (by decide), ?_⟩
  conv => whnf
  refine ⟨⟨by omega, by omega⟩, ?_⟩
  refine eSd ⟨fun _ => rfl, fun _ => rfl⟩ (fun n8 hn8 hn r2 r4 r5 f K hf hK1 hK2 => ⟨r2, r4, r5, hi, s, m, f, us n8, _, rfl, rfl, (fun z => ⟨hf z, (hQ n8 hn8).2⟩), hK1 _ _ _  ⟨fun _ => rfl, fun _ => rfl⟩ ?_⟩)
  conv => whnf
  refine ⟨vin (m := 1) hj hL (by decide), ?_⟩
  conv => whnf
  refine ⟨⟨by omega, by omega⟩, ?_⟩
  refine eM ⟨fun _ => rfl, fun _ => rfl⟩ (fun K hK3 => ⟨snS s ra rb, q, t, us n8, _, rfl, rfl, hT, (fun z => by rw [← hn z]; exact hQ n8 hn8), fun a b t' hT' => hK3 _ _ _ _ ⟨fun _ => rfl, fun _ => rfl⟩ ?_⟩)
  conv => whnf
  refine ⟨fun _ => ?_, fun z => absurd ((fo_sn _ _).symm) z⟩
  conv => whnf
  exact C98_i ⟨⟨N, hV, hTG, hLB⟩, hM, hK, ⟨_, _, rfl⟩, hT', hQ, hB, hIm⟩ (by omega) (by omega)
def ctL_cost : Tz := [(1555, cD 601024 7293034 (some 3) 2 F_X5_cost 0 0), (1565, cM 601024 7293034 (some 4) 2 F_X6_cost 0 0)]
theorem cokL_cost : CallZ cL_law 8 ret RL room_1 0 ctL_cost := CallZ_cons (site_D (R := room_1) (run_VZ (pL_c36_ok 1555 _ rfl) ct_X5_cost kX5_cost (uw1 (by decide +kernel)) (by decide))) (CallZ_cons (site_M (R := room_1) (run_VZ (pL_c36_ok 1565 _ rfl) ct_X6_cost kX6_cost (uw1 (by decide +kernel)) (by decide))) CallZ_nil)
set_option maxRecDepth 20000 in
theorem lc_cost : LCase pL_c36 ctL_cost 1548 := by
  intro j L c0 s0 xs s m k hi us dr od py r q t ou hj hL hc hs hI
  obtain ⟨⟨N, hV, hTG, hLB⟩, hM, hK, ⟨ra, rb, rfl⟩, hT, hQ, hB, hIm⟩ := id hI
  conv => whnf
  refine ⟨vin (m := 1) hj hL (by decide), ?_⟩
  conv => whnf
  refine ⟨⟨by omega, by omega⟩, ?_⟩
  refine eSd ⟨fun _ => rfl, fun _ => rfl⟩ (fun n8 hn8 hn r2 r4 r5 f K hf hK1 hK2 => ⟨r2, r4, r5, hi, s, m, f, us n8, _, rfl, rfl, (fun z => ⟨hf z, (hQ n8 hn8).2⟩), hK1 _ _ _  ⟨fun _ => rfl, fun _ => rfl⟩ ?_⟩)
  conv => whnf
  refine ⟨vin (m := 1) hj hL (by decide), ?_⟩
  conv => whnf
  refine ⟨⟨by omega, by omega⟩, ?_⟩
  refine eM ⟨fun _ => rfl, fun _ => rfl⟩ (fun K hK3 => ⟨snS s ra rb, q, t, us n8, _, rfl, rfl, hT, (fun z => by rw [← hn z]; exact hQ n8 hn8), fun t' hT' => hK3 _ _ _ _ ⟨fun _ => rfl, fun _ => rfl⟩ ?_⟩)
  conv => whnf
  refine ⟨fun _ => ?_, fun z => absurd (rfl) z⟩
  conv => whnf
  exact C98_i ⟨⟨N, hV, hTG, hLB⟩, hM, hK, ⟨_, _, rfl⟩, hT', hQ, hB, hIm⟩ (by omega) (by omega)
