/-! ===== cases that only ask ===== -/
def ctL_guest : Tz := [(246, cD 601024 7293034 (some 3) 3 F_X5_guest 0 0), (262, cD 601024 7293034 (some 4) 3 F_X6_guest 0 0)]
theorem cokL_guest : CallZ cL_law 8 ret RL room_1 0 ctL_guest := CallZ_cons (site_D (R := room_1) (run_VZ (pL_c1_ok 246 _ rfl) ct_X5_guest kX5_guest (uw1 (by decide +kernel)) (by decide))) (CallZ_cons (site_D (R := room_1) (run_VZ (pL_c1_ok 262 _ rfl) ct_X6_guest kX6_guest (uw1 (by decide +kernel)) (by decide))) CallZ_nil)
set_option maxRecDepth 20000 in
theorem lc_guest : LCase pL_c1 ctL_guest 233 := by
  intro j L c0 s0 xs s m k hi us dr od py r q t ou hj hL hc hs hI
  obtain ⟨⟨N, hV, hTG, hLB⟩, hM, hK, ⟨ra, rb, rfl⟩, hT, hQ, hB, hIm⟩ := id hI
  conv => whnf
  refine ⟨vin (m := 1) hj hL (by decide), ?_⟩
  conv => whnf
  refine ⟨vin (m := 2) hj hL (by decide), ?_⟩
  conv => whnf
  refine ⟨⟨by omega, by omega⟩, [0, 1, 2, 3, 4, 5, 6, 7], by decide, ?_⟩
  conv => whnf
  refine ⟨_, _, _, _, _, hi, s, N, _, _, rfl, rfl, hV, ?_⟩
  conv => whnf
  refine ⟨vin (m := 1) hj hL (by decide), ?_⟩
  conv => whnf
  refine ⟨vin (m := 2) hj hL (by decide), ?_⟩
  conv => whnf
  refine ⟨⟨by omega, by omega⟩, [43, 44, 45, 46, 47, 48, 49, 50, 51, 52, 53, 54, 55, 56, 57, 58, 59, 60, 61, 62, 63, 64], by decide, ?_⟩
  conv => whnf
  refine ⟨snS s ra rb, q, t, N, _, _, rfl, rfl, hT, hV, fun a b t' hT' => ?_⟩
  conv => whnf
  refine ⟨fun _ => ?_, fun z => absurd ((gu_sn _ _).symm) z⟩
  conv => whnf
  exact ⟨s, m, k, hi, us, dr, od, py, snS s a b, q, t', ou, ⟨⟨N, hV, hTG, hLB⟩, hM, hK, ⟨a, b, rfl⟩, hT', hQ, hB, hIm⟩, rfl, rfl, rfl, by omega, by omega⟩
def ctL_larder : Tz := [(277, cD 601024 7293034 (some 3) 2 F_X5_larder 0 0), (287, cD 601024 7293034 (some 4) 2 F_X6_larder 0 0)]
theorem cokL_larder : CallZ cL_law 8 ret RL room_1 0 ctL_larder := CallZ_cons (site_D (R := room_1) (run_VZ (pL_c2_ok 277 _ rfl) ct_X5_larder kX5_larder (uw1 (by decide +kernel)) (by decide))) (CallZ_cons (site_D (R := room_1) (run_VZ (pL_c2_ok 287 _ rfl) ct_X6_larder kX6_larder (uw1 (by decide +kernel)) (by decide))) CallZ_nil)
set_option maxRecDepth 20000 in
theorem lc_larder : LCase pL_c2 ctL_larder 270 := by
  intro j L c0 s0 xs s m k hi us dr od py r q t ou hj hL hc hs hI
  obtain ⟨⟨N, hV, hTG, hLB⟩, hM, hK, ⟨ra, rb, rfl⟩, hT, hQ, hB, hIm⟩ := id hI
  conv => whnf
  refine ⟨vin (m := 1) hj hL (by decide), ?_⟩
  conv => whnf
  refine ⟨⟨by omega, by omega⟩, [0, 1, 2, 3, 4, 5, 6, 7], by decide, ?_⟩
  conv => whnf
  refine ⟨_, _, _, _, _, hi, s, _, rfl, rfl, ?_⟩
  conv => whnf
  refine ⟨vin (m := 1) hj hL (by decide), ?_⟩
  conv => whnf
  refine ⟨⟨by omega, by omega⟩, [43, 44, 45, 46, 47, 48, 49, 50, 51, 52, 53, 54, 55, 56, 57, 58, 59, 60, 61, 62, 63, 64], by decide, ?_⟩
  conv => whnf
  refine ⟨snS s ra rb, q, t, _, rfl, rfl, hT, fun a b t' hT' => ?_⟩
  conv => whnf
  refine ⟨fun _ => ?_, fun z => absurd ((la_sn _).symm) z⟩
  conv => whnf
  exact ⟨s, m, k, hi, us, dr, od, py, snS s a b, q, t', ou, ⟨⟨N, hV, hTG, hLB⟩, hM, hK, ⟨a, b, rfl⟩, hT', hQ, hB, hIm⟩, rfl, rfl, rfl, by omega, by omega⟩
def ctL_guestThen : Tz := [(487, cD 601024 7293034 (some 3) 4 F_X5_guestThen 0 0), (509, cD 601024 7293034 (some 4) 4 F_X6_guestThen 0 0)]
theorem cokL_guestThen : CallZ cL_law 8 ret RL room_1 0 ctL_guestThen := CallZ_cons (site_D (R := room_1) (run_VZ (pL_c8_ok 487 _ rfl) ct_X5_guestThen kX5_guestThen (uw1 (by decide +kernel)) (by decide))) (CallZ_cons (site_D (R := room_1) (run_VZ (pL_c8_ok 509 _ rfl) ct_X6_guestThen kX6_guestThen (uw1 (by decide +kernel)) (by decide))) CallZ_nil)
set_option maxRecDepth 20000 in
theorem lc_guestThen : LCase pL_c8 ctL_guestThen 468 := by
  intro j L c0 s0 xs s m k hi us dr od py r q t ou hj hL hc hs hI
  obtain ⟨⟨N, hV, hTG, hLB⟩, hM, hK, ⟨ra, rb, rfl⟩, hT, hQ, hB, hIm⟩ := id hI
  conv => whnf
  refine ⟨vin (m := 1) hj hL (by decide), ?_⟩
  conv => whnf
  refine ⟨vin (m := 2) hj hL (by decide), ?_⟩
  conv => whnf
  refine ⟨vin (m := 3) hj hL (by decide), ?_⟩
  conv => whnf
  refine ⟨⟨by omega, by omega⟩, [0, 1, 2, 3, 4, 5, 6, 7, 8, 9, 10, 11, 12, 13, 14], by decide, ?_⟩
  conv => whnf
  refine ⟨_, _, _, _, hi, s, m, N, _, _, _, rfl, rfl, hV, hM, fun mm hMM => ?_⟩
  conv => whnf
  refine ⟨vin (m := 1) hj hL (by decide), ?_⟩
  conv => whnf
  refine ⟨vin (m := 2) hj hL (by decide), ?_⟩
  conv => whnf
  refine ⟨vin (m := 3) hj hL (by decide), ?_⟩
  conv => whnf
  refine ⟨⟨by omega, by omega⟩, [43, 44, 45, 46, 47, 48, 49, 50, 51, 52, 53, 54, 55, 56, 57, 58, 59, 60, 61, 62, 63, 64], by decide, ?_⟩
  conv => whnf
  refine ⟨snS s ra rb, q, t, N, _, _, _, rfl, rfl, hT, hV, fun a b t' hT' => ?_⟩
  conv => whnf
  refine ⟨fun _ => ?_, fun z => absurd ((gt_sn _ _ _).symm) z⟩
  conv => whnf
  exact ⟨s, mm, k, hi, us, dr, od, py, snS s a b, q, t', ou, ⟨⟨N, hV, hTG, hLB⟩, hMM, hK, ⟨a, b, rfl⟩, hT', hQ, hB, hIm⟩, rfl, rfl, rfl, by omega, by omega⟩
