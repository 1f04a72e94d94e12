/-! ===== cases that only ask ===== -/
def ctL_guest : Tz := [(246, cD 601024 7293034 (some 3) 3 F_X5_guest 0 0), (262, cM 601024 7293034 (some 4) 3 F_X6_guest 0 0)]
theorem cokL_guest : CallZ cL_law 8 ret RL room_1 0 ctL_guest := CallZ_cons (site_D (R := room_1) (run_VZ (pL_c1_ok 246 _ rfl) ct_X5_guest kX5_guest (uw1 (by decide +kernel)) (by decide))) (CallZ_cons (site_M (R := room_1) (run_VZ (pL_c1_ok 262 _ rfl) ct_X6_guest kX6_guest (uw1 (by decide +kernel)) (by decide))) CallZ_nil)
set_option maxRecDepth 20000 in
theorem lc_guest : LCase pL_c1 ctL_guest 233 := by
  intro j L c0 s0 xs s m k hi us dr od py r q t ou hj hL hc hs hI
  obtain ⟨⟨N, hV, hTG, hLB⟩, hM, hK, ⟨ra, rb, rfl⟩, hT, hQ, hB, hIm⟩ := id hI
  conv => whnf
  refine ⟨vin (m := 1) hj hL (by decide), ?_⟩
  conv => whnf
  refine ⟨vin (m := 2) hj hL (by decide), ?_⟩
  conv => whnf
  refine ⟨⟨by omega, by omega⟩, ?_⟩
  refine e1 ⟨fun _ => rfl, fun _ => rfl⟩ (fun r1 r2 r3 r4 r5 K hK1 => ⟨r1, r2, r3, r4, r5, hi, s, N, _, _, rfl, rfl, hV, hK1 _ _  ⟨fun _ => rfl, fun _ => rfl⟩ ?_⟩)
  conv => whnf
  refine ⟨vin (m := 1) hj hL (by decide), ?_⟩
  conv => whnf
  refine ⟨vin (m := 2) hj hL (by decide), ?_⟩
  conv => whnf
  refine ⟨⟨by omega, by omega⟩, ?_⟩
  refine eM ⟨fun _ => rfl, fun _ => rfl⟩ (fun K hK3 => ⟨snS s ra rb, q, t, N, _, _, rfl, rfl, hT, hV, fun a b t' hT' => hK3 _ _ _ _ ⟨fun _ => rfl, fun _ => rfl⟩ ?_⟩)
  conv => whnf
  refine ⟨fun _ => ?_, fun z => absurd ((gu_sn _ _).symm) z⟩
  conv => whnf
  exact C98_i ⟨⟨N, hV, hTG, hLB⟩, hM, hK, ⟨_, _, rfl⟩, hT', hQ, hB, hIm⟩ (by omega) (by omega)
def ctL_larder : Tz := [(277, cD 601024 7293034 (some 3) 2 F_X5_larder 0 0), (287, cM 601024 7293034 (some 4) 2 F_X6_larder 0 0)]
theorem cokL_larder : CallZ cL_law 8 ret RL room_1 0 ctL_larder := CallZ_cons (site_D (R := room_1) (run_VZ (pL_c2_ok 277 _ rfl) ct_X5_larder kX5_larder (uw1 (by decide +kernel)) (by decide))) (CallZ_cons (site_M (R := room_1) (run_VZ (pL_c2_ok 287 _ rfl) ct_X6_larder kX6_larder (uw1 (by decide +kernel)) (by decide))) CallZ_nil)
set_option maxRecDepth 20000 in
theorem lc_larder : LCase pL_c2 ctL_larder 270 := by
  intro j L c0 s0 xs s m k hi us dr od py r q t ou hj hL hc hs hI
  obtain ⟨⟨N, hV, hTG, hLB⟩, hM, hK, ⟨ra, rb, rfl⟩, hT, hQ, hB, hIm⟩ := id hI
  conv => whnf
  refine ⟨vin (m := 1) hj hL (by decide), ?_⟩
  conv => whnf
  refine ⟨⟨by omega, by omega⟩, ?_⟩
  refine e1 ⟨fun _ => rfl, fun _ => rfl⟩ (fun r1 r2 r3 r4 r5 K hK1 => ⟨r1, r2, r3, r4, r5, hi, s, _, rfl, rfl, hK1 _ _  ⟨fun _ => rfl, fun _ => rfl⟩ ?_⟩)
  conv => whnf
  refine ⟨vin (m := 1) hj hL (by decide), ?_⟩
  conv => whnf
  refine ⟨⟨by omega, by omega⟩, ?_⟩
  refine eM ⟨fun _ => rfl, fun _ => rfl⟩ (fun K hK3 => ⟨snS s ra rb, q, t, _, rfl, rfl, hT, fun a b t' hT' => hK3 _ _ _ _ ⟨fun _ => rfl, fun _ => rfl⟩ ?_⟩)
  conv => whnf
  refine ⟨fun _ => ?_, fun z => absurd ((la_sn _).symm) z⟩
  conv => whnf
  exact C98_i ⟨⟨N, hV, hTG, hLB⟩, hM, hK, ⟨_, _, rfl⟩, hT', hQ, hB, hIm⟩ (by omega) (by omega)
def ctL_guestThen : Tz := [(487, cD 601024 7293034 (some 3) 4 F_X5_guestThen 0 0), (509, cM 601024 7293034 (some 4) 4 F_X6_guestThen 0 0)]
theorem cokL_guestThen : CallZ cL_law 8 ret RL room_1 0 ctL_guestThen := CallZ_cons (site_D (R := room_1) (run_VZ (pL_c8_ok 487 _ rfl) ct_X5_guestThen kX5_guestThen (uw1 (by decide +kernel)) (by decide))) (CallZ_cons (site_M (R := room_1) (run_VZ (pL_c8_ok 509 _ rfl) ct_X6_guestThen kX6_guestThen (uw1 (by decide +kernel)) (by decide))) CallZ_nil)
set_option maxRecDepth 20000 in
theorem lc_guestThen : LCase pL_c8 ctL_guestThen 468 := by
  intro j L c0 s0 xs s m k hi us dr od py r q t ou hj hL hc hs hI
  obtain ⟨⟨N, hV, hTG, hLB⟩, hM, hK, ⟨ra, rb, rfl⟩, hT, hQ, hB, hIm⟩ := id hI
  conv => whnf
  refine ⟨vin (m := 1) hj hL (by decide), ?_⟩
  conv => whnf
  refine ⟨vin (m := 2) hj hL (by decide), ?_⟩
  conv => whnf
  refine ⟨vin (m := 3) hj hL (by decide), ?_⟩
  conv => whnf
  refine ⟨⟨by omega, by omega⟩, ?_⟩
  refine e2 ⟨fun _ => rfl, fun _ => rfl⟩ (fun r2 r3 r4 r5 K hK1 => ⟨r2, r3, r4, r5, hi, s, m, N, _, _, _, rfl, rfl, hV, hM, fun mm hMM => hK1 _ _ _  ⟨fun _ => rfl, fun _ => rfl⟩ ?_⟩)
  conv => whnf
  refine ⟨vin (m := 1) hj hL (by decide), ?_⟩
  conv => whnf
  refine ⟨vin (m := 2) hj hL (by decide), ?_⟩
  conv => whnf
  refine ⟨vin (m := 3) hj hL (by decide), ?_⟩
  conv => whnf
  refine ⟨⟨by omega, by omega⟩, ?_⟩
  refine eM ⟨fun _ => rfl, fun _ => rfl⟩ (fun K hK3 => ⟨snS s ra rb, q, t, N, _, _, _, rfl, rfl, hT, hV, fun a b t' hT' => hK3 _ _ _ _ ⟨fun _ => rfl, fun _ => rfl⟩ ?_⟩)
  conv => whnf
  refine ⟨fun _ => ?_, fun z => absurd ((gt_sn _ _ _).symm) z⟩
  conv => whnf
  exact C98_i ⟨⟨N, hV, hTG, hLB⟩, hMM, hK, ⟨_, _, rfl⟩, hT', hQ, hB, hIm⟩ (by omega) (by omega)
def ctL_larderThen : Tz := [(530, cD 601024 7293034 (some 3) 3 F_X5_larderThen 0 0), (546, cM 601024 7293034 (some 4) 3 F_X6_larderThen 0 0)]
theorem cokL_larderThen : CallZ cL_law 8 ret RL room_1 0 ctL_larderThen := CallZ_cons (site_D (R := room_1) (run_VZ (pL_c9_ok 530 _ rfl) ct_X5_larderThen kX5_larderThen (uw1 (by decide +kernel)) (by decide))) (CallZ_cons (site_M (R := room_1) (run_VZ (pL_c9_ok 546 _ rfl) ct_X6_larderThen kX6_larderThen (uw1 (by decide +kernel)) (by decide))) CallZ_nil)
set_option maxRecDepth 20000 in
theorem lc_larderThen : LCase pL_c9 ctL_larderThen 517 := by
  intro j L c0 s0 xs s m k hi us dr od py r q t ou hj hL hc hs hI
  obtain ⟨⟨N, hV, hTG, hLB⟩, hM, hK, ⟨ra, rb, rfl⟩, hT, hQ, hB, hIm⟩ := id hI
  conv => whnf
  refine ⟨vin (m := 1) hj hL (by decide), ?_⟩
  conv => whnf
  refine ⟨vin (m := 2) hj hL (by decide), ?_⟩
  conv => whnf
  refine ⟨⟨by omega, by omega⟩, ?_⟩
  refine e2 ⟨fun _ => rfl, fun _ => rfl⟩ (fun r2 r3 r4 r5 K hK1 => ⟨r2, r3, r4, r5, hi, s, m, N, _, _, rfl, rfl, hV, hM, fun mm hMM => hK1 _ _ _  ⟨fun _ => rfl, fun _ => rfl⟩ ?_⟩)
  conv => whnf
  refine ⟨vin (m := 1) hj hL (by decide), ?_⟩
  conv => whnf
  refine ⟨vin (m := 2) hj hL (by decide), ?_⟩
  conv => whnf
  refine ⟨⟨by omega, by omega⟩, ?_⟩
  refine eM ⟨fun _ => rfl, fun _ => rfl⟩ (fun K hK3 => ⟨snS s ra rb, q, t, N, _, _, rfl, rfl, hT, hV, fun a b t' hT' => hK3 _ _ _ _ ⟨fun _ => rfl, fun _ => rfl⟩ ?_⟩)
  conv => whnf
  refine ⟨fun _ => ?_, fun z => absurd ((lt_sn _ _).symm) z⟩
  conv => whnf
  exact C98_i ⟨⟨N, hV, hTG, hLB⟩, hMM, hK, ⟨_, _, rfl⟩, hT', hQ, hB, hIm⟩ (by omega) (by omega)
def ctL_then : Tz := [(567, cD 601024 7293034 (some 3) 3 F_X5_then 0 0), (583, cM 601024 7293034 (some 4) 3 F_X6_then 0 0)]
theorem cokL_then : CallZ cL_law 8 ret RL room_1 0 ctL_then := CallZ_cons (site_D (R := room_1) (run_VZ (pL_c10_ok 567 _ rfl) ct_X5_then kX5_then (uw1 (by decide +kernel)) (by decide))) (CallZ_cons (site_M (R := room_1) (run_VZ (pL_c10_ok 583 _ rfl) ct_X6_then kX6_then (uw1 (by decide +kernel)) (by decide))) CallZ_nil)
set_option maxRecDepth 20000 in
theorem lc_then : LCase pL_c10 ctL_then 554 := by
  intro j L c0 s0 xs s m k hi us dr od py r q t ou hj hL hc hs hI
  obtain ⟨⟨N, hV, hTG, hLB⟩, hM, hK, ⟨ra, rb, rfl⟩, hT, hQ, hB, hIm⟩ := id hI
  conv => whnf
  refine ⟨vin (m := 1) hj hL (by decide), ?_⟩
  conv => whnf
  refine ⟨vin (m := 2) hj hL (by decide), ?_⟩
  conv => whnf
  refine ⟨⟨by omega, by omega⟩, ?_⟩
  refine e2 ⟨fun _ => rfl, fun _ => rfl⟩ (fun r2 r3 r4 r5 K hK1 => ⟨r2, r3, r4, r5, hi, s, m, N, _, _, rfl, rfl, hV, hM, fun mm hMM => hK1 _ _ _  ⟨fun _ => rfl, fun _ => rfl⟩ ?_⟩)
  conv => whnf
  refine ⟨vin (m := 1) hj hL (by decide), ?_⟩
  conv => whnf
  refine ⟨vin (m := 2) hj hL (by decide), ?_⟩
  conv => whnf
  refine ⟨⟨by omega, by omega⟩, ?_⟩
  refine eM ⟨fun _ => rfl, fun _ => rfl⟩ (fun K hK3 => ⟨snS s ra rb, q, t, N, _, _, rfl, rfl, hT, hV, fun a b t' hT' => hK3 _ _ _ _ ⟨fun _ => rfl, fun _ => rfl⟩ ?_⟩)
  conv => whnf
  refine ⟨fun _ => ?_, fun z => absurd ((th_sn _ _).symm) z⟩
  conv => whnf
  exact C98_i ⟨⟨N, hV, hTG, hLB⟩, hMM, hK, ⟨_, _, rfl⟩, hT', hQ, hB, hIm⟩ (by omega) (by omega)
def ctL_leaves : Tz := [(598, cD 601024 7293034 (some 3) 2 F_X5_leaves 0 0), (608, cM 601024 7293034 (some 4) 2 F_X6_leaves 0 0)]
theorem cokL_leaves : CallZ cL_law 8 ret RL room_1 0 ctL_leaves := CallZ_cons (site_D (R := room_1) (run_VZ (pL_c11_ok 598 _ rfl) ct_X5_leaves kX5_leaves (uw1 (by decide +kernel)) (by decide))) (CallZ_cons (site_M (R := room_1) (run_VZ (pL_c11_ok 608 _ rfl) ct_X6_leaves kX6_leaves (uw1 (by decide +kernel)) (by decide))) CallZ_nil)
set_option maxRecDepth 20000 in
theorem lc_leaves : LCase pL_c11 ctL_leaves 591 := by
  intro j L c0 s0 xs s m k hi us dr od py r q t ou hj hL hc hs hI
  obtain ⟨⟨N, hV, hTG, hLB⟩, hM, hK, ⟨ra, rb, rfl⟩, hT, hQ, hB, hIm⟩ := id hI
  conv => whnf
  refine ⟨vin (m := 1) hj hL (by decide), ?_⟩
  conv => whnf
  refine ⟨⟨by omega, by omega⟩, ?_⟩
  refine e2 ⟨fun _ => rfl, fun _ => rfl⟩ (fun r2 r3 r4 r5 K hK1 => ⟨r2, r3, r4, r5, hi, s, m, N, _, rfl, rfl, hV, hTG, hM, fun mm hMM => hK1 _ _ _  ⟨fun _ => rfl, fun _ => rfl⟩ ?_⟩)
  conv => whnf
  refine ⟨vin (m := 1) hj hL (by decide), ?_⟩
  conv => whnf
  refine ⟨⟨by omega, by omega⟩, ?_⟩
  refine eM ⟨fun _ => rfl, fun _ => rfl⟩ (fun K hK3 => ⟨snS s ra rb, q, t, N, _, rfl, rfl, hT, hV, fun a b t' hT' => hK3 _ _ _ _ ⟨fun _ => rfl, fun _ => rfl⟩ ?_⟩)
  conv => whnf
  refine ⟨fun _ => ?_, fun z => absurd ((lv_sn _).symm) z⟩
  conv => whnf
  exact C98_i ⟨⟨N, hV, hTG, hLB⟩, hMM, hK, ⟨_, _, rfl⟩, hT', hQ, hB, hIm⟩ (by omega) (by omega)
def ctL_out : Tz := [(623, cD 601024 7293034 (some 3) 2 F_X5_out 0 0), (633, cM 601024 7293034 (some 4) 2 F_X6_out 0 0)]
theorem cokL_out : CallZ cL_law 8 ret RL room_1 0 ctL_out := CallZ_cons (site_D (R := room_1) (run_VZ (pL_c12_ok 623 _ rfl) ct_X5_out kX5_out (uw1 (by decide +kernel)) (by decide))) (CallZ_cons (site_M (R := room_1) (run_VZ (pL_c12_ok 633 _ rfl) ct_X6_out kX6_out (uw1 (by decide +kernel)) (by decide))) CallZ_nil)
set_option maxRecDepth 20000 in
theorem lc_out : LCase pL_c12 ctL_out 616 := by
  intro j L c0 s0 xs s m k hi us dr od py r q t ou hj hL hc hs hI
  obtain ⟨⟨N, hV, hTG, hLB⟩, hM, hK, ⟨ra, rb, rfl⟩, hT, hQ, hB, hIm⟩ := id hI
  conv => whnf
  refine ⟨vin (m := 1) hj hL (by decide), ?_⟩
  conv => whnf
  refine ⟨⟨by omega, by omega⟩, ?_⟩
  refine e2 ⟨fun _ => rfl, fun _ => rfl⟩ (fun r2 r3 r4 r5 K hK1 => ⟨r2, r3, r4, r5, hi, s, m, N, _, rfl, rfl, hV, hM, fun mm hMM => hK1 _ _ _  ⟨fun _ => rfl, fun _ => rfl⟩ ?_⟩)
  conv => whnf
  refine ⟨vin (m := 1) hj hL (by decide), ?_⟩
  conv => whnf
  refine ⟨⟨by omega, by omega⟩, ?_⟩
  refine eM ⟨fun _ => rfl, fun _ => rfl⟩ (fun K hK3 => ⟨snS s ra rb, q, t, N, _, rfl, rfl, hT, hV, fun a b t' hT' => hK3 _ _ _ _ ⟨fun _ => rfl, fun _ => rfl⟩ ?_⟩)
  conv => whnf
  refine ⟨fun _ => ?_, fun z => absurd ((ou_sn _).symm) z⟩
  conv => whnf
  exact C98_i ⟨⟨N, hV, hTG, hLB⟩, hMM, hK, ⟨_, _, rfl⟩, hT', hQ, hB, hIm⟩ (by omega) (by omega)
def ctL_table : Tz := [(654, cD 601024 7293034 (some 3) 3 F_X5_table 0 0), (670, cM 601024 7293034 (some 4) 3 F_X6_table 0 0)]
theorem cokL_table : CallZ cL_law 8 ret RL room_1 0 ctL_table := CallZ_cons (site_D (R := room_1) (run_VZ (pL_c13_ok 654 _ rfl) ct_X5_table kX5_table (uw1 (by decide +kernel)) (by decide))) (CallZ_cons (site_M (R := room_1) (run_VZ (pL_c13_ok 670 _ rfl) ct_X6_table kX6_table (uw1 (by decide +kernel)) (by decide))) CallZ_nil)
set_option maxRecDepth 20000 in
theorem lc_table : LCase pL_c13 ctL_table 641 := by
  intro j L c0 s0 xs s m k hi us dr od py r q t ou hj hL hc hs hI
  obtain ⟨⟨N, hV, hTG, hLB⟩, hM, hK, ⟨ra, rb, rfl⟩, hT, hQ, hB, hIm⟩ := id hI
  conv => whnf
  refine ⟨vin (m := 1) hj hL (by decide), ?_⟩
  conv => whnf
  refine ⟨vin (m := 2) hj hL (by decide), ?_⟩
  conv => whnf
  refine ⟨⟨by omega, by omega⟩, ?_⟩
  refine e2 ⟨fun _ => rfl, fun _ => rfl⟩ (fun r2 r3 r4 r5 K hK1 => ⟨r2, r3, r4, r5, hi, s, m, N, _, _, rfl, rfl, hV, hM, fun mm hMM => hK1 _ _ _  ⟨fun _ => rfl, fun _ => rfl⟩ ?_⟩)
  conv => whnf
  refine ⟨vin (m := 1) hj hL (by decide), ?_⟩
  conv => whnf
  refine ⟨vin (m := 2) hj hL (by decide), ?_⟩
  conv => whnf
  refine ⟨⟨by omega, by omega⟩, ?_⟩
  refine eM ⟨fun _ => rfl, fun _ => rfl⟩ (fun K hK3 => ⟨snS s ra rb, q, t, N, _, _, rfl, rfl, hT, hV, fun a b t' hT' => hK3 _ _ _ _ ⟨fun _ => rfl, fun _ => rfl⟩ ?_⟩)
  conv => whnf
  refine ⟨fun _ => ?_, fun z => absurd ((ta_sn _ _).symm) z⟩
  conv => whnf
  exact C98_i ⟨⟨N, hV, hTG, hLB⟩, hMM, hK, ⟨_, _, rfl⟩, hT', hQ, hB, hIm⟩ (by omega) (by omega)
def ctL_bestWish : Tz := [(697, cD 601024 7293034 (some 3) 4 F_X5_bestWish 0 0), (719, cM 601024 7293034 (some 4) 4 F_X6_bestWish 0 0)]
theorem cokL_bestWish : CallZ cL_law 8 ret RL room_1 0 ctL_bestWish := CallZ_cons (site_D (R := room_1) (run_VZ (pL_c14_ok 697 _ rfl) ct_X5_bestWish kX5_bestWish (uw1 (by decide +kernel)) (by decide))) (CallZ_cons (site_M (R := room_1) (run_VZ (pL_c14_ok 719 _ rfl) ct_X6_bestWish kX6_bestWish (uw1 (by decide +kernel)) (by decide))) CallZ_nil)
set_option maxRecDepth 20000 in
theorem lc_bestWish : LCase pL_c14 ctL_bestWish 678 := by
  intro j L c0 s0 xs s m k hi us dr od py r q t ou hj hL hc hs hI
  obtain ⟨⟨N, hV, hTG, hLB⟩, hM, hK, ⟨ra, rb, rfl⟩, hT, hQ, hB, hIm⟩ := id hI
  conv => whnf
  refine ⟨vin (m := 1) hj hL (by decide), ?_⟩
  conv => whnf
  refine ⟨vin (m := 2) hj hL (by decide), ?_⟩
  conv => whnf
  refine ⟨vin (m := 3) hj hL (by decide), ?_⟩
  conv => whnf
  refine ⟨⟨by omega, by omega⟩, ?_⟩
  refine e2 ⟨fun _ => rfl, fun _ => rfl⟩ (fun r2 r3 r4 r5 K hK1 => ⟨r2, r3, r4, r5, hi, s, m, N, _, _, _, rfl, rfl, hV, hM, fun mm hMM => hK1 _ _ _  ⟨fun _ => rfl, fun _ => rfl⟩ ?_⟩)
  conv => whnf
  refine ⟨vin (m := 1) hj hL (by decide), ?_⟩
  conv => whnf
  refine ⟨vin (m := 2) hj hL (by decide), ?_⟩
  conv => whnf
  refine ⟨vin (m := 3) hj hL (by decide), ?_⟩
  conv => whnf
  refine ⟨⟨by omega, by omega⟩, ?_⟩
  refine eM ⟨fun _ => rfl, fun _ => rfl⟩ (fun K hK3 => ⟨snS s ra rb, q, t, N, _, _, _, rfl, rfl, hT, hV, fun a b t' hT' => hK3 _ _ _ _ ⟨fun _ => rfl, fun _ => rfl⟩ ?_⟩)
  conv => whnf
  refine ⟨fun _ => ?_, fun z => absurd ((bw_sn _ _ _).symm) z⟩
  conv => whnf
  exact C98_i ⟨⟨N, hV, hTG, hLB⟩, hMM, hK, ⟨_, _, rfl⟩, hT', hQ, hB, hIm⟩ (by omega) (by omega)
def ctL_buy : Tz := [(734, cD 601024 7293034 (some 3) 2 F_X5_buy 0 0), (744, cM 601024 7293034 (some 4) 2 F_X6_buy 0 0)]
theorem cokL_buy : CallZ cL_law 8 ret RL room_1 0 ctL_buy := CallZ_cons (site_D (R := room_1) (run_VZ (pL_c15_ok 734 _ rfl) ct_X5_buy kX5_buy (uw1 (by decide +kernel)) (by decide))) (CallZ_cons (site_M (R := room_1) (run_VZ (pL_c15_ok 744 _ rfl) ct_X6_buy kX6_buy (uw1 (by decide +kernel)) (by decide))) CallZ_nil)
set_option maxRecDepth 20000 in
theorem lc_buy : LCase pL_c15 ctL_buy 727 := by
  intro j L c0 s0 xs s m k hi us dr od py r q t ou hj hL hc hs hI
  obtain ⟨⟨N, hV, hTG, hLB⟩, hM, hK, ⟨ra, rb, rfl⟩, hT, hQ, hB, hIm⟩ := id hI
  conv => whnf
  refine ⟨vin (m := 1) hj hL (by decide), ?_⟩
  conv => whnf
  refine ⟨⟨by omega, by omega⟩, ?_⟩
  refine e2 ⟨fun _ => rfl, fun _ => rfl⟩ (fun r2 r3 r4 r5 K hK1 => ⟨r2, r3, r4, r5, hi, s, m, N, _, rfl, rfl, hV, hM, fun mm hMM => hK1 _ _ _  ⟨fun _ => rfl, fun _ => rfl⟩ ?_⟩)
  conv => whnf
  refine ⟨vin (m := 1) hj hL (by decide), ?_⟩
  conv => whnf
  refine ⟨⟨by omega, by omega⟩, ?_⟩
  refine eM ⟨fun _ => rfl, fun _ => rfl⟩ (fun K hK3 => ⟨snS s ra rb, q, t, N, _, rfl, rfl, hT, hV, fun a b t' hT' => hK3 _ _ _ _ ⟨fun _ => rfl, fun _ => rfl⟩ ?_⟩)
  conv => whnf
  refine ⟨fun _ => ?_, fun z => absurd ((bu_sn _).symm) z⟩
  conv => whnf
  exact C98_i ⟨⟨N, hV, hTG, hLB⟩, hMM, hK, ⟨_, _, rfl⟩, hT', hQ, hB, hIm⟩ (by omega) (by omega)
def ctL_least : Tz := [(765, cD 601024 7293034 (some 3) 3 F_X5_least 0 0), (781, cM 601024 7293034 (some 4) 3 F_X6_least 0 0)]
theorem cokL_least : CallZ cL_law 8 ret RL room_1 0 ctL_least := CallZ_cons (site_D (R := room_1) (run_VZ (pL_c16_ok 765 _ rfl) ct_X5_least kX5_least (uw1 (by decide +kernel)) (by decide))) (CallZ_cons (site_M (R := room_1) (run_VZ (pL_c16_ok 781 _ rfl) ct_X6_least kX6_least (uw1 (by decide +kernel)) (by decide))) CallZ_nil)
set_option maxRecDepth 20000 in
theorem lc_least : LCase pL_c16 ctL_least 752 := by
  intro j L c0 s0 xs s m k hi us dr od py r q t ou hj hL hc hs hI
  obtain ⟨⟨N, hV, hTG, hLB⟩, hM, hK, ⟨ra, rb, rfl⟩, hT, hQ, hB, hIm⟩ := id hI
  conv => whnf
  refine ⟨vin (m := 1) hj hL (by decide), ?_⟩
  conv => whnf
  refine ⟨vin (m := 2) hj hL (by decide), ?_⟩
  conv => whnf
  refine ⟨⟨by omega, by omega⟩, ?_⟩
  refine e2 ⟨fun _ => rfl, fun _ => rfl⟩ (fun r2 r3 r4 r5 K hK1 => ⟨r2, r3, r4, r5, hi, s, m, N, _, _, rfl, rfl, hV, hM, fun mm hMM => hK1 _ _ _  ⟨fun _ => rfl, fun _ => rfl⟩ ?_⟩)
  conv => whnf
  refine ⟨vin (m := 1) hj hL (by decide), ?_⟩
  conv => whnf
  refine ⟨vin (m := 2) hj hL (by decide), ?_⟩
  conv => whnf
  refine ⟨⟨by omega, by omega⟩, ?_⟩
  refine eM ⟨fun _ => rfl, fun _ => rfl⟩ (fun K hK3 => ⟨snS s ra rb, q, t, N, _, _, rfl, rfl, hT, hV, hLB, fun a b t' hT' => hK3 _ _ _ _ ⟨fun _ => rfl, fun _ => rfl⟩ ?_⟩)
  conv => whnf
  refine ⟨fun _ => ?_, fun z => absurd ((le_sn _ _).symm) z⟩
  conv => whnf
  exact C98_i ⟨⟨N, hV, hTG, hLB⟩, hMM, hK, ⟨_, _, rfl⟩, hT', hQ, hB, hIm⟩ (by omega) (by omega)
def ctL_send : Tz := [(796, cD 601024 7293034 (some 3) 2 F_X5_send 0 0), (806, cM 601024 7293034 (some 4) 2 F_X6_send 0 0)]
theorem cokL_send : CallZ cL_law 8 ret RL room_1 0 ctL_send := CallZ_cons (site_D (R := room_1) (run_VZ (pL_c17_ok 796 _ rfl) ct_X5_send kX5_send (uw1 (by decide +kernel)) (by decide))) (CallZ_cons (site_M (R := room_1) (run_VZ (pL_c17_ok 806 _ rfl) ct_X6_send kX6_send (uw1 (by decide +kernel)) (by decide))) CallZ_nil)
set_option maxRecDepth 20000 in
theorem lc_send : LCase pL_c17 ctL_send 789 := by
  intro j L c0 s0 xs s m k hi us dr od py r q t ou hj hL hc hs hI
  obtain ⟨⟨N, hV, hTG, hLB⟩, hM, hK, ⟨ra, rb, rfl⟩, hT, hQ, hB, hIm⟩ := id hI
  conv => whnf
  refine ⟨vin (m := 1) hj hL (by decide), ?_⟩
  conv => whnf
  refine ⟨⟨by omega, by omega⟩, ?_⟩
  refine e2 ⟨fun _ => rfl, fun _ => rfl⟩ (fun r2 r3 r4 r5 K hK1 => ⟨r2, r3, r4, r5, hi, s, m, N, _, rfl, rfl, hV, hM, fun mm hMM => hK1 _ _ _  ⟨fun _ => rfl, fun _ => rfl⟩ ?_⟩)
  conv => whnf
  refine ⟨vin (m := 1) hj hL (by decide), ?_⟩
  conv => whnf
  refine ⟨⟨by omega, by omega⟩, ?_⟩
  refine eM ⟨fun _ => rfl, fun _ => rfl⟩ (fun K hK3 => ⟨snS s ra rb, q, t, N, _, rfl, rfl, hT, hV, fun a b t' hT' => hK3 _ _ _ _ ⟨fun _ => rfl, fun _ => rfl⟩ ?_⟩)
  conv => whnf
  refine ⟨fun _ => ?_, fun z => absurd ((se_sn _).symm) z⟩
  conv => whnf
  exact C98_i ⟨⟨N, hV, hTG, hLB⟩, hMM, hK, ⟨_, _, rfl⟩, hT', hQ, hB, hIm⟩ (by omega) (by omega)
def ctL_seats : Tz := [(821, cD 601024 7293034 (some 3) 2 F_X5_seats 0 0), (831, cM 601024 7293034 (some 4) 2 F_X6_seats 0 0)]
theorem cokL_seats : CallZ cL_law 8 ret RL room_1 0 ctL_seats := CallZ_cons (site_D (R := room_1) (run_VZ (pL_c18_ok 821 _ rfl) ct_X5_seats kX5_seats (uw1 (by decide +kernel)) (by decide))) (CallZ_cons (site_M (R := room_1) (run_VZ (pL_c18_ok 831 _ rfl) ct_X6_seats kX6_seats (uw1 (by decide +kernel)) (by decide))) CallZ_nil)
set_option maxRecDepth 20000 in
theorem lc_seats : LCase pL_c18 ctL_seats 814 := by
  intro j L c0 s0 xs s m k hi us dr od py r q t ou hj hL hc hs hI
  obtain ⟨⟨N, hV, hTG, hLB⟩, hM, hK, ⟨ra, rb, rfl⟩, hT, hQ, hB, hIm⟩ := id hI
  conv => whnf
  refine ⟨vin (m := 1) hj hL (by decide), ?_⟩
  conv => whnf
  refine ⟨⟨by omega, by omega⟩, ?_⟩
  refine e5 ⟨fun _ => rfl, fun _ => rfl⟩ (fun r1 r2 r3 r5 K hK1 => ⟨r1, r2, r3, r5, hi, s, N, dr, od, _, rfl, rfl, hV, hTG, fun dd oo => hK1 _ _ _ _  ⟨fun _ => rfl, fun _ => rfl⟩ ?_⟩)
  conv => whnf
  refine ⟨vin (m := 1) hj hL (by decide), ?_⟩
  conv => whnf
  refine ⟨⟨by omega, by omega⟩, ?_⟩
  refine eM ⟨fun _ => rfl, fun _ => rfl⟩ (fun K hK3 => ⟨snS s ra rb, q, t, N, _, rfl, rfl, hT, hV, hTG, fun a b t' hT' => hK3 _ _ _ _ ⟨fun _ => rfl, fun _ => rfl⟩ ?_⟩)
  conv => whnf
  refine ⟨fun _ => ?_, fun z => absurd ((st_sn _).symm) z⟩
  conv => whnf
  exact C98_i ⟨⟨N, hV, hTG, hLB⟩, hM, hK, ⟨_, _, rfl⟩, hT', hQ, hB, hIm⟩ (by omega) (by omega)
def ctL_same : Tz := [(846, cD 601024 7293034 (some 3) 2 F_X5_same 0 0), (856, cM 601024 7293034 (some 4) 2 F_X6_same 0 0)]
theorem cokL_same : CallZ cL_law 8 ret RL room_1 0 ctL_same := CallZ_cons (site_D (R := room_1) (run_VZ (pL_c19_ok 846 _ rfl) ct_X5_same kX5_same (uw1 (by decide +kernel)) (by decide))) (CallZ_cons (site_M (R := room_1) (run_VZ (pL_c19_ok 856 _ rfl) ct_X6_same kX6_same (uw1 (by decide +kernel)) (by decide))) CallZ_nil)
set_option maxRecDepth 20000 in
theorem lc_same : LCase pL_c19 ctL_same 839 := by
  intro j L c0 s0 xs s m k hi us dr od py r q t ou hj hL hc hs hI
  obtain ⟨⟨N, hV, hTG, hLB⟩, hM, hK, ⟨ra, rb, rfl⟩, hT, hQ, hB, hIm⟩ := id hI
  conv => whnf
  refine ⟨vin (m := 1) hj hL (by decide), ?_⟩
  conv => whnf
  refine ⟨⟨by omega, by omega⟩, ?_⟩
  refine e1 ⟨fun _ => rfl, fun _ => rfl⟩ (fun r1 r2 r3 r4 r5 K hK1 => ⟨r1, r2, r3, r4, r5, hi, s, N, _, rfl, rfl, hV, hK1 _ _  ⟨fun _ => rfl, fun _ => rfl⟩ ?_⟩)
  conv => whnf
  refine ⟨vin (m := 1) hj hL (by decide), ?_⟩
  conv => whnf
  refine ⟨⟨by omega, by omega⟩, ?_⟩
  refine eM ⟨fun _ => rfl, fun _ => rfl⟩ (fun K hK3 => ⟨snS s ra rb, q, t, N, _, rfl, rfl, hT, hV, fun a b t' hT' => hK3 _ _ _ _ ⟨fun _ => rfl, fun _ => rfl⟩ ?_⟩)
  conv => whnf
  refine ⟨fun _ => ?_, fun z => absurd ((sa_sn _).symm) z⟩
  conv => whnf
  exact C98_i ⟨⟨N, hV, hTG, hLB⟩, hM, hK, ⟨_, _, rfl⟩, hT', hQ, hB, hIm⟩ (by omega) (by omega)
def ctL_two : Tz := [(969, cD 601024 7293034 (some 3) 4 F_X5_two 0 0), (991, cM 601024 7293034 (some 4) 4 F_X6_two 0 0)]
theorem cokL_two : CallZ cL_law 8 ret RL room_1 0 ctL_two := CallZ_cons (site_D (R := room_1) (run_VZ (pL_c22_ok 969 _ rfl) ct_X5_two kX5_two (uw1 (by decide +kernel)) (by decide))) (CallZ_cons (site_M (R := room_1) (run_VZ (pL_c22_ok 991 _ rfl) ct_X6_two kX6_two (uw1 (by decide +kernel)) (by decide))) CallZ_nil)
set_option maxRecDepth 20000 in
theorem lc_two : LCase pL_c22 ctL_two 950 := by
  intro j L c0 s0 xs s m k hi us dr od py r q t ou hj hL hc hs hI
  obtain ⟨⟨N, hV, hTG, hLB⟩, hM, hK, ⟨ra, rb, rfl⟩, hT, hQ, hB, hIm⟩ := id hI
  conv => whnf
  refine ⟨vin (m := 1) hj hL (by decide), ?_⟩
  conv => whnf
  refine ⟨vin (m := 2) hj hL (by decide), ?_⟩
  conv => whnf
  refine ⟨vin (m := 3) hj hL (by decide), ?_⟩
  conv => whnf
  refine ⟨⟨by omega, by omega⟩, ?_⟩
  refine eP ⟨fun _ => rfl, fun _ => rfl⟩ (fun r2 r3 r4 K hK1 => ⟨r2, r3, r4, hi, s, m, py, N, _, _, _, rfl, rfl, hV, hM, fun mm pp hMM => hK1 _ _ _ _  ⟨fun _ => rfl, fun _ => rfl⟩ ?_⟩)
  conv => whnf
  refine ⟨vin (m := 1) hj hL (by decide), ?_⟩
  conv => whnf
  refine ⟨vin (m := 2) hj hL (by decide), ?_⟩
  conv => whnf
  refine ⟨vin (m := 3) hj hL (by decide), ?_⟩
  conv => whnf
  refine ⟨⟨by omega, by omega⟩, ?_⟩
  refine eM ⟨fun _ => rfl, fun _ => rfl⟩ (fun K hK3 => ⟨snS s ra rb, q, t, N, _, _, _, rfl, rfl, hT, hV, fun a b t' hT' => hK3 _ _ _ _ ⟨fun _ => rfl, fun _ => rfl⟩ ?_⟩)
  conv => whnf
  refine ⟨fun _ => ?_, fun z => absurd ((tu_sn _ _ _).symm) z⟩
  conv => whnf
  exact C98_i ⟨⟨N, hV, hTG, hLB⟩, hMM, hK, ⟨_, _, rfl⟩, hT', hQ, hB, hIm⟩ (by omega) (by omega)
def ctL_mares : Tz := [(1030, cD 601024 7293034 (some 3) 6 F_X5_mares 0 0), (1064, cM 601024 7293034 (some 4) 6 F_X6_mares 0 0)]
theorem cokL_mares : CallZ cL_law 8 ret RL room_1 0 ctL_mares := CallZ_cons (site_D (R := room_1) (run_VZ (pL_c23_ok 1030 _ rfl) ct_X5_mares kX5_mares (uw1 (by decide +kernel)) (by decide))) (CallZ_cons (site_M (R := room_1) (run_VZ (pL_c23_ok 1064 _ rfl) ct_X6_mares kX6_mares (uw1 (by decide +kernel)) (by decide))) CallZ_nil)
set_option maxRecDepth 20000 in
theorem lc_mares : LCase pL_c23 ctL_mares 999 := by
  intro j L c0 s0 xs s m k hi us dr od py r q t ou hj hL hc hs hI
  obtain ⟨⟨N, hV, hTG, hLB⟩, hM, hK, ⟨ra, rb, rfl⟩, hT, hQ, hB, hIm⟩ := id hI
  conv => whnf
  refine ⟨vin (m := 1) hj hL (by decide), ?_⟩
  conv => whnf
  refine ⟨vin (m := 2) hj hL (by decide), ?_⟩
  conv => whnf
  refine ⟨vin (m := 3) hj hL (by decide), ?_⟩
  conv => whnf
  refine ⟨vin (m := 4) hj hL (by decide), ?_⟩
  conv => whnf
  refine ⟨vin (m := 5) hj hL (by decide), ?_⟩
  conv => whnf
  refine ⟨⟨by omega, by omega⟩, ?_⟩
  refine e2 ⟨fun _ => rfl, fun _ => rfl⟩ (fun r2 r3 r4 r5 K hK1 => ⟨r2, r3, r4, r5, hi, s, m, N, _, _, _, _, _, rfl, rfl, hV, hM, fun mm hMM => hK1 _ _ _  ⟨fun _ => rfl, fun _ => rfl⟩ ?_⟩)
  conv => whnf
  refine ⟨vin (m := 1) hj hL (by decide), ?_⟩
  conv => whnf
  refine ⟨vin (m := 2) hj hL (by decide), ?_⟩
  conv => whnf
  refine ⟨vin (m := 3) hj hL (by decide), ?_⟩
  conv => whnf
  refine ⟨vin (m := 4) hj hL (by decide), ?_⟩
  conv => whnf
  refine ⟨vin (m := 5) hj hL (by decide), ?_⟩
  conv => whnf
  refine ⟨⟨by omega, by omega⟩, ?_⟩
  refine eM ⟨fun _ => rfl, fun _ => rfl⟩ (fun K hK3 => ⟨snS s ra rb, q, t, N, _, _, _, _, _, rfl, rfl, hT, hV, fun a b t' hT' => hK3 _ _ _ _ ⟨fun _ => rfl, fun _ => rfl⟩ ?_⟩)
  conv => whnf
  refine ⟨fun _ => ?_, fun z => absurd ((lg_eq _ _).mpr ((ma_sn _ _ _ _ _).symm)) z⟩
  conv => whnf
  exact C98_i ⟨⟨N, hV, hTG, hLB⟩, hMM, hK, ⟨_, _, rfl⟩, hT', hQ, hB, hIm⟩ (by omega) (by omega)
def ctL_mean : Tz := [(1080, cD 601024 7293034 (some 3) 2 F_X5_mean 0 0), (1090, cM 601024 7293034 (some 4) 2 F_X6_mean 0 0)]
theorem cokL_mean : CallZ cL_law 8 ret RL room_1 0 ctL_mean := CallZ_cons (site_D (R := room_1) (run_VZ (pL_c24_ok 1080 _ rfl) ct_X5_mean kX5_mean (uw1 (by decide +kernel)) (by decide))) (CallZ_cons (site_M (R := room_1) (run_VZ (pL_c24_ok 1090 _ rfl) ct_X6_mean kX6_mean (uw1 (by decide +kernel)) (by decide))) CallZ_nil)
set_option maxRecDepth 20000 in
theorem lc_mean : LCase pL_c24 ctL_mean 1073 := by
  intro j L c0 s0 xs s m k hi us dr od py r q t ou hj hL hc hs hI
  obtain ⟨⟨N, hV, hTG, hLB⟩, hM, hK, ⟨ra, rb, rfl⟩, hT, hQ, hB, hIm⟩ := id hI
  conv => whnf
  refine ⟨vin (m := 1) hj hL (by decide), ?_⟩
  conv => whnf
  refine ⟨⟨by omega, by omega⟩, ?_⟩
  refine e1 ⟨fun _ => rfl, fun _ => rfl⟩ (fun r1 r2 r3 r4 r5 K hK1 => ⟨r1, r2, r3, r4, r5, hi, s, N, _, rfl, rfl, hV, hK1 _ _  ⟨fun _ => rfl, fun _ => rfl⟩ ?_⟩)
  conv => whnf
  refine ⟨vin (m := 1) hj hL (by decide), ?_⟩
  conv => whnf
  refine ⟨⟨by omega, by omega⟩, ?_⟩
  refine eM ⟨fun _ => rfl, fun _ => rfl⟩ (fun K hK3 => ⟨snS s ra rb, q, t, N, _, rfl, rfl, hT, hV, fun a b t' hT' => hK3 _ _ _ _ ⟨fun _ => rfl, fun _ => rfl⟩ ?_⟩)
  conv => whnf
  refine ⟨fun _ => ?_, fun z => absurd ((lg_eq _ _).mpr ((me_sn _).symm)) z⟩
  conv => whnf
  exact C98_i ⟨⟨N, hV, hTG, hLB⟩, hM, hK, ⟨_, _, rfl⟩, hT', hQ, hB, hIm⟩ (by omega) (by omega)
def ctL_years : Tz := [(1168, cD 601024 7293034 (some 3) 4 F_X5_years 0 0), (1190, cM 601024 7293034 (some 4) 4 F_X6_years 0 0)]
theorem cokL_years : CallZ cL_law 8 ret RL room_1 0 ctL_years := CallZ_cons (site_D (R := room_1) (run_VZ (pL_c27_ok 1168 _ rfl) ct_X5_years kX5_years (uw1 (by decide +kernel)) (by decide))) (CallZ_cons (site_M (R := room_1) (run_VZ (pL_c27_ok 1190 _ rfl) ct_X6_years kX6_years (uw1 (by decide +kernel)) (by decide))) CallZ_nil)
set_option maxRecDepth 20000 in
theorem lc_years : LCase pL_c27 ctL_years 1149 := by
  intro j L c0 s0 xs s m k hi us dr od py r q t ou hj hL hc hs hI
  obtain ⟨⟨N, hV, hTG, hLB⟩, hM, hK, ⟨ra, rb, rfl⟩, hT, hQ, hB, hIm⟩ := id hI
  conv => whnf
  refine ⟨vin (m := 1) hj hL (by decide), ?_⟩
  conv => whnf
  refine ⟨vin (m := 2) hj hL (by decide), ?_⟩
  conv => whnf
  refine ⟨vin (m := 3) hj hL (by decide), ?_⟩
  conv => whnf
  refine ⟨⟨by omega, by omega⟩, ?_⟩
  refine e2 ⟨fun _ => rfl, fun _ => rfl⟩ (fun r2 r3 r4 r5 K hK1 => ⟨r2, r3, r4, r5, hi, s, m, N, _, _, _, rfl, rfl, hV, hM, fun mm hMM => hK1 _ _ _  ⟨fun _ => rfl, fun _ => rfl⟩ ?_⟩)
  conv => whnf
  refine ⟨vin (m := 1) hj hL (by decide), ?_⟩
  conv => whnf
  refine ⟨vin (m := 2) hj hL (by decide), ?_⟩
  conv => whnf
  refine ⟨vin (m := 3) hj hL (by decide), ?_⟩
  conv => whnf
  refine ⟨⟨by omega, by omega⟩, ?_⟩
  refine eM ⟨fun _ => rfl, fun _ => rfl⟩ (fun K hK3 => ⟨snS s ra rb, q, t, N, _, _, _, rfl, rfl, hT, hV, fun a b t' hT' => hK3 _ _ _ _ ⟨fun _ => rfl, fun _ => rfl⟩ ?_⟩)
  conv => whnf
  refine ⟨fun _ => ?_, fun z => absurd ((yr_sn _ _ _).symm) z⟩
  conv => whnf
  exact C98_i ⟨⟨N, hV, hTG, hLB⟩, hMM, hK, ⟨_, _, rfl⟩, hT', hQ, hB, hIm⟩ (by omega) (by omega)
def ctL_count : Tz := [(1231, cD 601024 7293034 (some 3) 2 F_X5_count 0 0), (1241, cM 601024 7293034 (some 4) 2 F_X6_count 0 0)]
theorem cokL_count : CallZ cL_law 8 ret RL room_1 0 ctL_count := CallZ_cons (site_D (R := room_1) (run_VZ (pL_c30_ok 1231 _ rfl) ct_X5_count kX5_count (uw1 (by decide +kernel)) (by decide))) (CallZ_cons (site_M (R := room_1) (run_VZ (pL_c30_ok 1241 _ rfl) ct_X6_count kX6_count (uw1 (by decide +kernel)) (by decide))) CallZ_nil)
set_option maxRecDepth 20000 in
theorem lc_count : LCase pL_c30 ctL_count 1224 := by
  intro j L c0 s0 xs s m k hi us dr od py r q t ou hj hL hc hs hI
  obtain ⟨⟨N, hV, hTG, hLB⟩, hM, hK, ⟨ra, rb, rfl⟩, hT, hQ, hB, hIm⟩ := id hI
  conv => whnf
  refine ⟨vin (m := 1) hj hL (by decide), ?_⟩
  conv => whnf
  refine ⟨⟨by omega, by omega⟩, ?_⟩
  refine e1 ⟨fun _ => rfl, fun _ => rfl⟩ (fun r1 r2 r3 r4 r5 K hK1 => ⟨r1, r2, r3, r4, r5, hi, s, _, rfl, rfl, hK1 _ _  ⟨fun _ => rfl, fun _ => rfl⟩ ?_⟩)
  conv => whnf
  refine ⟨vin (m := 1) hj hL (by decide), ?_⟩
  conv => whnf
  refine ⟨⟨by omega, by omega⟩, ?_⟩
  refine eM ⟨fun _ => rfl, fun _ => rfl⟩ (fun K hK3 => ⟨snS s ra rb, q, t, _, rfl, rfl, hT, fun a b t' hT' => hK3 _ _ _ _ ⟨fun _ => rfl, fun _ => rfl⟩ ?_⟩)
  conv => whnf
  refine ⟨fun _ => ?_, fun z => absurd ((co_sn _).symm) z⟩
  conv => whnf
  exact C98_i ⟨⟨N, hV, hTG, hLB⟩, hM, hK, ⟨_, _, rfl⟩, hT', hQ, hB, hIm⟩ (by omega) (by omega)
