/-! ===== cases with branches ===== -/
theorem rg_of {x : Int32} (n : Nat) (hn : n < 2 ^ 31) (h0 : 0 ≤ x) (h1 : x ≤ nI n) : rng (n + 1) x := by
  obtain ⟨j, h2, h3⟩ := in_rng hn ⟨h0, h1⟩
  exact ⟨j, by omega, h3⟩
theorem ke_w {d what k fi : Int32} (h : keC d what k fi) : what = 0 ∨ (what = 1 ∧ rng 8 k ∧ rng 10 fi) := by
  obtain ⟨-, ⟨h0, h1⟩, h2⟩ := h
  by_cases e : what = 0
  · exact Or.inl e
  · obtain ⟨⟨a, b⟩, c, d⟩ := h2 e
    refine Or.inr ⟨?_, rg_of 7 (by decide) a b, rg_of 9 (by decide) c d⟩
    obtain ⟨j, hj, ej⟩ := rg_of 1 (by decide) h0 h1
    match j, hj with
    | 0, _ => exact absurd ej e
    | 1, _ => exact ej
def ctL_comes : Tz := [(308, cD 601024 7293034 (some 3) 3 F_X5_comes 0 0), (324, cM 601024 7293034 (some 4) 3 F_X6_comes 0 0)]
theorem cokL_comes : CallZ cL_law 8 ret RL room_1 0 ctL_comes := CallZ_cons (site_D (R := room_1) (run_VZ (pL_c3_ok 308 _ rfl) ct_X5_comes kX5_comes (uw1 (by decide +kernel)) (by decide))) (CallZ_cons (site_M (R := room_1) (run_VZ (pL_c3_ok 324 _ rfl) ct_X6_comes kX6_comes (uw1 (by decide +kernel)) (by decide))) CallZ_nil)
set_option maxRecDepth 20000 in
theorem lc_comes : LCase pL_c3 ctL_comes 295 := by
  intro j L c0 s0 xs s m k hi us dr od py r q t ou hj hL hc hs hI
  obtain ⟨⟨N, hV, hTG, hLB⟩, hM, hK, ⟨ra, rb, rfl⟩, hT, hQ, hB, hIm⟩ := id hI
  conv => whnf
  refine ⟨vin (m := 1) hj hL (by decide), ?_⟩
  conv => whnf
  refine ⟨vin (m := 2) hj hL (by decide), ?_⟩
  conv => whnf
  refine ⟨⟨by omega, by omega⟩, ?_⟩
  refine eSd ⟨fun _ => rfl, fun _ => rfl⟩ (fun n8 hn8 hn r2 r4 r5 f K hf hK1 hK2 => ⟨r2, r4, r5, hi, s, m, f, us n8, _, _, rfl, rfl, hf, hV.2.1.2.1, fun hC => hK1 _ _ _  ⟨fun _ => rfl, fun _ => rfl⟩ ?_, fun hC => hK1 _ _ _  ⟨fun _ => rfl, fun _ => rfl⟩ ?_⟩)
  · conv => whnf
    refine ⟨vin (m := 1) hj hL (by decide), ?_⟩
    conv => whnf
    refine ⟨vin (m := 2) hj hL (by decide), ?_⟩
    conv => whnf
    refine ⟨⟨by omega, by omega⟩, ?_⟩
    refine eM ⟨fun _ => rfl, fun _ => rfl⟩ (fun K hK3 => ⟨snS s ra rb, q, t, us n8, _, _, rfl, rfl, hT, hV.2.1.2.1, (fun z => by rw [← hn z]; exact hQ n8 hn8), fun _ t' hT' => hK3 _ _ _ _ ⟨fun _ => rfl, fun _ => rfl⟩ ?_, fun z => absurd z hC⟩)
    conv => whnf
    refine ⟨fun _ => ?_, fun z => absurd (rfl) z⟩
    conv => whnf
    exact C98_i ⟨⟨N, hV, hTG, hLB⟩, hM, hK, ⟨ra, rb, rfl⟩, hT', hQ, hB, hIm⟩ (by omega) (by omega)
  · conv => whnf
    refine ⟨vin (m := 1) hj hL (by decide), ?_⟩
    conv => whnf
    refine ⟨vin (m := 2) hj hL (by decide), ?_⟩
    conv => whnf
    refine ⟨⟨by omega, by omega⟩, ?_⟩
    refine eM ⟨fun _ => rfl, fun _ => rfl⟩ (fun K hK3 => ⟨snS s ra rb, q, t, us n8, _, _, rfl, rfl, hT, hV.2.1.2.1, (fun z => by rw [← hn z]; exact hQ n8 hn8), fun z => absurd hC z, fun _ t' hT' => hK3 _ _ _ _ ⟨fun _ => rfl, fun _ => rfl⟩ ?_⟩)
    conv => whnf
    refine ⟨fun _ => ?_, fun z => absurd (rfl) z⟩
    conv => whnf
    exact C98_i ⟨IQ_ad ⟨N, hV, hTG, hLB⟩ hC.2.2 ((hQ n8 hn8).2.2.1 (re_O hC.2.1).2).2 (rg_of 9 (by decide) hC.1.1 hC.1.2), hM, hK, ⟨ra, rb, rfl⟩, hT', hQ, hB, hIm⟩ (by omega) (by omega)
def ctL_keep : Tz := [(1274, cD 601024 7293034 (some 3) 5 F_X5_keep 0 0), (1302, cM 601024 7293034 (some 4) 5 F_X6_keep 0 0)]
theorem cokL_keep : CallZ cL_law 8 ret RL room_1 0 ctL_keep := CallZ_cons (site_D (R := room_1) (run_VZ (pL_c31_ok 1274 _ rfl) ct_X5_keep kX5_keep (uw1 (by decide +kernel)) (by decide))) (CallZ_cons (site_M (R := room_1) (run_VZ (pL_c31_ok 1302 _ rfl) ct_X6_keep kX6_keep (uw1 (by decide +kernel)) (by decide))) CallZ_nil)
set_option maxRecDepth 20000 in
theorem lc_keep : LCase pL_c31 ctL_keep 1249 := by
  intro j L c0 s0 xs s m k hi us dr od py r q t ou hj hL hc hs hI
  obtain ⟨⟨N, hV, hTG, hLB⟩, hM, hK, ⟨ra, rb, rfl⟩, hT, hQ, hB, hIm⟩ := id hI
  conv => whnf
  refine ⟨vin (m := 1) hj hL (by decide), ?_⟩
  conv => whnf
  refine ⟨vin (m := 2) hj hL (by decide), ?_⟩
  conv => whnf
  refine ⟨vin (m := 3) hj hL (by decide), ?_⟩
  conv => whnf
  refine ⟨vin (m := 4) hj hL (by decide), ?_⟩
  conv => whnf
  refine ⟨⟨by omega, by omega⟩, ?_⟩
  refine eSd ⟨fun _ => rfl, fun _ => rfl⟩ (fun n8 hn8 hn r2 r4 r5 f K hf hK1 hK2 => ⟨r2, r4, r5, hi, s, m, f, us n8, _, _, _, _, rfl, rfl, hf, fun hC => hK1 _ _ _  ⟨fun _ => rfl, fun _ => rfl⟩ ?_, fun hC => hK2 _ _ _ _ ⟨fun _ => rfl, fun _ => rfl⟩ ?_⟩)
  · conv => whnf
    refine ⟨vin (m := 1) hj hL (by decide), ?_⟩
    conv => whnf
    refine ⟨vin (m := 2) hj hL (by decide), ?_⟩
    conv => whnf
    refine ⟨vin (m := 3) hj hL (by decide), ?_⟩
    conv => whnf
    refine ⟨vin (m := 4) hj hL (by decide), ?_⟩
    conv => whnf
    refine ⟨⟨by omega, by omega⟩, ?_⟩
    refine eM ⟨fun _ => rfl, fun _ => rfl⟩ (fun K hK3 => ⟨snS s ra rb, q, t, _, _, _, _, rfl, rfl, hT, fun _ t' hT' => hK3 _ _ _ _ ⟨fun _ => rfl, fun _ => rfl⟩ ?_, fun z => absurd z hC⟩)
    conv => whnf
    refine ⟨fun _ => ?_, fun z => absurd (rfl) z⟩
    conv => whnf
    exact C98_i ⟨⟨N, hV, hTG, hLB⟩, hM, hK, ⟨ra, rb, rfl⟩, hT', hQ, hB, hIm⟩ (by omega) (by omega)
  · conv => whnf
    refine ⟨vin (m := 1) hj hL (by decide), ?_⟩
    conv => whnf
    refine ⟨vin (m := 2) hj hL (by decide), ?_⟩
    conv => whnf
    refine ⟨vin (m := 3) hj hL (by decide), ?_⟩
    conv => whnf
    refine ⟨vin (m := 4) hj hL (by decide), ?_⟩
    conv => whnf
    refine ⟨⟨by omega, by omega⟩, ?_⟩
    refine eM ⟨fun _ => rfl, fun _ => rfl⟩ (fun K hK3 => ⟨snS s ra rb, q, t, _, _, _, _, rfl, rfl, hT, fun z => absurd hC z, fun _ t' hT' => hK3 _ _ _ _ ⟨fun _ => rfl, fun _ => rfl⟩ ?_⟩)
    conv => whnf
    refine ⟨fun _ => ?_, fun z => absurd (rfl) z⟩
    conv => whnf
    exact C98_i ⟨⟨N, hV, hTG, hLB⟩, hM, hK, ⟨ra, rb, rfl⟩, hT', (by rw [← hn hC.1]; exact SQ_ke hQ (ke_w hC)), hB, hIm⟩ (by omega) (by omega)
def ctL_row : Tz := [(1329, cD 601024 7293034 (some 3) 4 F_X5_row 0 0), (1351, cM 601024 7293034 (some 4) 4 F_X6_row 0 0)]
theorem cokL_row : CallZ cL_law 8 ret RL room_1 0 ctL_row := CallZ_cons (site_D (R := room_1) (run_VZ (pL_c32_ok 1329 _ rfl) ct_X5_row kX5_row (uw1 (by decide +kernel)) (by decide))) (CallZ_cons (site_M (R := room_1) (run_VZ (pL_c32_ok 1351 _ rfl) ct_X6_row kX6_row (uw1 (by decide +kernel)) (by decide))) CallZ_nil)
set_option maxRecDepth 20000 in
theorem lc_row : LCase pL_c32 ctL_row 1310 := by
  intro j L c0 s0 xs s m k hi us dr od py r q t ou hj hL hc hs hI
  obtain ⟨⟨N, hV, hTG, hLB⟩, hM, hK, ⟨ra, rb, rfl⟩, hT, hQ, hB, hIm⟩ := id hI
  conv => whnf
  refine ⟨vin (m := 1) hj hL (by decide), ?_⟩
  conv => whnf
  refine ⟨vin (m := 2) hj hL (by decide), ?_⟩
  conv => whnf
  refine ⟨vin (m := 3) hj hL (by decide), ?_⟩
  conv => whnf
  refine ⟨⟨by omega, by omega⟩, ?_⟩
  refine eSd ⟨fun _ => rfl, fun _ => rfl⟩ (fun n8 hn8 hn r2 r4 r5 f K hf hK1 hK2 => ⟨r2, r4, r5, hi, s, m, f, us n8, _, _, _, rfl, rfl, hf, fun hC => hK1 _ _ _  ⟨fun _ => rfl, fun _ => rfl⟩ ?_, fun hC h0 => hK1 _ _ _  ⟨fun _ => rfl, fun _ => rfl⟩ ?_, fun hC h0 => hK2 _ _ _ _ ⟨fun _ => rfl, fun _ => rfl⟩ ?_⟩)
  · conv => whnf
    refine ⟨vin (m := 1) hj hL (by decide), ?_⟩
    conv => whnf
    refine ⟨vin (m := 2) hj hL (by decide), ?_⟩
    conv => whnf
    refine ⟨vin (m := 3) hj hL (by decide), ?_⟩
    conv => whnf
    refine ⟨⟨by omega, by omega⟩, ?_⟩
    refine eM ⟨fun _ => rfl, fun _ => rfl⟩ (fun K hK3 => ⟨snS s ra rb, q, t, _, _, _, rfl, rfl, hT, fun _ t' hT' => hK3 _ _ _ _ ⟨fun _ => rfl, fun _ => rfl⟩ ?_, fun z _ => absurd z hC, fun z _ => absurd z hC⟩)
    conv => whnf
    refine ⟨fun _ => ?_, fun z => absurd (rfl) z⟩
    conv => whnf
    exact C98_i ⟨⟨N, hV, hTG, hLB⟩, hM, hK, ⟨ra, rb, rfl⟩, hT', hQ, hB, hIm⟩ (by omega) (by omega)
  · conv => whnf
    refine ⟨vin (m := 1) hj hL (by decide), ?_⟩
    conv => whnf
    refine ⟨vin (m := 2) hj hL (by decide), ?_⟩
    conv => whnf
    refine ⟨vin (m := 3) hj hL (by decide), ?_⟩
    conv => whnf
    refine ⟨⟨by omega, by omega⟩, ?_⟩
    refine eM ⟨fun _ => rfl, fun _ => rfl⟩ (fun K hK3 => ⟨snS s ra rb, q, t, _, _, _, rfl, rfl, hT, fun z => absurd hC z, fun _ _ t' hT' => hK3 _ _ _ _ ⟨fun _ => rfl, fun _ => rfl⟩ ?_, fun _ z => absurd h0 z⟩)
    conv => whnf
    refine ⟨fun _ => ?_, fun z => absurd (rfl) z⟩
    conv => whnf
    exact C98_i ⟨⟨N, hV, hTG, hLB⟩, hM, hK, ⟨ra, rb, rfl⟩, hT', hQ, hB, hIm⟩ (by omega) (by omega)
  · conv => whnf
    refine ⟨vin (m := 1) hj hL (by decide), ?_⟩
    conv => whnf
    refine ⟨vin (m := 2) hj hL (by decide), ?_⟩
    conv => whnf
    refine ⟨vin (m := 3) hj hL (by decide), ?_⟩
    conv => whnf
    refine ⟨⟨by omega, by omega⟩, ?_⟩
    refine eM ⟨fun _ => rfl, fun _ => rfl⟩ (fun K hK3 => ⟨snS s ra rb, q, t, _, _, _, rfl, rfl, hT, fun z => absurd hC z, fun _ z => absurd z h0, fun _ _ t' hT' => hK3 _ _ _ _ ⟨fun _ => rfl, fun _ => rfl⟩ ?_⟩)
    conv => whnf
    refine ⟨fun _ => ?_, fun z => absurd (rfl) z⟩
    conv => whnf
    exact C98_i ⟨⟨N, hV, hTG, hLB⟩, hM, hK, ⟨ra, rb, rfl⟩, hT', (by rw [← hn hC.1]; exact SQ_ro hQ (rg_of 2 (by decide) hC.2.1.1 hC.2.1.2) (rg_of 100 (by decide) (Int32.not_lt.mp h0) hC.2.2)), hB, hIm⟩ (by omega) (by omega)
def ctL_put : Tz := [(1378, cD 601024 7293034 (some 3) 4 F_X5_put 0 0), (1400, cM 601024 7293034 (some 4) 4 F_X6_put 0 0)]
theorem cokL_put : CallZ cL_law 8 ret RL room_1 0 ctL_put := CallZ_cons (site_D (R := room_1) (run_VZ (pL_c33_ok 1378 _ rfl) ct_X5_put kX5_put (uw1 (by decide +kernel)) (by decide))) (CallZ_cons (site_M (R := room_1) (run_VZ (pL_c33_ok 1400 _ rfl) ct_X6_put kX6_put (uw1 (by decide +kernel)) (by decide))) CallZ_nil)
set_option maxRecDepth 20000 in
theorem lc_put : LCase pL_c33 ctL_put 1359 := by
  intro j L c0 s0 xs s m k hi us dr od py r q t ou hj hL hc hs hI
  obtain ⟨⟨N, hV, hTG, hLB⟩, hM, hK, ⟨ra, rb, rfl⟩, hT, hQ, hB, hIm⟩ := id hI
  conv => whnf
  refine ⟨vin (m := 1) hj hL (by decide), ?_⟩
  conv => whnf
  refine ⟨vin (m := 2) hj hL (by decide), ?_⟩
  conv => whnf
  refine ⟨vin (m := 3) hj hL (by decide), ?_⟩
  conv => whnf
  refine ⟨⟨by omega, by omega⟩, ?_⟩
  refine eSd ⟨fun _ => rfl, fun _ => rfl⟩ (fun n8 hn8 hn r2 r4 r5 f K hf hK1 hK2 => ⟨r2, r4, r5, hi, s, m, f, us n8, _, _, _, rfl, rfl, (fun z => ⟨hf z, (hQ n8 hn8).2⟩), fun hC => hK1 _ _ _  ⟨fun _ => rfl, fun _ => rfl⟩ ?_, fun hC h0 => hK1 _ _ _  ⟨fun _ => rfl, fun _ => rfl⟩ ?_, fun hC h0 => hK2 _ _ _ _ ⟨fun _ => rfl, fun _ => rfl⟩ ?_⟩)
  · conv => whnf
    refine ⟨vin (m := 1) hj hL (by decide), ?_⟩
    conv => whnf
    refine ⟨vin (m := 2) hj hL (by decide), ?_⟩
    conv => whnf
    refine ⟨vin (m := 3) hj hL (by decide), ?_⟩
    conv => whnf
    refine ⟨⟨by omega, by omega⟩, ?_⟩
    refine eM ⟨fun _ => rfl, fun _ => rfl⟩ (fun K hK3 => ⟨snS s ra rb, q, t, us n8, _, _, _, rfl, rfl, hT, (fun z => by rw [← hn z]; exact hQ n8 hn8), fun _ t' hT' => hK3 _ _ _ _ ⟨fun _ => rfl, fun _ => rfl⟩ ?_, fun z _ => absurd z hC, fun z _ => absurd z hC⟩)
    conv => whnf
    refine ⟨fun _ => ?_, fun z => absurd (rfl) z⟩
    conv => whnf
    exact C98_i ⟨⟨N, hV, hTG, hLB⟩, hM, hK, ⟨ra, rb, rfl⟩, hT', hQ, hB, hIm⟩ (by omega) (by omega)
  · conv => whnf
    refine ⟨vin (m := 1) hj hL (by decide), ?_⟩
    conv => whnf
    refine ⟨vin (m := 2) hj hL (by decide), ?_⟩
    conv => whnf
    refine ⟨vin (m := 3) hj hL (by decide), ?_⟩
    conv => whnf
    refine ⟨⟨by omega, by omega⟩, ?_⟩
    refine eM ⟨fun _ => rfl, fun _ => rfl⟩ (fun K hK3 => ⟨snS s ra rb, q, t, us n8, _, _, _, rfl, rfl, hT, (fun z => by rw [← hn z]; exact hQ n8 hn8), fun z => absurd hC z, fun _ _ t' hT' => hK3 _ _ _ _ ⟨fun _ => rfl, fun _ => rfl⟩ ?_, fun _ z => absurd z h0⟩)
    conv => whnf
    refine ⟨fun _ => ?_, fun z => absurd (rfl) z⟩
    conv => whnf
    exact C98_i ⟨⟨N, hV, hTG, hLB⟩, hM, hK, ⟨ra, rb, rfl⟩, hT', hQ, hB, hIm⟩ (by omega) (by omega)
  · conv => whnf
    refine ⟨vin (m := 1) hj hL (by decide), ?_⟩
    conv => whnf
    refine ⟨vin (m := 2) hj hL (by decide), ?_⟩
    conv => whnf
    refine ⟨vin (m := 3) hj hL (by decide), ?_⟩
    conv => whnf
    refine ⟨⟨by omega, by omega⟩, ?_⟩
    refine eM ⟨fun _ => rfl, fun _ => rfl⟩ (fun K hK3 => ⟨snS s ra rb, q, t, us n8, _, _, _, rfl, rfl, hT, (fun z => by rw [← hn z]; exact hQ n8 hn8), fun z => absurd hC z, fun _ z => absurd h0 z, fun _ _ t' hT' => hK3 _ _ _ _ ⟨fun _ => rfl, fun _ => rfl⟩ ?_⟩)
    conv => whnf
    refine ⟨fun _ => ?_, fun z => absurd (rfl) z⟩
    conv => whnf
    exact C98_i ⟨⟨N, hV, hTG, hLB⟩, hM, hK, ⟨ra, rb, rfl⟩, hT', (by rw [← hn (re_O hC).1]; exact SQ_pu hQ hn8 (re_O hC).2 h0), hB, hIm⟩ (by omega) (by omega)
def ctL_image : Tz := [(1199, cD 601024 7293034 (some 3) 1 F_X5_image 0 0), (1203, cM 601024 7293034 (some 4) 1 F_X6_image 0 0)]
theorem cokL_image : CallZ cL_law 8 ret RL room_1 0 ctL_image := CallZ_cons (site_D (R := room_1) (run_VZ (pL_c28_ok 1199 _ rfl) ct_X5_image kX5_image (uw1 (by decide +kernel)) (by decide))) (CallZ_cons (site_M (R := room_1) (run_VZ (pL_c28_ok 1203 _ rfl) ct_X6_image kX6_image (uw1 (by decide +kernel)) (by decide))) CallZ_nil)
set_option maxRecDepth 20000 in
theorem lc_image : LCase pL_c28 ctL_image 1198 := by
  intro j L c0 s0 xs s m k hi us dr od py r q t ou hj hL hc hs hI
  obtain ⟨⟨N, hV, hTG, hLB⟩, hM, hK, ⟨ra, rb, rfl⟩, hT, hQ, hB, hIm⟩ := id hI
  conv => whnf
  refine ⟨⟨by omega, by omega⟩, ?_⟩
  refine e3 ⟨fun _ => rfl, fun _ => rfl⟩ (fun r1 r3 r4 r5 K hK1 => ⟨r1, r3, r4, r5, hi, s, k, rfl, rfl, hV.1, hK, hK1 _ _ _ _  ⟨fun _ => rfl, fun _ => rfl⟩ ?_⟩)
  · conv => whnf
    refine ⟨⟨by omega, by omega⟩, ?_⟩
    refine eM ⟨fun _ => rfl, fun _ => rfl⟩ (fun K hK3 => ⟨snS s ra rb, q, t, rfl, rfl, hT, fun im' t' him hT' => hK3 _ _ _ _ ⟨fun _ => rfl, fun _ => rfl⟩ ?_⟩)
    conv => whnf
    refine ⟨fun _ => ?_, fun z => absurd (rfl) z⟩
    conv => whnf
    exact C98_i ⟨⟨N, hV, hTG, hLB⟩, hM, hV.1, ⟨ra, rb, rfl⟩, hT', hQ, rfl, fun _ => ⟨⟨N, hV, hTG, hLB⟩, him⟩⟩ (by omega) (by omega)
def ctL_restore : Tz := [(1212, cD 601024 7293034 (some 3) 1 F_X5_restore 0 0), (1216, cM 601024 7293034 (some 4) 1 F_X6_restore 0 0)]
theorem cokL_restore : CallZ cL_law 8 ret RL room_1 0 ctL_restore := CallZ_cons (site_D (R := room_1) (run_VZ (pL_c29_ok 1212 _ rfl) ct_X5_restore kX5_restore (uw1 (by decide +kernel)) (by decide))) (CallZ_cons (site_M (R := room_1) (run_VZ (pL_c29_ok 1216 _ rfl) ct_X6_restore kX6_restore (uw1 (by decide +kernel)) (by decide))) CallZ_nil)
set_option maxRecDepth 20000 in
theorem lc_restore : LCase pL_c29 ctL_restore 1211 := by
  intro j L c0 s0 xs s m k hi us dr od py r q t ou hj hL hc hs hI
  obtain ⟨⟨N, hV, hTG, hLB⟩, hM, hK, ⟨ra, rb, rfl⟩, hT, hQ, hB, hIm⟩ := id hI
  conv => whnf
  refine ⟨⟨by omega, by omega⟩, ?_⟩
  refine e3 ⟨fun _ => rfl, fun _ => rfl⟩ (fun r1 r3 r4 r5 K hK1 => ⟨r1, r3, r4, r5, hi, s, k, rfl, rfl, hV.1, hK, fun hC => hK1 _ _ _ _  ⟨fun _ => rfl, fun _ => rfl⟩ ?_, fun hC => hK1 _ _ _ _  ⟨fun _ => rfl, fun _ => rfl⟩ ?_⟩)
  · conv => whnf
    refine ⟨⟨by omega, by omega⟩, ?_⟩
    refine eM ⟨fun _ => rfl, fun _ => rfl⟩ (fun K hK3 => ⟨snS s ra rb, k, q, t, rfl, rfl, hT, hV.1, hK, (fun z => (hIm (by rw [hB]; exact z)).2), fun _ a b t' hT' => hK3 _ _ _ _ ⟨fun _ => rfl, fun _ => rfl⟩ ?_, fun z => absurd (by rw [← hB]; exact hC) z⟩)
    conv => whnf
    refine ⟨fun _ => ?_, fun z => absurd (rfl) z⟩
    conv => whnf
    exact C98_i ⟨⟨N, hV, hTG, hLB⟩, hM, hK, ⟨_, _, rfl⟩, hT', hQ, hB, hIm⟩ (by omega) (by omega)
  · conv => whnf
    refine ⟨⟨by omega, by omega⟩, ?_⟩
    refine eM ⟨fun _ => rfl, fun _ => rfl⟩ (fun K hK3 => ⟨snS s ra rb, k, q, t, rfl, rfl, hT, hV.1, hK, (fun z => (hIm (by rw [hB]; exact z)).2), fun z => absurd (by rw [hB]; exact z) hC, fun _ a b t' hT' => hK3 _ _ _ _ ⟨fun _ => rfl, fun _ => rfl⟩ ?_⟩)
    conv => whnf
    refine ⟨fun _ => ?_, fun z => absurd (rfl) z⟩
    conv => whnf
    exact C98_i ⟨(hIm hC).1, hM, hK, ⟨_, _, rfl⟩, hT', hQ, hB, hIm⟩ (by omega) (by omega)
