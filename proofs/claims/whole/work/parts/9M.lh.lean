section LAWH
variable {p : Program} {l : Launch} {e : Env} {s : State} {m : MethodId} {args : Array Value} {below : List Frame} {meth : Method} {c : Code} {D : va_G} {σ0 : Nat → Nat} {cA : Nat → ClassId} {A : Nat → Prop} {Q : State → Prop} {L : Nat} {xs : Nat → Int32}
set_option maxRecDepth 20000 in
theorem zhead {j c0 s0 : Nat} {s' m' k : InnS} {hi : Int32} {us : Nat → ShS} {dr od py : PA} {r : InnS} {q : Pm} {t : Tm} {ou : Nat → Int64} (X : LX p s m args meth c D σ0 cA A L xs) (hall : ∀ pc ∈ csH, ZC p l e s m args below meth c D σ0 cA A Q L pc) (hj : j ≤ 4000) (hI : LI s' m' k hi us r q t) (hend : ¬ j + 6 ≤ L → ZY p l e room_1 s m args below meth c D σ0 0 cA A s.heap 8 Q 1604 (lvJ j) [] (LWd s' m' k hi us dr od py r q t ou) c0 s0) (hgo : j + 6 ≤ L → (c0 + 1 ≤ 601024 ∧ s0 + 6 ≤ 7293034) ∧ Nx p l e s m args below meth c D σ0 cA A Q j c0 s0) : ZY p l e room_1 s m args below meth c D σ0 0 cA A s.heap 8 Q 23 (lvJ j) [] (LWd s' m' k hi us dr od py r q t ou) c0 s0 := by
  have hL := X.2.2.2.2.2
  have hcut : ∀ pc mm P, cutH (fun lv st w cl sl => (lv = lvJ j ∧ st = [] ∧ w = LWd s' m' k hi us dr od py r q t ou ∧ cl = c0 ∧ sl = s0)) pc = some (mm, P) → (pc = 1604 → ¬ j + 6 ≤ L) → (pc ≠ 1604 → j + 6 ≤ L) → ∀ lv st w cl sl, P lv st w cl sl → ZY p l e room_1 s m args below meth c D σ0 0 cA A s.heap 8 Q pc lv st w cl sl := by
    intro pc mm P h h4 hn lv st w cl sl hp
    unfold cutH at h
    cases hz : List.elem pc (1598 :: 1604 :: csH) with
    | false => rw [hz] at h; cases h
    | true =>
      rw [hz] at h
      cases h
      obtain ⟨rfl, rfl, rfl, g1, g2⟩ := hp
      rw [g1, g2]
      have hm := List.mem_of_elem_eq_true hz
      rcases List.mem_cons.mp hm with rfl | hm
      · exact (hgo (hn (by decide))).2 _ _ _ _ _ (C98_i hI (by omega) (by omega))
      rcases List.mem_cons.mp hm with rfl | hm
      · exact hend (h4 rfl)
      · have h5 : pc ≠ 1604 := fun e => by subst e; exact absurd hm (by decide)
        obtain ⟨⟨g4, g5⟩, g3⟩ := hgo (hn h5)
        exact hall pc hm j c0 s0 s' m' k hi us dr od py r q t ou (hn h5) g4 g5 hI g3
  by_cases hg : nI j > Int32.ofNat L - 6
  · have hx := hd_gt hj hL hg
    refine zrun (ct := []) (n := 100) (cut := fun z => cond (Nat.beq z 1604) (some (T5, fun lv st w cl sl => (lv = lvJ j ∧ st = [] ∧ w = LWd s' m' k hi us dr od py r q t ou ∧ cl = c0 ∧ sl = s0))) none) pL_head_ok CallZ_nil X (fun pc mm P h => ?_) ?_
    · cases hz : Nat.beq pc 1604 with
      | false => rw [hz] at h; cases h
      | true =>
        rw [hz] at h
        cases h
        have := Nat.eq_of_beq_eq_true hz
        subst this
        rintro lv st w cl sl ⟨rfl, rfl, rfl, g1, g2⟩
        rw [g1, g2]
        exact hend hx
    · conv => whnf
      refine ⟨fun _ => ?_, fun z => absurd hg z⟩
      conv => whnf
      exact ⟨rfl, rfl, rfl, rfl, rfl⟩
  · have hx := hd_le hj hL hg
    refine zrun (ct := []) (n := 100) (cut := fun z => cond (Nat.beq z 1604) none (cutH (fun lv st w cl sl => (lv = lvJ j ∧ st = [] ∧ w = LWd s' m' k hi us dr od py r q t ou ∧ cl = c0 ∧ sl = s0)) z)) pL_head_ok CallZ_nil X (fun pc mm P h => ?_) ?_
    · cases hz : Nat.beq pc 1604 with
      | true => rw [hz] at h; cases h
      | false =>
        rw [hz] at h
        exact hcut pc mm P h (fun e => by subst e; cases hz) (fun _ => hx)
    · conv => whnf
      refine ⟨fun z => absurd z hg, fun _ => ?_⟩
      conv => whnf
      refine ⟨vp_in_nI (by omega) (by omega), ?_⟩
      conv => whnf
      refine ⟨fun _ => ?_, ?_⟩
      · conv => whnf
        exact ⟨rfl, rfl, rfl, rfl, rfl⟩
      conv => whnf
      refine ⟨fun _ => ?_, ?_⟩
      · conv => whnf
        exact ⟨rfl, rfl, rfl, rfl, rfl⟩
      conv => whnf
      refine ⟨fun _ => ?_, ?_⟩
      · conv => whnf
        exact ⟨rfl, rfl, rfl, rfl, rfl⟩
      conv => whnf
      refine ⟨fun _ => ?_, ?_⟩
      · conv => whnf
        exact ⟨rfl, rfl, rfl, rfl, rfl⟩
      conv => whnf
      refine ⟨fun _ => ?_, ?_⟩
      · conv => whnf
        exact ⟨rfl, rfl, rfl, rfl, rfl⟩
      conv => whnf
      refine ⟨fun _ => ?_, ?_⟩
      · conv => whnf
        exact ⟨rfl, rfl, rfl, rfl, rfl⟩
      conv => whnf
      refine ⟨fun _ => ?_, ?_⟩
      · conv => whnf
        exact ⟨rfl, rfl, rfl, rfl, rfl⟩
      conv => whnf
      refine ⟨fun _ => ?_, ?_⟩
      · conv => whnf
        exact ⟨rfl, rfl, rfl, rfl, rfl⟩
      conv => whnf
      refine ⟨fun _ => ?_, ?_⟩
      · conv => whnf
        exact ⟨rfl, rfl, rfl, rfl, rfl⟩
      conv => whnf
      refine ⟨fun _ => ?_, ?_⟩
      · conv => whnf
        exact ⟨rfl, rfl, rfl, rfl, rfl⟩
      conv => whnf
      refine ⟨fun _ => ?_, ?_⟩
      · conv => whnf
        exact ⟨rfl, rfl, rfl, rfl, rfl⟩
      conv => whnf
      refine ⟨fun _ => ?_, ?_⟩
      · conv => whnf
        exact ⟨rfl, rfl, rfl, rfl, rfl⟩
      conv => whnf
      refine ⟨fun _ => ?_, ?_⟩
      · conv => whnf
        exact ⟨rfl, rfl, rfl, rfl, rfl⟩
      conv => whnf
      refine ⟨fun _ => ?_, ?_⟩
      · conv => whnf
        exact ⟨rfl, rfl, rfl, rfl, rfl⟩
      conv => whnf
      refine ⟨fun _ => ?_, ?_⟩
      · conv => whnf
        exact ⟨rfl, rfl, rfl, rfl, rfl⟩
      conv => whnf
      refine ⟨fun _ => ?_, ?_⟩
      · conv => whnf
        exact ⟨rfl, rfl, rfl, rfl, rfl⟩
      conv => whnf
      refine ⟨fun _ => ?_, ?_⟩
      · conv => whnf
        exact ⟨rfl, rfl, rfl, rfl, rfl⟩
      conv => whnf
      refine ⟨fun _ => ?_, ?_⟩
      · conv => whnf
        exact ⟨rfl, rfl, rfl, rfl, rfl⟩
      conv => whnf
      refine ⟨fun _ => ?_, ?_⟩
      · conv => whnf
        exact ⟨rfl, rfl, rfl, rfl, rfl⟩
      conv => whnf
      refine ⟨fun _ => ?_, ?_⟩
      · conv => whnf
        exact ⟨rfl, rfl, rfl, rfl, rfl⟩
      conv => whnf
      refine ⟨fun _ => ?_, ?_⟩
      · conv => whnf
        exact ⟨rfl, rfl, rfl, rfl, rfl⟩
      conv => whnf
      refine ⟨fun _ => ?_, ?_⟩
      · conv => whnf
        exact ⟨rfl, rfl, rfl, rfl, rfl⟩
      conv => whnf
      refine ⟨fun _ => ?_, ?_⟩
      · conv => whnf
        exact ⟨rfl, rfl, rfl, rfl, rfl⟩
      conv => whnf
      refine ⟨fun _ => ?_, ?_⟩
      · conv => whnf
        exact ⟨rfl, rfl, rfl, rfl, rfl⟩
      conv => whnf
      refine ⟨fun _ => ?_, ?_⟩
      · conv => whnf
        exact ⟨rfl, rfl, rfl, rfl, rfl⟩
      conv => whnf
      refine ⟨fun _ => ?_, ?_⟩
      · conv => whnf
        exact ⟨rfl, rfl, rfl, rfl, rfl⟩
      conv => whnf
      refine ⟨fun _ => ?_, ?_⟩
      · conv => whnf
        exact ⟨rfl, rfl, rfl, rfl, rfl⟩
      conv => whnf
      refine ⟨fun _ => ?_, ?_⟩
      · conv => whnf
        exact ⟨rfl, rfl, rfl, rfl, rfl⟩
      conv => whnf
      refine ⟨fun _ => ?_, ?_⟩
      · conv => whnf
        exact ⟨rfl, rfl, rfl, rfl, rfl⟩
      conv => whnf
      refine ⟨fun _ => ?_, ?_⟩
      · conv => whnf
        exact ⟨rfl, rfl, rfl, rfl, rfl⟩
      conv => whnf
      refine ⟨fun _ => ?_, ?_⟩
      · conv => whnf
        exact ⟨rfl, rfl, rfl, rfl, rfl⟩
      conv => whnf
      refine ⟨fun _ => ?_, ?_⟩
      · conv => whnf
        exact ⟨rfl, rfl, rfl, rfl, rfl⟩
      conv => whnf
      refine ⟨fun _ => ?_, ?_⟩
      · conv => whnf
        exact ⟨rfl, rfl, rfl, rfl, rfl⟩
      conv => whnf
      refine ⟨fun _ => ?_, ?_⟩
      · conv => whnf
        exact ⟨rfl, rfl, rfl, rfl, rfl⟩
      conv => whnf
      refine ⟨fun _ => ?_, ?_⟩
      · conv => whnf
        exact ⟨rfl, rfl, rfl, rfl, rfl⟩
      conv => whnf
      refine ⟨fun _ => ?_, ?_⟩
      · conv => whnf
        exact ⟨rfl, rfl, rfl, rfl, rfl⟩
      conv => whnf
      refine ⟨fun _ => ?_, ?_⟩
      · conv => whnf
        exact ⟨rfl, rfl, rfl, rfl, rfl⟩
      conv => whnf
      refine ⟨fun _ => ?_, ?_⟩
      · conv => whnf
        exact ⟨rfl, rfl, rfl, rfl, rfl⟩
      conv => whnf
      refine ⟨fun _ => ?_, ?_⟩
      · conv => whnf
        exact ⟨rfl, rfl, rfl, rfl, rfl⟩
      conv => whnf
      exact trivial
theorem znext {j c0 s0 : Nat} {lv : List (Option sv)} {st : List sv} {w : List sc} {cl sl : Nat} (X : LX p s m args meth c D σ0 cA A L xs) (C : C98 j c0 s0 lv st w cl sl) (h23 : ∀ (s' m' k : InnS) (hi : Int32) (us : Nat → ShS) (dr od py : PA) (r : InnS) (q : Pm) (t : Tm) (ou : Nat → Int64), LI s' m' k hi us r q t → ZY p l e room_1 s m args below meth c D σ0 0 cA A s.heap 8 Q 23 (lvJ (j + 6)) [] (LWd s' m' k hi us dr od py r q t ou) cl sl) : ZY p l e room_1 s m args below meth c D σ0 0 cA A s.heap 8 Q 1598 lv st w cl sl := by
  obtain ⟨s', m', k, hi, us, dr, od, py, r, q, t, ou, hI, rfl, rfl, rfl, h1, h2⟩ := C
  refine zrun (ct := []) (n := 10) (cut := cutI (fun lv st w cl' sl' => (lv = lvJ (j + 6) ∧ st = [] ∧ w = LWd s' m' k hi us dr od py r q t ou ∧ cl' = cl ∧ sl' = sl))) pL_head_ok CallZ_nil X (fun pc mm P h => ?_) ?_
  · unfold cutI at h
    cases hz : Nat.beq pc 23 with
    | false => rw [hz] at h; cases h
    | true =>
      rw [hz] at h
      cases h
      have := Nat.eq_of_beq_eq_true hz
      subst this
      rintro lv st w cl' sl' ⟨rfl, rfl, rfl, g1, g2⟩
      rw [g1, g2]
      exact h23 s' m' k hi us dr od py r q t ou hI
  · conv => whnf
    refine ⟨?_, rfl, rfl, rfl, rfl⟩
    unfold lvJ
    rw [← nI_add]
    rfl
theorem zloop (X : LX p s m args meth c D σ0 cA A L xs) (hall : ∀ pc ∈ csH, ZC p l e s m args below meth c D σ0 cA A Q L pc) (hend : ∀ lv w cl sl, cl ≤ 601024 → sl ≤ 7293034 → ZY p l e room_1 s m args below meth c D σ0 0 cA A s.heap 8 Q 1604 lv [] w cl sl) : ∀ (n j c0 s0 : Nat), L ≤ j + 6 * n + 5 → j ≤ 3072 → c0 + n ≤ 601024 → s0 + 6 * n ≤ 7293034 → ∀ (s' m' k : InnS) (hi : Int32) (us : Nat → ShS) (dr od py : PA) (r : InnS) (q : Pm) (t : Tm) (ou : Nat → Int64), LI s' m' k hi us r q t → ZY p l e room_1 s m args below meth c D σ0 0 cA A s.heap 8 Q 23 (lvJ j) [] (LWd s' m' k hi us dr od py r q t ou) c0 s0
  | 0, j, c0, s0, hn, hj, hc, hs, s', m', k, hi, us, dr, od, py, r, q, t, ou, hI => zhead X hall (by omega) hI (fun _ => hend _ _ _ _ (by omega) (by omega)) (fun z => absurd z (by omega))
  | n + 1, j, c0, s0, hn, hj, hc, hs, s', m', k, hi, us, dr, od, py, r, q, t, ou, hI => zhead X hall (by omega) hI (fun _ => hend _ _ _ _ (by omega) (by omega)) (fun z => ⟨⟨by omega, by omega⟩, fun lv st w cl sl hC => by
      have hL := X.2.2.2.2.2
      obtain ⟨-, -, -, -, -, -, -, -, -, -, -, -, -, -, -, -, h1, h2⟩ := id hC
      exact znext X hC (fun s' m' k hi us dr od py r q t ou hI' => zloop X hall hend n (j + 6) cl sl (by omega) (by omega) (by omega) (by omega) s' m' k hi us dr od py r q t ou hI')⟩)
end LAWH
