/-! ===== the law's loop ===== -/
def csH : List Nat := [208, 233, 270, 295, 332, 369, 406, 443, 468, 517, 554, 591, 616, 641, 678, 727, 752, 789, 814, 839, 864, 913, 950, 999, 1073, 1099, 1124, 1149, 1198, 1211, 1224, 1249, 1310, 1359, 1408, 1475, 1548, 1573]
def T5 : List Bool := [true, true, true, true, true]
def cutH (P : List (Option sv) → List sv → List sc → Nat → Nat → Prop) : Cut := fun z => cond (List.elem z (1598 :: 1604 :: csH)) (some (T5, P)) none
def cutI (P : List (Option sv) → List sv → List sc → Nat → Nat → Prop) : Cut := fun z => cond (Nat.beq z 23) (some (T5, P)) none
theorem hd_le {j L : Nat} (hj : j ≤ 4000) (hL : L ≤ 3072) (h : ¬ nI j > Int32.ofNat L - 6) : j + 6 ≤ L := by
  have h1 := Int32.not_lt.mp h
  rw [Int32.le_iff_toInt_le, Int32.toInt_sub, show (Int32.ofNat L).toInt = (L : Int) from nI_toInt (by omega), show (nI j).toInt = (j : Int) from nI_toInt (by omega), show (6 : Int32).toInt = 6 from rfl] at h1
  rw [Int.bmod_eq_of_le (by omega) (by omega)] at h1
  omega
theorem hd_gt {j L : Nat} (hj : j ≤ 4000) (hL : L ≤ 3072) (h : nI j > Int32.ofNat L - 6) : ¬ j + 6 ≤ L := by
  have h1 : Int32.ofNat L - 6 < nI j := h
  rw [Int32.lt_iff_toInt_lt, Int32.toInt_sub, show (Int32.ofNat L).toInt = (L : Int) from nI_toInt (by omega), show (nI j).toInt = (j : Int) from nI_toInt (by omega), show (6 : Int32).toInt = 6 from rfl] at h1
  rw [Int.bmod_eq_of_le (by omega) (by omega)] at h1
  omega
section LAWZ
variable {p : Program} {l : Launch} {e : Env} {s : State} {m : MethodId} {args : Array Value} {below : List Frame} {meth : Method} {c : Code} {D : va_G} {σ0 : Nat → Nat} {cA : Nat → ClassId} {A : Nat → Prop} {Q : State → Prop} {L : Nat} {xs : Nat → Int32}
/-- what stays through the law -/
def LX (p : Program) (s : State) (m : MethodId) (args : Array Value) (meth : Method) (c : Code) (D : va_G) (σ0 : Nat → Nat) (cA : Nat → ClassId) (A : Nat → Prop) (L : Nat) (xs : Nat → Int32) : Prop := Cx p s m args meth c D cA cL_law 8 ret RL ∧ NW s ∧ EX s ∧ (∀ q, s.heap.size ≤ q → A q) ∧ (va_X (σ0 1000) L xs s s.heap ∧ σ0 1000 < s.heap.size ∧ ¬ A (σ0 1000)) ∧ L ≤ 3072
theorem fdo_n : fdo RL no3 := fun _ _ _ _ h => by cases h
theorem cdo_n : cdo RL noI noL := ⟨fun _ _ h => (by cases h), fun _ _ h => (by cases h)⟩
theorem nwo_n : nwo RL nw0 := fun _ _ _ _ h => by cases h
theorem zrun {pr : List (Nat × (Instr × Nat × Nat × Int32))} {ct : Tz} {cut : Cut} {n pc cl sl : Nat} {lv : List (Option sv)} {st : List sv} {w : List sc} (hpr : ∀ pc q, lkB pr pc = some q → xdec cL_law pc = some q) (hC : CallZ cL_law 8 ret RL room_1 0 ct) (X : LX p s m args meth c D σ0 cA A L xs) (hcut : ∀ pc mm P, cut pc = some (mm, P) → ∀ lv st w cl sl, P lv st w cl sl → ZY p l e room_1 s m args below meth c D σ0 0 cA A s.heap 8 Q pc lv st w cl sl) (h : wpz (lkB pr) 8 none none 0 601024 7293034 nw0 no3 noI noL (ctabz ct) (some (L, xs)) cut n pc lv st w cl sl) : ZY p l e room_1 s m args below meth c D σ0 0 cA A s.heap 8 Q pc lv st w cl sl := by
  obtain ⟨hX, hnw, hex, hA, hs, -⟩ := X
  exact wpz_sound (R := room_1) hpr hX fdo_n cdo_n nwo_n (fun cf h => by cases h) hA (fun L' xs' h => by cases h; exact hs) (fun i h => by cases h) (fun pc lv st w cl sl kk h hk => by
    obtain ⟨f, hs, hf⟩ := ctabz_use hC h
    exact hs p l e s m args below meth c D σ0 cA A Q hX hnw hex hA lv st w cl sl kk hf hk) hcut n pc lv st w cl sl h
def Nx (p : Program) (l : Launch) (e : Env) (s : State) (m : MethodId) (args : Array Value) (below : List Frame) (meth : Method) (c : Code) (D : va_G) (σ0 : Nat → Nat) (cA : Nat → ClassId) (A : Nat → Prop) (Q : State → Prop) (j c0 s0 : Nat) : Prop := ∀ lv st w cl sl, C98 j c0 s0 lv st w cl sl → ZY p l e room_1 s m args below meth c D σ0 0 cA A s.heap 8 Q 1598 lv st w cl sl
/-- a case of the law, run -/
def ZC (p : Program) (l : Launch) (e : Env) (s : State) (m : MethodId) (args : Array Value) (below : List Frame) (meth : Method) (c : Code) (D : va_G) (σ0 : Nat → Nat) (cA : Nat → ClassId) (A : Nat → Prop) (Q : State → Prop) (L pc : Nat) : Prop := ∀ (j c0 s0 : Nat) (s' m' k : InnS) (hi : Int32) (us : Nat → ShS) (dr od py : PA) (r : InnS) (q : Pm) (t : Tm) (ou : Nat → Int64), j + 6 ≤ L → c0 + 1 ≤ 601024 → s0 + 6 ≤ 7293034 → LI s' m' k hi us r q t → Nx p l e s m args below meth c D σ0 cA A Q j c0 s0 → ZY p l e room_1 s m args below meth c D σ0 0 cA A s.heap 8 Q pc (lvJ j) [] (LWd s' m' k hi us dr od py r q t ou) c0 s0
theorem zcase {pr : List (Nat × (Instr × Nat × Nat × Int32))} {ct : Tz} {pc : Nat} (hpr : ∀ pc q, lkB pr pc = some q → xdec cL_law pc = some q) (hC : CallZ cL_law 8 ret RL room_1 0 ct) (lc : LCase pr ct pc) (X : LX p s m args meth c D σ0 cA A L xs) : ZC p l e s m args below meth c D σ0 cA A Q L pc := by
  intro j c0 s0 s' m' k hi us dr od py r q t ou hj hc hs hI hN
  refine zrun hpr hC X (fun pc mm P h => ?_) (lc j L c0 s0 xs s' m' k hi us dr od py r q t ou hj X.2.2.2.2.2 hc hs hI)
  unfold cutL at h
  cases hz : Nat.beq pc 1598 with
  | false => rw [hz] at h; cases h
  | true =>
    rw [hz] at h
    cases h
    have := Nat.eq_of_beq_eq_true hz
    subst this
    exact hN
theorem zall (X : LX p s m args meth c D σ0 cA A L xs) (h34 : ZC p l e s m args below meth c D σ0 cA A Q L 1408) (h37 : ZC p l e s m args below meth c D σ0 cA A Q L 1573) : ∀ pc ∈ csH, ZC p l e s m args below meth c D σ0 cA A Q L pc := by
  unfold csH
  exact List.forall_mem_cons.mpr ⟨(zcase pL_c0_ok cokL_inn lc_inn X), List.forall_mem_cons.mpr ⟨(zcase pL_c1_ok cokL_guest lc_guest X), List.forall_mem_cons.mpr ⟨(zcase pL_c2_ok cokL_larder lc_larder X), List.forall_mem_cons.mpr ⟨(zcase pL_c3_ok cokL_comes lc_comes X), List.forall_mem_cons.mpr ⟨(zcase pL_c4_ok cokL_wishes lc_wishes X), List.forall_mem_cons.mpr ⟨(zcase pL_c5_ok cokL_heals lc_heals X), List.forall_mem_cons.mpr ⟨(zcase pL_c6_ok cokL_fills lc_fills X), List.forall_mem_cons.mpr ⟨(zcase pL_c7_ok cokL_nights lc_nights X), List.forall_mem_cons.mpr ⟨(zcase pL_c8_ok cokL_guestThen lc_guestThen X), List.forall_mem_cons.mpr ⟨(zcase pL_c9_ok cokL_larderThen lc_larderThen X), List.forall_mem_cons.mpr ⟨(zcase pL_c10_ok cokL_then lc_then X), List.forall_mem_cons.mpr ⟨(zcase pL_c11_ok cokL_leaves lc_leaves X), List.forall_mem_cons.mpr ⟨(zcase pL_c12_ok cokL_out lc_out X), List.forall_mem_cons.mpr ⟨(zcase pL_c13_ok cokL_table lc_table X), List.forall_mem_cons.mpr ⟨(zcase pL_c14_ok cokL_bestWish lc_bestWish X), List.forall_mem_cons.mpr ⟨(zcase pL_c15_ok cokL_buy lc_buy X), List.forall_mem_cons.mpr ⟨(zcase pL_c16_ok cokL_least lc_least X), List.forall_mem_cons.mpr ⟨(zcase pL_c17_ok cokL_send lc_send X), List.forall_mem_cons.mpr ⟨(zcase pL_c18_ok cokL_seats lc_seats X), List.forall_mem_cons.mpr ⟨(zcase pL_c19_ok cokL_same lc_same X), List.forall_mem_cons.mpr ⟨(zcase pL_c20_ok cokL_whatIs lc_whatIs X), List.forall_mem_cons.mpr ⟨(zcase pL_c21_ok cokL_whatWish lc_whatWish X), List.forall_mem_cons.mpr ⟨(zcase pL_c22_ok cokL_two lc_two X), List.forall_mem_cons.mpr ⟨(zcase pL_c23_ok cokL_mares lc_mares X), List.forall_mem_cons.mpr ⟨(zcase pL_c24_ok cokL_mean lc_mean X), List.forall_mem_cons.mpr ⟨(zcase pL_c25_ok cokL_forged lc_forged X), List.forall_mem_cons.mpr ⟨(zcase pL_c26_ok cokL_judge lc_judge X), List.forall_mem_cons.mpr ⟨(zcase pL_c27_ok cokL_years lc_years X), List.forall_mem_cons.mpr ⟨(zcase pL_c28_ok cokL_image lc_image X), List.forall_mem_cons.mpr ⟨(zcase pL_c29_ok cokL_restore lc_restore X), List.forall_mem_cons.mpr ⟨(zcase pL_c30_ok cokL_count lc_count X), List.forall_mem_cons.mpr ⟨(zcase pL_c31_ok cokL_keep lc_keep X), List.forall_mem_cons.mpr ⟨(zcase pL_c32_ok cokL_row lc_row X), List.forall_mem_cons.mpr ⟨(zcase pL_c33_ok cokL_put lc_put X), List.forall_mem_cons.mpr ⟨h34, List.forall_mem_cons.mpr ⟨(zcase pL_c35_ok cokL_copy lc_copy X), List.forall_mem_cons.mpr ⟨(zcase pL_c36_ok cokL_cost lc_cost X), List.forall_mem_cons.mpr ⟨h37, fun _ h => absurd h List.not_mem_nil⟩⟩⟩⟩⟩⟩⟩⟩⟩⟩⟩⟩⟩⟩⟩⟩⟩⟩⟩⟩⟩⟩⟩⟩⟩⟩⟩⟩⟩⟩⟩⟩⟩⟩⟩⟩⟩⟩
end LAWZ
