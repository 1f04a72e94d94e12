/-! ===== a world with a part of it changed, cell by cell ===== -/
def slt (is0 : List Nat) : List Nat → List sc → Nat → sc → sc
  | i :: r, c' :: cs, n, c => cond (Nat.beq n i) (unrc is0 c') (slt is0 r cs n c)
  | _, _, _, c => c
def rl (is0 r : List Nat) (cs : List sc) : Nat → List sc → List sc
  | _, [] => []
  | n, c :: w => slt is0 r cs n c :: rl is0 r cs (n + 1) w
theorem slt_no (is0 : List Nat) : ∀ (r : List Nat) (cs : List sc) (n : Nat) (c : sc), n ∉ r → slt is0 r cs n c = c
  | [], _, _, _, _ => by unfold slt; rfl
  | i :: r, [], _, _, _ => by unfold slt; rfl
  | i :: r, c' :: cs, n, c, h => by
    have h1 : n ≠ i := fun e => h (by rw [e]; exact List.mem_cons_self)
    have h2 : Nat.beq n i = false := by
      cases e : Nat.beq n i with
      | false => rfl
      | true => exact absurd (Nat.eq_of_beq_eq_true e) h1
    show cond (Nat.beq n i) _ _ = c
    rw [h2]
    exact slt_no is0 r cs n c (fun z => h (List.mem_cons_of_mem _ z))
theorem rl_lo (is0 : List Nat) (i : Nat) (r : List Nat) (c' : sc) (cs : List sc) : ∀ (w : List sc) (n : Nat), i < n → rl is0 (i :: r) (c' :: cs) n w = rl is0 r cs n w
  | [], _, _ => rfl
  | c :: w, n, h => by
    have h2 : Nat.beq n i = false := by
      cases e : Nat.beq n i with
      | false => rfl
      | true => exact absurd (Nat.eq_of_beq_eq_true e) (by omega)
    show cond (Nat.beq n i) _ _ :: _ = _ :: _
    rw [h2, rl_lo is0 i r c' cs w (n + 1) (by omega)]
    rfl
theorem rl_st (is0 : List Nat) (i : Nat) (r : List Nat) (c' : sc) (cs : List sc) (hi : i ∉ r) : ∀ (w : List sc) (n : Nat), n ≤ i → rl is0 (i :: r) (c' :: cs) n w = rl is0 r cs n (snth w (i - n) (unrc is0 c'))
  | [], n, h => by cases h' : i - n <;> rfl
  | c :: w, n, h => by
    by_cases e : n = i
    · subst e
      rw [Nat.sub_self]
      show cond (Nat.beq n n) _ _ :: _ = slt is0 r cs n (unrc is0 c') :: _
      rw [Nat.beq_refl, slt_no is0 r cs n (unrc is0 c') hi, rl_lo is0 n r c' cs w (n + 1) (by omega)]
      rfl
    · obtain ⟨k, hk⟩ : ∃ k, i - n = k + 1 := ⟨i - n - 1, by omega⟩
      rw [hk]
      have h2 : Nat.beq n i = false := by
        cases e' : Nat.beq n i with
        | false => rfl
        | true => exact absurd (Nat.eq_of_beq_eq_true e') e
      show cond (Nat.beq n i) _ _ :: _ = slt is0 r cs n c :: rl is0 r cs (n + 1) (snth w k (unrc is0 c'))
      rw [h2, rl_st is0 i r c' cs hi w (n + 1) (by omega), show i - (n + 1) = k by omega]
      rfl
theorem putw_rl0 (is0 : List Nat) : ∀ (r : List Nat) (cs w : List sc), r.Nodup → putw is0 r w cs = rl is0 r cs 0 w
  | [], cs, w, _ => by
    have : ∀ (w : List sc) (n : Nat), rl is0 [] cs n w = w := by
      intro w
      induction w with
      | nil => intro n; rfl
      | cons c w ih => intro n; show slt is0 [] cs n c :: rl is0 [] cs (n + 1) w = _; rw [ih, slt_no is0 [] cs n c (by simp)]
    rw [this]; unfold putw; rfl
  | i :: r, [], w, _ => by
    have : ∀ (w : List sc) (n : Nat), rl is0 (i :: r) [] n w = w := by
      intro w
      induction w with
      | nil => intro n; rfl
      | cons c w ih => intro n; show slt is0 (i :: r) [] n c :: rl is0 (i :: r) [] (n + 1) w = _; rw [ih]; unfold slt; rfl
    rw [this]; unfold putw; rfl
  | i :: r, c' :: cs, w, h => by
    have h' := List.nodup_cons.mp h
    show putw is0 r (snth w i (unrc is0 c')) cs = _
    rw [putw_rl0 is0 r cs _ h'.2, rl_st is0 i r c' cs h'.1 w 0 (Nat.zero_le _), Nat.sub_zero]
theorem rl_app (is0 r : List Nat) (cs : List sc) (w2 : List sc) : ∀ (w : List sc) (n : Nat), rl is0 r cs n (w ++ w2) = rl is0 r cs n w ++ rl is0 r cs (n + w.length) w2
  | [], n => rfl
  | c :: w, n => by
    show _ :: rl is0 r cs (n + 1) (w ++ w2) = _ :: (rl is0 r cs (n + 1) w ++ _)
    rw [rl_app is0 r cs w2 w (n + 1), List.length_cons, show n + (w.length + 1) = n + 1 + w.length by omega]
theorem rl_id (is0 r : List Nat) (cs : List sc) : ∀ (w : List sc) (n : Nat), (∀ i, i ∈ r → i < n) → rl is0 r cs n w = w
  | [], n, _ => rfl
  | c :: w, n, h => by
    show slt is0 r cs n c :: rl is0 r cs (n + 1) w = _
    rw [slt_no is0 r cs n c (fun z => Nat.lt_irrefl _ (h n z)), rl_id is0 r cs w (n + 1) (fun i hi => Nat.lt_succ_of_lt (h i hi))]
theorem putw_rl {is : List Nat} {cs w w2 : List sc} {n : Nat} (h : is.Nodup) (hn : w.length = n) (hb : (is.all fun i => Nat.blt i n) = true) : putw is is (w ++ w2) cs = rl is is cs 0 w ++ w2 := by
  rw [putw_rl0 is is cs _ h, rl_app, rl_id is is cs w2 _ (fun i hi => by
    have h2 := List.all_eq_true.mp hb i hi
    rw [Nat.zero_add, hn]
    exact Nat.le_of_ble_eq_true h2)]
