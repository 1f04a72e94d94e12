/-! ===== symbolic values, cells, worlds; a step over them; its soundness =====
A value: an int, a long, a reference by the number of its cell (none: null). A cell: an object (its class's number, its fields), or an array (the number of its kind in tysL, its length, its contents). σ: the cells' addresses. -/
abbrev sv : Type := Int32 ⊕ (Int64 ⊕ Option Nat)
abbrev sI (x : Int32) : sv := .inl x
abbrev sL (x : Int64) : sv := .inr (.inl x)
abbrev sR (k : Nat) : sv := .inr (.inr (some k))
abbrev sN : sv := .inr (.inr none)
def tv (σ : Nat → Nat) : sv → Value
  | .inl x => .int x
  | .inr (.inl x) => .long x
  | .inr (.inr r) => va_rf (r.map σ)
abbrev sc : Type := (Nat × List sv) ⊕ (Nat × Nat × ((Nat → Int32) ⊕ ((Nat → Int64) ⊕ (Nat → Option Nat))))
abbrev oC (ci : Nat) (fs : List sv) : sc := .inl (ci, fs)
abbrev aI (n : Nat) (f : Nat → Int32) : sc := .inr (0, n, .inl f)
abbrev aL (n : Nat) (f : Nat → Int64) : sc := .inr (1, n, .inr (.inl f))
abbrev aZ (n : Nat) (f : Nat → Int32) : sc := .inr (2, n, .inl f)
abbrev aR (n : Nat) (f : Nat → Option Nat) : sc := .inr (3, n, .inr (.inr f))
def tc (σ : Nat → Nat) (cA : Nat → ClassId) : sc → va_E
  | .inl (ci, fs) => .inr (ci, fs.map (tv σ))
  | .inr (t, n, .inl f) => .inl (cA t, n, .inl f)
  | .inr (t, n, .inr (.inl f)) => .inl (cA t, n, .inr (.inl f))
  | .inr (t, n, .inr (.inr f)) => .inl (cA t, n, .inr (.inr (.inr (.inr (fun i => (f i).map σ)))))
def tw (σ : Nat → Nat) (cA : Nat → ClassId) : Nat → List sc → va_W
  | _, [] => []
  | k, c :: r => (σ k, tc σ cA c) :: tw σ cA (k + 1) r
def nth {α : Type} : List α → Nat → Option α
  | [], _ => none
  | a :: _, 0 => some a
  | _ :: r, n + 1 => nth r n
def snth {α : Type} : List α → Nat → α → List α
  | [], _, _ => []
  | _ :: r, 0, x => x :: r
  | a :: r, n + 1, x => a :: snth r n x
theorem nth_eq {α : Type} : ∀ (l : List α) (n : Nat), nth l n = l[n]?
  | [], n => by simp [nth]
  | a :: r, 0 => by simp [nth]
  | a :: r, n + 1 => by simp [nth, nth_eq r n]
theorem snth_eq {α : Type} : ∀ (l : List α) (n : Nat) (x : α), snth l n x = l.set n x
  | [], n, x => by simp [snth]
  | a :: r, 0, x => by simp [snth]
  | a :: r, n + 1, x => by simp [snth, snth_eq r n x]
theorem tw_nth {σ : Nat → Nat} {cA : Nat → ClassId} : ∀ {w : List sc} {k i : Nat} {c : sc}, nth w i = some c → (tw σ cA k w)[i]? = some (σ (k + i), tc σ cA c)
  | [], _, _, _, h => by cases h
  | a :: r, k, 0, c, h => by cases h; rfl
  | a :: r, k, n + 1, c, h => by
    have := tw_nth (σ := σ) (cA := cA) (w := r) (k := k + 1) (i := n) (c := c) h
    rw [show k + (n + 1) = k + 1 + n by omega]
    simpa [tw] using this
theorem tw_of {σ : Nat → Nat} {cA : Nat → ClassId} : ∀ {w : List sc} {k i : Nat} {q : Nat × va_E}, (tw σ cA k w)[i]? = some q → ∃ c, nth w i = some c ∧ q = (σ (k + i), tc σ cA c)
  | [], _, _, _, h => by simp [tw] at h
  | a :: r, k, 0, q, h => by
    simp [tw] at h
    exact ⟨a, rfl, h.symm⟩
  | a :: r, k, n + 1, q, h => by
    simp [tw] at h
    obtain ⟨c, h1, h2⟩ := tw_of h
    exact ⟨c, h1, by rw [h2, show k + (n + 1) = k + 1 + n by omega]⟩
theorem tw_snth {σ : Nat → Nat} {cA : Nat → ClassId} : ∀ (w : List sc) (k i : Nat) (c : sc), tw σ cA k (snth w i c) = (tw σ cA k w).set i (σ (k + i), tc σ cA c)
  | [], _, _, _ => rfl
  | a :: r, k, 0, c => rfl
  | a :: r, k, n + 1, c => by
    have := tw_snth (σ := σ) (cA := cA) r (k + 1) n c
    simp only [snth, tw, List.set_cons_succ]
    rw [this, show k + 1 + n = k + (n + 1) by omega]
/-! locals: a list by their numbers -/
def sl : List (Option sv) → Nat → Option sv → List (Option sv)
  | [], 0, x => [x]
  | [], n + 1, x => none :: sl [] n x
  | _ :: r, 0, x => x :: r
  | a :: r, n + 1, x => a :: sl r n x
def lk : List (Option sv) → Nat → Option sv
  | [], _ => none
  | a :: _, 0 => a
  | _ :: r, n + 1 => lk r n
def kl3 (lv : List (Option sv)) (i : Nat) : Option sv → List (Option sv)
  | some (.inr (.inl _)) => sl lv i none
  | _ => lv
def kl2 (lv : List (Option sv)) : Nat → List (Option sv)
  | 0 => lv
  | i + 1 => kl3 lv i (lk lv i)
def tl (σ : Nat → Nat) : Nat → List (Option sv) → List (Nat × Value)
  | _, [] => []
  | k, none :: r => tl σ (k + 1) r
  | k, some v :: r => (k, tv σ v) :: tl σ (k + 1) r
def msk : List Bool → List (Option sv) → List (Option sv)
  | true :: m, a :: r => a :: msk m r
  | false :: m, _ :: r => none :: msk m r
  | _ :: m, [] => none :: msk m []
  | [], _ => []
theorem lk_nil (i : Nat) : lk [] i = none := by cases i <;> rfl
theorem lk_sl : ∀ (lv : List (Option sv)) (i j : Nat) (x : Option sv), lk (sl lv i x) j = if j = i then x else lk lv j
  | [], 0, 0, x => by simp [sl, lk]
  | [], 0, j + 1, x => by simp [sl, lk]
  | [], n + 1, 0, x => by simp [sl, lk]
  | [], n + 1, j + 1, x => by simp [sl, lk, lk_sl [] n j x, lk_nil]
  | a :: r, 0, 0, x => by simp [sl, lk]
  | a :: r, 0, j + 1, x => by simp [sl, lk]
  | a :: r, n + 1, 0, x => by simp [sl, lk]
  | a :: r, n + 1, j + 1, x => by simp [sl, lk, lk_sl r n j x]
theorem lk_kl2 (lv : List (Option sv)) (i j : Nat) (v : sv) (h : lk (kl2 lv i) j = some v) : lk lv j = some v ∧ (j + 1 = i → (∀ y, v ≠ .inr (.inl y))) := by
  cases i with
  | zero => exact ⟨h, fun e => by omega⟩
  | succ i =>
    simp only [kl2] at h
    cases hl : lk lv i with
    | none =>
      rw [hl] at h
      refine ⟨h, fun e => ?_⟩
      have : j = i := by omega
      subst this
      have h' : lk lv j = some v := h
      rw [hl] at h'; cases h'
    | some x =>
      rw [hl] at h
      rcases x with x | x | x
      · refine ⟨h, fun e y hy => ?_⟩
        have : j = i := by omega
        subst this
        have h' : lk lv j = some v := h
        rw [hl] at h'; cases h'; cases hy
      · have h' : lk (sl lv i none) j = some v := h
        rw [lk_sl] at h'
        by_cases e : j = i
        · rw [if_pos e] at h'; cases h'
        · rw [if_neg e] at h'
          exact ⟨h', fun e2 => absurd (by omega) e⟩
      · refine ⟨h, fun e y hy => ?_⟩
        have : j = i := by omega
        subst this
        have h' : lk lv j = some v := h
        rw [hl] at h'; cases h'; cases hy
theorem lk_msk : ∀ (mm : List Bool) (lv : List (Option sv)) (i : Nat) (v : sv), lk (msk mm lv) i = some v → lk lv i = some v
  | [], lv, i, v, h => by simp [msk, lk_nil] at h
  | true :: mm, [], 0, v, h => by simp [msk, lk] at h
  | false :: mm, [], 0, v, h => by simp [msk, lk] at h
  | true :: mm, [], i + 1, v, h => by
    have := lk_msk mm [] i v h
    rw [lk_nil] at this; cases this
  | false :: mm, [], i + 1, v, h => by
    have := lk_msk mm [] i v h
    rw [lk_nil] at this; cases this
  | true :: mm, a :: r, 0, v, h => h
  | true :: mm, a :: r, i + 1, v, h => lk_msk mm r i v h
  | false :: mm, a :: r, 0, v, h => by simp [msk, lk] at h
  | false :: mm, a :: r, i + 1, v, h => lk_msk mm r i v h
theorem tl_mem {σ : Nat → Nat} : ∀ {lv : List (Option sv)} {k i : Nat} {v : sv}, lk lv i = some v → (k + i, tv σ v) ∈ tl σ k lv
  | [], k, i, v, h => by rw [lk_nil] at h; cases h
  | none :: r, k, 0, v, h => by simp [lk] at h
  | some a :: r, k, 0, v, h => by simp [lk] at h; subst h; simp [tl]
  | none :: r, k, i + 1, v, h => by
    have := tl_mem (σ := σ) (k := k + 1) (show lk r i = some v from h)
    rw [show k + (i + 1) = k + 1 + i by omega]; exact this
  | some a :: r, k, i + 1, v, h => by
    have := tl_mem (σ := σ) (k := k + 1) (show lk r i = some v from h)
    rw [show k + (i + 1) = k + 1 + i by omega]; exact List.mem_cons_of_mem _ this
theorem tl_of {σ : Nat → Nat} : ∀ {lv : List (Option sv)} {k : Nat} {q : Nat × Value}, q ∈ tl σ k lv → ∃ i v, q = (k + i, tv σ v) ∧ lk lv i = some v
  | [], k, q, h => by simp [tl] at h
  | none :: r, k, q, h => by
    obtain ⟨i, v, h1, h2⟩ := tl_of (show q ∈ tl σ (k + 1) r from h)
    exact ⟨i + 1, v, by rw [h1, show k + 1 + i = k + (i + 1) by omega], h2⟩
  | some a :: r, k, q, h => by
    rcases List.mem_cons.mp (show q ∈ (k, tv σ a) :: tl σ (k + 1) r from h) with h | h
    · exact ⟨0, a, h, rfl⟩
    · obtain ⟨i, v, h1, h2⟩ := tl_of h
      exact ⟨i + 1, v, by rw [h1, show k + 1 + i = k + (i + 1) by omega], h2⟩
theorem tv_cat (σ : Nat → Nat) (v : sv) (h : ∀ y, v ≠ .inr (.inl y)) : (tv σ v).category = 1 := by
  rcases v with x | x | x
  · rfl
  · exact absurd rfl (h x)
  · cases x <;> rfl
theorem lvh_sub {ls : Array Slot} {nL : Nat} {l l' : List (Nat × Value)} (h : lv_has ls nL l) (hs : ∀ q ∈ l', q ∈ l) : lv_has ls nL l' := ⟨h.1, h.2.1, fun q hq => h.2.2 q (hs q hq)⟩
theorem tl_sub {σ : Nat → Nat} {lv lv' : List (Option sv)} (h : ∀ i v, lk lv' i = some v → lk lv i = some v) : ∀ q ∈ tl σ 0 lv', q ∈ tl σ 0 lv := by
  intro q hq
  obtain ⟨i, v, h1, h2⟩ := tl_of hq
  rw [h1]; exact tl_mem (h i v h2)
theorem tl_st1 {σ : Nat → Nat} {lv : List (Option sv)} {i : Nat} {v : sv} : ∀ q ∈ tl σ 0 (sl (kl2 lv i) i (some v)), q ∈ (i, tv σ v) :: (tl σ 0 lv).filter (fun q => !(q.1 == i) && !(q.1 + 1 == i && q.2.category == 2)) := by
  intro q hq
  obtain ⟨j, u, h1, h2⟩ := tl_of hq
  rw [lk_sl] at h2
  by_cases e : j = i
  · rw [if_pos e] at h2; cases h2
    rw [h1, e, Nat.zero_add]; exact List.mem_cons_self
  · rw [if_neg e] at h2
    obtain ⟨h3, h4⟩ := lk_kl2 _ _ _ _ h2
    refine List.mem_cons_of_mem _ (List.mem_filter.mpr ⟨?_, ?_⟩)
    · rw [h1]; exact tl_mem h3
    · rw [h1]
      simp only [Nat.zero_add]
      by_cases e2 : j + 1 = i
      · simp [e, tv_cat σ u (h4 e2)]
      · simp [e, e2]
theorem tl_st2 {σ : Nat → Nat} {lv : List (Option sv)} {i : Nat} {v : sv} : ∀ q ∈ tl σ 0 (sl (sl (kl2 lv i) i (some v)) (i + 1) none), q ∈ (i, tv σ v) :: (tl σ 0 lv).filter (fun q => !(q.1 == i) && (!(q.1 == i + 1) && !(q.1 + 1 == i && q.2.category == 2))) := by
  intro q hq
  obtain ⟨j, u, h1, h2⟩ := tl_of hq
  rw [lk_sl] at h2
  by_cases e0 : j = i + 1
  · rw [if_pos e0] at h2; cases h2
  rw [if_neg e0, lk_sl] at h2
  by_cases e : j = i
  · rw [if_pos e] at h2; cases h2
    rw [h1, e, Nat.zero_add]; exact List.mem_cons_self
  · rw [if_neg e] at h2
    obtain ⟨h3, h4⟩ := lk_kl2 _ _ _ _ h2
    refine List.mem_cons_of_mem _ (List.mem_filter.mpr ⟨?_, ?_⟩)
    · rw [h1]; exact tl_mem h3
    · rw [h1]
      simp only [Nat.zero_add]
      by_cases e2 : j + 1 = i
      · simp [e, e0, tv_cat σ u (h4 e2)]
      · simp [e, e0, e2]
/-! what a step takes -/
def pI : List sv → (Int32 → List sv → Prop) → Prop
  | .inl x :: r, f => f x r
  | _, _ => False
def pL : List sv → (Int64 → List sv → Prop) → Prop
  | .inr (.inl x) :: r, f => f x r
  | _, _ => False
def pR : List sv → (Nat → List sv → Prop) → Prop
  | .inr (.inr (some x)) :: r, f => f x r
  | _, _ => False
def pA : List sv → (sv → List sv → Prop) → Prop
  | .inl x :: r, f => f (.inl x) r
  | .inr (.inr x) :: r, f => f (.inr (.inr x)) r
  | _, _ => False
def lI : Option sv → (Int32 → Prop) → Prop
  | some (.inl x), f => f x
  | _, _ => False
def lL : Option sv → (Int64 → Prop) → Prop
  | some (.inr (.inl x)), f => f x
  | _, _ => False
def lR : Option sv → (Nat → Prop) → Prop
  | some (.inr (.inr (some x))), f => f x
  | _, _ => False
def oO {α : Type} : Option α → (α → Prop) → Prop
  | some x, f => f x
  | none, _ => False
def oP : Option (Instr × Nat × Nat × Int32) → (Instr → Nat → Nat → Int32 → Prop) → Prop
  | some (i, nx, tg, li), f => f i nx tg li
  | none, _ => False
def oF : Option (Nat × Nat × Nat) → (Nat → Nat → Nat → Prop) → Prop
  | some (a, b, c), f => f a b c
  | none, _ => False
/-- a check that is computed -/
def ck : Bool → Prop → Prop
  | true, A => A
  | false, _ => False
theorem ck_e {b : Bool} {A : Prop} (h : ck b A) : b = true ∧ A := by
  cases b with
  | true => exact ⟨rfl, h⟩
  | false => exact h.elim
def cq (a b : Nat) (A : Prop) : Prop := ck (Nat.beq a b) A
theorem cq_e {a b : Nat} {A : Prop} (h : cq a b A) : a = b ∧ A := ⟨Nat.eq_of_beq_eq_true (ck_e h).1, (ck_e h).2⟩
def okv : Nat → sv → Prop → Prop
  | 0, .inl _, A => A
  | 1, .inl x, A => (x = 0 ∨ x = 1) ∧ A
  | 2, .inr (.inr (some _)), A => A
  | _, _, _ => False
/-- the answer of a method of ints (1) or of booleans (2) -/
def rz : Nat → Int32 → Prop → Prop
  | 1, _, A => A
  | 2, x, A => (x = 0 ∨ x = 1) ∧ A
  | _, _, _ => False
theorem rz_e {rk : Nat} {x : Int32} {A : Prop} (h : rz rk x A) : ((rk = 2 ∧ (x = 0 ∨ x = 1)) ∨ rk = 1) ∧ A := by
  unfold rz at h; split at h
  · exact ⟨Or.inr rfl, h⟩
  · exact ⟨Or.inl ⟨rfl, h.1⟩, h.2⟩
  · exact h.elim
def cO : Option sc → (Nat → List sv → Prop) → Prop
  | some (.inl (ci, fs)), f => f ci fs
  | _, _ => False
def cI (t : Nat) : Option sc → (Nat → (Nat → Int32) → Prop) → Prop
  | some (.inr (t', n, .inl g)), f => cq t' t (f n g)
  | _, _ => False
def cL : Option sc → (Nat → (Nat → Int64) → Prop) → Prop
  | some (.inr (t', n, .inr (.inl g))), f => cq t' 1 (f n g)
  | _, _ => False
def cR : Option sc → (Nat → (Nat → Option Nat) → Prop) → Prop
  | some (.inr (t', n, .inr (.inr g))), f => cq t' 3 (f n g)
  | _, _ => False
def cN : Option sc → (Nat → Prop) → Prop
  | some (.inr (t', n, g)), f => ck (Nat.blt t' 4) (f n)
  | _, _ => False
def rI : List sv → (Int32 → Prop) → Prop
  | [.inl x], f => f x
  | _, _ => False
def rL : List sv → (Int64 → Prop) → Prop
  | [.inr (.inl x)], f => f x
  | _, _ => False
def rR : List sv → (Nat → Prop) → Prop
  | [.inr (.inr (some x))], f => f x
  | _, _ => False
def rV : List sv → Prop → Prop
  | [], f => f
  | _, _ => False
theorem pI_e {st : List sv} {f : Int32 → List sv → Prop} (h : pI st f) : ∃ x r, st = .inl x :: r ∧ f x r := by
  unfold pI at h; split at h
  · exact ⟨_, _, rfl, h⟩
  · exact h.elim
theorem pL_e {st : List sv} {f : Int64 → List sv → Prop} (h : pL st f) : ∃ x r, st = .inr (.inl x) :: r ∧ f x r := by
  unfold pL at h; split at h
  · exact ⟨_, _, rfl, h⟩
  · exact h.elim
theorem pR_e {st : List sv} {f : Nat → List sv → Prop} (h : pR st f) : ∃ x r, st = .inr (.inr (some x)) :: r ∧ f x r := by
  unfold pR at h; split at h
  · exact ⟨_, _, rfl, h⟩
  · exact h.elim
theorem pA_e {st : List sv} {f : sv → List sv → Prop} (h : pA st f) : ∃ x r, st = x :: r ∧ (∀ y, x ≠ .inr (.inl y)) ∧ f x r := by
  unfold pA at h; split at h
  · exact ⟨_, _, rfl, (fun y e => by cases e), h⟩
  · exact ⟨_, _, rfl, (fun y e => by cases e), h⟩
  · exact h.elim
theorem lI_e {o : Option sv} {f : Int32 → Prop} (h : lI o f) : ∃ x, o = some (.inl x) ∧ f x := by
  unfold lI at h; split at h
  · exact ⟨_, rfl, h⟩
  · exact h.elim
theorem lL_e {o : Option sv} {f : Int64 → Prop} (h : lL o f) : ∃ x, o = some (.inr (.inl x)) ∧ f x := by
  unfold lL at h; split at h
  · exact ⟨_, rfl, h⟩
  · exact h.elim
theorem lR_e {o : Option sv} {f : Nat → Prop} (h : lR o f) : ∃ x, o = some (.inr (.inr (some x))) ∧ f x := by
  unfold lR at h; split at h
  · exact ⟨_, rfl, h⟩
  · exact h.elim
theorem oO_e {α : Type} {o : Option α} {f : α → Prop} (h : oO o f) : ∃ x, o = some x ∧ f x := by
  cases o with
  | none => exact h.elim
  | some x => exact ⟨x, rfl, h⟩
theorem oP_e {o : Option (Instr × Nat × Nat × Int32)} {f : Instr → Nat → Nat → Int32 → Prop} (h : oP o f) : ∃ i nx tg li, o = some (i, nx, tg, li) ∧ f i nx tg li := by
  unfold oP at h; split at h
  · exact ⟨_, _, _, _, rfl, h⟩
  · exact h.elim
theorem oF_e {o : Option (Nat × Nat × Nat)} {f : Nat → Nat → Nat → Prop} (h : oF o f) : ∃ a b c, o = some (a, b, c) ∧ f a b c := by
  unfold oF at h; split at h
  · exact ⟨_, _, _, rfl, h⟩
  · exact h.elim
theorem cO_e {o : Option sc} {f : Nat → List sv → Prop} (h : cO o f) : ∃ ci fs, o = some (.inl (ci, fs)) ∧ f ci fs := by
  unfold cO at h; split at h
  · exact ⟨_, _, rfl, h⟩
  · exact h.elim
theorem cI_e {t : Nat} {o : Option sc} {f : Nat → (Nat → Int32) → Prop} (h : cI t o f) : ∃ n g, o = some (.inr (t, n, .inl g)) ∧ f n g := by
  unfold cI at h; split at h
  · obtain ⟨e1, h2⟩ := cq_e h; subst e1; exact ⟨_, _, rfl, h2⟩
  · exact h.elim
theorem cL_e {o : Option sc} {f : Nat → (Nat → Int64) → Prop} (h : cL o f) : ∃ n g, o = some (.inr (1, n, .inr (.inl g))) ∧ f n g := by
  unfold cL at h; split at h
  · obtain ⟨e1, h2⟩ := cq_e h; subst e1; exact ⟨_, _, rfl, h2⟩
  · exact h.elim
theorem cR_e {o : Option sc} {f : Nat → (Nat → Option Nat) → Prop} (h : cR o f) : ∃ n g, o = some (.inr (3, n, .inr (.inr g))) ∧ f n g := by
  unfold cR at h; split at h
  · obtain ⟨e1, h2⟩ := cq_e h; subst e1; exact ⟨_, _, rfl, h2⟩
  · exact h.elim
theorem cN_e {o : Option sc} {f : Nat → Prop} (h : cN o f) : ∃ t n g, o = some (.inr (t, n, g)) ∧ t < 4 ∧ f n := by
  unfold cN at h; split at h
  · exact ⟨_, _, _, rfl, Nat.le_of_ble_eq_true (ck_e h).1, (ck_e h).2⟩
  · exact h.elim
theorem rI_e {o : List sv} {f : Int32 → Prop} (h : rI o f) : ∃ x, o = [.inl x] ∧ f x := by
  unfold rI at h; split at h
  · exact ⟨_, rfl, h⟩
  · exact h.elim
theorem rL_e {o : List sv} {f : Int64 → Prop} (h : rL o f) : ∃ x, o = [.inr (.inl x)] ∧ f x := by
  unfold rL at h; split at h
  · exact ⟨_, rfl, h⟩
  · exact h.elim
theorem rR_e {o : List sv} {f : Nat → Prop} (h : rR o f) : ∃ x, o = [.inr (.inr (some x))] ∧ f x := by
  unfold rR at h; split at h
  · exact ⟨_, rfl, h⟩
  · exact h.elim
theorem rV_e {o : List sv} {f : Prop} (h : rV o f) : o = [] ∧ f := by
  unfold rV at h; split at h
  · exact ⟨rfl, h⟩
  · exact h.elim
def jrem (x y : Int32) : Int32 := x - x / y * y
def jremL (x y : Int64) : Int64 := x - x / y * y
def jshl (x y : Int32) : Int32 := x <<< (y &&& 31)
def jshr (x y : Int32) : Int32 := x >>> (y &&& 31)
def jushr (x y : Int32) : Int32 := (x.toUInt32 >>> (y.toUInt32 &&& Int32.toUInt32 31)).toInt32
def tsw (pc : Nat) (x : Int32) : Int → List Int → (Nat → Prop) → Prop
  | _, [], _ => True
  | lo, o :: os, K => (x = Int32.ofInt lo → K ((pc : Int) + o).toNat) ∧ tsw pc x (lo + 1) os K
def lsw (pc : Nat) (x : Int32) : List (Int × Int) → Int → (Nat → Prop) → Prop
  | [], d, K => K ((pc : Int) + d).toNat
  | (a, o) :: r, d, K => (Int32.ofInt a).toInt = a ∧ (x = Int32.ofInt a → K ((pc : Int) + o).toNat) ∧ (¬ x = Int32.ofInt a → lsw pc x r d K)
abbrev Kt : Type := Nat → List (Option sv) → List sv → List sc → Prop
def jc (c : Jvm.ClassFile.Cond) (x y : Int32) (A B : Prop) : Prop := match c with
  | .eq => (x = y → A) ∧ (¬ x = y → B)
  | .ne => (¬ x = y → A) ∧ (x = y → B)
  | .lt => (x < y → A) ∧ (¬ x < y → B)
  | .ge => (y ≤ x → A) ∧ (¬ y ≤ x → B)
  | .gt => (y < x → A) ∧ (¬ y < x → B)
  | .le => (x ≤ y → A) ∧ (¬ x ≤ y → B)
