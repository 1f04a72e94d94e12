/-! ===== steps that make cells: the world grows, the addresses with it ===== -/
abbrev Kz : Type := Nat → List (Option sv) → List sv → List sc → Nat → Nat → Prop
abbrev Clz : Type := Nat → List (Option sv) → List sv → List sc → Nat → Nat → (List sv → List sc → Nat → Nat → Prop) → Prop
abbrev Nwt : Type := Nat → Option (Nat × List sv × Nat)
def okB (n : Nat) : sv → Bool
  | .inr (.inr (some k)) => Nat.blt k n || Nat.beq k 1000
  | _ => true
def okO (n : Nat) : Option sv → Bool
  | some v => okB n v
  | none => true
def okC (n : Nat) : sc → Prop
  | .inl (_, fs) => fs.all (okB n) = true
  | .inr (_, _, .inr (.inr f)) => ∀ i k, f i = some k → k < n
  | _ => True
def okW (n : Nat) : List sc → Prop
  | [] => True
  | c :: r => okC n c ∧ okW n r
def okA (n : Nat) (lv : List (Option sv)) (st : List sv) (w : List sc) : Prop := (lv.all (okO n) = true ∧ st.all (okB n) = true) ∧ okW n w
def ag (n : Nat) (σ σ' : Nat → Nat) : Prop := ∀ i, (i < n ∨ i = 1000) → σ' i = σ i
theorem ag.rf (n : Nat) (σ : Nat → Nat) : ag n σ σ := fun _ _ => rfl
theorem ag.tr {n0 n : Nat} {σ0 σ σ' : Nat → Nat} (h0 : ag n0 σ0 σ) (h : ag n σ σ') (hn : n0 ≤ n) : ag n0 σ0 σ' := fun i hi => (h i (hi.elim (fun z => Or.inl (by omega)) Or.inr)).trans (h0 i hi)
section AG
variable {n : Nat} {σ σ' : Nat → Nat} {cA : Nat → ClassId}
theorem okB_e {k : Nat} (h : okB n (.inr (.inr (some k))) = true) : k < n ∨ k = 1000 := by
  rcases Bool.or_eq_true_iff.mp (show (Nat.blt k n || Nat.beq k 1000) = true from h) with z | z
  · exact Or.inl (Nat.le_of_ble_eq_true z)
  · exact Or.inr (Nat.eq_of_beq_eq_true z)
theorem tv_ag (h : ag n σ σ') {v : sv} (hv : okB n v = true) : tv σ' v = tv σ v := by
  rcases v with x | x | x
  · rfl
  · rfl
  · cases x with
    | none => rfl
    | some k => show va_rf (some (σ' k)) = va_rf (some (σ k)); rw [h k (okB_e hv)]
theorem st_ag (h : ag n σ σ') : ∀ {st : List sv}, st.all (okB n) = true → st.map (tv σ') = st.map (tv σ)
  | [], _ => rfl
  | v :: r, hv => by
    rw [List.all_cons, Bool.and_eq_true] at hv
    rw [List.map_cons, List.map_cons, tv_ag h hv.1, st_ag h hv.2]
theorem tl_ag (h : ag n σ σ') : ∀ {lv : List (Option sv)} {k : Nat}, lv.all (okO n) = true → tl σ' k lv = tl σ k lv
  | [], _, _ => rfl
  | none :: r, k, hv => by
    rw [List.all_cons, Bool.and_eq_true] at hv
    exact tl_ag h (lv := r) (k := k + 1) hv.2
  | some v :: r, k, hv => by
    rw [List.all_cons, Bool.and_eq_true] at hv
    show (k, tv σ' v) :: tl σ' (k + 1) r = (k, tv σ v) :: tl σ (k + 1) r
    rw [tv_ag h hv.1, tl_ag h (lv := r) (k := k + 1) hv.2]
theorem tc_ag (h : ag n σ σ') {c : sc} (hc : okC n c) : tc σ' cA c = tc σ cA c := by
  rcases c with ⟨ci, fs⟩ | ⟨t, m, f | f | f⟩
  · exact congrArg (fun z => (.inr (ci, z) : va_E)) (st_ag h hc)
  · rfl
  · rfl
  · have e : (fun i => (f i).map σ') = (fun i => (f i).map σ) := by
      funext i
      cases hf : f i with
      | none => rfl
      | some k => show some (σ' k) = some (σ k); rw [h k (Or.inl (hc i k hf))]
    show (.inl (cA t, m, .inr (.inr (.inr (.inr (fun i => (f i).map σ'))))) : va_E) = _
    rw [e]
    rfl
theorem tw_ag (h : ag n σ σ') : ∀ {w : List sc} {k : Nat}, okW n w → k + w.length ≤ n → tw σ' cA k w = tw σ cA k w
  | [], _, _, _ => rfl
  | c :: r, k, hc, hk => by
    rw [List.length_cons] at hk
    show (σ' k, tc σ' cA c) :: tw σ' cA (k + 1) r = (σ k, tc σ cA c) :: tw σ cA (k + 1) r
    rw [h k (Or.inl (by omega)), tc_ag h hc.1, tw_ag h hc.2 (by omega)]
theorem tw_app : ∀ {w : List sc} {v : List sc} {k : Nat}, tw σ cA k (w ++ v) = tw σ cA k w ++ tw σ cA (k + w.length) v
  | [], v, k => rfl
  | c :: r, v, k => by
    show (σ k, tc σ cA c) :: tw σ cA (k + 1) (r ++ v) = (σ k, tc σ cA c) :: (tw σ cA (k + 1) r ++ _)
    rw [tw_app, List.length_cons, show k + 1 + r.length = k + (r.length + 1) by omega]
/-- a fresh address -/
def fr (σ : Nat → Nat) (n q : Nat) : Nat → Nat := fun i => if i = n then q else σ i
theorem fr_n {q : Nat} : fr σ n q n = q := if_pos rfl
theorem fr_ag {q : Nat} (hn : n < 1000) : ag n σ (fr σ n q) := fun i hi => if_neg (by omega)
theorem tw_push {w : List sc} {c : sc} {q : Nat} (hn : w.length < 1000) (hw : okW w.length w) : tw (fr σ w.length q) cA 0 (w ++ [c]) = tw σ cA 0 w ++ [(q, tc (fr σ w.length q) cA c)] := by
  rw [tw_app, tw_ag (fr_ag hn) hw (by omega)]
  show _ ++ [(fr σ w.length q (0 + w.length), _)] = _
  rw [Nat.zero_add, fr_n]
end AG
