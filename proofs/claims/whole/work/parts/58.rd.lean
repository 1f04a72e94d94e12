/-! ===== a call on a part of the world that leaves it as it was ===== -/
def Frd (F : Fn) : Fn := fun as w K => F as w fun r wc => wc = w ∧ K r w
theorem Qg_mono {D : va_G} {σ : Nat → Nat} {cA : Nat → ClassId} {A : Nat → Prop} {K K' : Option sv → List sc → Prop} (h : ∀ r w, K r w → K' r w) (a : Array Value) (s : State) (oc : Outcome) (t : State) (q : Qg D σ cA A K a s oc t) : Qg D σ cA A K' a s oc t := by
  obtain ⟨⟨r, w', h1, h2, h3⟩, h4⟩ := q
  exact ⟨⟨r, w', h1, h _ _ h2, h3⟩, h4⟩
theorem RunOK_rd {cc : ByteArray} {nL : Nat} {rt : Option FieldType} {own : String} {d pc : Nat} {vk : Option Nat} {na : Nat} {F : Fn} (h : RunOK cc nL rt own d pc vk na F) : RunOK cc nL rt own d pc vk na (Frd F) := by
  intro p l e s m args below meth c D σ cA X hnw H locs ls as w K B restV hF hlen hrok hP hD hls hrc
  have hr := h p l e s m args below meth c D σ cA X hnw H locs ls as w _ B restV hF hlen hrok hP hD hls hrc
  intro T hT X1
  obtain ⟨v, st₀, t, T', L, h0, X', hL, e1, e2, hq, st⟩ := hr T hT X1
  exact ⟨v, st₀, t, T', L, h0, X', hL, e1, e2, Qg_mono (fun r w' z => z.1 ▸ z.2) _ _ _ _ hq, st⟩
theorem popN_m {f g : List sv → List sv → Prop} (hh : ∀ a r, f a r → g a r) : ∀ {n : Nat} {st acc : List sv}, popN n st acc f → popN n st acc g
  | 0, st, acc, h => hh _ _ h
  | n + 1, [], acc, h => h.elim
  | n + 1, v :: st, acc, h => popN_m hh (n := n) (st := st) (acc := v :: acc) h
theorem ck_i {b : Bool} {A B : Prop} (h : ck b A) (hh : A → B) : ck b B := by
  cases b with
  | true => exact hh h
  | false => exact h.elim
theorem ck_1 {b : Bool} {A : Prop} (hb : b = true) (h : A) : ck b A := by rw [hb]; exact h
theorem rok_i {vk : Option Nat} {as : List sv} {w : List sc} {A B : Prop} (h : rok vk as w A) (hh : A → B) : rok vk as w B := by
  unfold rok at h ⊢
  split at h
  · exact hh h
  · rename_i ci k x
    cases hn : nth w k with
    | none => rw [hn] at h; exact h.elim
    | some c =>
      rw [hn] at h
      rcases c with ⟨cj, fs⟩ | c
      · exact ck_i (show ck _ _ from h) hh
      · exact h.elim
  · exact h.elim
theorem pick_i : ∀ {is : List Nat} {w cs : List sc} {g : List sc → Prop}, cs.length = is.length → (∀ k i, nth is k = some i → ∃ c, nth w i = some c ∧ nth cs k = some c) → g cs → pick is w g
  | [], w, [], g, _, _, h => h
  | [], w, c :: cs, g, hl, _, h => by simp at hl
  | i :: r, w, [], g, hl, _, h => by simp at hl
  | i :: r, w, c :: cs, g, hl, hc, h => by
    obtain ⟨c', h1, h2⟩ := hc 0 i rfl
    cases h2
    show oO (nth w i) _
    rw [h1]
    exact pick_i (is := r) (w := w) (cs := cs) (g := fun cs => g (c :: cs)) (by simpa using hl) (fun k j hk => hc (k + 1) j hk) h
theorem unrv_ren (is : List Nat) (v : sv) : unrv is (renv is v) = v := by
  rcases v with x | x | x
  · rfl
  · rfl
  · cases x with
    | none => rfl
    | some x => simp [renv, unrv, un_rn]
theorem unrc_ren (is : List Nat) (c : sc) : unrc is (renc is c) = c := by
  rcases c with ⟨ci, fs⟩ | ⟨t, n, f | f | f⟩
  · simp only [renc, unrc, List.map_map]
    rw [show (unrv is ∘ renv is) = id from funext (fun v => unrv_ren is v)]
    simp
  · rfl
  · rfl
  · have e : (fun i => ((f i).map (rn is)).map (un is)) = f := by
      funext i
      cases f i with
      | none => rfl
      | some x => simp [un_rn]
    simp only [renc, unrc]
    rw [e]
theorem snth_same {α : Type} : ∀ (l : List α) (i : Nat) (c : α), nth l i = some c → snth l i c = l
  | [], i, c, h => by cases i <;> cases h
  | a :: r, 0, c, h => by cases h; rfl
  | a :: r, i + 1, c, h => by
    show a :: snth r i c = a :: r
    rw [snth_same r i c h]
theorem putw_same (is0 : List Nat) : ∀ {r : List Nat} {w cs : List sc}, cs.length = r.length → (∀ k i, nth r k = some i → ∃ c, nth w i = some c ∧ nth cs k = some c) → putw is0 r w (cs.map (renc is0)) = w
  | [], w, cs, hl, _ => by
    cases cs with
    | nil => rfl
    | cons => simp at hl
  | i :: r, w, [], hl, _ => by simp at hl
  | i :: r, w, c :: cs, hl, hc => by
    obtain ⟨c', h1, h2⟩ := hc 0 i rfl
    cases h2
    show putw is0 r (snth w i (unrc is0 (renc is0 c))) (cs.map (renc is0)) = w
    rw [unrc_ren, snth_same w i c h1]
    exact putw_same is0 (by simpa using hl) (fun k j hk => hc (k + 1) j hk)
def cQ (is : List Nat) (vk : Option Nat) (na : Nat) (F : Fn) (st : List sv) (w : List sc) (kk : List sv → List sc → Prop) : Prop :=
  popN na st [] fun as rest => ck (Nat.ble (rcat rest) 8) (pick is w fun cs => rok vk (as.map (renv is)) (cs.map (renc is)) (F (as.map (renv is)) (cs.map (renc is)) fun r wc => wc = cs.map (renc is) ∧ kk (oL (r.map (unrv is)) ++ rest) w))
theorem site_q {cc : ByteArray} {nL d pc na : Nat} {rt : Option FieldType} {own : String} {vk : Option Nat} {F : Fn} (is : List Nat) (hn : va_nd is = true) (hR : RunOK cc nL rt own d pc vk na F) : SiteOK cc nL rt own d pc (cQ is vk na F) := by
  have hg := site_gen is hn (RunOK_rd hR)
  intro p l e s m args below meth c D σ cA A Q X hnw hA st w kk h lv hk
  refine hg p l e s m args below meth c D σ cA A Q X hnw hA st w kk (popN_m (fun as rest h => ck_i h (fun h => ?_)) h) lv hk
  obtain ⟨cs, h1, h2, h3⟩ := pick_e h
  refine pick_i h2 h3 (rok_i h1 (fun h1 => ?_))
  have e : (fun (r : Option sv) (wc : List sc) => wc = cs.map (renc is) ∧ kk (oL (r.map (unrv is)) ++ rest) w) = (fun r wc => wc = cs.map (renc is) ∧ ck (Nat.beq is.length (cs.map (renc is)).length) (kk (oL (r.map (unrv is)) ++ rest) (putw is is w (cs.map (renc is))))) := by
    funext r wc
    rw [putw_same is h2 h3, show Nat.beq is.length (cs.map (renc is)).length = true by rw [List.length_map, h2]; exact Nat.beq_refl _]
    rfl
  rw [e] at h1
  exact h1
