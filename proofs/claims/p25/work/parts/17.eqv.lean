def mixA (n : Nat) (f g : AI) : AI := fun k => if k < n then f k else g k
def mix (n : Nat) (f g : Nat → Nat) : Nat → Nat := fun k => if k < n then f k else g k
theorem mixA_I (n : Nat) (f g : Nat → Nat) : mixA n (I f) (I g) = I (mix n f g) := by
  funext k
  by_cases q : k < n <;> simp [mixA, mix, I, q]
theorem cpy_mix (n : Nat) (f g : AI) : va_cpy f g 0 0 n = mixA n f g := by
  funext k
  by_cases q : k < n <;> simp [va_cpy, mixA, q]
theorem mixA_step {f g : AI} {k : Nat} : upd (mixA k f g) k (f k) = mixA (k + 1) f g := by
  funext j
  by_cases q : j = k
  · subst q; simp [upd, mixA]
  · by_cases z : j < k
    · simp [upd, mixA, q, z, Nat.lt_succ_of_lt z]
    · simp [upd, mixA, q, z]; omega
theorem mixA_0 {f g : AI} : mixA 0 f g = g := by funext j; simp [mixA]
theorem mix_lt {n k : Nat} {f g : Nat → Nat} (h : k < n) : mix n f g k = f k := if_pos h
def eqv (h c h' c' : Nat → Nat) : Prop := (∀ i, i < 6 → h i = h' i) ∧ ∀ k, k < 30 → c k = c' k
theorem eqv_mix {h c f g : Nat → Nat} : eqv (mix 6 h f) (mix 30 c g) h c := ⟨fun _ q => mix_lt q, fun _ q => mix_lt q⟩
theorem ok_eqv {h c h' c' : Nat → Nat} (e : eqv h c h' c') (k : ok h' c') : ok h c := by
  refine ⟨fun i hi => by rw [e.1 i hi]; exact k.1 i hi, fun i j hi hj => ?_⟩
  rw [e.1 i hi] at hj
  have := k.1 i hi
  rw [e.2 _ (by omega)]
  exact k.2 i j hi hj
theorem findJ_eqv {c c' : Nat → Nat} {x : Int32} {i : Nat} (e : ∀ k, k < 30 → c k = c' k) (hi : i < 6) : ∀ (m j : Nat), j + m ≤ 5 → findJ c x i j m = findJ c' x i j m
  | 0, _, _ => rfl
  | m + 1, j, h => by rw [findJ, findJ, findJ_eqv e hi m (j + 1) (by omega), e _ (by omega)]
theorem findI_eqv {h c h' c' : Nat → Nat} {x : Int32} (e : eqv h c h' c') (h5 : ∀ i, i < 6 → h' i ≤ 5) : ∀ (m i : Nat), i + m = 6 → findI h c x i m = findI h' c' x i m
  | 0, _, _ => rfl
  | m + 1, i, hm => by
    have := h5 i (by omega)
    rw [findI, findI, findI_eqv e h5 m (i + 1) (by omega), e.1 i (by omega), findJ_eqv e.2 (by omega) (h' i) 0 (by omega)]
theorem find_eqv {h c h' c' : Nat → Nat} {x : Int32} (e : eqv h c h' c') (h5 : ∀ i, i < 6 → h' i ≤ 5) : find h c x = find h' c' x := findI_eqv e h5 6 0 rfl
theorem top_eqv {h c h' c' : Nat → Nat} {i : Nat} (e : eqv h c h' c') (h5 : ∀ i, i < 6 → h' i ≤ 5) (hi : i < 6) : top h c i = top h' c' i := by
  have := h5 i hi
  unfold top
  rw [e.1 i hi, e.2 _ (by omega)]
theorem canB_eqv {h c h' c' : Nat → Nat} {w w' : AI} {m i : Nat} {x : Int32} (e : eqv h c h' c') (ew : ∀ k, k < 30 → w k = w' k) (k : ok h' c') (hi : i < 6) : canB h c w m x i = canB h' c' w' m x i := by
  unfold canB
  rw [top_eqv e k.1 hi, e.1 i hi]
  by_cases q : h' i = 0
  · simp [q]
  · rw [ew _ (top_lt k hi (by omega))]
theorem tgt_eqv {can can' : Nat → Bool} {h h' : Nat → Nat} (ec : ∀ s, s < 6 → can s = can' s) (eh : ∀ s, s < 6 → h s = h' s) : ∀ (n s : Nat) (b : Option Nat), s + n = 6 → (∀ z, b = some z → z < 6) → tgt can h s n b = tgt can' h' s n b
  | 0, _, _, _, _ => rfl
  | n + 1, s, b, hs, hb => by
    have e2 : better h b s = better h' b s := by
      cases b with
      | none => rfl
      | some z => unfold better; simp only; rw [eh s (by omega), eh z (hb z rfl)]
    rw [tgt, tgt, ec s (by omega), e2]
    refine tgt_eqv ec eh n (s + 1) _ (by omega) (fun z hz => ?_)
    by_cases q : (can' s && better h' b s) = true
    · rw [if_pos q] at hz; cases hz; omega
    · rw [if_neg q] at hz; exact hb z hz
theorem target_eqv {h c h' c' : Nat → Nat} {w w' : AI} {m home : Nat} {x : Int32} (e : eqv h c h' c') (ew : ∀ k, k < 30 → w k = w' k) (k : ok h' c') : target h c w m x home = target h' c' w' m x home :=
  tgt_eqv (fun s hs => by unfold canD; rw [canB_eqv e ew k hs]) e.1 6 0 none rfl (fun z h => by cases h)
theorem eqv_upH {h c h' c' : Nat → Nat} {i v : Nat} (e : eqv h c h' c') : eqv (up h i v) c (up h' i v) c' := ⟨fun k hk => by by_cases q : k = i <;> simp [up, q, e.1 k hk], e.2⟩
theorem eqv_upC {h c h' c' : Nat → Nat} {i v : Nat} (e : eqv h c h' c') : eqv h (up c i v) h' (up c' i v) := ⟨e.1, fun k hk => by by_cases q : k = i <;> simp [up, q, e.2 k hk]⟩
theorem digF_eqv {w w' : AI} {m home : Nat} {x : Int32} (ew : ∀ k, k < 30 → w k = w' k) (hm : m ≤ 5) (hh : home < 6) : ∀ (n : Nat) (h c h' c' : Nat → Nat) (t : Nat), eqv h c h' c' → ok h' c' → (∃ j, j < h' home ∧ nI (c' (5 * home + j)) = x) →
    (digF w m x home n h c t = none ∧ digF w' m x home n h' c' t = none) ∨ ∃ r h1 c1 h2 c2, digF w m x home n h c t = some (r, h1, c1) ∧ digF w' m x home n h' c' t = some (r, h2, c2) ∧ eqv h1 c1 h2 c2 ∧ ok h2 c2
  | 0, h, c, h', c', t, _, _, _ => Or.inl ⟨rfl, rfl⟩
  | n + 1, h, c, h', c', t, e, k, hj => by
    obtain ⟨j, hj, hx⟩ := hj
    have et := top_eqv e k.1 hh
    have hl := top_lt k hh (by omega)
    have h5 := k.1 home hh
    have eh := e.1 home hh
    rw [digF, digF, et, eh]
    by_cases q : nI (top h' c' home) = x
    · rw [if_pos q, if_pos q]
      exact Or.inr ⟨_, _, _, _, _, rfl, rfl, eqv_upH e, ok_down k⟩
    · rw [if_neg q, if_neg q, ew _ hl, target_eqv (eqv_upH e) ew (ok_down k)]
      cases hb : target (up h' home (h' home - 1)) c' w' m (w' (top h' c' home)) home with
      | none => exact Or.inl ⟨rfl, rfl⟩
      | some b =>
        obtain ⟨b1, b2, b3⟩ := target_yes hb
        have b4 := canB_lt b3
        rw [up_n b2] at b4
        have ho := ok_put (ok_down (i := home) k) b1 (by rw [up_n b2]; omega) hl
        rw [up_n b2] at ho
        have eb := e.1 b b1
        show (digF w m x home n (up (up h home (h' home - 1)) b (h b + 1)) (up c (5 * b + h b) (top h' c' home)) (t + 1) = none ∧ digF w' m x home n (up (up h' home (h' home - 1)) b (h' b + 1)) (up c' (5 * b + h' b) (top h' c' home)) (t + 1) = none) ∨ ∃ r h1 c1 h2 c2, digF w m x home n (up (up h home (h' home - 1)) b (h b + 1)) (up c (5 * b + h b) (top h' c' home)) (t + 1) = some (r, h1, c1) ∧ digF w' m x home n (up (up h' home (h' home - 1)) b (h' b + 1)) (up c' (5 * b + h' b) (top h' c' home)) (t + 1) = some (r, h2, c2) ∧ eqv h1 c1 h2 c2 ∧ ok h2 c2
        rw [eb]
        exact digF_eqv ew hm hh n _ _ _ _ (t + 1) (eqv_upC (eqv_upH (eqv_upH e))) ho ⟨j, bot_keep hh b1 b2 (by omega) h5 hj hx q⟩
theorem dig_eqv {h c h' c' : Nat → Nat} {w w' : AI} {m : Nat} {x : Int32} (e : eqv h c h' c') (ew : ∀ k, k < 30 → w k = w' k) (hm : m ≤ 5) (k : ok h' c') :
    (dig h c w m x = none ∧ dig h' c' w' m x = none) ∨ ∃ r h1 c1 h2 c2, dig h c w m x = some (r, h1, c1) ∧ dig h' c' w' m x = some (r, h2, c2) ∧ eqv h1 c1 h2 c2 ∧ ok h2 c2 := by
  unfold dig
  rw [find_eqv e k.1]
  cases hf : find h' c' x with
  | none => exact Or.inl ⟨rfl, rfl⟩
  | some home =>
    obtain ⟨h1, h2⟩ := find_yes hf
    exact digF_eqv ew hm h1 5 h c h' c' 1 e k h2
def bd (N : Nat) (h c : Nat → Nat) : Prop := ∀ i j, i < 6 → j < h i → c (5 * i + j) < N
theorem bd_down {N : Nat} {h c : Nat → Nat} {i : Nat} (hk : bd N h c) : bd N (up h i (h i - 1)) c := fun k j hi hj => by
  by_cases q : k = i
  · subst q; rw [up_s] at hj; exact hk k j hi (by omega)
  · rw [up_n q] at hj; exact hk k j hi hj
theorem bd_put {N : Nat} {h c : Nat → Nat} {b v : Nat} (h5 : ∀ i, i < 6 → h i ≤ 5) (hk : bd N h c) (hb : b < 6) (h4 : h b < 5) (hv : v < N) : bd N (up h b (h b + 1)) (up c (5 * b + h b) v) := fun k j hi hj => by
  by_cases q : k = b
  · subst q
    rw [up_s] at hj
    by_cases z : j = h k
    · subst z; rw [up_s]; exact hv
    · rw [up_n (by omega)]; exact hk k j hi (by omega)
  · rw [up_n q] at hj
    have h1 := h5 k hi
    rw [up_n (by omega)]
    exact hk k j hi hj
theorem digF_bd {N : Nat} {w : AI} {m home : Nat} {x : Int32} (hm : m ≤ 5) (hh : home < 6) : ∀ (n : Nat) (h c : Nat → Nat) (t : Nat), ok h c → bd N h c → (∃ j, j < h home ∧ nI (c (5 * home + j)) = x) → ∀ r h1 c1, digF w m x home n h c t = some (r, h1, c1) → bd N h1 c1 ∧ r < t + n
  | 0, h, c, t, _, _, _, r, h1, c1, e => by cases e
  | n + 1, h, c, t, k, kb, hj, r, h1, c1, e => by
    obtain ⟨j, hj, hx⟩ := hj
    have hl := top_lt k hh (by omega)
    have h5 := k.1 home hh
    rw [digF] at e
    by_cases q : nI (top h c home) = x
    · rw [if_pos q] at e
      cases e
      exact ⟨bd_down kb, by omega⟩
    · rw [if_neg q] at e
      cases hb : target (up h home (h home - 1)) c w m (w (top h c home)) home with
      | none => rw [hb] at e; cases e
      | some b =>
        rw [hb] at e
        obtain ⟨b1, b2, b3⟩ := target_yes hb
        have b4 := canB_lt b3
        rw [up_n b2] at b4
        have ho := ok_put (ok_down (i := home) k) b1 (by rw [up_n b2]; omega) hl
        rw [up_n b2] at ho
        have hv : top h c home < N := kb home _ hh (by omega)
        have hb' := bd_put (ok_down (i := home) k).1 (bd_down (i := home) kb) b1 (by rw [up_n b2]; omega) hv
        rw [up_n b2] at hb'
        obtain ⟨g1, g2⟩ := digF_bd hm hh n _ _ (t + 1) ho hb' ⟨j, bot_keep hh b1 b2 (by omega) h5 hj hx q⟩ r h1 c1 e
        exact ⟨g1, by omega⟩
theorem dig_bd {N : Nat} {h c : Nat → Nat} {w : AI} {m : Nat} {x : Int32} (hm : m ≤ 5) (k : ok h c) (kb : bd N h c) {r : Nat} {h1 c1 : Nat → Nat} (e : dig h c w m x = some (r, h1, c1)) : bd N h1 c1 ∧ r < 6 := by
  unfold dig at e
  cases hf : find h c x with
  | none => rw [hf] at e; cases e
  | some home =>
    rw [hf] at e
    obtain ⟨g1, g2⟩ := find_yes hf
    exact digF_bd hm g1 5 h c 1 k kb g2 r h1 c1 e
