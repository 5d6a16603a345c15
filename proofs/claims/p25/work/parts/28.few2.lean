def digs (w : AI) (m : Nat) : List Nat → (Nat → Nat) → (Nat → Nat) → Option Nat | [], _, _ => some 0 | x :: xs, h, c => (dig h c w m (nI x)).bind fun r => (digs w m xs r.2.1 r.2.2).map (r.1 + ·)
theorem digs_eqv {w w' : AI} {m : Nat} (ew : ∀ k, k < 30 → w k = w' k) (hm : m ≤ 5) (xs : List Nat) : ∀ (h c h' c' : Nat → Nat), eqv h c h' c' → ok h' c' → digs w m xs h c = digs w' m xs h' c' := by
  induction xs with
  | nil => intro h c h' c' _ _; rfl
  | cons x xs ih =>
    intro h c h' c' e k
    rw [digs, digs]
    rcases dig_eqv (x := nI x) e ew hm k with ⟨d1, d2⟩ | ⟨r, h1, c1, h2, c2, d1, d2, de, dk⟩
    · rw [d1, d2]; exact Eq.trans (b := none) rfl rfl
    · rw [d1, d2]
      show (digs w m xs h1 c1).map _ = (digs w' m xs h2 c2).map _
      rw [ih h1 c1 h2 c2 de dk]
theorem eqv_refl {h c : Nat → Nat} : eqv h c h c := ⟨fun _ _ => rfl, fun _ _ => rfl⟩
theorem dig_ok {h c : Nat → Nat} {w : AI} {m : Nat} {x : Int32} (hm : m ≤ 5) (k : ok h c) {r : Nat} {h1 c1 : Nat → Nat} (e : dig h c w m x = some (r, h1, c1)) : ok h1 c1 := by
  rcases dig_eqv (w := w) (w' := w) (x := x) (eqv_refl (h := h) (c := c)) (fun _ _ => rfl) hm k with ⟨d1, d2⟩ | ⟨r', h3, c3, h2, c2, d1, d2, de, dk⟩
  · rw [d1] at e; cases e
  · rw [d2] at e; cases e; exact dk
theorem ok_bd {h c : Nat → Nat} (k : ok h c) : bd 30 h c := k.2
theorem digs_bd {w : AI} {m : Nat} (hm : m ≤ 5) : ∀ (xs : List Nat) (h c : Nat → Nat) (r : Nat), ok h c → digs w m xs h c = some r → r ≤ 6 * xs.length
  | [], _, _, r, _, e => by cases e; exact Nat.zero_le _
  | x :: xs, h, c, r, k, e => by
    rw [digs] at e
    cases hd : dig h c w m (nI x) with
    | none => rw [hd] at e; cases e
    | some y =>
      obtain ⟨r1, h1, c1⟩ := y
      rw [hd] at e
      have e : (digs w m xs h1 c1).map (r1 + ·) = some r := e
      cases hd2 : digs w m xs h1 c1 with
      | none => rw [hd2] at e; cases e
      | some r2 =>
        rw [hd2] at e
        cases e
        have a := (dig_bd hm k (ok_bd k) hd).2
        have b := digs_bd hm xs h1 c1 r2 (dig_ok hm k hd) hd2
        rw [List.length_cons]
        show r1 + r2 ≤ _
        omega
def cPerm : Nat → List Nat → Nat → List Nat | 0, _, _ => [] | k + 1, L, o => L.getD (o % (k + 1)) 0 :: cPerm k (L.eraseIdx (o % (k + 1))) (o / (k + 1))
theorem cPerm_len : ∀ (k : Nat) (L : List Nat) (o : Nat), (cPerm k L o).length = k
  | 0, _, _ => rfl
  | k + 1, L, o => by rw [cPerm, List.length_cons, cPerm_len]
theorem map_erase {f : Nat → Nat} : ∀ (L : List Nat) (i : Nat), (L.map f).eraseIdx i = (L.eraseIdx i).map f
  | [], _ => rfl
  | x :: L, 0 => rfl
  | x :: L, i + 1 => by rw [List.map_cons, List.eraseIdx_cons_succ, List.eraseIdx_cons_succ, List.map_cons, map_erase L i]
theorem cPerm_map {f : Nat → Nat} : ∀ (k : Nat) (J : List Nat) (o : Nat), J.length = k → cPerm k (J.map f) o = (cPerm k J o).map f
  | 0, _, _, _ => rfl
  | k + 1, J, o, hJ => by
    have hi : o % (k + 1) < J.length := by rw [hJ]; exact Nat.mod_lt _ (by omega)
    rw [cPerm, cPerm, List.map_cons, map_erase, cPerm_map k _ _ (by rw [List.length_eraseIdx_of_lt hi]; omega)]
    congr 1
    simp [List.getD_eq_getElem?_getD, hi]
def mIdx (s : Nat) : Nat → Nat → Nat → Option (List Nat) | 0, _, _ => some [] | k + 1, o, B => if o % 4 < s ∧ B / 2 ^ (o % 4) % 2 = 0 then (mIdx s k (o / 4) (B ||| 2 ^ (o % 4))).map (o % 4 :: ·) else none
def mv (w : AI) (m : Nat) (L : List Nat) (s : Nat) : Nat → Nat → Nat → (Nat → Nat) → (Nat → Nat) → Option Nat | 0, _, _, _, _ => some 0 | k + 1, o, B, h, c => if o % 4 < s ∧ B / 2 ^ (o % 4) % 2 = 0 then (dig h c w m (nI (L.getD (o % 4) 0))).bind fun r => (mv w m L s k (o / 4) (B ||| 2 ^ (o % 4)) r.2.1 r.2.2).map (r.1 + ·) else none
theorem mv_eq {w : AI} {m s : Nat} {L : List Nat} : ∀ (k o B : Nat) (h c : Nat → Nat), mv w m L s k o B h c = (mIdx s k o B).bind fun J => digs w m (J.map fun i => L.getD i 0) h c
  | 0, _, _, _, _ => rfl
  | k + 1, o, B, h, c => by
    rw [mv, mIdx]
    by_cases z : o % 4 < s ∧ B / 2 ^ (o % 4) % 2 = 0
    · rw [if_pos z, if_pos z]
      cases hI : mIdx s k (o / 4) (B ||| 2 ^ (o % 4)) with
      | none =>
        cases hd : dig h c w m (nI (L.getD (o % 4) 0)) with
        | none => rfl
        | some r =>
          show (mv w m L s k (o / 4) (B ||| 2 ^ (o % 4)) r.2.1 r.2.2).map (r.1 + ·) = none
          rw [mv_eq k, hI]; rfl
      | some J =>
        show _ = digs w m (L.getD (o % 4) 0 :: J.map fun i => L.getD i 0) h c
        rw [digs]
        congr 1
        funext r
        rw [mv_eq k, hI]; rfl
    · rw [if_neg z, if_neg z]; rfl
def fct : Nat → Nat → Nat | _, 0 => 1 | x, n + 1 => x * fct (x + 1) n
theorem perm_fwd : ∀ s, s < 5 → ∀ o, o < fct 2 (s - 1) → some (cPerm s (List.range s) o) ∈ (List.range (4 ^ s)).map (fun z => mIdx s s z 0) := by decide +kernel
theorem perm_bwd : ∀ s, s < 5 → ∀ z, z < 4 ^ s → mIdx s s z 0 ∈ none :: (List.range (fct 2 (s - 1))).map (fun o => some (cPerm s (List.range s) o)) := by decide +kernel
theorem map_range {L : List Nat} : (List.range L.length).map (fun i => L.getD i 0) = L := by
  apply List.ext_getElem (by simp)
  intro i h1 h2
  simp [List.getD_eq_getElem?_getD, h2]
theorem val_fwd {w : AI} {m s : Nat} {L : List Nat} {h c : Nat → Nat} (hL : L.length = s) (hs : s < 5) {o : Nat} (ho : o < fct 2 (s - 1)) : ∃ z, z < 4 ^ s ∧ mv w m L s s z 0 h c = digs w m (cPerm s L o) h c := by
  obtain ⟨z, hz, e⟩ := List.mem_map.mp (perm_fwd s hs o ho)
  refine ⟨z, List.mem_range.mp hz, ?_⟩
  rw [mv_eq, e]
  show digs w m ((cPerm s (List.range s) o).map fun i => L.getD i 0) h c = _
  rw [← cPerm_map s _ _ (by simp), ← hL, map_range]
theorem val_bwd {w : AI} {m s : Nat} {L : List Nat} {h c : Nat → Nat} (hL : L.length = s) (h0 : 0 < s) (hs : s < 5) {z : Nat} (hz : z < 4 ^ s) : mv w m L s s z 0 h c = none ∨ ∃ o, o < fct 2 (s - 1) ∧ mv w m L s s z 0 h c = digs w m (cPerm s L o) h c := by
  rcases List.mem_cons.mp (perm_bwd s hs z hz) with e | e
  · exact Or.inl (by rw [mv_eq, e]; rfl)
  · obtain ⟨o, ho, e⟩ := List.mem_map.mp e
    refine Or.inr ⟨o, List.mem_range.mp ho, ?_⟩
    rw [mv_eq, ← e]
    show digs w m ((cPerm s (List.range s) o).map fun i => L.getD i 0) h c = _
    rw [← cPerm_map s _ _ (by simp), ← hL, map_range]
def bst (b v : Option Nat) : Option Nat := match v, b with | none, b => b | some r, none => some r | some r, some t => if t ≤ r then some t else some r
def foldN (f : Nat → Option Nat) : Nat → Nat → Option Nat → Option Nat | _, 0, b => b | i, n + 1, b => foldN f (i + 1) n (bst b (f i))
def isMin (P : Nat → Prop) (o : Option Nat) : Prop := (∀ m, o = some m → P m) ∧ ∀ r, P r → ∃ m, o = some m ∧ m ≤ r
theorem bst_min {b v : Option Nat} : isMin (fun r => b = some r ∨ v = some r) (bst b v) := by
  refine ⟨fun m e => ?_, fun r e => ?_⟩
  · cases v with
    | none => exact Or.inl e
    | some r => cases b with
      | none => exact Or.inr e
      | some t =>
        simp only [bst] at e
        split at e
        · exact Or.inl e
        · exact Or.inr e
  · cases v with
    | none =>
      rcases e with e | e
      · exact ⟨r, e, Nat.le_refl r⟩
      · cases e
    | some v => cases b with
      | none =>
        rcases e with e | e
        · cases e
        · exact ⟨r, e, Nat.le_refl r⟩
      | some t =>
        simp only [bst]
        by_cases q : t ≤ v
        · rw [if_pos q]
          rcases e with e | e
          · exact ⟨t, rfl, by have := Option.some.inj e; omega⟩
          · exact ⟨t, rfl, by have := Option.some.inj e; omega⟩
        · rw [if_neg q]
          rcases e with e | e
          · exact ⟨v, rfl, by have := Option.some.inj e; omega⟩
          · exact ⟨v, rfl, by have := Option.some.inj e; omega⟩
theorem foldN_min {f : Nat → Option Nat} : ∀ (n i : Nat) (b : Option Nat), isMin (fun r => b = some r ∨ ∃ j, i ≤ j ∧ j < i + n ∧ f j = some r) (foldN f i n b)
  | 0, i, b => ⟨fun m e => Or.inl e, fun r e => by
    rcases e with e | ⟨j, h1, h2, _⟩
    · exact ⟨r, e, Nat.le_refl r⟩
    · omega⟩
  | n + 1, i, b => by
    have ih := foldN_min (f := f) n (i + 1) (bst b (f i))
    have hb := bst_min (b := b) (v := f i)
    refine ⟨fun m e => ?_, fun r e => ?_⟩
    · rcases ih.1 m e with h | ⟨j, h1, h2, h3⟩
      · rcases hb.1 m h with h | h
        · exact Or.inl h
        · exact Or.inr ⟨i, Nat.le_refl i, by omega, h⟩
      · exact Or.inr ⟨j, by omega, by omega, h3⟩
    · have key : (b = some r ∨ f i = some r) → ∃ m, foldN f i (n + 1) b = some m ∧ m ≤ r := fun h => by
        obtain ⟨m, h1, h2⟩ := hb.2 r h
        obtain ⟨m', h3, h4⟩ := ih.2 m (Or.inl h1)
        exact ⟨m', h3, by omega⟩
      rcases e with e | ⟨j, h1, h2, h3⟩
      · exact key (Or.inl e)
      · by_cases z : j = i
        · subst z; exact key (Or.inr h3)
        · exact ih.2 r (Or.inr ⟨j, by omega, by omega, h3⟩)
theorem isMin_uni {P Q : Nat → Prop} {a b : Option Nat} (e : ∀ r, P r ↔ Q r) (ha : isMin P a) (hb : isMin Q b) : a = b := by
  cases a with
  | none => cases b with
    | none => rfl
    | some m =>
      obtain ⟨m', h, _⟩ := ha.2 m ((e m).mpr (hb.1 m rfl))
      cases h
  | some m => cases b with
    | none =>
      obtain ⟨m', h, _⟩ := hb.2 m ((e m).mp (ha.1 m rfl))
      cases h
    | some m' =>
      obtain ⟨x, h1, h2⟩ := hb.2 m ((e m).mp (ha.1 m rfl))
      obtain ⟨y, h3, h4⟩ := ha.2 m' ((e m').mpr (hb.1 m' rfl))
      cases h1
      cases h3
      rw [show m = m' by omega]
theorem fold_eq {w : AI} {m s : Nat} {L : List Nat} {h c : Nat → Nat} (hL : L.length = s) (h0 : 0 < s) (hs : s < 5) : foldN (fun o => digs w m (cPerm s L o) h c) 0 (fct 2 (s - 1)) none = foldN (fun z => mv w m L s s z 0 h c) 0 (4 ^ s) none := by
  refine isMin_uni (fun r => ⟨fun e => ?_, fun e => ?_⟩) (foldN_min _ _ _) (foldN_min _ _ _)
  · rcases e with e | ⟨j, _, h2, h3⟩
    · cases e
    · obtain ⟨z, hz, e⟩ := val_fwd (w := w) (m := m) (h := h) (c := c) hL hs (o := j) (by omega)
      exact Or.inr ⟨z, Nat.zero_le z, by omega, by rw [← h3]; exact e⟩
  · rcases e with e | ⟨j, _, h2, h3⟩
    · cases e
    · rcases val_bwd (w := w) (m := m) (h := h) (c := c) hL h0 hs (z := j) (by omega) with e | ⟨o, ho, e⟩
      · have h3 : mv w m L s s j 0 h c = some r := h3
        rw [e] at h3; cases h3
      · exact Or.inr ⟨o, Nat.zero_le o, by omega, by rw [← h3]; exact e.symm⟩
theorem foldN_bd {f : Nat → Option Nat} {M : Nat} {n i : Nat} {b : Option Nat} (hf : ∀ j r, f j = some r → r < M) (hb : ∀ r, b = some r → r < M) {r : Nat} (e : foldN f i n b = some r) : r < M := by
  rcases (foldN_min (f := f) n i b).1 r e with h | ⟨j, _, _, h⟩
  · exact hb r h
  · exact hf j r h
