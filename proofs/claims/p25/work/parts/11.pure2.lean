def findJ (c : Nat → Nat) (x : Int32) (i : Nat) : Nat → Nat → Bool | _, 0 => false | j, m + 1 => decide (nI (c (5 * i + j)) = x) || findJ c x i (j + 1) m
def findI (h c : Nat → Nat) (x : Int32) : Nat → Nat → Option Nat | _, 0 => none | i, m + 1 => if findJ c x i 0 (h i) = true then some i else findI h c x (i + 1) m
def find (h c : Nat → Nat) (x : Int32) : Option Nat := findI h c x 0 6
theorem findJ_yes {c : Nat → Nat} {x : Int32} {i : Nat} : ∀ (m j : Nat), findJ c x i j m = true → ∃ k, j ≤ k ∧ k < j + m ∧ nI (c (5 * i + k)) = x
  | 0, j, h => by simp [findJ] at h
  | m + 1, j, h => by
    simp only [findJ, Bool.or_eq_true, decide_eq_true_eq] at h
    rcases h with h | h
    · exact ⟨j, Nat.le_refl j, by omega, h⟩
    · obtain ⟨k, h1, h2, h3⟩ := findJ_yes m (j + 1) h
      exact ⟨k, by omega, by omega, h3⟩
theorem findI_yes {h c : Nat → Nat} {x : Int32} : ∀ (m i k : Nat), findI h c x i m = some k → i ≤ k ∧ k < i + m ∧ findJ c x k 0 (h k) = true
  | 0, i, k, e => by simp [findI] at e
  | m + 1, i, k, e => by
    simp only [findI] at e
    by_cases q : findJ c x i 0 (h i) = true
    · rw [if_pos q] at e
      cases e
      exact ⟨Nat.le_refl _, by omega, q⟩
    · rw [if_neg q] at e
      obtain ⟨h1, h2, h3⟩ := findI_yes m (i + 1) k e
      exact ⟨by omega, by omega, h3⟩
theorem find_yes {h c : Nat → Nat} {x : Int32} {k : Nat} (e : find h c x = some k) : k < 6 ∧ ∃ j, j < h k ∧ nI (c (5 * k + j)) = x := by
  obtain ⟨h1, h2, h3⟩ := findI_yes 6 0 k e
  obtain ⟨j, g1, g2, g3⟩ := findJ_yes _ _ h3
  exact ⟨by omega, j, by omega, g3⟩
theorem q_sh1 {h c : Nat → Nat} {w : AI} {x : Int32} {K : Int32 → Int32 → SK → Prop} {Φ : Int32 → SK → Prop} (hk : ok h c) {i : Nat} (hi : i < 6) (ky : Φ (nI i) (I h, I c, w)) (kn : K x (nI (i + 1)) (I h, I c, w)) : ∀ (m j : Nat), j + m = h i → it4 (b_S_stackHolding_10 K Φ) (m + 1) x (nI i) (nI j) (I h, I c, w) := by
  have h5 := hk.1 i hi
  intro m
  induction m with
  | zero =>
    intro j e
    show b_S_stackHolding_10 K Φ (it4 (b_S_stackHolding_10 K Φ) 0) x (nI i) (nI j) (I h, I c, w)
    unfold b_S_stackHolding_10
    refine in_t hi (by omega) ?_
    rw [nI_clamp (by omega)]
    refine le_t (a := h i) (by omega) (by omega) ?_
    rw [l1, nI_add]
    exact kn
  | succ m ih =>
    intro j e
    show b_S_stackHolding_10 K Φ (it4 (b_S_stackHolding_10 K Φ) (m + 1)) x (nI i) (nI j) (I h, I c, w)
    unfold b_S_stackHolding_10
    refine in_t hi (by omega) ?_
    rw [nI_clamp (by omega)]
    refine le_f (a := h i) (by omega) (by omega) ?_
    rw [ix]
    refine in_t (by omega) (by omega) ⟨fun _ => ky, fun q => ?_⟩
    rw [l1, nI_add]
    exact ih (j + 1) (by omega)
theorem q_sh1' {h c : Nat → Nat} {w : AI} {x : Int32} {K : Int32 → Int32 → SK → Prop} {Φ : Int32 → SK → Prop} (hk : ok h c) {i : Nat} (hi : i < 6) : ∀ (m j : Nat), j + m = h i → (findJ c x i j m = true → Φ (nI i) (I h, I c, w)) → (findJ c x i j m = false → K x (nI (i + 1)) (I h, I c, w)) → it4 (b_S_stackHolding_10 K Φ) (m + 1) x (nI i) (nI j) (I h, I c, w) := by
  have h5 := hk.1 i hi
  intro m
  induction m with
  | zero =>
    intro j e ky kn
    show b_S_stackHolding_10 K Φ (it4 (b_S_stackHolding_10 K Φ) 0) x (nI i) (nI j) (I h, I c, w)
    unfold b_S_stackHolding_10
    refine in_t hi (by omega) ?_
    rw [nI_clamp (by omega)]
    refine le_t (a := h i) (by omega) (by omega) ?_
    rw [l1, nI_add]
    exact kn rfl
  | succ m ih =>
    intro j e ky kn
    show b_S_stackHolding_10 K Φ (it4 (b_S_stackHolding_10 K Φ) (m + 1)) x (nI i) (nI j) (I h, I c, w)
    unfold b_S_stackHolding_10
    refine in_t hi (by omega) ?_
    rw [nI_clamp (by omega)]
    refine le_f (a := h i) (by omega) (by omega) ?_
    rw [ix]
    refine in_t (by omega) (by omega) ?_
    rw [nI_clamp (by omega), l1, nI_add]
    refine ⟨fun q => ky ?_, fun q => ih (j + 1) (by omega) (fun z => ky ?_) (fun z => kn ?_)⟩
    · show (decide (nI (c (5 * i + j)) = x) || findJ c x i (j + 1) m) = true
      rw [decide_eq_true (show nI (c (5 * i + j)) = x from q)]; rfl
    · show (decide (nI (c (5 * i + j)) = x) || findJ c x i (j + 1) m) = true
      rw [z, Bool.or_true]
    · show (decide (nI (c (5 * i + j)) = x) || findJ c x i (j + 1) m) = false
      rw [z, decide_eq_false (show ¬ nI (c (5 * i + j)) = x from q)]; rfl
theorem q_sh2 {h c : Nat → Nat} {w : AI} {x : Int32} {Φ : Int32 → SK → Prop} (hk : ok h c) : ∀ (m i : Nat), i + m = 6 → Φ (o2i (findI h c x i m)) (I h, I c, w) → it3 (b_S_stackHolding_2 Φ) (m + 1) x (nI i) (I h, I c, w) := by
  intro m
  induction m with
  | zero =>
    intro i e k
    show b_S_stackHolding_2 Φ (it3 (b_S_stackHolding_2 Φ) 0) x (nI i) (I h, I c, w)
    unfold b_S_stackHolding_2
    exact le_t (a := 6) (by omega) (by omega) k
  | succ m ih =>
    intro i e k
    show b_S_stackHolding_2 Φ (it3 (b_S_stackHolding_2 Φ) (m + 1)) x (nI i) (I h, I c, w)
    unfold b_S_stackHolding_2
    refine le_f (a := 6) (by omega) (by omega) ⟨h i + 1, q_sh1' hk (by omega) (h i) 0 (by omega) (fun z => ?_) (fun z => ih (i + 1) (by omega) ?_)⟩
    · rw [findI, if_pos z] at k; exact k
    · rw [findI, if_neg (by rw [z]; decide)] at k; exact k
theorem q_stackHolding {h c : Nat → Nat} {w : AI} {x : Int32} {Φ : Int32 → SK → Prop} (hk : ok h c) (k : Φ (o2i (find h c x)) (I h, I c, w)) : w_S_stackHolding (I h, I c, w) x Φ := by
  unfold w_S_stackHolding
  exact ⟨7, q_sh2 hk 6 0 rfl k⟩
def better (h : Nat → Nat) (b : Option Nat) (s : Nat) : Bool := match b with | none => true | some t => decide (h s < h t)
def tgt (can : Nat → Bool) (h : Nat → Nat) : Nat → Nat → Option Nat → Option Nat
  | _, 0, b => b
  | s, n + 1, b => tgt can h (s + 1) n (if (can s && better h b s) = true then some s else b)
def canD (h c : Nat → Nat) (w : AI) (m : Nat) (x : Int32) (home s : Nat) : Bool := decide (s ≠ home) && canB h c w m x s
def target (h c : Nat → Nat) (w : AI) (m : Nat) (x : Int32) (home : Nat) : Option Nat := tgt (canD h c w m x home) h 0 6 none
theorem tgt_yes {can : Nat → Bool} {h : Nat → Nat} : ∀ (n s : Nat) (b : Option Nat) (t : Nat), (∀ z, b = some z → z < 6 ∧ can z = true) → s + n = 6 → tgt can h s n b = some t → t < 6 ∧ can t = true
  | 0, s, b, t, hb, _, e => hb t e
  | n + 1, s, b, t, hb, hs, e => by
    refine tgt_yes n (s + 1) _ t ?_ (by omega) e
    intro z hz
    by_cases q : (can s && better h b s) = true
    · rw [if_pos q] at hz
      cases hz
      simp only [Bool.and_eq_true] at q
      exact ⟨by omega, q.1⟩
    · rw [if_neg q] at hz
      exact hb z hz
theorem target_yes {h c : Nat → Nat} {w : AI} {m : Nat} {x : Int32} {home t : Nat} (e : target h c w m x home = some t) : t < 6 ∧ t ≠ home ∧ canB h c w m x t = true := by
  have h1 := tgt_yes 6 0 none t (fun z h => by cases h) rfl e
  simp only [canD, Bool.and_eq_true, decide_eq_true_eq] at h1
  exact ⟨h1.1, h1.2.1, h1.2.2⟩
theorem canB_lt {h c : Nat → Nat} {w : AI} {m : Nat} {x : Int32} {t : Nat} (e : canB h c w m x t = true) : h t < m := by
  simp only [canB, Bool.and_eq_true, decide_eq_true_eq] at e
  exact e.1
theorem q_tg {h c : Nat → Nat} {w : AI} {m home : Nat} {x : Int32} {Φ : Int32 → SK → Prop} (hk : ok h c) (hm : m ≤ 5) (hh : home < 6) : ∀ (n s : Nat) (b : Option Nat), s + n = 6 → (∀ z, b = some z → z < 6) → Φ (o2i (tgt (canD h c w m x home) h s n b)) (I h, I c, w) → it6 (b_S_targetFor_6 Φ) (n + 1) x (nI home) (nI m) (o2i b) (nI s) (I h, I c, w) := by
  intro n
  induction n with
  | zero =>
    intro s b e hb k
    show b_S_targetFor_6 Φ (it6 (b_S_targetFor_6 Φ) 0) x (nI home) (nI m) (o2i b) (nI s) (I h, I c, w)
    unfold b_S_targetFor_6
    exact le_t (a := 6) (by omega) (by omega) k
  | succ n ih =>
    intro s b e hb k
    show b_S_targetFor_6 Φ (it6 (b_S_targetFor_6 Φ) (n + 1)) x (nI home) (nI m) (o2i b) (nI s) (I h, I c, w)
    unfold b_S_targetFor_6 b_S_targetFor_51 b_S_targetFor_55
    have e1 : nI s + (1 : Int32) = nI (s + 1) := nI_1 s
    rw [e1]
    have hs := hk.1 s (by omega)
    have no : (canD h c w m x home s && better h b s) = false → it6 (b_S_targetFor_6 Φ) (n + 1) x (nI home) (nI m) (o2i b) (nI (s + 1)) (I h, I c, w) := fun z => ih (s + 1) b (by omega) hb (by rw [tgt, if_neg (by rw [z]; decide)] at k; exact k)
    have yes : (canD h c w m x home s && better h b s) = true → it6 (b_S_targetFor_6 Φ) (n + 1) x (nI home) (nI m) (nI s) (nI (s + 1)) (I h, I c, w) := fun z => ih (s + 1) (some s) (by omega) (fun y hy => by cases hy; omega) (by rw [tgt, if_pos z] at k; exact k)
    refine le_f (a := 6) (by omega) (by omega) (eq_c (by omega) (by omega) (fun q => no (by simp [canD, q])) (fun q => q_canTake hk (by omega) hm (b2i_c (fun r => no (by simp [canD, r])) (fun r => ?_))))
    cases b with
    | none => exact m1_t (yes (by simp [canD, r, q, better]))
    | some t =>
      have ht := hb t rfl
      have ht5 := hk.1 t ht
      refine m1_f (by omega) (q_heightOf (by omega) (q_heightOf ht (le_c (by omega) (by omega) (fun z => no ?_) (fun z => yes ?_))))
      · simp [canD, r, q, better]; omega
      · simp [canD, r, q, better]; omega
theorem q_targetFor {h c : Nat → Nat} {w : AI} {m home : Nat} {x : Int32} {Φ : Int32 → SK → Prop} (hk : ok h c) (hm : m ≤ 5) (hh : home < 6) (k : Φ (o2i (target h c w m x home)) (I h, I c, w)) : w_S_targetFor (I h, I c, w) x (nI home) (nI m) Φ := by
  unfold w_S_targetFor
  exact ⟨7, q_tg hk hm hh 6 0 none rfl (fun z h => by cases h) k⟩
