theorem memF_le {f : Nat → Bool} : ∀ (n k : Nat), (memF f k n).length ≤ n
  | 0, _ => Nat.le_refl 0
  | n + 1, k => by
    have := memF_le (f := f) n (k + 1)
    rw [memF]
    split
    · rw [List.length_cons]; omega
    · omega
theorem memF_len0 {V n : Nat} : (memF V.testBit 0 n).length = cnt n V := by rw [memF_len, Nat.pow_zero, Nat.div_one]
def chk (h c : Nat → Nat) (V : Nat) : Nat → Nat → Bool | _, 0 => true | k, n + 1 => if V.testBit k = true ∧ find h c (nI k) = none then false else chk h c V (k + 1) n
theorem chk_iff {h c : Nat → Nat} {V : Nat} : ∀ (n k : Nat), chk h c V k n = true ↔ ∀ j, k ≤ j → j < k + n → V.testBit j = true → find h c (nI j) ≠ none
  | 0, k => ⟨fun _ j h1 h2 => by omega, fun _ => rfl⟩
  | n + 1, k => by
    rw [chk]
    by_cases z : V.testBit k = true ∧ find h c (nI k) = none
    · rw [if_pos z]
      exact ⟨fun y => (by cases y), fun y => absurd z.2 (y k (Nat.le_refl k) (by omega) z.1)⟩
    · rw [if_neg z, chk_iff n (k + 1)]
      refine ⟨fun y j h1 h2 h3 => ?_, fun y j h1 h2 h3 => y j (by omega) (by omega) h3⟩
      by_cases e : j = k
      · subst e; exact fun w => z ⟨h3, w⟩
      · exact y j (by omega) (by omega) h3
def setB (h c : Nat → Nat) (V : Nat) : Bool := decide (1 ≤ cnt 32 V ∧ cnt 32 V ≤ 4) && chk h c V 0 32
section
variable {h : Nat → Nat} {c : Nat → Nat} {w : AI} {le : AI} {n : Nat} {cr : Int32} {lc : Int32} {ltr : AI} {len : Nat → Nat} {p : AI} {m : Nat} {s : Int32} {lo : AI} {ld : AI} {st : Nat → Nat} {pri : AI} {bd : Nat → Nat} {q : Nat} {pp : Int32} {ow : Int32} {d : Nat} {sy : Int32} {fe : Int32} {tr : SK} {lids : AI}
theorem q_aisL {v : Int32} {Φ : Int32 → CY → Prop} (hk : ok h c) : ∀ (n9 k : Nat), k + n9 = 32 → Φ (b2i (chk h c v.toBitVec.toNat k n9)) (cyOf h c w le n cr lc ltr len p m s lo ld st pri bd q pp ow d sy fe tr lids) → it3 (b_C_areInStacks_19 Φ) (n9 + 1) v (nI k) (cyOf h c w le n cr lc ltr len p m s lo ld st pri bd q pp ow d sy fe tr lids) := by
  intro n9
  induction n9 with
  | zero =>
    intro k e kk
    show b_C_areInStacks_19 Φ (it3 (b_C_areInStacks_19 Φ) 0) v (nI k) (cyOf h c w le n cr lc ltr len p m s lo ld st pri bd q pp ow d sy fe tr lids)
    rw [b_C_areInStacks_19]
    exact le_t (a := 32) (by omega) (by omega) ⟨Or.inr rfl, kk⟩
  | succ n9 ih =>
    intro k e kk
    show b_C_areInStacks_19 Φ (it3 (b_C_areInStacks_19 Φ) (n9 + 1)) v (nI k) (cyOf h c w le n cr lc ltr len p m s lo ld st pri bd q pp ow d sy fe tr lids)
    rw [b_C_areInStacks_19]
    unfold b_C_areInStacks_47
    rw [nI_1]
    rw [chk] at kk
    refine le_f (a := 32) (by omega) (by omega) (q_contains (by omega) (b2i_c (fun z => ?_) (fun z => ?_)))
    · rw [if_neg (fun y => by rw [y.1] at z; cases z)] at kk
      exact ih (k + 1) (by omega) kk
    · refine q_stackHolding hk ?_
      cases hf : find h c (nI k) with
      | none =>
        rw [if_pos ⟨z, hf⟩] at kk
        exact m1_t ⟨Or.inl rfl, kk⟩
      | some i =>
        rw [if_neg (fun y => by rw [hf] at y; cases y.2)] at kk
        rw [show o2i (some i) = nI i from rfl]
        exact m1_f (by have := (find_yes hf).1; omega) (ih (k + 1) (by omega) kk)
theorem q_ais {v : Int32} {Φ : Int32 → CY → Prop} (hk : ok h c) (kk : Φ (b2i (setB h c v.toBitVec.toNat)) (cyOf h c w le n cr lc ltr len p m s lo ld st pri bd q pp ow d sy fe tr lids)) : w_C_areInStacks (cyOf h c w le n cr lc ltr len p m s lo ld st pri bd q pp ow d sy fe tr lids) v Φ := by
  unfold w_C_areInStacks b_C_areInStacks_15
  have hc : cnt 32 v.toBitVec.toNat < 2 ^ 31 := by rw [← memF_len0]; exact Nat.lt_of_le_of_lt (memF_le 32 0) (by omega)
  refine q_bitCount (lt_c (b := 1) hc (by omega) (fun z => ⟨Or.inl rfl, ?_⟩) (fun z => le_c (b := 4) hc (by omega) (fun y => ⟨33, q_aisL hk 32 0 rfl ?_⟩) (fun y => ⟨Or.inl rfl, ?_⟩)))
  · rw [setB, decide_eq_false (by omega)] at kk; exact kk
  · rw [setB, decide_eq_true (by omega)] at kk; exact kk
  · rw [setB, decide_eq_false (by omega)] at kk; exact kk
theorem hi_bits {v : Int32} (hv : v < 0 ∨ nI (2 ^ 30) ≤ v) : 2 ^ 30 ≤ v.toBitVec.toNat := by
  have e : v.toInt = v.toBitVec.toInt := rfl
  rw [BitVec.toInt_eq_toNat_cond] at e
  have hl := v.toBitVec.isLt
  rcases hv with hv | hv
  · have h1 := Int32.lt_iff_toInt_lt.mp hv
    have h3 : (0 : Int32).toInt = 0 := by decide
    split at e <;> omega
  · have h1 := Int32.le_iff_toInt_le.mp hv
    rw [nI_toInt (by omega)] at h1
    split at e <;> omega
theorem setB_hi {h c : Nat → Nat} {n V : Nat} (hn : n ≤ 30) (hb : ∀ i j, i < 6 → j < h i → c (5 * i + j) < n) (h1 : 2 ^ 30 ≤ V) (h2 : V < 2 ^ 32) : setB h c V = false := by
  have nf : ∀ k, 30 ≤ k → k < 32 → find h c (nI k) = none := fun k k1 k2 => by
    cases hf : find h c (nI k) with
    | none => rfl
    | some i =>
      obtain ⟨a, j, b, e⟩ := find_yes hf
      have hc := hb i j a b
      have := nI_inj (by omega) (by omega) e
      omega
  cases hs : chk h c V 0 32 with
  | false => rw [setB, hs, Bool.and_false]
  | true =>
    have := (chk_iff 32 0).mp hs
    by_cases z : V / 2 ^ 30 % 2 = 1
    · exact absurd (nf 30 (by omega) (by omega)) (this 30 (by omega) (by omega) (by rw [tb]; exact decide_eq_true z))
    · exact absurd (nf 31 (by omega) (by omega)) (this 31 (by omega) (by omega) (by rw [tb]; exact decide_eq_true (by omega)))
theorem chk_eqv {h c h' c' : Nat → Nat} {V : Nat} (e : eqv h c h' c') (h5 : ∀ i, i < 6 → h' i ≤ 5) : ∀ (n k : Nat), chk h c V k n = chk h' c' V k n
  | 0, _ => rfl
  | n + 1, k => by rw [chk, chk, find_eqv e h5, chk_eqv e h5 n (k + 1)]
theorem cnt_30 {V : Nat} (hV : V < 2 ^ 30) : cnt 32 V = cnt 30 V := by
  rw [show (32 : Nat) = 30 + 2 from rfl, cnt_add, show V / 2 ^ 30 = 0 by omega, cnt_zero]; omega
theorem chk_30 {h c : Nat → Nat} {V : Nat} (hV : V < 2 ^ 30) : chk h c V 0 32 = chk h c V 0 30 := by
  have e : ∀ j, 30 ≤ j → j < 32 → ¬ V.testBit j = true := fun j j1 j2 => by
    rw [Nat.testBit_lt_two_pow (Nat.lt_of_lt_of_le hV (Nat.pow_le_pow_right (by omega) j1))]
    exact Bool.false_ne_true
  apply Bool.eq_iff_iff.mpr
  rw [chk_iff, chk_iff]
  refine ⟨fun y j h1 h2 h3 => y j (by omega) (by omega) h3, fun y j h1 h2 h3 => y j (by omega) ?_ h3⟩
  by_cases z : 30 ≤ j
  · exact absurd h3 (e j z (by omega))
  · omega
end
