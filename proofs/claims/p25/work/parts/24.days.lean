def abv (h : Nat → Nat) : Nat → Nat | 0 => 0 | i + 1 => abv h i + (h i - 3)
theorem abv_le {h : Nat → Nat} (hh : ∀ i, i < 6 → h i ≤ 5) : ∀ i, i ≤ 6 → abv h i ≤ 2 * i
  | 0, _ => Nat.le_refl 0
  | i + 1, hi => by
    have a := abv_le hh i (by omega)
    have b := hh i (by omega)
    rw [abv]; omega
theorem abv_term {x : Nat} (hx : x ≤ 5) : (if (0 : Int32) < nI x - (3 : Int32) then nI x - (3 : Int32) else (0 : Int32)) = nI (x - 3) := by
  have h : x = 0 ∨ x = 1 ∨ x = 2 ∨ x = 3 ∨ x = 4 ∨ x = 5 := by omega
  rcases h with h | h | h | h | h | h <;> subst h <;> decide
theorem q_ca {h c : Nat → Nat} {w : AI} (hh : ∀ i, i < 6 → h i ≤ 5) {Φ : Int32 → SK → Prop} (k : Φ (nI (abv h 6)) (I h, I c, w)) : ∀ (n i : Nat), i + n = 6 → it4 (b_S_cratesAbove_4 Φ) (n + 1) 3 (nI (abv h i)) (nI i) (I h, I c, w) := by
  intro n
  induction n with
  | zero =>
    intro i e
    show b_S_cratesAbove_4 Φ (it4 (b_S_cratesAbove_4 Φ) 0) 3 (nI (abv h i)) (nI i) (I h, I c, w)
    rw [b_S_cratesAbove_4]
    have e : i = 6 := by omega
    subst e
    exact le_t (a := 6) (by omega) (by omega) k
  | succ n ih =>
    intro i e
    show b_S_cratesAbove_4 Φ (it4 (b_S_cratesAbove_4 Φ) (n + 1)) 3 (nI (abv h i)) (nI i) (I h, I c, w)
    rw [b_S_cratesAbove_4]
    refine le_f (a := 6) (by omega) (by omega) (in_t (by omega) (by omega) (all_t ?_))
    rw [nI_clamp (by omega), nI_1]
    have e1 : (if (0 : Int32) < g_SK_heights (I h, I c, w) i - (3 : Int32) then g_SK_heights (I h, I c, w) i - (3 : Int32) else (0 : Int32)) = nI (h i - 3) := abv_term (hh i (by omega))
    rw [e1, nI_add]
    exact ih (i + 1) (by omega)
def fdF (h : Nat → Nat) : Nat → Int32 | 0 => 0 | i + 1 => fdF h i + (nI (h i) * (nI (h i) - (1 : Int32))) / (2 : Int32)
theorem q_fd {h c : Nat → Nat} {w : AI} {Φ : Int32 → SK → Prop} (k : Φ (fdF h 6) (I h, I c, w)) : ∀ (n i : Nat), i + n = 6 → it3 (b_S_feeOfOneDay_4 Φ) (n + 1) (fdF h i) (nI i) (I h, I c, w) := by
  intro n
  induction n with
  | zero =>
    intro i e
    show b_S_feeOfOneDay_4 Φ (it3 (b_S_feeOfOneDay_4 Φ) 0) (fdF h i) (nI i) (I h, I c, w)
    rw [b_S_feeOfOneDay_4]
    have e : i = 6 := by omega
    subst e
    exact le_t (a := 6) (by omega) (by omega) k
  | succ n ih =>
    intro i e
    show b_S_feeOfOneDay_4 Φ (it3 (b_S_feeOfOneDay_4 Φ) (n + 1)) (fdF h i) (nI i) (I h, I c, w)
    rw [b_S_feeOfOneDay_4]
    refine le_f (a := 6) (by omega) (by omega) (in_t (by omega) (by omega) (in_t (by omega) (by omega) (all_t ?_)))
    rw [nI_clamp (by omega), nI_1]
    exact ih (i + 1) (by omega)
def eF (ld : AI) (x : Int32) : Nat → Nat → (Nat → Nat) → Int32 → (Nat → Nat) × Int32
  | _, 0, st, ow => (st, ow)
  | i, n + 1, st, ow => if st i ≤ 1 ∧ ld i = x then eF ld x (i + 1) n (up st i 3) (ow + 50) else eF ld x (i + 1) n st ow
theorem eF_good {ld pri : AI} {x pp : Int32} {q : Nat} : ∀ (n i : Nat) (st : Nat → Nat) (ow : Int32), i + n = q → (∀ j, j < 20 → st j ≤ 3) → pp + ow = ctr st pri q → (∀ j, j < 20 → (eF ld x i n st ow).1 j ≤ 3) ∧ pp + (eF ld x i n st ow).2 = ctr (eF ld x i n st ow).1 pri q
  | 0, _, _, _, _, h1, h2 => ⟨h1, h2⟩
  | n + 1, i, st, ow, e, h1, h2 => by
    rw [eF]
    by_cases z : st i ≤ 1 ∧ ld i = x
    · rw [if_pos z]
      refine eF_good n (i + 1) _ _ (by omega) (fun j hj => ?_) ?_
      · by_cases y : j = i
        · subst y; rw [up_s]; omega
        · rw [up_n y]; exact h1 j hj
      · rw [ctr_one (st := st) (pri := pri) (i := i) q (by omega) (fun j hj hn => (co_up_n hn).symm), ← h2]
        have e1 : co (up st i 3) pri i = 50 := by unfold co; rw [up_s]; rfl
        have e2 : co st pri i = 0 := by unfold co; rw [if_neg (by omega), if_neg (by omega)]
        rw [e1, e2]
        grind
    · rw [if_neg z]
      exact eF_good n (i + 1) _ _ (by omega) h1 h2
section
variable {lo ld pri : AI} {bd : Nat → Nat} {q : Nat} {pp : Int32}
theorem q_he {x : Int32} (hq : q ≤ 20) {Φ : HL → Prop} : ∀ (n i : Nat) (st : Nat → Nat) (ow : Int32), i + n = q → (∀ j, j < 20 → st j ≤ 3) → Φ (lo, ld, I (eF ld x i n st ow).1, pri, I bd, nI q, pp, (eF ld x i n st ow).2) → it3 (b_H_endDay_2 Φ) (n + 1) x (nI i) (lo, ld, I st, pri, I bd, nI q, pp, ow) := by
  intro n
  induction n with
  | zero =>
    intro i st ow e hs k
    show b_H_endDay_2 Φ (it3 (b_H_endDay_2 Φ) 0) x (nI i) (lo, ld, I st, pri, I bd, nI q, pp, ow)
    rw [b_H_endDay_2]
    exact le_t (a := q) (by omega) (by omega) k
  | succ n ih =>
    intro i st ow e hs k
    show b_H_endDay_2 Φ (it3 (b_H_endDay_2 Φ) (n + 1)) x (nI i) (lo, ld, I st, pri, I bd, nI q, pp, ow)
    rw [b_H_endDay_2]
    unfold b_H_endDay_46
    rw [nI_1]
    rw [eF] at k
    refine le_f (a := q) (by omega) (by omega) (q_isOpen hq (by omega) (hs i (by omega)) (b2i_c (fun z => ?_) (fun z => in_t (by omega) (by omega) ?_)))
    · rw [if_neg (fun w => by have := of_decide_eq_false z; exact this w.1)] at k
      exact ih (i + 1) st ow (by omega) hs k
    · rw [nI_clamp (by omega)]
      refine ⟨fun y => in_t (by omega) (by omega) (all_t (all_t (all_t ?_))), fun y => ?_⟩
      · rw [if_pos ⟨of_decide_eq_true z, y⟩] at k
        have e1 : upd (I st) i 3 = I (up st i 3) := I_up st i 3
        have := ih (i + 1) (up st i 3) (ow + 50) (by omega) (fun j hj => by by_cases y : j = i; subst y; rw [up_s]; omega; rw [up_n y]; exact hs j hj) k
        rw [← e1] at this
        exact this
      · rw [if_neg (fun w => y w.2)] at k
        exact ih (i + 1) st ow (by omega) hs k
end
section
variable {h : Nat → Nat} {c : Nat → Nat} {w : AI} {le : AI} {n : Nat} {cr : Int32} {lc : Int32} {ltr : AI} {len : Nat → Nat} {p : AI} {m : Nat} {s : Int32} {lo : AI} {ld : AI} {st : Nat → Nat} {pri : AI} {bd : Nat → Nat} {q : Nat} {pp : Int32} {ow : Int32} {d : Nat} {sy : Int32} {fe : Int32} {tr : SK} {lids : AI}
theorem q_CendDay (hq : q ≤ 20) (hs : ∀ j, j < 20 → st j ≤ 3) {Φ : CY → Prop} (k : Φ (cyOf h c w le n cr lc ltr len p m s lo ld (eF ld (nI d) 0 q st ow).1 pri bd q pp (eF ld (nI d) 0 q st ow).2 (d + 1) 0 (fe + fdF h 6) tr lids)) : w_C_endDay (cyOf h c w le n cr lc ltr len p m s lo ld st pri bd q pp ow d sy fe tr lids) Φ := by
  unfold w_C_endDay w_S_feeOfOneDay
  refine ⟨7, q_fd ?_ 6 0 rfl⟩
  refine all_t ?_
  unfold w_H_endDay
  refine ⟨q + 1, q_he (x := nI d) hq q 0 st ow (by omega) hs ?_⟩
  refine all_t (all_t (all_t ?_))
  have e2 : nI d + (1 : Int32) = nI (d + 1) := nI_1 d
  unfold cyOf at k
  rw [← e2] at k
  exact k
end
