def co (st : Nat → Nat) (pri : AI) (i : Nat) : Int32 := if st i = 2 then pri i else if st i = 3 then 50 else 0
theorem ctr_s {st : Nat → Nat} {pri : AI} {i : Nat} : ctr st pri (i + 1) = ctr st pri i + co st pri i := rfl
theorem ctr_congr {st st' : Nat → Nat} {pri pri' : AI} : ∀ n, (∀ j, j < n → co st pri j = co st' pri' j) → ctr st pri n = ctr st' pri' n
  | 0, _ => rfl
  | n + 1, h => by rw [ctr_s, ctr_s, ctr_congr n (fun j hj => h j (by omega)), h n (by omega)]
theorem ctr_one {st st' : Nat → Nat} {pri pri' : AI} {i : Nat} : ∀ n, i < n → (∀ j, j < n → j ≠ i → co st pri j = co st' pri' j) → ctr st' pri' n = ctr st pri n + (co st' pri' i - co st pri i)
  | 0, h, _ => absurd h (Nat.not_lt_zero i)
  | n + 1, h, e => by
    rw [ctr_s, ctr_s]
    by_cases q : i = n
    · subst q
      rw [ctr_congr i (fun j hj => e j (by omega) (by omega))]
      grind
    · rw [ctr_one n (by omega) (fun j hj hn => e j (by omega) hn), e n (by omega) (Ne.symm q)]
      grind
theorem co_up_n {st : Nat → Nat} {pri : AI} {i j v : Nat} (h : j ≠ i) : co (up st i v) pri j = co st pri j := by unfold co; rw [up_n h]
section
variable {lo ld pri : AI} {st bd : Nat → Nat} {q : Nat} {pp ow : Int32}
theorem q_stateOf {i : Nat} (hq : q ≤ 20) (hi : i < q) {Φ : Int32 → HL → Prop} (k : Φ (nI (st i)) (lo, ld, I st, pri, I bd, nI q, pp, ow)) : w_H_stateOf (lo, ld, I st, pri, I bd, nI q, pp, ow) (nI i) Φ := by
  unfold w_H_stateOf b_H_stateOf_21 b_H_stateOf_22
  refine lt_f (b := 0) (by omega) (by omega) (le_f (a := q) (by omega) (by omega) (in_t (by omega) (by omega) ?_))
  rw [nI_clamp (by omega)]
  exact k
theorem q_isOpen {i : Nat} (hq : q ≤ 20) (hi : i < q) (hs : st i ≤ 3) {Φ : Int32 → HL → Prop} (k : Φ (b2i (decide (st i ≤ 1))) (lo, ld, I st, pri, I bd, nI q, pp, ow)) : w_H_isOpen (lo, ld, I st, pri, I bd, nI q, pp, ow) (nI i) Φ := by
  unfold w_H_isOpen b_H_isOpen_15 b_H_isOpen_20
  refine q_stateOf hq hi (eq_c (b := 0) (by omega) (by omega) (fun z => ⟨Or.inr rfl, ?_⟩) (fun z => eq_c (b := 1) (by omega) (by omega) (fun y => ⟨Or.inr rfl, ?_⟩) (fun y => ⟨Or.inl rfl, ?_⟩)))
  · rw [decide_eq_true (show st i ≤ 1 by omega)] at k; exact k
  · rw [decide_eq_true (show st i ≤ 1 by omega)] at k; exact k
  · rw [decide_eq_false (show ¬ st i ≤ 1 by omega)] at k; exact k
def hF (lo : AI) (st : Nat → Nat) (x : Int32) : Nat → Nat → Option Nat | _, 0 => none | i, n + 1 => if lo i = x ∧ st i ≤ 1 then some i else hF lo st x (i + 1) n
theorem hF_yes {x : Int32} : ∀ (n i k : Nat), hF lo st x i n = some k → k < i + n ∧ lo k = x ∧ st k ≤ 1
  | 0, _, _, e => by cases e
  | n + 1, i, k, e => by
    rw [hF] at e
    by_cases z : lo i = x ∧ st i ≤ 1
    · rw [if_pos z] at e; cases e; exact ⟨by omega, z⟩
    · rw [if_neg z] at e
      obtain ⟨a, b⟩ := hF_yes n (i + 1) k e
      exact ⟨by omega, b⟩
theorem q_oh {x : Int32} (hq : q ≤ 20) (hs : ∀ i, i < 20 → st i ≤ 3) {Φ : Int32 → HL → Prop} : ∀ (n i : Nat), i + n = q → Φ (o2i (hF lo st x i n)) (lo, ld, I st, pri, I bd, nI q, pp, ow) → it3 (b_H_openHaulOf_2 Φ) (n + 1) x (nI i) (lo, ld, I st, pri, I bd, nI q, pp, ow) := by
  intro n
  induction n with
  | zero =>
    intro i e k
    show b_H_openHaulOf_2 Φ (it3 (b_H_openHaulOf_2 Φ) 0) x (nI i) (lo, ld, I st, pri, I bd, nI q, pp, ow)
    rw [b_H_openHaulOf_2]
    exact le_t (a := q) (by omega) (by omega) k
  | succ n ih =>
    intro i e k
    show b_H_openHaulOf_2 Φ (it3 (b_H_openHaulOf_2 Φ) (n + 1)) x (nI i) (lo, ld, I st, pri, I bd, nI q, pp, ow)
    rw [b_H_openHaulOf_2]
    unfold b_H_openHaulOf_30
    rw [nI_1]
    rw [hF] at k
    refine le_f (a := q) (by omega) (by omega) (in_t (by omega) (by omega) ?_)
    rw [nI_clamp (by omega)]
    refine ⟨fun y => q_isOpen hq (by omega) (hs i (by omega)) (b2i_c (fun z => ?_) (fun z => ?_)), fun y => ?_⟩
    · rw [if_neg (fun w => by have := of_decide_eq_false z; exact this w.2)] at k
      exact ih (i + 1) (by omega) k
    · rw [if_pos ⟨y, of_decide_eq_true z⟩] at k
      exact k
    · rw [if_neg (fun w => y w.1)] at k
      exact ih (i + 1) (by omega) k
theorem q_openHaulOf {x : Int32} (hq : q ≤ 20) (hs : ∀ i, i < 20 → st i ≤ 3) {Φ : Int32 → HL → Prop} (k : Φ (o2i (hF lo st x 0 q)) (lo, ld, I st, pri, I bd, nI q, pp, ow)) : w_H_openHaulOf (lo, ld, I st, pri, I bd, nI q, pp, ow) x Φ := by
  unfold w_H_openHaulOf
  exact ⟨q + 1, q_oh hq hs q 0 (by omega) k⟩
theorem q_place {i j : Nat} (hq : q ≤ 20) (hi : i < q) (hj : j < 4) {Φ : Int32 → HL → Prop} (k : Φ 1 (lo, ld, I st, pri, I bd, nI q, pp, ow)) : w_H_isPlaceForBid (lo, ld, I st, pri, I bd, nI q, pp, ow) (nI i) (nI j) Φ := by
  unfold w_H_isPlaceForBid b_H_isPlaceForBid_26
  exact lt_f (b := 0) (by omega) (by omega) (le_f (a := q) (by omega) (by omega) (lt_f (b := 0) (by omega) (by omega) (le_f (a := 4) (by omega) (by omega) ⟨Or.inr rfl, k⟩)))
theorem ix4 {i j : Nat} : nI i * (4 : Int32) + nI j = nI (4 * i + j) := by rw [l4, pk_mul, nI_add, Nat.mul_comm]
theorem ixM4 {i j : Nat} : (4 : Int32) * nI i + nI j = nI (4 * i + j) := by rw [l4, pk_mul, nI_add]
theorem q_price {i j : Nat} (hq : q ≤ 20) (hi : i < q) (hj : j < 4) (hb : ∀ i, i < 80 → bd i ≤ 1000) {Φ : Int32 → HL → Prop} (k0 : bd (4 * i + j) = 0 → Φ (-1) (lo, ld, I st, pri, I bd, nI q, pp, ow)) (k1 : 0 < bd (4 * i + j) → Φ (nI (bd (4 * i + j))) (lo, ld, I st, pri, I bd, nI q, pp, ow)) : w_H_priceAsked (lo, ld, I st, pri, I bd, nI q, pp, ow) (nI i) (nI j) Φ := by
  unfold w_H_priceAsked b_H_priceAsked_22
  have h1 := hb (4 * i + j) (by omega)
  refine q_place hq hi hj (oo ?_)
  rw [ix4]
  refine in_t (by omega) (by omega) ?_
  rw [nI_clamp (by omega)]
  exact eq_c (a := bd (4 * i + j)) (b := 0) (by omega) (by omega) k0 (fun z => ⟨vp_in_nI (by omega) (by omega), k1 (by omega)⟩)
theorem q_ch {i : Nat} (hq : q ≤ 20) (hi : i < q) (hb : ∀ i, i < 80 → bd i ≤ 1000) {Φ : Int32 → HL → Prop} : ∀ (n s : Nat) (b : Option Nat), s + n = 4 → (∀ z, b = some z → z < 4 ∧ 0 < bd (4 * i + z)) → Φ (o2i (tgt (fun j => decide (0 < bd (4 * i + j))) (fun j => bd (4 * i + j)) s n b)) (lo, ld, I st, pri, I bd, nI q, pp, ow) → it4 (b_H_cheapestHaulier_4 Φ) (n + 1) (nI i) (o2i b) (nI s) (lo, ld, I st, pri, I bd, nI q, pp, ow) := by
  intro n
  induction n with
  | zero =>
    intro s b e hbb k
    show b_H_cheapestHaulier_4 Φ (it4 (b_H_cheapestHaulier_4 Φ) 0) (nI i) (o2i b) (nI s) (lo, ld, I st, pri, I bd, nI q, pp, ow)
    rw [b_H_cheapestHaulier_4]
    exact le_t (a := 4) (by omega) (by omega) k
  | succ n ih =>
    intro s b e hbb k
    show b_H_cheapestHaulier_4 Φ (it4 (b_H_cheapestHaulier_4 Φ) (n + 1)) (nI i) (o2i b) (nI s) (lo, ld, I st, pri, I bd, nI q, pp, ow)
    rw [b_H_cheapestHaulier_4]
    unfold b_H_cheapestHaulier_39 b_H_cheapestHaulier_41
    rw [nI_1]
    have no : (decide (0 < bd (4 * i + s)) && better (fun j => bd (4 * i + j)) b s) = false → it4 (b_H_cheapestHaulier_4 Φ) (n + 1) (nI i) (o2i b) (nI (s + 1)) (lo, ld, I st, pri, I bd, nI q, pp, ow) := fun z => ih (s + 1) b (by omega) hbb (by rw [tgt, if_neg (by rw [z]; decide)] at k; exact k)
    have yes : (decide (0 < bd (4 * i + s)) && better (fun j => bd (4 * i + j)) b s) = true → it4 (b_H_cheapestHaulier_4 Φ) (n + 1) (nI i) (nI s) (nI (s + 1)) (lo, ld, I st, pri, I bd, nI q, pp, ow) := fun z => ih (s + 1) (some s) (by omega) (fun y hy => by cases hy; simp only [Bool.and_eq_true, decide_eq_true_eq] at z; exact ⟨by omega, z.1⟩) (by rw [tgt, if_pos z] at k; exact k)
    have h1 := hb (4 * i + s) (by omega)
    refine le_f (a := 4) (by omega) (by omega) (q_price hq hi (by omega) hb (fun z => m1_t (no (by simp [z]))) (fun z => m1_f (by omega) ?_))
    cases b with
    | none => exact m1_t (yes (by simp [z, better]))
    | some t =>
      obtain ⟨t1, t2⟩ := hbb t rfl
      have h2 := hb (4 * i + t) (by omega)
      refine m1_f (by omega) (q_price hq hi t1 hb (fun y => absurd y (by omega)) (fun y => le_c (by omega) (by omega) (fun x => no ?_) (fun x => yes ?_)))
      · simp [better]; omega
      · simp [better, z]; omega
theorem q_cheapest {i : Nat} (hq : q ≤ 20) (hi : i < q) (hb : ∀ i, i < 80 → bd i ≤ 1000) {Φ : Int32 → HL → Prop} (k : Φ (o2i (tgt (fun j => decide (0 < bd (4 * i + j))) (fun j => bd (4 * i + j)) 0 4 none)) (lo, ld, I st, pri, I bd, nI q, pp, ow)) : w_H_cheapestHaulier (lo, ld, I st, pri, I bd, nI q, pp, ow) (nI i) Φ := by
  unfold w_H_cheapestHaulier
  exact ⟨5, q_ch hq hi hb 4 0 none rfl (fun z h => by cases h) k⟩
end
theorem tgt4_yes {can : Nat → Bool} {h : Nat → Nat} : ∀ (n s : Nat) (b : Option Nat) (t : Nat), (∀ z, b = some z → z < 4 ∧ can z = true) → s + n = 4 → tgt can h s n b = some t → t < 4 ∧ can t = true
  | 0, s, b, t, hb, _, e => hb t e
  | n + 1, s, b, t, hb, hs, e => by
    refine tgt4_yes n (s + 1) _ t ?_ (by omega) e
    intro z hz
    by_cases q : (can s && better h b s) = true
    · rw [if_pos q] at hz
      cases hz
      simp only [Bool.and_eq_true] at q
      exact ⟨by omega, q.1⟩
    · rw [if_neg q] at hz
      exact hb z hz
theorem q_rhT {σ : CY} {q i : Nat} {Φ : CY → Prop} {Ξ : String → CY → Prop} (hc : g_HL_count (g_CY_hl σ) = nI q) (hq : q ≤ 20) (hi : i < q) (k : Φ σ) : w_C_requireHaul σ (nI i) Φ Ξ := by
  unfold w_C_requireHaul w_H_number
  rw [hc]
  exact lt_f (b := 0) (by omega) (by omega) (lt_t (by omega) hi k)
theorem q_rhF {σ : CY} {q : Nat} {v : Int32} {Φ : CY → Prop} {Ξ : String → CY → Prop} (hc : g_HL_count (g_CY_hl σ) = nI q) (h : v < 0 ∨ nI q ≤ v) (k : Ξ IOE σ) : w_C_requireHaul σ v Φ Ξ := by
  unfold w_C_requireHaul w_H_number b_C_requireHaul_15
  rw [hc]
  exact ⟨fun _ => k, fun a => ⟨fun b => absurd ⟨a, b⟩ (lt_of_nI h), fun _ => k⟩⟩
