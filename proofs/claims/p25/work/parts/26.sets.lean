def memF (f : Nat → Bool) : Nat → Nat → List Nat | _, 0 => [] | k, n + 1 => if f k = true then k :: memF f (k + 1) n else memF f (k + 1) n
theorem memF_congr {f g : Nat → Bool} : ∀ (n k : Nat), (∀ j, k ≤ j → j < k + n → f j = g j) → memF f k n = memF g k n
  | 0, _, _ => rfl
  | n + 1, k, e => by rw [memF, memF, e k (Nat.le_refl k) (by omega), memF_congr n (k + 1) (fun j h1 h2 => e j (by omega) (by omega))]
theorem memF_mem {f : Nat → Bool} : ∀ (n k j : Nat), j ∈ memF f k n ↔ k ≤ j ∧ j < k + n ∧ f j = true
  | 0, k, j => by simp [memF]; omega
  | n + 1, k, j => by
    rw [memF]
    by_cases z : f k = true
    · rw [if_pos z, List.mem_cons, memF_mem n (k + 1) j]
      refine ⟨fun h => ?_, fun h => ?_⟩
      · rcases h with h | h
        · subst h; exact ⟨by omega, by omega, z⟩
        · exact ⟨by omega, by omega, h.2.2⟩
      · by_cases y : j = k
        · exact Or.inl y
        · exact Or.inr ⟨by omega, by omega, h.2.2⟩
    · rw [if_neg z, memF_mem n (k + 1) j]
      refine ⟨fun h => ⟨by omega, by omega, h.2.2⟩, fun h => ⟨?_, by omega, h.2.2⟩⟩
      by_cases y : j = k
      · subst y; exact absurd h.2.2 z
      · omega
theorem tb (V k : Nat) : V.testBit k = decide (V / 2 ^ k % 2 = 1) := by rw [Nat.testBit_eq_decide_div_mod_eq]
theorem memF_len {V : Nat} : ∀ (n k : Nat), (memF V.testBit k n).length = cnt n (V / 2 ^ k)
  | 0, _ => rfl
  | n + 1, k => by
    rw [memF, cnt, Nat.div_div_eq_div_mul, show 2 ^ k * 2 = 2 ^ (k + 1) from rfl, ← memF_len n (k + 1), tb]
    by_cases z : V / 2 ^ k % 2 = 1
    · rw [if_pos (decide_eq_true z), List.length_cons]; omega
    · rw [if_neg (fun y => z (of_decide_eq_true y))]; omega
def nth (f : Nat → Bool) : Nat → Nat → Nat → Option Nat | _, 0, _ => none | k, n + 1, j => if f k = true then (if j = 0 then some k else nth f (k + 1) n (j - 1)) else nth f (k + 1) n j
theorem nth_eq {f : Nat → Bool} : ∀ (n k j : Nat), nth f k n j = (memF f k n)[j]?
  | 0, _, _ => by simp [nth, memF]
  | n + 1, k, j => by
    rw [nth, memF]
    by_cases z : f k = true
    · rw [if_pos z, if_pos z]
      cases j with
      | zero => rfl
      | succ j => rw [if_neg (by omega)]; exact nth_eq n (k + 1) j
    · rw [if_neg z, if_neg z, nth_eq n (k + 1) j]
theorem memF_del {f : Nat → Bool} {a : Nat} : ∀ (n k j : Nat), (memF f k n)[j]? = some a → memF (fun x => f x && decide (x ≠ a)) k n = (memF f k n).eraseIdx j
  | 0, _, _, e => by simp [memF] at e
  | n + 1, k, j, e => by
    rw [memF] at e ⊢
    by_cases z : f k = true
    · rw [if_pos z] at e
      rw [memF, if_pos z]
      cases j with
      | zero =>
        have e : k = a := Option.some.inj e
        subst e
        rw [if_neg (by simp), List.eraseIdx_cons_zero]
        exact memF_congr n (k + 1) (fun j h1 h2 => by simp; omega)
      | succ j =>
        have e : (memF f (k + 1) n)[j]? = some a := e
        have h1 := (memF_mem n (k + 1) a).mp (List.mem_of_getElem? e)
        rw [if_pos (by simp [z]; omega), List.eraseIdx_cons_succ, memF_del n (k + 1) j e]
    · rw [if_neg z] at e
      rw [memF, if_neg z, if_neg (by simp [z]), memF_del n (k + 1) j e]
theorem s_u : ∀ k, k < 32 → (((nI k).toUInt32 &&& Int32.toUInt32 31).toBitVec % 32).toNat = k := by decide +kernel
theorem s_s : ∀ k, k < 32 → ((nI k &&& 31).toBitVec.smod 32).toNat = k := by decide +kernel
theorem q_contains {v : Int32} {k : Nat} (hk : k < 32) {Φ : Int32 → Unit → Prop} (kk : Φ (b2i (v.toBitVec.toNat.testBit k)) ()) : w_C_contains v (nI k) Φ := by
  unfold w_C_contains b_C_contains_14
  rw [pk_and _ 1 (by decide), pk_ushr v (nI k) k (s_u k hk), tb] at *
  show (nI (v.toBitVec.toNat / 2 ^ k % 2) = (1 : Int32) → _) ∧ (¬ nI (v.toBitVec.toNat / 2 ^ k % 2) = (1 : Int32) → _)
  refine eq_c (a := v.toBitVec.toNat / 2 ^ k % 2) (b := 1) (by omega) (by omega) (fun z => ⟨Or.inr rfl, ?_⟩) (fun z => ⟨Or.inl rfl, ?_⟩)
  · rw [decide_eq_true z] at kk; exact kk
  · rw [decide_eq_false z] at kk; exact kk
theorem bitM {V k : Nat} (hV : V < 2 ^ 31) (hk : k < 32) : (nI V >>> (nI k &&& 31)) &&& (1 : Int32) = nI (V / 2 ^ k % 2) := by
  rw [pk_shrN hV (nI k &&& 31) k (s_s k hk), pk_andN (by have := Nat.div_le_self V (2 ^ k); omega) 1 (by decide)]
theorem q_memberOf {v : Int32} {j : Nat} (hj : j < 2 ^ 30) {Φ : Int32 → Unit → Prop} (kk : Φ (o2i (memF v.toBitVec.toNat.testBit 0 30)[j]?) ()) : w_C_memberOf v (nI j) Φ := by
  unfold w_C_memberOf
  rw [← nth_eq] at kk
  have L : ∀ (n k p i : Nat), k + n = 30 → p + i = j → Φ (o2i (nth v.toBitVec.toNat.testBit k n i)) () → it4 (b_C_memberOf_4 Φ) (n + 1) v (nI j) (nI p) (nI k) := by
    intro n
    induction n with
    | zero =>
      intro k p i e hi h
      show b_C_memberOf_4 Φ (it4 (b_C_memberOf_4 Φ) 0) v (nI j) (nI p) (nI k)
      rw [b_C_memberOf_4]
      exact le_t (a := 30) (by omega) (by omega) h
    | succ n ih =>
      intro k p i e hi h
      show b_C_memberOf_4 Φ (it4 (b_C_memberOf_4 Φ) (n + 1)) v (nI j) (nI p) (nI k)
      rw [b_C_memberOf_4]
      unfold b_C_memberOf_28
      rw [nI_1, nI_1]
      rw [nth] at h
      refine le_f (a := 30) (by omega) (by omega) (q_contains (by omega) (b2i_c (fun z => ?_) (fun z => ?_)))
      · rw [if_neg (by rw [z]; simp)] at h
        exact ih (k + 1) p i (by omega) hi h
      · rw [if_pos z] at h
        cases i with
        | zero => exact eq_t (a := p) (b := j) (by omega) h
        | succ i =>
          rw [if_neg (by omega)] at h
          exact eq_f (a := p) (b := j) (by omega) (by omega) (by omega) (ih (k + 1) (p + 1) i (by omega) (by omega) h)
  exact ⟨31, L 30 0 0 j rfl (by omega) kk⟩
theorem maskK : ∀ k, k < 30 → ∀ j, j < 32 → ((((1 : Int32) <<< (nI k &&& 31)) ^^^ (-1 : Int32)).toBitVec.toNat).testBit j = decide (j ≠ k) := by decide +kernel
theorem delBit {V k : Nat} (hV : V < 2 ^ 30) (hk : k < 30) : ∃ W : Nat, W < 2 ^ 30 ∧ (nI V &&& (((1 : Int32) <<< (nI k &&& 31)) ^^^ (-1 : Int32))) = nI W ∧ ∀ j, W.testBit j = (V.testBit j && decide (j ≠ k)) := by
  have hl : ((((1 : Int32) <<< (nI k &&& 31)) ^^^ (-1 : Int32)).toBitVec.toNat) < 2 ^ 32 := BitVec.isLt _
  refine ⟨V &&& ((((1 : Int32) <<< (nI k &&& 31)) ^^^ (-1 : Int32)).toBitVec.toNat), Nat.lt_of_le_of_lt Nat.and_le_left hV, ?_, fun j => ?_⟩
  · refine Int32.toBitVec_inj.mp (BitVec.eq_of_toNat_eq ?_)
    rw [i_and, pk_tn (n := V) (by omega), pk_tn (Nat.lt_of_le_of_lt Nat.and_le_left (by omega))]
  · rw [Nat.testBit_and]
    by_cases z : j < 32
    · rw [maskK k hk j z]
    · have : V.testBit j = false := Nat.testBit_lt_two_pow (Nat.lt_of_lt_of_le (show V < 2 ^ 32 by omega) (Nat.pow_le_pow_right (by omega) (by omega)))
      rw [this]; simp
theorem orK : ∀ B, B < 16 → ∀ y, y < 4 → nI B ||| ((1 : Int32) <<< (nI y &&& 31)) = nI (B ||| 2 ^ y) ∧ (B ||| 2 ^ y) < 16 := by decide +kernel
