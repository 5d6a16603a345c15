theorem l0 : (0 : Int32) = nI 0 := rfl
theorem l1 : (1 : Int32) = nI 1 := rfl
theorem l2 : (2 : Int32) = nI 2 := rfl
theorem l3 : (3 : Int32) = nI 3 := rfl
theorem l4 : (4 : Int32) = nI 4 := rfl
theorem l5 : (5 : Int32) = nI 5 := rfl
theorem l6 : (6 : Int32) = nI 6 := rfl
theorem l8 : (8 : Int32) = nI 8 := rfl
theorem l20 : (20 : Int32) = nI 20 := rfl
theorem l25 : (25 : Int32) = nI 25 := rfl
theorem l30 : (30 : Int32) = nI 30 := rfl
theorem l50 : (50 : Int32) = nI 50 := rfl
theorem l100 : (100 : Int32) = nI 100 := rfl
theorem l1000 : (1000 : Int32) = nI 1000 := rfl
theorem l10000 : (10000 : Int32) = nI 10000 := rfl
theorem nI_ne_m1 {n : Nat} (h : n < 2 ^ 31) : ¬ nI n = (-1 : Int32) := by
  intro e
  have h1 := nI_toInt h
  rw [e] at h1
  have h2 : ((-1 : Int32)).toInt = -1 := by decide
  omega
theorem m1_lt0 : (-1 : Int32) < 0 := by decide
theorem nI_inj {a b : Nat} (ha : a < 2 ^ 31) (hb : b < 2 ^ 31) (h : nI a = nI b) : a = b := (nI_eq ha hb).mp h
abbrev I (f : Nat → Nat) : AI := fun j => nI (f j)
def up (f : Nat → Nat) (k v : Nat) : Nat → Nat := fun j => if j = k then v else f j
theorem up_s {f : Nat → Nat} {k v : Nat} : up f k v k = v := if_pos rfl
theorem up_n {f : Nat → Nat} {k v j : Nat} (h : j ≠ k) : up f k v j = f j := if_neg h
theorem I_up (f : Nat → Nat) (k v : Nat) : upd (I f) k (nI v) = I (up f k v) := by
  funext j
  by_cases h : j = k
  · subst h; simp [upd, up, I]
  · simp [upd, up, I, h]
theorem I_of (f : AI) : ∃ g : Nat → Nat, f = I g := ⟨fun j => (f j).toBitVec.toNat, by
  funext j
  show f j = Int32.ofNat (f j).toBitVec.toNat
  exact (Int32.toBitVec_inj.mp (by simp))⟩
theorem le_t {a b : Nat} {A B : Prop} (hb : b < 2 ^ 31) (h : a ≤ b) (k : A) : (nI a ≤ nI b → A) ∧ (¬ nI a ≤ nI b → B) := ⟨fun _ => k, fun c => absurd (nI_le h hb) c⟩
theorem le_f {a b : Nat} {A B : Prop} (ha : a < 2 ^ 31) (h : b < a) (k : B) : (nI a ≤ nI b → A) ∧ (¬ nI a ≤ nI b → B) := ⟨fun c => absurd c (nI_ge h ha), fun _ => k⟩
theorem lt_t {a b : Nat} {A B : Prop} (hb : b < 2 ^ 31) (h : a < b) (k : A) : (nI a < nI b → A) ∧ (¬ nI a < nI b → B) := ⟨fun _ => k, fun c => absurd (nI_lt h hb) c⟩
theorem lt_f {a b : Nat} {A B : Prop} (ha : a < 2 ^ 31) (h : b ≤ a) (k : B) : (nI a < nI b → A) ∧ (¬ nI a < nI b → B) := ⟨fun c => absurd c (nI_nlt h ha), fun _ => k⟩
theorem eq_t {a b : Nat} {A B : Prop} (h : a = b) (k : A) : (nI a = nI b → A) ∧ (¬ nI a = nI b → B) := ⟨fun _ => k, fun c => absurd (congrArg nI h) c⟩
theorem eq_f {a b : Nat} {A B : Prop} (ha : a < 2 ^ 31) (hb : b < 2 ^ 31) (h : a ≠ b) (k : B) : (nI a = nI b → A) ∧ (¬ nI a = nI b → B) := ⟨fun c => absurd (nI_inj ha hb c) h, fun _ => k⟩
theorem le_c {a b : Nat} {A B : Prop} (ha : a < 2 ^ 31) (hb : b < 2 ^ 31) (k : a ≤ b → A) (k2 : b < a → B) : (nI a ≤ nI b → A) ∧ (¬ nI a ≤ nI b → B) := ⟨fun c => k ((nI_leI ha hb).mp c), fun c => k2 (Nat.lt_of_not_le fun q => c ((nI_leI ha hb).mpr q))⟩
theorem lt_c {a b : Nat} {A B : Prop} (ha : a < 2 ^ 31) (hb : b < 2 ^ 31) (k : a < b → A) (k2 : b ≤ a → B) : (nI a < nI b → A) ∧ (¬ nI a < nI b → B) := ⟨fun c => k ((nI_ltI ha hb).mp c), fun c => k2 (Nat.le_of_not_lt fun q => c ((nI_ltI ha hb).mpr q))⟩
theorem eq_c {a b : Nat} {A B : Prop} (ha : a < 2 ^ 31) (hb : b < 2 ^ 31) (k : a = b → A) (k2 : a ≠ b → B) : (nI a = nI b → A) ∧ (¬ nI a = nI b → B) := ⟨fun c => k ((nI_eq ha hb).mp c), fun c => k2 fun q => c ((nI_eq ha hb).mpr q)⟩
theorem m1_f {a : Nat} {A B : Prop} (ha : a < 2 ^ 31) (k : B) : (nI a = (-1 : Int32) → A) ∧ (¬ nI a = (-1 : Int32) → B) := ⟨fun c => absurd c (nI_ne_m1 ha), fun _ => k⟩
theorem m1_t {A B : Prop} (k : A) : ((-1 : Int32) = (-1 : Int32) → A) ∧ (¬ (-1 : Int32) = (-1 : Int32) → B) := ⟨fun _ => k, fun c => absurd rfl c⟩
theorem in_t {n N : Nat} {B : Prop} (h : n < N) (hN : N < 2 ^ 31) (k : B) : vp_in (nI n) N ∧ B := ⟨vp_in_nI h hN, k⟩
theorem all_t {α : Sort _} {t : α} {P : α → Prop} (k : P t) : ∀ y : α, y = t → P y := fun _ e => e ▸ k
def b2i (b : Bool) : Int32 := if b then 1 else 0
theorem b2i_bo (b : Bool) : bo (b2i b) := by cases b <;> simp [b2i, bo]
def o2i : Option Nat → Int32 | none => -1 | some i => nI i
theorem b2i_c {b : Bool} {A B : Prop} (k : b = false → A) (k2 : b = true → B) : (b2i b = 0 → A) ∧ (¬ b2i b = 0 → B) := by
  cases b
  · exact ⟨fun _ => k rfl, fun c => absurd rfl c⟩
  · exact ⟨fun c => absurd c (by decide), fun _ => k2 rfl⟩
def ok (h c : Nat → Nat) : Prop := (∀ i, i < 6 → h i ≤ 5) ∧ ∀ i j, i < 6 → j < h i → c (5 * i + j) < 30
def top (h c : Nat → Nat) (i : Nat) : Nat := c (5 * i + (h i - 1))
theorem top_lt {h c : Nat → Nat} {i : Nat} (hk : ok h c) (hi : i < 6) (h0 : 0 < h i) : top h c i < 30 := hk.2 i _ hi (by omega)
theorem q_heightOf {h : Nat → Nat} {C w : AI} {i : Nat} (hi : i < 6) {Φ : Int32 → SK → Prop} (k : Φ (nI (h i)) (I h, C, w)) : w_S_heightOf (I h, C, w) (nI i) Φ := by
  unfold w_S_heightOf b_S_heightOf_19 b_S_heightOf_20
  refine lt_f (b := 0) (by omega) (by omega) (le_f (a := 6) (by omega) (by omega) (in_t hi (by omega) ?_))
  rw [nI_clamp (by omega)]
  exact k
theorem q_weightOf {H C w : AI} {c : Nat} (hc : c < 30) {Φ : Int32 → SK → Prop} (k : Φ (w c) (H, C, w)) : w_S_weightOf (H, C, w) (nI c) Φ := by
  unfold w_S_weightOf b_S_weightOf_19 b_S_weightOf_20
  refine lt_f (b := 0) (by omega) (by omega) (le_f (a := 30) (by omega) (by omega) (in_t hc (by omega) ?_))
  rw [nI_clamp (by omega)]
  exact k
theorem ix {i j : Nat} : nI i * (5 : Int32) + nI j = nI (5 * i + j) := by
  rw [l5, pk_mul, nI_add, Nat.mul_comm]
theorem ix1 {i j : Nat} (h : 0 < j) : nI i * (5 : Int32) + nI j - (1 : Int32) = nI (5 * i + (j - 1)) := by
  rw [ix, l1, pk_sub (by omega)]
  congr 1
  omega
theorem q_topOf {h c : Nat → Nat} {w : AI} {i : Nat} (hk : ok h c) (hi : i < 6) {Φ : Int32 → SK → Prop} (k0 : h i = 0 → Φ (-1) (I h, I c, w)) (k1 : 0 < h i → Φ (nI (top h c i)) (I h, I c, w)) : w_S_topOf (I h, I c, w) (nI i) Φ := by
  unfold w_S_topOf b_S_topOf_26
  have h5 := hk.1 i hi
  refine q_heightOf hi (le_c (b := 0) (by omega) (by omega) (fun q => k0 (by omega)) (fun q => ?_))
  rw [ix1 q]
  refine in_t (by omega) (by omega) ?_
  rw [nI_clamp (by omega)]
  exact k1 q
def canB (h c : Nat → Nat) (w : AI) (m : Nat) (x : Int32) (i : Nat) : Bool := decide (h i < m) && (decide (h i = 0) || decide (x ≤ w (top h c i)))
theorem canB_f1 {h c : Nat → Nat} {w : AI} {m : Nat} {x : Int32} {i : Nat} (q : m ≤ h i) : canB h c w m x i = false := by
  simp [canB, Nat.not_lt.mpr q]
theorem canB_t0 {h c : Nat → Nat} {w : AI} {m : Nat} {x : Int32} {i : Nat} (q : h i < m) (q0 : h i = 0) : canB h c w m x i = true := by
  simp [canB, q0]; omega
theorem canB_w {h c : Nat → Nat} {w : AI} {m : Nat} {x : Int32} {i : Nat} (q : h i < m) (q0 : 0 < h i) : canB h c w m x i = decide (x ≤ w (top h c i)) := by
  simp [canB, q, Nat.ne_of_gt q0]
theorem q_canTake {h c : Nat → Nat} {w : AI} {i m : Nat} {x : Int32} (hk : ok h c) (hi : i < 6) (hm : m ≤ 5) {Φ : Int32 → SK → Prop} (k : Φ (b2i (canB h c w m x i)) (I h, I c, w)) : w_S_canTake (I h, I c, w) (nI i) x (nI m) Φ := by
  unfold w_S_canTake b_S_canTake_35 b_S_canTake_31 b_S_canTake_36
  have h5 := hk.1 i hi
  refine q_heightOf hi (le_c (by omega) (by omega) (fun q => ?_) (fun q => eq_c (b := 0) (by omega) (by omega) (fun q0 => ?_) (fun q0 => q_topOf hk hi (fun z => absurd z q0) (fun z => q_weightOf (top_lt hk hi z) ⟨fun r => ?_, fun r => ?_⟩))))
  · rw [canB_f1 q] at k; exact ⟨Or.inl rfl, k⟩
  · rw [canB_t0 q q0] at k; exact ⟨Or.inr rfl, k⟩
  · rw [canB_w q z, decide_eq_false (fun e => absurd r (Int32.not_lt.mpr e))] at k; exact ⟨Or.inl rfl, k⟩
  · rw [canB_w q z, decide_eq_true (Int32.not_lt.mp r)] at k; exact ⟨Or.inr rfl, k⟩
theorem q_takeTop {h c : Nat → Nat} {w : AI} {i : Nat} (hk : ok h c) (hi : i < 6) (h0 : 0 < h i) {Φ : Int32 → SK → Prop} (k : Φ (nI (top h c i)) (I (up h i (h i - 1)), I c, w)) : w_S_takeTop (I h, I c, w) (nI i) Φ := by
  unfold w_S_takeTop b_S_takeTop_21
  have h5 := hk.1 i hi
  refine q_topOf hk hi (fun z => absurd z (by omega)) (fun z => m1_f (by have := top_lt hk hi z; omega) (in_t hi (by omega) (all_t (in_t hi (by omega) (all_t ?_)))))
  rw [nI_clamp (by omega)]
  show Φ _ (upd (I h) i (nI (h i) - 1), I c, w)
  rw [l1, pk_sub (by omega), I_up]
  exact k
theorem q_put {h c : Nat → Nat} {w : AI} {i v : Nat} (hi : i < 6) (h5 : h i < 5) {Φ : SK → Prop} (k : Φ (I (up h i (h i + 1)), I (up c (5 * i + h i) v), w)) : w_S_put (I h, I c, w) (nI i) (nI v) Φ := by
  unfold w_S_put b_S_put_41
  refine q_heightOf hi (lt_f (b := 0) (by omega) (by omega) (le_f (a := 6) (by omega) (by omega) (le_f (a := 5) (by omega) (by omega) ?_)))
  rw [ix]
  refine in_t (by omega) (by omega) (all_t (in_t hi (by omega) (all_t ?_)))
  rw [nI_clamp (by omega), nI_clamp (by omega)]
  show Φ (upd (I h) i (nI (h i) + 1), upd (I c) (5 * i + h i) (nI v), w)
  rw [l1, nI_add, I_up, I_up]
  exact k
