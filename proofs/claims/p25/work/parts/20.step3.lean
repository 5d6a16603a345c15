theorem q_setWeight {H C w : AI} {n : Nat} {v : Int32} (hn : n < 30) {Φ : SK → Prop} (k : Φ (H, C, upd w n v)) : w_S_setWeight (H, C, w) (nI n) v Φ := by
  unfold w_S_setWeight b_S_setWeight_17
  refine lt_f (b := 0) (by omega) (by omega) (le_f (a := 30) (by omega) (by omega) (in_t hn (by omega) (all_t ?_)))
  rw [nI_clamp (by omega)]
  exact k
theorem q_copyFrom {a b w2 h c w : AI} {Φ : SD → Prop} (k : Φ ((mixA 6 h a, mixA 30 c b, mixA 30 w w2), (h, c, w))) : w_S_copyFrom ((a, b, w2), (h, c, w)) Φ := by
  unfold w_S_copyFrom
  refine all_t (all_t (all_t ?_))
  rw [← cpy_mix, ← cpy_mix, ← cpy_mix] at k
  exact k
theorem mix_eqv6 {f g h : Nat → Nat} (e : ∀ i, i < 6 → f i = g i) : mix 6 f h = mix 6 g h := by
  funext k
  by_cases q : k < 6
  · simp [mix, q, e k q]
  · simp [mix, q]
theorem mix_eqv30 {f g h : Nat → Nat} (e : ∀ i, i < 30 → f i = g i) : mix 30 f h = mix 30 g h := by
  funext k
  by_cases q : k < 30
  · simp [mix, q, e k q]
  · simp [mix, q]
