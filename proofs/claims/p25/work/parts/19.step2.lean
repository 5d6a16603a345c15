theorem q_rrT {σ : CY} {h c : Nat → Nat} {w : AI} {x : Int32} {i : Nat} {Φ : CY → Prop} {Ξ : String → CY → Prop} (hs : g_CY_st σ = (I h, I c, w)) (hk : ok h c) (hi : i < 6) (hc : canB h c w (mo (g_CY_stormy σ)) x i = true) (k : Φ σ) : w_C_requireRoom σ (nI i) x Φ Ξ := by
  unfold w_C_requireRoom
  refine q_Cmost ?_
  rw [hs]
  refine q_canTake hk hi (mo_le _) ?_
  rw [hc, ← hs]
  exact oo k
theorem q_rrF {σ : CY} {h c : Nat → Nat} {w : AI} {x : Int32} {i : Nat} {Φ : CY → Prop} {Ξ : String → CY → Prop} (hs : g_CY_st σ = (I h, I c, w)) (hk : ok h c) (hi : i < 6) (hc : canB h c w (mo (g_CY_stormy σ)) x i = false) (k : Ξ ISE σ) : w_C_requireRoom σ (nI i) x Φ Ξ := by
  unfold w_C_requireRoom
  refine q_Cmost ?_
  rw [hs]
  refine q_canTake hk hi (mo_le _) ?_
  rw [hc, ← hs]
  exact zz k
theorem q_riT {σ : CY} {h c : Nat → Nat} {w : AI} {x : Int32} {i : Nat} {Φ : CY → Prop} {Ξ : String → CY → Prop} (hs : g_CY_st σ = (I h, I c, w)) (hk : ok h c) (hc : find h c x = some i) (k : Φ σ) : w_C_requireInStack σ x Φ Ξ := by
  unfold w_C_requireInStack
  rw [hs]
  refine q_stackHolding hk ?_
  have hi := (find_yes hc).1
  rw [hc, ← hs]
  exact m1_f (by omega) k
theorem q_riF {σ : CY} {h c : Nat → Nat} {w : AI} {x : Int32} {Φ : CY → Prop} {Ξ : String → CY → Prop} (hs : g_CY_st σ = (I h, I c, w)) (hk : ok h c) (hc : find h c x = none) (k : Ξ ISE σ) : w_C_requireInStack σ x Φ Ξ := by
  unfold w_C_requireInStack
  rw [hs]
  refine q_stackHolding hk ?_
  rw [hc, ← hs]
  exact m1_t k
