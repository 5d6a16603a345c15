theorem q_rrT {σ : CY} {h c : Nat → Nat} {w : AI} {x : Int32} {i : Nat} {Φ : CY → Prop} {Ξ : String → CY → Prop} (hs : g_CY_st σ = (I h, I c, w)) (hk : ok h c) (hi : i < 6) (hc : canB h c w (mo (g_CY_stormy σ)) x i = true) (k : Φ σ) : w_C_requireRoom σ (nI i) x Φ Ξ := by
  unfold w_C_requireRoom
  refine q_Cmost ?_
  rw [hs]
  refine q_canTake hk hi (mo_le _) ?_
  rw [hc, ← hs]
  exact oo k
theorem q_rrF {σ : CY} {h c : Nat → Nat} {w : AI} {x : Int32} {i : Nat} {Φ : CY → Prop} {Ξ : String → CY → Prop} (hs : g_CY_st σ = (I h, I c, w)) (hk : ok h c) (hi : i < 6) (hc : canB h c w (mo (g_CY_stormy σ)) x i = false) (k : Ξ ISE σ) : w_C_requireRoom σ (nI i) x Φ Ξ := by
  unfold w_C_requireRoom
  refine q_Cmost ?_
  rw [hs]
  refine q_canTake hk hi (mo_le _) ?_
  rw [hc, ← hs]
  exact zz k
theorem q_riT {σ : CY} {h c : Nat → Nat} {w : AI} {x : Int32} {i : Nat} {Φ : CY → Prop} {Ξ : String → CY → Prop} (hs : g_CY_st σ = (I h, I c, w)) (hk : ok h c) (hc : find h c x = some i) (k : Φ σ) : w_C_requireInStack σ x Φ Ξ := by
  unfold w_C_requireInStack
  rw [hs]
  refine q_stackHolding hk ?_
  have hi := (find_yes hc).1
  rw [hc, ← hs]
  exact m1_f (by omega) k
theorem q_riF {σ : CY} {h c : Nat → Nat} {w : AI} {x : Int32} {Φ : CY → Prop} {Ξ : String → CY → Prop} (hs : g_CY_st σ = (I h, I c, w)) (hk : ok h c) (hc : find h c x = none) (k : Ξ ISE σ) : w_C_requireInStack σ x Φ Ξ := by
  unfold w_C_requireInStack
  rw [hs]
  refine q_stackHolding hk ?_
  rw [hc, ← hs]
  exact m1_t k
section
variable {h : Nat → Nat} {c : Nat → Nat} {w : AI} {le : AI} {n : Nat} {cr : Int32} {lc : Int32} {ltr : AI} {len : Nat → Nat} {p : AI} {m : Nat} {s : Int32} {lo : AI} {ld : AI} {st : Nat → Nat} {pri : AI} {bd : Nat → Nat} {q : Nat} {pp : Int32} {ow : Int32} {d : Nat} {sy : Int32} {fe : Int32} {tr : SK} {lids : AI} {th : Int32} {td tdh : AI}
theorem st_drop (g : Good h c n cr ltr len p m st pri bd q pp ow d sy) (v : Int32) : Res [IAE, ISE] (w_C_drop (cyOf h c w le n cr lc ltr len p m s lo ld st pri bd q pp ow d sy fe tr lids) v) (w_M_drop (mdOf h c w le n cr lc ltr len p m s lo ld st pri bd q pp ow d sy fe th td tdh) v) := by
  rcases or_assoc.mpr (pk_ix v (n := 6) (by omega)) with hv | ⟨i, hi, rfl⟩
  · refine Res.thr 0 IAE 0 (cyOf h c w le n cr lc ltr len p m s lo ld st pri bd q pp ow d sy fe tr lids) (mdOf h c w le n cr lc ltr len p m s lo ld st pri bd q pp ow d sy fe 1 td tdh) rfl (Inv.of g) rfl (fun Φ Ξ k => ?_) (fun Ψ k => ?_)
    · unfold w_C_drop
      exact q_rsF hv k
    · unfold w_M_drop b_M_drop_38 b_M_drop_39 b_M_drop_58
      exact q_stF hv (zz (zz (q_gw1 (by decide) (zz k))))
  · have h5 := g.ok.1 i hi
    rcases g.1.2.2.2 with hcr | ⟨y, hy, hcr⟩
    · refine Res.thr 1 ISE 0 (cyOf h c w le n cr lc ltr len p m s lo ld st pri bd q pp ow d sy fe tr lids) (mdOf h c w le n cr lc ltr len p m s lo ld st pri bd q pp ow d sy fe 2 td tdh) rfl (Inv.of g) rfl (fun Φ Ξ k => ?_) (fun Ψ k => ?_)
      · unfold w_C_drop
        exact q_rsT hi (q_rfE hcr k)
      · unfold w_M_drop b_M_drop_38 b_M_drop_39 b_M_drop_58
        exact q_stT hi (oo (tt hcr (oo (zz (q_gw1 (by decide) (zz k))))))
    · subst hcr
      have hn := g.1.2.2.1
      have hne : ¬ nI y = (-1 : Int32) := nI_ne_m1 (by omega)
      cases hc : canB h c w (mo sy) (w y) i with
      | false =>
        refine Res.thr 1 ISE 0 (cyOf h c w le n (nI y) lc ltr len p m s lo ld st pri bd q pp ow d sy fe tr lids) (mdOf h c w le n (nI y) lc ltr len p m s lo ld st pri bd q pp ow d sy fe 2 td tdh) rfl (Inv.of g) rfl (fun Φ Ξ k => ?_) (fun Ψ k => ?_)
        · unfold w_C_drop
          exact q_rsT hi (q_rfF hne (q_weightOf (by omega) (q_rrF rfl g.ok hi hc k)))
        · unfold w_M_drop b_M_drop_38 b_M_drop_39 b_M_drop_58
          refine q_stT hi (oo (ff hne (in_t (by omega) (by omega) ?_)))
          rw [nI_clamp (by omega)]
          refine q_McanPut (h := h) (c := c) rfl rfl g.ok hi ?_
          rw [show canB h c (g_MD_weights (mdOf h c w le n (nI y) lc ltr len p m s lo ld st pri bd q pp ow d sy fe th td tdh)) (mo (g_MD_isStorm (mdOf h c w le n (nI y) lc ltr len p m s lo ld st pri bd q pp ow d sy fe th td tdh))) (g_MD_weights (mdOf h c w le n (nI y) lc ltr len p m s lo ld st pri bd q pp ow d sy fe th td tdh) y) i = false from hc]
          exact zz (oo (zz (q_gw1 (by decide) (zz k))))
      | true =>
        have h4 := canB_lt hc
        have hmo := mo_le sy
        have ok2 := ok_put (v := y) g.ok hi (by omega) (by omega)
        have gd : Good (up h i (h i + 1)) (up c (5 * i + h i) y) n (-1) ltr len p m st pri bd q pp ow d sy := ⟨⟨ok2.1, bd_put g.ok.1 g.1.2.1 hi (by omega) hy, hn, Or.inl rfl⟩, g.2⟩
        have gp := Good.pay (s := s) (tops (up h i (h i + 1)) (up c (5 * i + h i) y) le 0 6) gd
        refine Res.ret (nI (h i + 1)) (cyOf (up h i (h i + 1)) (up c (5 * i + h i) y) w le n (-1) lc ltr len (payF (tops (up h i (h i + 1)) (up c (5 * i + h i) y) le 0 6) ltr len 0 m p s).1 m (payF (tops (up h i (h i + 1)) (up c (5 * i + h i) y) le 0 6) ltr len 0 m p s).2 lo ld st pri bd q pp ow d sy fe tr (lidF (up h i (h i + 1)) (up c (5 * i + h i) y) le 0 6 0 lids)) (mdOf (up h i (h i + 1)) (up c (5 * i + h i) y) w le n (-1) lc ltr len (payF (tops (up h i (h i + 1)) (up c (5 * i + h i) y) le 0 6) ltr len 0 m p s).1 m (payF (tops (up h i (h i + 1)) (up c (5 * i + h i) y) le 0 6) ltr len 0 m p s).2 lo ld st pri bd q pp ow d sy fe 0 td tdh) (Inv.of gp) rfl (fun Φ Ξ k => ?_) (fun Ψ k => ?_)
        · unfold w_C_drop
          refine q_rsT hi (q_rfF hne (q_weightOf (by omega) (q_rrT rfl g.ok hi hc (q_put hi (by omega) (all_t ?_)))))
          refine q_Cpay (h := up h i (h i + 1)) (c := up c (5 * i + h i) y) (cr := -1) ok2 gd (q_heightOf hi ?_)
          rw [up_s]
          exact k
        · unfold w_M_drop b_M_drop_38 b_M_drop_39 b_M_drop_58
          refine q_stT hi (oo (ff hne (in_t (by omega) (by omega) ?_)))
          rw [nI_clamp (by omega)]
          refine q_McanPut (h := h) (c := c) rfl rfl g.ok hi ?_
          rw [show canB h c (g_MD_weights (mdOf h c w le n (nI y) lc ltr len p m s lo ld st pri bd q pp ow d sy fe th td tdh)) (mo (g_MD_isStorm (mdOf h c w le n (nI y) lc ltr len p m s lo ld st pri bd q pp ow d sy fe th td tdh))) (g_MD_weights (mdOf h c w le n (nI y) lc ltr len p m s lo ld st pri bd q pp ow d sy fe th td tdh) y) i = true from hc]
          refine oo (oo (oo (q_gw0 (oo (q_Mput (h := h) (c := c) rfl rfl hi (by omega) (all_t ?_))))))
          refine q_Mpay (h := up h i (h i + 1)) (c := up c (5 * i + h i) y) (cr := -1) (th := 0) (td := td) (tdh := tdh) (w := w) (le := le) (lo := lo) (ld := ld) (s := s) (fe := fe) (lc := lc) ok2 gd (in_t hi (by omega) ?_)
          rw [nI_clamp (by omega)]
          show Ψ (nI (up h i (h i + 1) i)) _
          rw [up_s]
          exact k
end
