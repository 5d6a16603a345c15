theorem q_crateAt {h c : Nat → Nat} {w : AI} {i j : Nat} (hk : ok h c) (hi : i < 6) (hj : j < 5) {Φ : Int32 → SK → Prop} (k : Φ (if j < h i then nI (c (5 * i + j)) else -1) (I h, I c, w)) : w_S_crateAt (I h, I c, w) (nI i) (nI j) Φ := by
  unfold w_S_crateAt b_S_crateAt_26 b_S_crateAt_27
  have h5 := hk.1 i hi
  refine lt_f (b := 0) (by omega) (by omega) (q_heightOf hi (le_c (by omega) (by omega) (fun q => ?_) (fun q => ?_)))
  · rw [if_neg (by omega)] at k; exact k
  · rw [if_pos q] at k
    rw [ix]
    refine in_t (by omega) (by omega) ?_
    rw [nI_clamp (by omega)]
    exact k
theorem q_McanPut {h c : Nat → Nat} {σ : MD} {x : Int32} {i : Nat} (hH : g_MD_heights σ = I h) (hY : g_MD_yard σ = I c) (hk : ok h c) (hi : i < 6) {Φ : Int32 → MD → Prop} (k : Φ (b2i (canB h c (g_MD_weights σ) (mo (g_MD_isStorm σ)) x i)) σ) : w_M_canPut σ x (nI i) Φ := by
  unfold w_M_canPut b_M_canPut_44 b_M_canPut_40 b_M_canPut_45
  have h5 := hk.1 i hi
  have hmo := mo_le (g_MD_isStorm σ)
  rw [hH]
  refine in_t hi (by omega) (all_t (q_Mmost ?_))
  rw [nI_clamp (by omega), hY]
  show (nI (mo (g_MD_isStorm σ)) ≤ nI (h i) → _) ∧ (_ → (nI (h i) = 0 → _) ∧ _)
  refine le_c (by omega) (by omega) (fun q => ?_) (fun q => eq_c (b := 0) (by omega) (by omega) (fun q0 => ?_) (fun q0 => ?_))
  · rw [canB_f1 q] at k; exact ⟨Or.inl rfl, k⟩
  · rw [canB_t0 q q0] at k; exact ⟨Or.inr rfl, k⟩
  · show vp_in ((5 : Int32) * nI i + nI (h i) - (1 : Int32)) 30 ∧ _
    rw [ixM1 (by omega)]
    refine in_t (by omega) (by omega) ?_
    rw [nI_clamp (by omega)]
    show vp_in (nI (top h c i)) 30 ∧ _
    have ht := top_lt hk hi (by omega)
    refine in_t ht (by omega) ?_
    have ht2 : c (5 * i + (h i - 1)) < 30 := ht
    rw [nI_clamp (by omega)]
    refine ⟨fun r => ?_, fun r => ?_⟩
    · have r : g_MD_weights σ (top h c i) < x := r
      rw [canB_w q (by omega), decide_eq_false (fun e => absurd r (Int32.not_lt.mpr e))] at k; exact ⟨Or.inl rfl, k⟩
    · have r : ¬ g_MD_weights σ (top h c i) < x := r
      rw [canB_w q (by omega), decide_eq_true (Int32.not_lt.mp r)] at k; exact ⟨Or.inr rfl, k⟩
theorem q_Mput {h c : Nat → Nat} {σ : MD} {i v : Nat} (hH : g_MD_heights σ = I h) (hY : g_MD_yard σ = I c) (hi : i < 6) (h5 : h i < 5) {Φ : MD → Prop} (k : Φ (setYard σ (I (up h i (h i + 1))) (I (up c (5 * i + h i) v)))) : w_M_put σ (nI v) (nI i) Φ := by
  unfold w_M_put
  rw [hH, hY]
  refine in_t hi (by omega) ?_
  rw [nI_clamp (show i < 2 ^ 31 by omega)]
  show vp_in ((5 : Int32) * nI i + nI (h i)) 30 ∧ ∀ z1 : MD, z1 = s_MD_yard σ (upd (I c) ((5 : Int32) * nI i + nI (h i)).toNatClampNeg (nI v)) → _
  rw [ixM]
  refine in_t (by omega) (by omega) (all_t (in_t hi (by omega) (all_t (in_t hi (by omega) (all_t ?_)))))
  rw [nI_clamp (by omega)]
  have e1 : g_MD_heights (s_MD_yard σ (upd (I c) (5 * i + h i) (nI v))) = I h := hH
  rw [e1]
  have e2 : upd (I h) i (I h i + (1 : Int32)) = I (up h i (h i + 1)) := by
    show upd (I h) i (nI (h i) + (1 : Int32)) = _
    rw [nI_1, I_up]
  rw [e2, I_up]
  exact k
theorem payF_bo {L : List Int32} {ltr : AI} {len : Nat → Nat} : ∀ (n i : Nat) (p : AI) (s : Int32), (∀ i, i < 8 → bo (p i)) → ∀ j, j < 8 → bo ((payF L ltr len i n p s).1 j)
  | 0, _, _, _, h => h
  | n + 1, i, p, s, h => by
    rw [payF]
    split
    · refine payF_bo n (i + 1) _ _ (fun j hj => ?_)
      by_cases q : j = i
      · subst q; simp [upd, bo]
      · simp [upd, q]; exact h j hj
    · exact payF_bo n (i + 1) p s h
section
variable {h : Nat → Nat} {c : Nat → Nat} {w : AI} {le : AI} {n : Nat} {cr : Int32} {lc : Int32} {ltr : AI} {len : Nat → Nat} {p : AI} {m : Nat} {s : Int32} {lo : AI} {ld : AI} {st : Nat → Nat} {pri : AI} {bd : Nat → Nat} {q : Nat} {pp : Int32} {ow : Int32} {d : Nat} {sy : Int32} {fe : Int32} {tr : SK} {lids : AI} {th : Int32} {td tdh : AI}
theorem q_Cpay (hk : ok h c) (g : Good h c n cr ltr len p m st pri bd q pp ow d sy) {Φ : CY → Prop} (k : Φ (cyOf h c w le n cr lc ltr len (payF (tops h c le 0 6) ltr len 0 m p s).1 m (payF (tops h c le 0 6) ltr len 0 m p s).2 lo ld st pri bd q pp ow d sy fe tr (lidF h c le 0 6 0 lids))) : w_C_payWords (cyOf h c w le n cr lc ltr len p m s lo ld st pri bd q pp ow d sy fe tr lids) Φ := q_CpayWords hk g.2.1.1 g.2.1.2.1 k
theorem q_Mpay (hk : ok h c) (g : Good h c n cr ltr len p m st pri bd q pp ow d sy) {Φ : MD → Prop} (k : Φ (mdOf h c w le n cr lc ltr len (payF (tops h c le 0 6) ltr len 0 m p s).1 m (payF (tops h c le 0 6) ltr len 0 m p s).2 lo ld st pri bd q pp ow d sy fe th td tdh)) : w_M_payWords (mdOf h c w le n cr lc ltr len p m s lo ld st pri bd q pp ow d sy fe th td tdh) Φ := q_MpayWords (σ := (mdOf h c w le n cr lc ltr len p m s lo ld st pri bd q pp ow d sy fe th td tdh)) hk g.2.1.1 rfl rfl rfl g.2.1.2.1 k
theorem Good.pay (L : List Int32) (g : Good h c n cr ltr len p m st pri bd q pp ow d sy) : Good h c n cr ltr len (payF L ltr len 0 m p s).1 m st pri bd q pp ow d sy := ⟨g.1, ⟨g.2.1.1, g.2.1.2.1, payF_bo m 0 p s g.2.1.2.2⟩, g.2.2⟩
theorem st_at (g : Good h c n cr ltr len p m st pri bd q pp ow d sy) (v u : Int32) : Res [IAE] (w_C_at (cyOf h c w le n cr lc ltr len p m s lo ld st pri bd q pp ow d sy fe tr lids) v u) (w_M_at (mdOf h c w le n cr lc ltr len p m s lo ld st pri bd q pp ow d sy fe th td tdh) v u) := by
  have hno : (v < 0 ∨ nI 6 ≤ v) ∨ (∃ i, i < 6 ∧ v = nI i) ∧ (u < 0 ∨ nI 5 ≤ u) → Res [IAE] (w_C_at (cyOf h c w le n cr lc ltr len p m s lo ld st pri bd q pp ow d sy fe tr lids) v u) (w_M_at (mdOf h c w le n cr lc ltr len p m s lo ld st pri bd q pp ow d sy fe th td tdh) v u) := by
    intro hv
    refine Res.thr 0 IAE 0 (cyOf h c w le n cr lc ltr len p m s lo ld st pri bd q pp ow d sy fe tr lids) (mdOf h c w le n cr lc ltr len p m s lo ld st pri bd q pp ow d sy fe 1 td tdh) rfl (Inv.of g) rfl (fun Φ Ξ k => ?_) (fun Ψ k => ?_)
    · unfold w_C_at b_C_at_13
      rcases hv with hv | ⟨⟨i, hi, rfl⟩, hu⟩
      · exact q_rsF hv k
      · exact q_rsT hi ⟨fun _ => k, fun a => ⟨fun b => absurd ⟨a, b⟩ (lt_of_nI hu), fun _ => k⟩⟩
    · unfold w_M_at b_M_at_21 b_M_at_22
      rcases hv with hv | ⟨⟨i, hi, rfl⟩, hu⟩
      · exact q_stF hv (zz (q_gw1 (by decide) (zz k)))
      · exact q_stT hi (oo (q_inF (hu.imp id (fun z => lt_of_ge (N := 4) (by omega) z)) (zz (q_gw1 (by decide) (zz k)))))
  rcases or_assoc.mpr (pk_ix v (n := 6) (by omega)) with hv | ⟨i, hi, rfl⟩
  · exact hno (Or.inl hv)
  · rcases or_assoc.mpr (pk_ix u (n := 5) (by omega)) with hu | ⟨j, hj, rfl⟩
    · exact hno (Or.inr ⟨⟨i, hi, rfl⟩, hu⟩)
    · have h5 := g.ok.1 i hi
      refine Res.ret (if j < h i then nI (c (5 * i + j)) else -1) (cyOf h c w le n cr lc ltr len p m s lo ld st pri bd q pp ow d sy fe tr lids) (mdOf h c w le n cr lc ltr len p m s lo ld st pri bd q pp ow d sy fe 0 td tdh) (Inv.of g) rfl (fun Φ Ξ k => ?_) (fun Ψ k => ?_)
      · unfold w_C_at
        exact q_rsT hi (lt_f (b := 0) (by omega) (by omega) (lt_t (b := 5) (by omega) (by omega) (q_crateAt g.ok hi hj k)))
      · unfold w_M_at b_M_at_21 b_M_at_22 b_M_at_54
        refine q_stT hi (oo (q_inT (nI_le (a := 0) (by omega) (by omega)) (nI_le (b := 4) (by omega) (by omega)) (oo (q_gw0 (oo (in_t hi (by omega) ?_))))))
        rw [nI_clamp (by omega)]
        refine le_c (a := h i) (by omega) (by omega) (fun q => ?_) (fun q => ?_)
        · rw [if_neg (by omega)] at k; exact k
        · rw [if_pos q] at k
          rw [ixM]
          refine in_t (by omega) (by omega) ?_
          rw [nI_clamp (by omega)]
          exact k
theorem I_td (td tdh : AI) : ∃ a b : Nat → Nat, td = I a ∧ tdh = I b := by
  obtain ⟨a, ha⟩ := I_of td
  obtain ⟨b, hb⟩ := I_of tdh
  exact ⟨a, b, ha, hb⟩
/-- the copied yard, on the reference's side -/
theorem q_Mcopy {σ : MD} {h c a b : Nat → Nat} (hH : g_MD_heights σ = I h) (hY : g_MD_yard σ = I c) (hA : g_MD_tried σ = I a) (hB : g_MD_triedHeights σ = I b) {Φ : MD → Prop} (kk : Φ (setTry σ (I (mix 6 h b)) (I (mix 30 c a)))) : w_M_copyYard σ Φ := by
  refine q_McopyYard ?_
  rw [hH, hY, hA, hB, mixA_I, mixA_I]
  exact kk
theorem st_stackOf (g : Good h c n cr ltr len p m st pri bd q pp ow d sy) (v : Int32) : Res [IOE] (w_C_stackOf (cyOf h c w le n cr lc ltr len p m s lo ld st pri bd q pp ow d sy fe tr lids) v) (w_M_stackOf (mdOf h c w le n cr lc ltr len p m s lo ld st pri bd q pp ow d sy fe th td tdh) v) := by
  obtain ⟨a, b, rfl, rfl⟩ := I_td td tdh
  rcases or_assoc.mpr (pk_ix v (n := n) (by have := g.1.2.2.1; omega)) with hv | ⟨i, hi, rfl⟩
  · refine Res.thr 0 IOE 0 (cyOf h c w le n cr lc ltr len p m s lo ld st pri bd q pp ow d sy fe tr lids) (mdOf h c w le n cr lc ltr len p m s lo ld st pri bd q pp ow d sy fe 1 (I a) (I b)) rfl (Inv.of g) rfl (fun Φ Ξ k => ?_) (fun Ψ k => ?_)
    · unfold w_C_stackOf
      exact q_rcF (n := n) rfl hv k
    · unfold w_M_stackOf b_M_stackOf_14
      exact q_crF (n := n) rfl g.1.2.2.1 hv (zz (q_gw1 (by decide) (zz k)))
  · refine Res.ret (o2i (find h c (nI i))) (cyOf h c w le n cr lc ltr len p m s lo ld st pri bd q pp ow d sy fe tr lids) (mdOf h c w le n cr lc ltr len p m s lo ld st pri bd q pp ow d sy fe 0 (I (mix 30 c a)) (I (mix 6 h b))) (Inv.of g) rfl (fun Φ Ξ k => ?_) (fun Ψ k => ?_)
    · unfold w_C_stackOf
      exact q_rcT (n := n) rfl g.1.2.2.1 hi (q_stackHolding g.ok k)
    · unfold w_M_stackOf b_M_stackOf_14
      refine q_crT (n := n) rfl g.1.2.2.1 hi (oo (q_gw0 (oo (q_Mcopy (h := h) (c := c) (a := a) (b := b) rfl rfl rfl rfl (q_Mfind (ok_eqv eqv_mix g.ok) ?_)))))
      rw [find_eqv eqv_mix g.ok.1]
      exact k
theorem st_lift (g : Good h c n cr ltr len p m st pri bd q pp ow d sy) (v : Int32) : Res [IAE, ISE] (w_C_lift (cyOf h c w le n cr lc ltr len p m s lo ld st pri bd q pp ow d sy fe tr lids) v) (w_M_lift (mdOf h c w le n cr lc ltr len p m s lo ld st pri bd q pp ow d sy fe th td tdh) v) := by
  rcases or_assoc.mpr (pk_ix v (n := 6) (by omega)) with hv | ⟨i, hi, rfl⟩
  · refine Res.thr 0 IAE 0 (cyOf h c w le n cr lc ltr len p m s lo ld st pri bd q pp ow d sy fe tr lids) (mdOf h c w le n cr lc ltr len p m s lo ld st pri bd q pp ow d sy fe 1 td tdh) rfl (Inv.of g) rfl (fun Φ Ξ k => ?_) (fun Ψ k => ?_)
    · unfold w_C_lift
      exact q_rsF hv k
    · unfold w_M_lift b_M_lift_36
      exact q_stF hv (zz (q_gw1 (by decide) (zz k)))
  · have h5 := g.ok.1 i hi
    by_cases q0 : h i = 0
    · refine Res.thr 1 ISE 0 (cyOf h c w le n cr lc ltr len p m s lo ld st pri bd q pp ow d sy fe tr lids) (mdOf h c w le n cr lc ltr len p m s lo ld st pri bd q pp ow d sy fe 2 td tdh) rfl (Inv.of g) rfl (fun Φ Ξ k => ?_) (fun Ψ k => ?_)
      · unfold w_C_lift
        refine q_rsT hi ?_
        by_cases qc : cr = -1
        · exact q_reE qc (q_heightOf hi (eq_t (b := 0) q0 k))
        · exact q_reF qc k
      · unfold w_M_lift b_M_lift_31 b_M_lift_36
        refine q_stT hi (oo (in_t hi (by omega) ?_))
        rw [nI_clamp (by omega)]
        exact eq_t (a := h i) (b := 0) q0 (q_gw1 (by decide) (zz k))
    · by_cases qc : cr = -1
      · have ht := top_lt g.ok hi (by omega)
        have hb := g.1.2.1 i (h i - 1) hi (by omega)
        have gd : Good (up h i (h i - 1)) c n (nI (top h c i)) ltr len p m st pri bd q pp ow d sy := ⟨⟨(ok_down g.ok).1, bd_down g.1.2.1, g.1.2.2.1, Or.inr ⟨_, hb, rfl⟩⟩, g.2⟩
        have gp := Good.pay (s := s) (tops (up h i (h i - 1)) c le 0 6) gd
        refine Res.ret (nI (top h c i)) (cyOf (up h i (h i - 1)) c w le n (nI (top h c i)) (lc + 1) ltr len (payF (tops (up h i (h i - 1)) c le 0 6) ltr len 0 m p s).1 m (payF (tops (up h i (h i - 1)) c le 0 6) ltr len 0 m p s).2 lo ld st pri bd q pp ow d sy fe tr (lidF (up h i (h i - 1)) c le 0 6 0 lids)) (mdOf (up h i (h i - 1)) c w le n (nI (top h c i)) (lc + 1) ltr len (payF (tops (up h i (h i - 1)) c le 0 6) ltr len 0 m p s).1 m (payF (tops (up h i (h i - 1)) c le 0 6) ltr len 0 m p s).2 lo ld st pri bd q pp ow d sy fe 0 td tdh) (Inv.of gp) rfl (fun Φ Ξ k => ?_) (fun Ψ k => ?_)
        · unfold w_C_lift
          refine q_rsT hi (q_reE qc (q_heightOf hi (eq_f (b := 0) (by omega) (by omega) q0 (q_takeTop g.ok hi (by omega) (all_t (all_t (all_t ?_)))))))
          exact q_Cpay (h := up h i (h i - 1)) (cr := nI (top h c i)) (lc := lc + 1) (ok_down g.ok) gd k
        · unfold w_M_lift b_M_lift_31 b_M_lift_36
          refine q_stT hi (oo (in_t hi (by omega) ?_))
          rw [nI_clamp (by omega)]
          refine eq_f (a := h i) (b := 0) (by omega) (by omega) q0 (tt qc (q_gw0 (oo (q_MtopOf (h := h) (c := c) rfl rfl g.ok hi (by omega) (all_t (in_t hi (by omega) (all_t (in_t hi (by omega) (all_t (all_t (all_t ?_)))))))))))
          have e1 : upd (I h) i (I h i - (1 : Int32)) = I (up h i (h i - 1)) := by
            show upd (I h) i (nI (h i) - (1 : Int32)) = _
            rw [l1, pk_sub (by omega), I_up]
          have e2 := q_Mpay (h := up h i (h i - 1)) (cr := nI (top h c i)) (lc := lc + 1) (th := 0) (td := td) (tdh := tdh) (w := w) (le := le) (lo := lo) (ld := ld) (s := s) (fe := fe) (Φ := fun u => Ψ (g_MD_crane u) u) (ok_down g.ok) gd k
          unfold mdOf at e2
          rw [← e1] at e2
          exact e2
      · refine Res.thr 1 ISE 0 (cyOf h c w le n cr lc ltr len p m s lo ld st pri bd q pp ow d sy fe tr lids) (mdOf h c w le n cr lc ltr len p m s lo ld st pri bd q pp ow d sy fe 2 td tdh) rfl (Inv.of g) rfl (fun Φ Ξ k => ?_) (fun Ψ k => ?_)
        · unfold w_C_lift
          exact q_rsT hi (q_reF qc k)
        · unfold w_M_lift b_M_lift_31 b_M_lift_36
          refine q_stT hi (oo (in_t hi (by omega) ?_))
          rw [nI_clamp (by omega)]
          exact eq_f (a := h i) (b := 0) (by omega) (by omega) q0 (ff qc (q_gw1 (by decide) (zz k)))
end
