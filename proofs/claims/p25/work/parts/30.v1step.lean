section
variable {h : Nat → Nat} {c : Nat → Nat} {w : AI} {le : AI} {n : Nat} {cr : Int32} {lc : Int32} {ltr : AI} {len : Nat → Nat} {p : AI} {m : Nat} {s : Int32} {lo : AI} {ld : AI} {st : Nat → Nat} {pri : AI} {bd : Nat → Nat} {q : Nat} {pp : Int32} {ow : Int32} {d : Nat} {sy : Int32} {fe : Int32} {K : Nat}
theorem q_Cheight {i : Nat} (hi : i < 6) {tr : SK} {lids : AI} {Φ : Int32 → CY → Prop} {Ξ : String → CY → Prop} (k : Φ (nI (h i)) (cyOf h c w le n cr lc ltr len p m s lo ld st pri bd q pp ow d sy fe tr lids)) : w_C_height (cyOf h c w le n cr lc ltr len p m s lo ld st pri bd q pp ow d sy fe tr lids) (nI i) Φ Ξ := by
  unfold w_C_height
  exact q_rsT hi (q_heightOf hi k)
theorem q_Cat (g : Good h c n cr ltr len p m st pri bd q pp ow d sy) {i j : Nat} (hi : i < 6) (hj : j < 5) {tr : SK} {lids : AI} {Φ : Int32 → CY → Prop} {Ξ : String → CY → Prop} (k : Φ (if j < h i then nI (c (5 * i + j)) else -1) (cyOf h c w le n cr lc ltr len p m s lo ld st pri bd q pp ow d sy fe tr lids)) : w_C_at (cyOf h c w le n cr lc ltr len p m s lo ld st pri bd q pp ow d sy fe tr lids) (nI i) (nI j) Φ Ξ := by
  unfold w_C_at
  exact q_rsT hi (lt_f (b := 0) (by omega) (by omega) (lt_t (b := 5) (by omega) (by omega) (q_crateAt g.ok hi hj k)))
theorem q_CstackOf (g : Good h c n cr ltr len p m st pri bd q pp ow d sy) {y : Nat} (hy : y < n) {tr : SK} {lids : AI} {Φ : Int32 → CY → Prop} {Ξ : String → CY → Prop} (k : Φ (o2i (find h c (nI y))) (cyOf h c w le n cr lc ltr len p m s lo ld st pri bd q pp ow d sy fe tr lids)) : w_C_stackOf (cyOf h c w le n cr lc ltr len p m s lo ld st pri bd q pp ow d sy fe tr lids) (nI y) Φ Ξ := by
  unfold w_C_stackOf
  exact q_rcT (n := n) rfl g.1.2.2.1 hy (q_stackHolding g.ok k)
theorem q_CstackOfX {v : Int32} (hv : v < 0 ∨ nI n ≤ v) {tr : SK} {lids : AI} {Φ : Int32 → CY → Prop} {Ξ : String → CY → Prop} (k : Ξ IOE (cyOf h c w le n cr lc ltr len p m s lo ld st pri bd q pp ow d sy fe tr lids)) : w_C_stackOf (cyOf h c w le n cr lc ltr len p m s lo ld st pri bd q pp ow d sy fe tr lids) v Φ Ξ := by
  unfold w_C_stackOf
  exact q_rcF (n := n) rfl hv k
theorem st_lift (g : Good h c n cr ltr len p m st pri bd q pp ow d sy) (mm : More h c cr s pri pp ow fe K) (v : Int32) : RS [IAE, ISE] (fun tr lids => (cyOf h c w le n cr lc ltr len p m s lo ld st pri bd q pp ow d sy fe tr lids)) (fun σ => w_C_lift σ v) (K + 1) := by
  rcases or_assoc.mpr (pk_ix v (n := 6) (by omega)) with hv | ⟨i, hi, rfl⟩
  · refine RS.thr IAE (by simp) (fun tr lids Φ Ξ k => ?_)
    show w_C_lift (cyOf h c w le n cr lc ltr len p m s lo ld st pri bd q pp ow d sy fe tr lids) v Φ Ξ
    unfold w_C_lift
    exact q_rsF hv (k _ _)
  · have h5 := g.ok.1 i hi
    by_cases q0 : h i = 0
    · refine RS.thr ISE (by simp) (fun tr lids Φ Ξ k => ?_)
      show w_C_lift (cyOf h c w le n cr lc ltr len p m s lo ld st pri bd q pp ow d sy fe tr lids) (nI i) Φ Ξ
      unfold w_C_lift
      refine q_rsT hi ?_
      by_cases qc : cr = -1
      · exact q_reE qc (q_heightOf hi (eq_t (b := 0) q0 (k _ _)))
      · exact q_reF qc (k _ _)
    · by_cases qc : cr = -1
      · have ht := top_lt g.ok hi (by omega)
        have hb := g.1.2.1 i (h i - 1) hi (by omega)
        have gd : Good (up h i (h i - 1)) c n (nI (top h c i)) ltr len p m st pri bd q pp ow d sy := ⟨⟨(ok_down g.ok).1, bd_down g.1.2.1, g.1.2.2.1, Or.inr ⟨_, hb, rfl⟩⟩, g.2⟩
        have md : More (up h i (h i - 1)) c (nI (top h c i)) s pri pp ow fe K := ⟨uq_down mm.1, fun x hx e => by rw [← nI_inj (by omega) (by omega) e]; exact nin_top mm.1 hi (by omega), mm.2.2⟩
        refine RS.ret (nI (top h c i)) (fun tr lids => (cyOf (up h i (h i - 1)) c w le n (nI (top h c i)) (lc + 1) ltr len (payF (tops (up h i (h i - 1)) c le 0 6) ltr len 0 m p s).1 m (payF (tops (up h i (h i - 1)) c le 0 6) ltr len 0 m p s).2 lo ld st pri bd q pp ow d sy fe tr lids)) (Iv.of (Good.pay (s := s) (tops (up h i (h i - 1)) c le 0 6) gd) (md.pay gd.2.1.2.1 gd.2.1.1)) (r_ok (by omega)) (fun tr lids Φ Ξ k => ?_)
        show w_C_lift (cyOf h c w le n cr lc ltr len p m s lo ld st pri bd q pp ow d sy fe tr lids) (nI i) Φ Ξ
        unfold w_C_lift
        refine q_rsT hi (q_reE qc (q_heightOf hi (eq_f (b := 0) (by omega) (by omega) q0 (q_takeTop g.ok hi (by omega) (all_t (all_t (all_t ?_)))))))
        exact q_Cpay (h := up h i (h i - 1)) (cr := nI (top h c i)) (lc := lc + 1) (ok_down g.ok) gd (k _ _)
      · refine RS.thr ISE (by simp) (fun tr lids Φ Ξ k => ?_)
        show w_C_lift (cyOf h c w le n cr lc ltr len p m s lo ld st pri bd q pp ow d sy fe tr lids) (nI i) Φ Ξ
        unfold w_C_lift
        exact q_rsT hi (q_reF qc (k _ _))
theorem st_drop (g : Good h c n cr ltr len p m st pri bd q pp ow d sy) (mm : More h c cr s pri pp ow fe K) (v : Int32) : RS [IAE, ISE] (fun tr lids => (cyOf h c w le n cr lc ltr len p m s lo ld st pri bd q pp ow d sy fe tr lids)) (fun σ => w_C_drop σ v) (K + 1) := by
  rcases or_assoc.mpr (pk_ix v (n := 6) (by omega)) with hv | ⟨i, hi, rfl⟩
  · refine RS.thr IAE (by simp) (fun tr lids Φ Ξ k => ?_)
    show w_C_drop (cyOf h c w le n cr lc ltr len p m s lo ld st pri bd q pp ow d sy fe tr lids) v Φ Ξ
    unfold w_C_drop
    exact q_rsF hv (k _ _)
  · have h5 := g.ok.1 i hi
    rcases g.1.2.2.2 with hcr | ⟨y, hy, hcr⟩
    · refine RS.thr ISE (by simp) (fun tr lids Φ Ξ k => ?_)
      show w_C_drop (cyOf h c w le n cr lc ltr len p m s lo ld st pri bd q pp ow d sy fe tr lids) (nI i) Φ Ξ
      unfold w_C_drop
      exact q_rsT hi (q_rfE hcr (k _ _))
    · subst hcr
      have hn := g.1.2.2.1
      have hne : ¬ nI y = (-1 : Int32) := nI_ne_m1 (by omega)
      cases hc : canB h c w (mo sy) (w y) i with
      | false =>
        refine RS.thr ISE (by simp) (fun tr lids Φ Ξ k => ?_)
        show w_C_drop (cyOf h c w le n (nI y) lc ltr len p m s lo ld st pri bd q pp ow d sy fe tr lids) (nI i) Φ Ξ
        unfold w_C_drop
        exact q_rsT hi (q_rfF hne (q_weightOf (by omega) (q_rrF rfl g.ok hi hc (k _ _))))
      | true =>
        have h4 := canB_lt hc
        have hmo := mo_le sy
        have ok2 := ok_put (v := y) g.ok hi (by omega) (by omega)
        have gd : Good (up h i (h i + 1)) (up c (5 * i + h i) y) n (-1) ltr len p m st pri bd q pp ow d sy := ⟨⟨ok2.1, bd_put g.ok.1 g.1.2.1 hi (by omega) hy, hn, Or.inl rfl⟩, g.2⟩
        have md : More (up h i (h i + 1)) (up c (5 * i + h i) y) (-1) s pri pp ow fe K := ⟨uq_put g.ok.1 mm.1 (mm.2.1 y (by omega) rfl) hi (by omega), fun x hx e => absurd e.symm (nI_ne_m1 (by omega)), mm.2.2⟩
        refine RS.ret (nI (h i + 1)) (fun tr lids => (cyOf (up h i (h i + 1)) (up c (5 * i + h i) y) w le n (-1) lc ltr len (payF (tops (up h i (h i + 1)) (up c (5 * i + h i) y) le 0 6) ltr len 0 m p s).1 m (payF (tops (up h i (h i + 1)) (up c (5 * i + h i) y) le 0 6) ltr len 0 m p s).2 lo ld st pri bd q pp ow d sy fe tr lids)) (Iv.of (Good.pay (s := s) (tops (up h i (h i + 1)) (up c (5 * i + h i) y) le 0 6) gd) (md.pay gd.2.1.2.1 gd.2.1.1)) (r_ok (by omega)) (fun tr lids Φ Ξ k => ?_)
        show w_C_drop (cyOf h c w le n (nI y) lc ltr len p m s lo ld st pri bd q pp ow d sy fe tr lids) (nI i) Φ Ξ
        unfold w_C_drop
        refine q_rsT hi (q_rfF hne (q_weightOf (by omega) (q_rrT rfl g.ok hi hc (q_put hi (by omega) (all_t ?_)))))
        refine q_Cpay (h := up h i (h i + 1)) (c := up c (5 * i + h i) y) (cr := -1) ok2 gd (q_heightOf hi ?_)
        rw [up_s]
        exact k _ _
theorem st_arrive (g : Good h c n cr ltr len p m st pri bd q pp ow d sy) (mm : More h c cr s pri pp ow fe K) (v u t : Int32) : RS [IAE, ISE] (fun tr lids => (cyOf h c w le n cr lc ltr len p m s lo ld st pri bd q pp ow d sy fe tr lids)) (fun σ => w_C_arrive σ v u t) (K + 1) := by
  have hn := g.1.2.2.1
  have hno : (v < 1 ∨ 100 < v) ∨ (1 ≤ v ∧ v ≤ 100) ∧ ((u < 0 ∨ nI 26 ≤ u) ∨ (∃ j, j < 26 ∧ u = nI j) ∧ (t < 0 ∨ nI 6 ≤ t)) → RS [IAE, ISE] (fun tr lids => (cyOf h c w le n cr lc ltr len p m s lo ld st pri bd q pp ow d sy fe tr lids)) (fun σ => w_C_arrive σ v u t) (K + 1) := by
    intro hv
    refine RS.thr IAE (by simp) (fun tr lids Φ Ξ k9 => ?_)
    have k : Ξ IAE (cyOf h c w le n cr lc ltr len p m s lo ld st pri bd q pp ow d sy fe tr lids) := k9 _ _
    show w_C_arrive (cyOf h c w le n cr lc ltr len p m s lo ld st pri bd q pp ow d sy fe tr lids) v u t Φ Ξ
    unfold w_C_arrive b_C_arrive_11
    rcases hv with hv | ⟨⟨v1, v2⟩, hu | ⟨⟨j, hj, rfl⟩, ht⟩⟩
    · exact ⟨fun _ => k, fun a => ⟨fun b => absurd b (fun b => by rcases hv with hv | hv; exact a hv; exact absurd hv (Int32.not_lt.mpr b)), fun _ => k⟩⟩
    · exact ff (Int32.not_lt.mpr v1) (tt v2 (q_rlF hu k))
    · exact ff (Int32.not_lt.mpr v1) (tt v2 (q_rlT hj (q_rsF ht k)))
  by_cases hv : v < 1 ∨ 100 < v
  · exact hno (Or.inl hv)
  · have v1 : (1 : Int32) ≤ v := Int32.not_lt.mp (fun z => hv (Or.inl z))
    have v2 : v ≤ (100 : Int32) := Int32.not_lt.mp (fun z => hv (Or.inr z))
    rcases or_assoc.mpr (pk_ix u (n := 26) (by omega)) with hu | ⟨j, hj, rfl⟩
    · exact hno (Or.inr ⟨⟨v1, v2⟩, Or.inl hu⟩)
    · rcases or_assoc.mpr (pk_ix t (n := 6) (by omega)) with ht | ⟨i, hi, rfl⟩
      · exact hno (Or.inr ⟨⟨v1, v2⟩, Or.inr ⟨⟨j, hj, rfl⟩, ht⟩⟩)
      · clear hno hv
        have h5 := g.ok.1 i hi
        by_cases hn30 : n < 30
        · cases hc : canB h c w (mo sy) v i with
          | false =>
            refine RS.thr ISE (by simp) (fun tr lids Φ Ξ k => ?_)
            show w_C_arrive (cyOf h c w le n cr lc ltr len p m s lo ld st pri bd q pp ow d sy fe tr lids) v (nI j) (nI i) Φ Ξ
            unfold w_C_arrive
            exact ff (Int32.not_lt.mpr v1) (tt v2 (q_rlT hj (q_rsT hi (lt_t (b := 30) (by omega) hn30 (q_rrF rfl g.ok hi hc (k _ _))))))
          | true =>
            have h4 := canB_lt hc
            have hmo := mo_le sy
            have ok2 := ok_put (v := n) g.ok hi (by omega) hn30
            have nn : nin h c n := fun a b ha hb e => by have := g.1.2.1 a b ha hb; omega
            have gd : Good (up h i (h i + 1)) (up c (5 * i + h i) n) (n + 1) cr ltr len p m st pri bd q pp ow d sy := ⟨⟨ok2.1, bd_put g.ok.1 (fun a b ha hb => Nat.lt_succ_of_lt (g.1.2.1 a b ha hb)) hi (by omega) (Nat.lt_succ_self n), by omega, g.1.2.2.2.imp id (fun ⟨y, hy, e⟩ => ⟨y, by omega, e⟩)⟩, g.2⟩
            have md : More (up h i (h i + 1)) (up c (5 * i + h i) n) cr s pri pp ow fe K := by
              refine ⟨uq_put g.ok.1 mm.1 nn hi (by omega), fun x hx e => nin_put g.ok.1 (mm.2.1 x hx e) hi (by omega) (fun z => ?_), mm.2.2⟩
              subst z
              rcases g.1.2.2.2 with e2 | ⟨y, hy, e2⟩
              · exact nI_ne_m1 (n := n) (by omega) (e.symm.trans e2)
              · have := nI_inj (a := n) (b := y) (by omega) (by omega) (e.symm.trans e2)
                omega
            refine RS.ret (nI n) (fun tr lids => (cyOf (up h i (h i + 1)) (up c (5 * i + h i) n) (upd w n v) (upd le n (nI j)) (n + 1) cr lc ltr len (payF (tops (up h i (h i + 1)) (up c (5 * i + h i) n) (upd le n (nI j)) 0 6) ltr len 0 m p s).1 m (payF (tops (up h i (h i + 1)) (up c (5 * i + h i) n) (upd le n (nI j)) 0 6) ltr len 0 m p s).2 lo ld st pri bd q pp ow d sy fe tr lids)) (Iv.of (Good.pay (s := s) (tops (up h i (h i + 1)) (up c (5 * i + h i) n) (upd le n (nI j)) 0 6) gd) (md.pay gd.2.1.2.1 gd.2.1.1)) (r_ok (by omega)) (fun tr lids Φ Ξ k => ?_)
            show w_C_arrive (cyOf h c w le n cr lc ltr len p m s lo ld st pri bd q pp ow d sy fe tr lids) v (nI j) (nI i) Φ Ξ
            unfold w_C_arrive
            refine ff (Int32.not_lt.mpr v1) (tt v2 (q_rlT hj (q_rsT hi (lt_t (b := 30) (by omega) hn30 (q_rrT rfl g.ok hi hc (all_t (all_t (in_t hn30 (by omega) (all_t ?_)))))))))
            rw [nI_clamp (by omega), nI_1]
            refine q_setWeight hn30 (q_put hi (by omega) ?_)
            exact q_Cpay (h := up h i (h i + 1)) (c := up c (5 * i + h i) n) (n := n + 1) (w := upd w n v) (le := upd le n (nI j)) ok2 gd (k _ _)
        · refine RS.thr ISE (by simp) (fun tr lids Φ Ξ k => ?_)
          show w_C_arrive (cyOf h c w le n cr lc ltr len p m s lo ld st pri bd q pp ow d sy fe tr lids) v (nI j) (nI i) Φ Ξ
          unfold w_C_arrive
          exact ff (Int32.not_lt.mpr v1) (tt v2 (q_rlT hj (q_rsT hi (lt_f (b := 30) (by omega) (by omega) (k _ _)))))
/-- the dig, in full: what the property asks of it -/
theorem q_digX {v : Int32} (g : Good h c n cr ltr len p m st pri bd q pp ow d sy) (hv : (v < 0 ∨ nI n ≤ v) ∨ ∃ y, y < n ∧ v = nI y ∧ (¬ cr = -1 ∨ find h c (nI y) = none ∨ dig h c w (mo sy) (nI y) = none)) : ∃ e, ((v < 0 ∨ nI n ≤ v) → e = IOE) ∧ (∀ y, y < n → v = nI y → e = ISE) ∧ ∀ tr lids Φ Ξ, (∀ t l, Ξ e (cyOf h c w le n cr lc ltr len p m s lo ld st pri bd q pp ow d sy fe t l)) → w_C_dig (cyOf h c w le n cr lc ltr len p m s lo ld st pri bd q pp ow d sy fe tr lids) v Φ Ξ := by
  have hn := g.1.2.2.1
  have hmo := mo_le sy
  rcases hv with hv | ⟨y, hy, rfl, hv⟩
  · refine ⟨IOE, fun _ => rfl, fun y hy e => ?_, fun tr lids Φ Ξ k => ?_⟩
    · subst e
      rcases hv with hv | hv
      · exact absurd hv (nI_pos (by omega))
      · exact absurd hv (nI_ge hy (by omega))
    · unfold w_C_dig
      exact q_rcF (n := n) rfl hv (k _ _)
  · refine ⟨ISE, fun z => ?_, fun _ _ _ => rfl, fun tr lids Φ Ξ k => ?_⟩
    · rcases z with z | z
      · exact absurd z (nI_pos (by omega))
      · exact absurd z (nI_ge hy (by omega))
    obtain ⟨ta, tb, tw⟩ := tr
    obtain ⟨ta, rfl⟩ := I_of ta
    obtain ⟨tb, rfl⟩ := I_of tb
    have okt : ok (mix 6 h ta) (mix 30 c tb) := ok_eqv eqv_mix g.ok
    have ew : ∀ k, k < 30 → mixA 30 w tw k = w k := fun k hk => if_pos hk
    unfold w_C_dig
    refine q_rcT (n := n) rfl hn hy ?_
    by_cases hcr : cr = -1
    · refine q_reE hcr ?_
      cases hf : find h c (nI y) with
      | none => exact q_riF rfl g.ok hf (k _ _)
      | some home =>
        have hd : dig h c w (mo sy) (nI y) = none := by
          rcases hv with z | z | z
          · exact absurd hcr z
          · rw [hf] at z; cases z
          · exact z
        refine q_riT rfl g.ok hf (q_copyFrom (q_Cmost ?_))
        rw [mixA_I, mixA_I]
        rcases dig_eqv (w := mixA 30 w tw) (w' := w) (x := nI y) (eqv_mix (h := h) (c := c) (f := ta) (g := tb)) ew hmo g.ok with ⟨d1, d2⟩ | ⟨r, h1, c1, h2, c2, d1, d2, de, dk⟩
        · exact q_digOut okt hmo (fun _ u _ => m1_t (k _ _)) (fun r h' c' z => by rw [show dig (mix 6 h ta) (mix 30 c tb) (mixA 30 w tw) (mo sy) (nI y) = none from d1] at z; cases z)
        · rw [hd] at d2; cases d2
    · exact q_reF hcr (k _ _)
theorem q_digR (g : Good h c n cr ltr len p m st pri bd q pp ow d sy) (mm : More h c cr s pri pp ow fe K) {y r : Nat} {h2 c2 : Nat → Nat} (hy : y < n) (hcr : cr = -1) (hd : dig h c w (mo sy) (nI y) = some (r, h2, c2)) : ∃ (h' c' : Nat → Nat) (p' : AI) (s' : Int32), Good h' c' n (nI y) ltr len p' m st pri bd q pp ow d sy ∧ More h' c' (nI y) s' pri pp ow fe (K + 1) ∧ nin h' c' y ∧ r < 6 ∧ ∀ tr lids Φ Ξ, (∀ t l, Φ (nI r) (cyOf h' c' w le n (nI y) (lc + nI r) ltr len p' m s' lo ld st pri bd q pp ow d sy fe t l)) → w_C_dig (cyOf h c w le n cr lc ltr len p m s lo ld st pri bd q pp ow d sy fe tr lids) (nI y) Φ Ξ := by
  have hn := g.1.2.2.1
  have hmo := mo_le sy
  obtain ⟨bdd, r6⟩ := dig_bd hmo g.ok g.1.2.1 hd
  have dk := dig_ok hmo g.ok hd
  obtain ⟨u1, u2, -⟩ := dig_more hmo (by omega) g.ok mm.1 hd
  have em : eqv (mix 6 h2 h) (mix 30 c2 c) h2 c2 := eqv_mix
  have ok2 : ok (mix 6 h2 h) (mix 30 c2 c) := ok_eqv em dk
  have gd : Good (mix 6 h2 h) (mix 30 c2 c) n (nI y) ltr len p m st pri bd q pp ow d sy := ⟨⟨ok2.1, fun i j hi hj => by rw [em.1 i hi] at hj; have := dk.1 i hi; rw [em.2 _ (by omega)]; exact bdd i j hi hj, hn, Or.inr ⟨y, hy, rfl⟩⟩, g.2⟩
  have md : More (mix 6 h2 h) (mix 30 c2 c) (nI y) s pri pp ow fe K := ⟨uq_eqv em dk.1 u1, fun x hx e => by rw [← nI_inj (a := y) (b := x) (by omega) (by omega) e]; exact nin_eqv em dk.1 u2, mm.2.2⟩
  refine ⟨mix 6 h2 h, mix 30 c2 c, (payF (tops (mix 6 h2 h) (mix 30 c2 c) le 0 6) ltr len 0 m p s).1, (payF (tops (mix 6 h2 h) (mix 30 c2 c) le 0 6) ltr len 0 m p s).2, Good.pay (s := s) (tops (mix 6 h2 h) (mix 30 c2 c) le 0 6) gd, md.pay gd.2.1.2.1 gd.2.1.1, nin_eqv em dk.1 u2, r6, fun tr lids Φ Ξ k => ?_⟩
  obtain ⟨ta, tb, tw⟩ := tr
  obtain ⟨ta, rfl⟩ := I_of ta
  obtain ⟨tb, rfl⟩ := I_of tb
  have okt : ok (mix 6 h ta) (mix 30 c tb) := ok_eqv eqv_mix g.ok
  have ew : ∀ k, k < 30 → mixA 30 w tw k = w k := fun k hk => if_pos hk
  have hf : ∃ home, find h c (nI y) = some home := by
    unfold dig at hd
    cases hf : find h c (nI y) with
    | none => rw [hf] at hd; cases hd
    | some home => exact ⟨home, rfl⟩
  obtain ⟨home, hf⟩ := hf
  unfold w_C_dig
  refine q_rcT (n := n) rfl hn hy (q_reE hcr (q_riT rfl g.ok hf (q_copyFrom (q_Cmost ?_))))
  rw [mixA_I, mixA_I]
  rcases dig_eqv (w := mixA 30 w tw) (w' := w) (x := nI y) (eqv_mix (h := h) (c := c) (f := ta) (g := tb)) ew hmo g.ok with ⟨d1, d2⟩ | ⟨r', h1, c1, h3, c3, d1, d2, de, dk'⟩
  · rw [hd] at d2; cases d2
  · rw [hd] at d2
    cases d2
    refine q_digOut okt hmo (fun z => by rw [show dig (mix 6 h ta) (mix 30 c tb) (mixA 30 w tw) (mo sy) (nI y) = _ from d1] at z; cases z) (fun r9 h9 c9 z => ?_)
    rw [show dig (mix 6 h ta) (mix 30 c tb) (mixA 30 w tw) (mo sy) (nI y) = _ from d1] at z
    cases z
    refine m1_f (by omega) (q_copyFrom (all_t (all_t (all_t ?_))))
    have ew2 : mixA 30 (mixA 30 w tw) w = w := by
      funext k
      by_cases q9 : k < 30 <;> simp [mixA, q9]
    rw [mixA_I, mixA_I, ew2, mix_eqv6 de.1, mix_eqv30 de.2]
    exact q_Cpay (h := mix 6 h2 h) (c := mix 30 c2 c) (cr := nI y) (lc := lc + nI r) (tr := (I h1, I c1, mixA 30 w tw)) ok2 gd (k _ _)
theorem st_dig (g : Good h c n cr ltr len p m st pri bd q pp ow d sy) (mm : More h c cr s pri pp ow fe K) (v : Int32) : RS [IOE, ISE] (fun tr lids => (cyOf h c w le n cr lc ltr len p m s lo ld st pri bd q pp ow d sy fe tr lids)) (fun σ => w_C_dig σ v) (K + 1) := by
  have hn := g.1.2.2.1
  have no : ((v < 0 ∨ nI n ≤ v) ∨ ∃ y, y < n ∧ v = nI y ∧ (¬ cr = -1 ∨ find h c (nI y) = none ∨ dig h c w (mo sy) (nI y) = none)) → RS [IOE, ISE] (fun tr lids => (cyOf h c w le n cr lc ltr len p m s lo ld st pri bd q pp ow d sy fe tr lids)) (fun σ => w_C_dig σ v) (K + 1) := by
    intro hv
    obtain ⟨e, e1, e2, k⟩ := q_digX (w := w) (le := le) (lc := lc) (s := s) (lo := lo) (ld := ld) (fe := fe) g hv
    refine RS.thr e ?_ k
    rcases hv with hv | ⟨y, hy, e3, -⟩
    · rw [e1 hv]; simp
    · rw [e2 y hy e3]; simp
  rcases or_assoc.mpr (pk_ix v (n := n) (by omega)) with hv | ⟨y, hy, rfl⟩
  · exact no (Or.inl hv)
  · by_cases hcr : cr = -1
    · cases hd : dig h c w (mo sy) (nI y) with
      | none => exact no (Or.inr ⟨y, hy, rfl, Or.inr (Or.inr hd)⟩)
      | some z =>
        obtain ⟨r, h2, c2⟩ := z
        obtain ⟨h', c', p', s', g', m', -, r6, k⟩ := q_digR (le := le) (lc := lc) (lo := lo) (ld := ld) g mm hy hcr hd
        exact RS.ret (nI r) (fun tr lids => (cyOf h' c' w le n (nI y) (lc + nI r) ltr len p' m s' lo ld st pri bd q pp ow d sy fe tr lids)) (Iv.of g' m') (r_ok (by omega)) k
    · exact no (Or.inr ⟨y, hy, rfl, Or.inl hcr⟩)
end
