theorem q_setWeight {H C w : AI} {n : Nat} {v : Int32} (hn : n < 30) {Φ : SK → Prop} (k : Φ (H, C, upd w n v)) : w_S_setWeight (H, C, w) (nI n) v Φ := by
  unfold w_S_setWeight b_S_setWeight_17
  refine lt_f (b := 0) (by omega) (by omega) (le_f (a := 30) (by omega) (by omega) (in_t hn (by omega) (all_t ?_)))
  rw [nI_clamp (by omega)]
  exact k
theorem q_copyFrom {a b w2 h c w : AI} {Φ : SD → Prop} (k : Φ ((mixA 6 h a, mixA 30 c b, mixA 30 w w2), (h, c, w))) : w_S_copyFrom ((a, b, w2), (h, c, w)) Φ := by
  unfold w_S_copyFrom
  refine all_t (all_t (all_t ?_))
  rw [← cpy_mix, ← cpy_mix, ← cpy_mix] at k
  exact k
theorem mix_eqv6 {f g h : Nat → Nat} (e : ∀ i, i < 6 → f i = g i) : mix 6 f h = mix 6 g h := by
  funext k
  by_cases q : k < 6
  · simp [mix, q, e k q]
  · simp [mix, q]
theorem mix_eqv30 {f g h : Nat → Nat} (e : ∀ i, i < 30 → f i = g i) : mix 30 f h = mix 30 g h := by
  funext k
  by_cases q : k < 30
  · simp [mix, q, e k q]
  · simp [mix, q]
section
variable {h : Nat → Nat} {c : Nat → Nat} {w : AI} {le : AI} {n : Nat} {cr : Int32} {lc : Int32} {ltr : AI} {len : Nat → Nat} {p : AI} {m : Nat} {s : Int32} {lo : AI} {ld : AI} {st : Nat → Nat} {pri : AI} {bd : Nat → Nat} {q : Nat} {pp : Int32} {ow : Int32} {d : Nat} {sy : Int32} {fe : Int32} {tr : SK} {lids : AI} {th : Int32} {td tdh : AI}
theorem st_arrive (g : Good h c n cr ltr len p m st pri bd q pp ow d sy) (v u t : Int32) : Res [IAE, ISE] (w_C_arrive (cyOf h c w le n cr lc ltr len p m s lo ld st pri bd q pp ow d sy fe tr lids) v u t) (w_M_arrive (mdOf h c w le n cr lc ltr len p m s lo ld st pri bd q pp ow d sy fe th td tdh) v u t) := by
  have hn := g.1.2.2.1
  have hno : (v < 1 ∨ 100 < v) ∨ (1 ≤ v ∧ v ≤ 100) ∧ ((u < 0 ∨ nI 26 ≤ u) ∨ (∃ j, j < 26 ∧ u = nI j) ∧ (t < 0 ∨ nI 6 ≤ t)) → Res [IAE, ISE] (w_C_arrive (cyOf h c w le n cr lc ltr len p m s lo ld st pri bd q pp ow d sy fe tr lids) v u t) (w_M_arrive (mdOf h c w le n cr lc ltr len p m s lo ld st pri bd q pp ow d sy fe th td tdh) v u t) := by
    intro hv
    refine Res.thr 0 IAE 0 (cyOf h c w le n cr lc ltr len p m s lo ld st pri bd q pp ow d sy fe tr lids) (mdOf h c w le n cr lc ltr len p m s lo ld st pri bd q pp ow d sy fe 1 td tdh) rfl (Inv.of g) rfl (fun Φ Ξ k => ?_) (fun Ψ k => ?_)
    · unfold w_C_arrive b_C_arrive_11
      rcases hv with hv | ⟨⟨v1, v2⟩, hu | ⟨⟨j, hj, rfl⟩, ht⟩⟩
      · exact ⟨fun _ => k, fun a => ⟨fun b => absurd b (fun b => by rcases hv with hv | hv; exact a hv; exact absurd hv (Int32.not_lt.mpr b)), fun _ => k⟩⟩
      · exact ff (Int32.not_lt.mpr v1) (tt v2 (q_rlF hu k))
      · exact ff (Int32.not_lt.mpr v1) (tt v2 (q_rlT hj (q_rsF ht k)))
    · have fin : b_M_arrive_31 Ψ v u t (mdOf h c w le n cr lc ltr len p m s lo ld st pri bd q pp ow d sy fe th td tdh) := by
        unfold b_M_arrive_31 b_M_arrive_32 b_M_arrive_61 b_M_arrive_62 b_M_arrive_84
        exact zz (zz (q_gw1 (by decide) (zz k)))
      unfold w_M_arrive
      rcases hv with hv | ⟨⟨v1, v2⟩, hu | ⟨⟨j, hj, rfl⟩, ht⟩⟩
      · exact q_inF hv (zz fin)
      · exact q_inT v1 v2 (oo (q_inF (hu.imp id (fun z => lt_of_ge (N := 25) (by omega) z)) (zz fin)))
      · exact q_inT v1 v2 (oo (q_inT (nI_le (a := 0) (by omega) (by omega)) (nI_le (b := 25) (by omega) (by omega)) (oo (q_stF ht (zz fin)))))
  by_cases hv : v < 1 ∨ 100 < v
  · exact hno (Or.inl hv)
  · have v1 : (1 : Int32) ≤ v := Int32.not_lt.mp (fun z => hv (Or.inl z))
    have v2 : v ≤ (100 : Int32) := Int32.not_lt.mp (fun z => hv (Or.inr z))
    rcases or_assoc.mpr (pk_ix u (n := 26) (by omega)) with hu | ⟨j, hj, rfl⟩
    · exact hno (Or.inr ⟨⟨v1, v2⟩, Or.inl hu⟩)
    · rcases or_assoc.mpr (pk_ix t (n := 6) (by omega)) with ht | ⟨i, hi, rfl⟩
      · exact hno (Or.inr ⟨⟨v1, v2⟩, Or.inr ⟨⟨j, hj, rfl⟩, ht⟩⟩)
      · clear hno hv
        have h5 := g.ok.1 i hi
        have mIn : ∀ {Ψ : Int32 → MD → Prop}, b_M_arrive_32 Ψ v (nI j) (nI i) 1 (mdOf h c w le n cr lc ltr len p m s lo ld st pri bd q pp ow d sy fe th td tdh) → w_M_arrive (mdOf h c w le n cr lc ltr len p m s lo ld st pri bd q pp ow d sy fe th td tdh) v (nI j) (nI i) Ψ := fun k => by
          unfold w_M_arrive
          exact q_inT v1 v2 (oo (q_inT (nI_le (a := 0) (by omega) (by omega)) (nI_le (b := 25) (by omega) (by omega)) (oo (q_stT hi (oo k)))))
        by_cases hn30 : n < 30
        · cases hc : canB h c w (mo sy) v i with
          | false =>
            refine Res.thr 1 ISE 0 (cyOf h c w le n cr lc ltr len p m s lo ld st pri bd q pp ow d sy fe tr lids) (mdOf h c w le n cr lc ltr len p m s lo ld st pri bd q pp ow d sy fe 2 td tdh) rfl (Inv.of g) rfl (fun Φ Ξ k => ?_) (fun Ψ k => mIn ?_)
            · unfold w_C_arrive
              exact ff (Int32.not_lt.mpr v1) (tt v2 (q_rlT hj (q_rsT hi (lt_t (b := 30) (by omega) hn30 (q_rrF rfl g.ok hi hc k)))))
            · unfold b_M_arrive_32 b_M_arrive_61 b_M_arrive_62 b_M_arrive_84
              refine oo (le_f (a := 30) (by omega) hn30 (q_McanPut (h := h) (c := c) rfl rfl g.ok hi ?_))
              rw [show canB h c (g_MD_weights (mdOf h c w le n cr lc ltr len p m s lo ld st pri bd q pp ow d sy fe th td tdh)) (mo (g_MD_isStorm (mdOf h c w le n cr lc ltr len p m s lo ld st pri bd q pp ow d sy fe th td tdh))) v i = false from hc]
              exact zz (oo (zz (q_gw1 (by decide) (zz k))))
          | true =>
            have h4 := canB_lt hc
            have hmo := mo_le sy
            have ok2 := ok_put (v := n) g.ok hi (by omega) hn30
            have gd : Good (up h i (h i + 1)) (up c (5 * i + h i) n) (n + 1) cr ltr len p m st pri bd q pp ow d sy := ⟨⟨ok2.1, bd_put g.ok.1 (fun a b ha hb => Nat.lt_succ_of_lt (g.1.2.1 a b ha hb)) hi (by omega) (Nat.lt_succ_self n), by omega, g.1.2.2.2.imp id (fun ⟨y, hy, e⟩ => ⟨y, by omega, e⟩)⟩, g.2⟩
            have gp := Good.pay (s := s) (tops (up h i (h i + 1)) (up c (5 * i + h i) n) (upd le n (nI j)) 0 6) gd
            refine Res.ret (nI n) (cyOf (up h i (h i + 1)) (up c (5 * i + h i) n) (upd w n v) (upd le n (nI j)) (n + 1) cr lc ltr len (payF (tops (up h i (h i + 1)) (up c (5 * i + h i) n) (upd le n (nI j)) 0 6) ltr len 0 m p s).1 m (payF (tops (up h i (h i + 1)) (up c (5 * i + h i) n) (upd le n (nI j)) 0 6) ltr len 0 m p s).2 lo ld st pri bd q pp ow d sy fe tr (lidF (up h i (h i + 1)) (up c (5 * i + h i) n) (upd le n (nI j)) 0 6 0 lids)) (mdOf (up h i (h i + 1)) (up c (5 * i + h i) n) (upd w n v) (upd le n (nI j)) (n + 1) cr lc ltr len (payF (tops (up h i (h i + 1)) (up c (5 * i + h i) n) (upd le n (nI j)) 0 6) ltr len 0 m p s).1 m (payF (tops (up h i (h i + 1)) (up c (5 * i + h i) n) (upd le n (nI j)) 0 6) ltr len 0 m p s).2 lo ld st pri bd q pp ow d sy fe 0 td tdh) (Inv.of gp) rfl (fun Φ Ξ k => ?_) (fun Ψ k => mIn ?_)
            · unfold w_C_arrive
              refine ff (Int32.not_lt.mpr v1) (tt v2 (q_rlT hj (q_rsT hi (lt_t (b := 30) (by omega) hn30 (q_rrT rfl g.ok hi hc (all_t (all_t (in_t hn30 (by omega) (all_t ?_)))))))))
              rw [nI_clamp (by omega), nI_1]
              refine q_setWeight hn30 (q_put hi (by omega) ?_)
              exact q_Cpay (h := up h i (h i + 1)) (c := up c (5 * i + h i) n) (n := n + 1) (w := upd w n v) (le := upd le n (nI j)) ok2 gd k
            · unfold b_M_arrive_32 b_M_arrive_61 b_M_arrive_62 b_M_arrive_84
              refine oo (le_f (a := 30) (by omega) hn30 (q_McanPut (h := h) (c := c) rfl rfl g.ok hi ?_))
              rw [show canB h c (g_MD_weights (mdOf h c w le n cr lc ltr len p m s lo ld st pri bd q pp ow d sy fe th td tdh)) (mo (g_MD_isStorm (mdOf h c w le n cr lc ltr len p m s lo ld st pri bd q pp ow d sy fe th td tdh))) v i = true from hc]
              refine oo (oo (oo (q_gw0 (oo (in_t hn30 (by omega) (all_t (in_t hn30 (by omega) (all_t ?_))))))))
              rw [nI_clamp (by omega)]
              refine q_Mput (h := h) (c := c) rfl rfl hi (by omega) (all_t (all_t ?_))
              have e1 : nI n + (1 : Int32) = nI (n + 1) := nI_1 n
              have e2 := q_Mpay (h := up h i (h i + 1)) (c := up c (5 * i + h i) n) (n := n + 1) (w := upd w n v) (le := upd le n (nI j)) (th := 0) (td := td) (tdh := tdh) (lo := lo) (ld := ld) (s := s) (fe := fe) (lc := lc) (Φ := fun u => Ψ (g_MD_crates u - (1 : Int32)) u) ok2 gd (by
                show Ψ (nI (n + 1) - (1 : Int32)) _
                rw [nI_pred]
                exact k)
              unfold mdOf at e2
              rw [← e1] at e2
              exact e2
        · refine Res.thr 1 ISE 0 (cyOf h c w le n cr lc ltr len p m s lo ld st pri bd q pp ow d sy fe tr lids) (mdOf h c w le n cr lc ltr len p m s lo ld st pri bd q pp ow d sy fe 2 td tdh) rfl (Inv.of g) rfl (fun Φ Ξ k => ?_) (fun Ψ k => mIn ?_)
          · unfold w_C_arrive
            exact ff (Int32.not_lt.mpr v1) (tt v2 (q_rlT hj (q_rsT hi (lt_f (b := 30) (by omega) (by omega) k))))
          · unfold b_M_arrive_32 b_M_arrive_61 b_M_arrive_62 b_M_arrive_84
            exact oo (le_t (a := 30) (by omega) (by omega) (oo (zz (q_gw1 (by decide) (zz k)))))
theorem st_dig (g : Good h c n cr ltr len p m st pri bd q pp ow d sy) (v : Int32) : Res [IOE, ISE] (w_C_dig (cyOf h c w le n cr lc ltr len p m s lo ld st pri bd q pp ow d sy fe tr lids) v) (w_M_dig (mdOf h c w le n cr lc ltr len p m s lo ld st pri bd q pp ow d sy fe th td tdh) v) := by
  have hn := g.1.2.2.1
  obtain ⟨a, b, rfl, rfl⟩ := I_td td tdh
  obtain ⟨ta, tb, tw⟩ := tr
  obtain ⟨ta, rfl⟩ := I_of ta
  obtain ⟨tb, rfl⟩ := I_of tb
  have oka : ok (mix 6 h b) (mix 30 c a) := ok_eqv eqv_mix g.ok
  have okt : ok (mix 6 h ta) (mix 30 c tb) := ok_eqv eqv_mix g.ok
  have hmo := mo_le sy
  rcases or_assoc.mpr (pk_ix v (n := n) (by omega)) with hv | ⟨x, hx, rfl⟩
  · refine Res.thr 0 IOE 0 (cyOf h c w le n cr lc ltr len p m s lo ld st pri bd q pp ow d sy fe (I ta, I tb, tw) lids) (mdOf h c w le n cr lc ltr len p m s lo ld st pri bd q pp ow d sy fe 1 (I (mix 30 c a)) (I (mix 6 h b))) rfl (Inv.of g) rfl (fun Φ Ξ k => ?_) (fun Ψ k => ?_)
    · unfold w_C_dig
      exact q_rcF (n := n) rfl hv k
    · unfold w_M_dig b_M_dig_28 b_M_dig_29 b_M_dig_53
      exact q_Mcopy (h := h) (c := c) (a := a) (b := b) rfl rfl rfl rfl (q_crF (n := n) rfl hn hv (zz (q_crF (n := n) rfl hn hv (zz (q_gw1 (by decide) (zz k))))))
  · by_cases hcr : cr = -1
    · have ew : ∀ k, k < 30 → mixA 30 w tw k = w k := fun k hk => if_pos hk
      cases hf : find h c (nI x) with
      | none =>
        have hd : dig (mix 6 h b) (mix 30 c a) w (mo sy) (nI x) = none := by unfold dig; rw [find_eqv eqv_mix g.ok.1, hf]; rfl
        refine Res.thr 1 ISE 0 (cyOf h c w le n cr lc ltr len p m s lo ld st pri bd q pp ow d sy fe (I ta, I tb, tw) lids) (mdOf h c w le n cr lc ltr len p m s lo ld st pri bd q pp ow d sy fe 2 (I (mix 30 c a)) (I (mix 6 h b))) rfl (Inv.of g) rfl (fun Φ Ξ k => ?_) (fun Ψ k => ?_)
        · unfold w_C_dig
          exact q_rcT (n := n) rfl hn hx (q_reE hcr (q_riF rfl g.ok hf k))
        · unfold w_M_dig b_M_dig_28
          refine q_Mcopy (h := h) (c := c) (a := a) (b := b) rfl rfl rfl rfl (q_crT (n := n) rfl hn hx (oo (tt hcr ?_)))
          unfold w_M_digOut
          refine q_Mfind oka ?_
          rw [find_eqv eqv_mix g.ok.1, hf]
          refine ⟨1, ?_⟩
          show b_M_digOut_8 _ (it4 _ 0) _ (-1) (0 : Int32) _
          rw [b_M_digOut_8]
          unfold b_M_dig_29 b_M_dig_53
          exact m1_t (q_crT (n := n) rfl hn hx (oo (m1_t (q_gw1 (by decide) (zz k)))))
      | some home =>
        rcases dig_eqv (w := mixA 30 w tw) (w' := w) (x := nI x) (eqv_mix (h := h) (c := c) (f := ta) (g := tb)) ew hmo g.ok with ⟨d1, d2⟩ | ⟨r, h1, c1, h2, c2, d1, d2, de, dk⟩
        · refine Res.thrP 1 ISE (fun z => ∃ tr, z = (cyOf h c w le n cr lc ltr len p m s lo ld st pri bd q pp ow d sy fe tr lids)) (fun z => ∃ td tdh, z = (mdOf h c w le n cr lc ltr len p m s lo ld st pri bd q pp ow d sy fe 2 td tdh)) rfl (fun σ' τ' ⟨tr, e1⟩ ⟨td, tdh, e2⟩ => by rw [e1, e2]; exact ⟨Inv.of g, rfl⟩) (fun Φ Ξ k => ?_) (fun Ψ k => ?_)
          · unfold w_C_dig
            refine q_rcT (n := n) rfl hn hx (q_reE hcr (q_riT rfl g.ok hf (q_copyFrom (q_Cmost ?_))))
            rw [mixA_I, mixA_I]
            exact q_digOut okt hmo (fun _ u _ => m1_t (k _ ⟨u, rfl⟩)) (fun r h' c' z => by rw [show dig (mix 6 h ta) (mix 30 c tb) (mixA 30 w tw) (mo sy) (nI x) = none from d1] at z; cases z)
          · unfold w_M_dig b_M_dig_28
            rcases dig_eqv (w := w) (w' := w) (x := nI x) (eqv_mix (h := h) (c := c) (f := b) (g := a)) (fun _ _ => rfl) hmo g.ok with ⟨f1, f2⟩ | ⟨r, h1, c1, h2, c2, f1, f2, _⟩
            · refine q_Mcopy (h := h) (c := c) (a := a) (b := b) rfl rfl rfl rfl (q_crT (n := n) rfl hn hx (oo (tt hcr (q_MdigOut (h := mix 6 h b) (c := mix 30 c a) oka (fun _ h' c' => ?_) (fun r h' c' z => by rw [show dig (mix 6 h b) (mix 30 c a) w (mo sy) (nI x) = none from f1] at z; cases z)))))
              unfold b_M_dig_29 b_M_dig_53
              exact q_crT (n := n) rfl hn hx (oo (m1_t (q_gw1 (by decide) (zz (k _ _ ⟨c', h', rfl⟩)))))
            · rw [d2] at f2; cases f2
        · rcases dig_eqv (w := w) (w' := w) (x := nI x) (eqv_mix (h := h) (c := c) (f := b) (g := a)) (fun _ _ => rfl) hmo g.ok with ⟨f1, f2⟩ | ⟨r', h3, c3, h4, c4, f1, f2, fe', _⟩
          · rw [d2] at f2; cases f2
          · rw [d2] at f2
            cases f2
            obtain ⟨bdd, r6⟩ := dig_bd hmo g.ok g.1.2.1 d2
            have em : eqv (mix 6 h2 h) (mix 30 c2 c) h2 c2 := eqv_mix
            have ok2 : ok (mix 6 h2 h) (mix 30 c2 c) := ok_eqv em dk
            have gd : Good (mix 6 h2 h) (mix 30 c2 c) n (nI x) ltr len p m st pri bd q pp ow d sy := ⟨⟨ok2.1, fun i j hi hj => by rw [em.1 i hi] at hj; have := dk.1 i hi; rw [em.2 _ (by omega)]; exact bdd i j hi hj, hn, Or.inr ⟨x, hx, rfl⟩⟩, g.2⟩
            have gp := Good.pay (s := s) (tops (mix 6 h2 h) (mix 30 c2 c) le 0 6) gd
            refine Res.ret (nI r) (cyOf (mix 6 h2 h) (mix 30 c2 c) w le n (nI x) (lc + nI r) ltr len (payF (tops (mix 6 h2 h) (mix 30 c2 c) le 0 6) ltr len 0 m p s).1 m (payF (tops (mix 6 h2 h) (mix 30 c2 c) le 0 6) ltr len 0 m p s).2 lo ld st pri bd q pp ow d sy fe (I h1, I c1, mixA 30 w tw) (lidF (mix 6 h2 h) (mix 30 c2 c) le 0 6 0 lids)) (mdOf (mix 6 h2 h) (mix 30 c2 c) w le n (nI x) (lc + nI r) ltr len (payF (tops (mix 6 h2 h) (mix 30 c2 c) le 0 6) ltr len 0 m p s).1 m (payF (tops (mix 6 h2 h) (mix 30 c2 c) le 0 6) ltr len 0 m p s).2 lo ld st pri bd q pp ow d sy fe 0 (I c3) (I h3)) (Inv.of gp) rfl (fun Φ Ξ k => ?_) (fun Ψ k => ?_)
            · unfold w_C_dig
              refine q_rcT (n := n) rfl hn hx (q_reE hcr (q_riT rfl g.ok hf (q_copyFrom (q_Cmost ?_))))
              rw [mixA_I, mixA_I]
              refine q_digOut okt hmo (fun z => by rw [show dig (mix 6 h ta) (mix 30 c tb) (mixA 30 w tw) (mo sy) (nI x) = _ from d1] at z; cases z) (fun r9 h9 c9 z => ?_)
              rw [show dig (mix 6 h ta) (mix 30 c tb) (mixA 30 w tw) (mo sy) (nI x) = _ from d1] at z
              cases z
              refine m1_f (by omega) (q_copyFrom (all_t (all_t (all_t ?_))))
              have ew2 : mixA 30 (mixA 30 w tw) w = w := by
                funext k
                by_cases q9 : k < 30 <;> simp [mixA, q9]
              rw [mixA_I, mixA_I, ew2, mix_eqv6 de.1, mix_eqv30 de.2]
              exact q_Cpay (h := mix 6 h2 h) (c := mix 30 c2 c) (cr := nI x) (lc := lc + nI r) (tr := (I h1, I c1, mixA 30 w tw)) ok2 gd k
            · unfold w_M_dig b_M_dig_28
              refine q_Mcopy (h := h) (c := c) (a := a) (b := b) rfl rfl rfl rfl (q_crT (n := n) rfl hn hx (oo (tt hcr (q_MdigOut (h := mix 6 h b) (c := mix 30 c a) oka (fun z => by rw [show dig (mix 6 h b) (mix 30 c a) w (mo sy) (nI x) = _ from f1] at z; cases z) (fun r9 h9 c9 z => ?_)))))
              rw [show dig (mix 6 h b) (mix 30 c a) w (mo sy) (nI x) = _ from f1] at z
              cases z
              unfold b_M_dig_29 b_M_dig_53
              refine q_crT (n := n) rfl hn hx (oo (m1_f (by omega) (q_gw0 (oo (q_dc ?_)))))
              have e2 := q_Mpay (h := mix 6 h2 h) (c := mix 30 c2 c) (cr := nI x) (lc := lc + nI r) (th := 0) (td := I c3) (tdh := I h3) (w := w) (le := le) (lo := lo) (ld := ld) (s := s) (fe := fe) (Φ := fun u => Ψ (nI r) u) ok2 gd k
              have x1 : mixA 6 (I h3) (I h) = I (mix 6 h2 h) := by rw [mixA_I, mix_eqv6 fe'.1]
              have x2 : mixA 30 (I c3) (I c) = I (mix 30 c2 c) := by rw [mixA_I, mix_eqv30 fe'.2]
              unfold mdOf at e2
              rw [← x1, ← x2] at e2
              exact e2
    · refine Res.thr 1 ISE 0 (cyOf h c w le n cr lc ltr len p m s lo ld st pri bd q pp ow d sy fe (I ta, I tb, tw) lids) (mdOf h c w le n cr lc ltr len p m s lo ld st pri bd q pp ow d sy fe 2 (I (mix 30 c a)) (I (mix 6 h b))) rfl (Inv.of g) rfl (fun Φ Ξ k => ?_) (fun Ψ k => ?_)
      · unfold w_C_dig
        exact q_rcT (n := n) rfl hn hx (q_reF hcr k)
      · unfold w_M_dig b_M_dig_28 b_M_dig_29 b_M_dig_53
        exact q_Mcopy (h := h) (c := c) (a := a) (b := b) rfl rfl rfl rfl (q_crT (n := n) rfl hn hx (oo (ff hcr (q_crT (n := n) rfl hn hx (oo (m1_t (q_gw1 (by decide) (zz k))))))))
end
