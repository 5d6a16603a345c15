section
variable {h : Nat → Nat} {c : Nat → Nat} {w : AI} {le : AI} {n : Nat} {cr : Int32} {lc : Int32} {ltr : AI} {len : Nat → Nat} {p : AI} {m : Nat} {s : Int32} {lo : AI} {ld : AI} {st : Nat → Nat} {pri : AI} {bd : Nat → Nat} {q : Nat} {pp : Int32} {ow : Int32} {d : Nat} {sy : Int32} {fe : Int32} {K : Nat}
theorem q_few (g : Good h c n cr ltr len p m st pri bd q pp ow d sy) {y i : Nat} (hy : y < 30) (hf : find h c (nI y) = some i) {tr : SK} {lids : AI} {Φ : Int32 → CY → Prop} {Ξ : String → CY → Prop} (k0 : ¬ cr = -1 → Ξ ISE (cyOf h c w le n cr lc ltr len p m s lo ld st pri bd q pp ow d sy fe tr lids)) (k1 : cr = -1 → ∀ t, Φ (o2i ((dig h c w (mo sy) (nI y)).map (fun z => z.1))) (cyOf h c w le n cr lc ltr len p m s lo ld st pri bd q pp ow d sy fe t lids)) : w_C_fewestLifts (cyOf h c w le n cr lc ltr len p m s lo ld st pri bd q pp ow d sy fe tr lids) ((1 : Int32) <<< (nI y &&& 31)) Φ Ξ := by
  rw [pw_shl y hy]
  have hV := pw_lt y hy
  have hC := pw_cnt y hy
  have hM := pw_mem y hy
  have hT : ∀ j, (2 ^ y).testBit j = true → j = y := fun j hj => by rw [Nat.testBit_two_pow] at hj; exact (of_decide_eq_true hj).symm
  generalize 2 ^ y = V at hV hC hM hT
  have hs : setB h c V = true := by
    rw [setB, Bool.and_eq_true]
    refine ⟨decide_eq_true (by omega), (chk_iff 32 0).mpr (fun j _ _ hj => ?_)⟩
    rw [hT j hj, hf]
    exact fun z => by cases z
  unfold w_C_fewestLifts
  refine q_ais g.ok ?_
  rw [pk_tn (by omega), hs]
  by_cases hcr : cr = -1
  · refine oo (q_reE hcr (q_bitCount ?_))
    rw [pk_tn (by omega), hC]
    refine q_ordersOf (by omega) (by omega) ⟨_, q_cfl g hV (by rw [hM]; simp) (by decide) (fct 2 (1 - 1)) 0 none tr (by decide) (fun t y => by cases y) (fun u => ?_)⟩
    rw [hM]
    have e : foldN (fun o => digs w (mo sy) (cPerm [y].length [y] o) h c) 0 (fct 2 (1 - 1)) none = (dig h c w (mo sy) (nI y)).map (fun z => z.1) := by
      show bst none (digs w (mo sy) (cPerm 1 [y] 0) h c) = _
      show bst none ((dig h c w (mo sy) (nI y)).bind fun r => (some 0).map (r.1 + ·)) = _
      cases dig h c w (mo sy) (nI y) with
      | none => rfl
      | some z => rfl
    rw [e]
    exact k1 hcr u
  · exact oo (q_reF hcr (k0 hcr))
theorem q_dl (g : Good h c n cr ltr len p m st pri bd q pp ow d sy) (mm : More h c cr s pri pp ow fe K) {t1 : SK} {l1 : AI} {u9 : CY} {i j y : Nat} (hi : i < 6) (hj : j < h i) (hy : c (5 * i + j) = y) {x4 x5 x6 : Int32} {Φ : Int32 → CC → Prop} (kk : b_L_isDugSo_88 Φ (nI y) (nI i) x4 x5 x6 (nI (h i - 1 - j)) ((cyOf h c w le n cr lc ltr len p m s lo ld st pri bd q pp ow d sy fe t1 l1), u9)) : ∀ (n9 P : Nat), P = j + n9 → P ≤ 4 → it8 (b_L_isDugSo_42 Φ) (n9 + 1) (nI y) (nI i) x4 x5 x6 (nI (h i - 1 - P)) (nI P) ((cyOf h c w le n cr lc ltr len p m s lo ld st pri bd q pp ow d sy fe t1 l1), u9) := by
  have h5 := g.ok.1 i hi
  have hk := g.ok.2 i j hi hj
  intro n9
  induction n9 with
  | zero =>
    intro P e hP
    show b_L_isDugSo_42 Φ (it8 (b_L_isDugSo_42 Φ) 0) (nI y) (nI i) x4 x5 x6 (nI (h i - 1 - P)) (nI P) ((cyOf h c w le n cr lc ltr len p m s lo ld st pri bd q pp ow d sy fe t1 l1), u9)
    rw [b_L_isDugSo_42]
    have e : P = j := by omega
    subst e
    refine lt_f (b := 0) (by omega) (by omega) (lt_f (b := 0) (by omega) (by omega) (q_Cat (tr := t1) (lids := l1) g hi (by omega) ?_))
    rw [if_pos hj, hy]
    exact tt rfl kk
  | succ n9 ih =>
    intro P e hP
    show b_L_isDugSo_42 Φ (it8 (b_L_isDugSo_42 Φ) (n9 + 1)) (nI y) (nI i) x4 x5 x6 (nI (h i - 1 - P)) (nI P) ((cyOf h c w le n cr lc ltr len p m s lo ld st pri bd q pp ow d sy fe t1 l1), u9)
    rw [b_L_isDugSo_42]
    obtain ⟨P', rfl⟩ : ∃ P', P = P' + 1 := ⟨P - 1, by omega⟩
    refine lt_f (b := 0) (by omega) (by omega) (lt_f (b := 0) (by omega) (by omega) (q_Cat (tr := t1) (lids := l1) g hi (by omega) (ff ?_ (q_Cat (tr := t1) (lids := l1) g hi (by omega) ?_))))
    · by_cases q : P' + 1 < h i
      · rw [if_pos q]
        have hk2 := g.ok.2 i (P' + 1) hi q
        intro z
        have z := nI_inj (by omega) (by omega) z
        obtain ⟨-, e2⟩ := mm.1 i (P' + 1) i j hi q hi hj (z.trans hy.symm)
        omega
      · rw [if_neg q]
        exact fun z => nI_ne_m1 (n := y) (by omega) z.symm
    · unfold b_L_isDugSo_79
      rw [pk_m1]
      by_cases q : P' + 1 < h i
      · rw [if_pos q]
        have hk2 := g.ok.2 i (P' + 1) hi q
        refine lt_f (b := 0) (by omega) (by omega) ?_
        rw [nI_1, show h i - 1 - (P' + 1) + 1 = h i - 1 - P' by omega]
        exact ih P' (by omega) (by omega)
      · rw [if_neg q]
        refine tt m1_lt0 ?_
        rw [l0, nI_add, show h i - 1 - (P' + 1) + 0 = h i - 1 - P' by omega]
        exact ih P' (by omega) (by omega)
theorem m2_lt0 : (-2 : Int32) < 0 := by decide
theorem q_116 {x3 x4 x5 x8 : Int32} {σ : CC} {Φ : Int32 → CC → Prop} (h8 : ¬ (-2 : Int32) ≤ x8) (hz : x3 = -2 ∨ x5 < 0 ∨ x3 < 0 ∨ x4 = -3) (kk : Φ 1 σ) : b_L_isDugSo_116 Φ x3 x4 x5 x8 σ := by
  unfold b_L_isDugSo_116 b_L_isDugSo_145 b_L_isDugSo_150
  refine ff h8 ?_
  by_cases z1 : x3 = -2
  · exact tt z1 ⟨Or.inr rfl, kk⟩
  refine ff z1 ?_
  by_cases z2 : x5 < 0
  · exact tt z2 ⟨Or.inr rfl, kk⟩
  refine ff z2 ?_
  by_cases z3 : x3 < 0
  · exact tt z3 ⟨Or.inr rfl, kk⟩
  refine ff z3 ?_
  rcases hz with z | z | z | z
  · exact absurd z z1
  · exact absurd z z2
  · exact absurd z z3
  · exact tt z ⟨Or.inr rfl, kk⟩
/-- where the dig is refused, and no lifts were foretold -/
theorem q_88x {v x3 x4 x5 x6 x7 r : Int32} {t1 t2 : SK} {l1 l2 : AI} {Φ : Int32 → CC → Prop} (hd : ∀ tr lids (Ψ : Int32 → CY → Prop), (∀ t l, Ψ r (cyOf h c w le n cr lc ltr len p m s lo ld st pri bd q pp ow d sy fe t l)) → w_L_dig (cyOf h c w le n cr lc ltr len p m s lo ld st pri bd q pp ow d sy fe tr lids) v Ψ) (h8 : ¬ (-2 : Int32) ≤ r) (hz : x3 = -2 ∨ x5 < 0 ∨ x3 < 0 ∨ x4 = -3) (h0 : 0 ≤ x5 ∨ ¬ 0 ≤ x3) (kk : ∀ t l t' l', Φ 1 ((cyOf h c w le n cr lc ltr len p m s lo ld st pri bd q pp ow d sy fe t l), (cyOf h c w le n cr lc ltr len p m s lo ld st pri bd q pp ow d sy fe t' l'))) : b_L_isDugSo_88 Φ v x3 x4 x5 x6 x7 ((cyOf h c w le n cr lc ltr len p m s lo ld st pri bd q pp ow d sy fe t1 l1), (cyOf h c w le n cr lc ltr len p m s lo ld st pri bd q pp ow d sy fe t2 l2)) := by
  unfold b_L_isDugSo_88
  refine hd t1 l1 _ (fun t l => hd t2 l2 _ (fun t' l' => tt rfl ?_))
  have k := q_116 (σ := ((cyOf h c w le n cr lc ltr len p m s lo ld st pri bd q pp ow d sy fe t l), (cyOf h c w le n cr lc ltr len p m s lo ld st pri bd q pp ow d sy fe t' l'))) h8 hz (kk t l t' l')
  by_cases z : 0 ≤ x5
  · exact tt z k
  · exact ff z (ff (h0.resolve_left z) k)
theorem q_Ldig_thr (g : Good h c n cr ltr len p m st pri bd q pp ow d sy) {y : Nat} (hy : y < n) (hv : ¬ cr = -1 ∨ find h c (nI y) = none ∨ dig h c w (mo sy) (nI y) = none) : ∀ tr lids (Ψ : Int32 → CY → Prop), (∀ t l, Ψ (-99998) (cyOf h c w le n cr lc ltr len p m s lo ld st pri bd q pp ow d sy fe t l)) → w_L_dig (cyOf h c w le n cr lc ltr len p m s lo ld st pri bd q pp ow d sy fe tr lids) (nI y) Ψ := by
  obtain ⟨e, e1, e2, k⟩ := q_digX (w := w) (le := le) (lc := lc) (s := s) (lo := lo) (ld := ld) (fe := fe) g (Or.inr ⟨y, hy, rfl, hv⟩)
  intro tr lids Ψ kz
  unfold w_L_dig
  exact k tr lids _ _ (fun t l => Or.inr ⟨e2 y hy rfl, kz t l⟩)
theorem q_22 {x2 x3 t0 : Int32} {t1 t2 : SK} {l1 l2 : AI} {Φ : Int32 → CC → Prop} {m9 : Nat} (kk : it8 (b_L_isDugSo_42 Φ) m9 x2 x3 t0 cr lc (0 : Int32) (4 : Int32) ((cyOf h c w le n cr lc ltr len p m s lo ld st pri bd q pp ow d sy fe t1 l1), (cyOf h c w le n cr lc ltr len p m s lo ld st pri bd q pp ow d sy fe t2 l2))) : b_L_isDugSo_22 Φ x2 x3 t0 ((cyOf h c w le n cr lc ltr len p m s lo ld st pri bd q pp ow d sy fe t1 l1), (cyOf h c w le n cr lc ltr len p m s lo ld st pri bd q pp ow d sy fe t2 l2)) := by
  unfold b_L_isDugSo_22 w_C_crane w_C_lifts
  exact ⟨m9, kk⟩
theorem q_42n {x2 x3 x4 x5 x6 : Int32} {σ : CC} {Φ : Int32 → CC → Prop} (h3 : x3 < 0) (kk : b_L_isDugSo_88 Φ x2 x3 x4 x5 x6 0 σ) : it8 (b_L_isDugSo_42 Φ) 1 x2 x3 x4 x5 x6 (0 : Int32) (4 : Int32) σ := by
  show b_L_isDugSo_42 Φ (it8 (b_L_isDugSo_42 Φ) 0) x2 x3 x4 x5 x6 (0 : Int32) (4 : Int32) σ
  rw [b_L_isDugSo_42]
  exact ff (by decide) (tt h3 kk)
theorem m1_nle : ¬ (0 : Int32) ≤ -1 := by decide
theorem m2_nle : ¬ (0 : Int32) ≤ -2 := by decide
theorem r9_nle : ¬ (-2 : Int32) ≤ -99999 := by decide
theorem r8_nle : ¬ (-2 : Int32) ≤ -99998 := by decide
theorem dug_some (g : Good h c n cr ltr len p m st pri bd q pp ow d sy) (mm : More h c cr s pri pp ow fe K) {y i j r : Nat} {h2 c2 : Nat → Nat} (hy : y < n) (hcr : cr = -1) (hi : i < 6) (hj : j < h i) (hc : c (5 * i + j) = y) (hd : dig h c w (mo sy) (nI y) = some (r, h2, c2)) : ∃ X' : SK → AI → CY, Iv X' (K + 1) ∧ ∀ t1 l1 t2 l2 (Φ : Int32 → CC → Prop), (∀ t l t' l', Φ 1 (X' t l, X' t' l')) → b_L_isDugSo_88 Φ (nI y) (nI i) (nI r) (-1) lc (nI (h i - 1 - j)) ((cyOf h c w le n cr lc ltr len p m s lo ld st pri bd q pp ow d sy fe t1 l1), (cyOf h c w le n cr lc ltr len p m s lo ld st pri bd q pp ow d sy fe t2 l2)) := by
  have hn := g.1.2.2.1
  have h5 := g.ok.1 i hi
  obtain ⟨-, -, hr⟩ := dig_more (mo_le sy) (by omega) g.ok mm.1 hd
  have hr := hr i j hi hj hc
  obtain ⟨h', c', p', s', g', m', hnin, r6, k⟩ := q_digR (le := le) (lc := lc) (lo := lo) (ld := ld) g mm hy hcr hd
  refine ⟨fun tr lids => (cyOf h' c' w le n (nI y) (lc + nI r) ltr len p' m s' lo ld st pri bd q pp ow d sy fe tr lids), Iv.of g' m', fun t1 l1 t2 l2 Φ kk => ?_⟩
  unfold b_L_isDugSo_88 w_L_dig
  refine k t1 l1 _ _ (fun t l => k t2 l2 _ _ (fun t' l' => tt rfl (ff m1_nle (tt (nI_le (a := 0) (by omega) (by omega)) (m1_f (by omega) (tt rfl ?_))))))
  rw [nI_1, show h i - 1 - j + 1 = r by omega]
  refine tt rfl ?_
  unfold w_C_crane w_C_lifts w_L_stackOf b_L_isDugSo_222
  refine tt rfl (tt rfl ?_)
  refine q_CstackOf (h := h') (c := c') (cr := nI y) (p := p') (s := s') (lc := lc + nI r) (tr := t) (lids := l) g' hy ?_
  rw [find_nin g'.ok (by omega) hnin]
  exact tt rfl ⟨Or.inr rfl, kk t l t' l'⟩
end
/-- a crate that is dug out -/
theorem q_isDugSo {X : SK → AI → CY} {K : Nat} (hX : Iv X K) (v : Int32) : ∃ X' : SK → AI → CY, Iv X' (K + 1) ∧ ∀ t1 l1 t2 l2 (Φ : Int32 → CC → Prop), (∀ t l t' l', Φ 1 (X' t l, X' t' l')) → w_L_isDugSo (X t1 l1, X t2 l2) v Φ := by
  obtain ⟨h, c, w, le, n, cr, lc, ltr, len, p, m, s, lo, ld, st, pri, bd, q, pp, ow, d, sy, fe, g, mm, rfl⟩ := hX
  have hn := g.1.2.2.1
  rcases or_assoc.mpr (pk_ix v (n := n) (by omega)) with hv | ⟨y, hy, rfl⟩
  · refine ⟨fun tr lids => (cyOf h c w le n cr lc ltr len p m s lo ld st pri bd q pp ow d sy fe tr lids), Iv.of g (mm.le (Nat.le_succ K)), fun t1 l1 t2 l2 Φ kk => ?_⟩
    show w_L_isDugSo ((cyOf h c w le n cr lc ltr len p m s lo ld st pri bd q pp ow d sy fe t1 l1), (cyOf h c w le n cr lc ltr len p m s lo ld st pri bd q pp ow d sy fe t2 l2)) v Φ
    obtain ⟨e, e1, e2, k⟩ := q_digX (w := w) (le := le) (lc := lc) (s := s) (lo := lo) (ld := ld) (fe := fe) g (Or.inl hv)
    have hd : ∀ tr lids (Ψ : Int32 → CY → Prop), (∀ t l, Ψ (-99999) (cyOf h c w le n cr lc ltr len p m s lo ld st pri bd q pp ow d sy fe t l)) → w_L_dig (cyOf h c w le n cr lc ltr len p m s lo ld st pri bd q pp ow d sy fe tr lids) v Ψ := fun tr lids Ψ kz => by
      unfold w_L_dig
      exact k tr lids _ _ (fun t l => Or.inl ⟨e1 hv, kz t l⟩)
    unfold w_L_isDugSo w_L_stackOf
    refine q_CstackOfX hv (show _ ∧ _ from ⟨rfl, ff m2_nle ?_⟩)
    exact q_22 (t1 := t1) (l1 := l1) (t2 := t2) (l2 := l2) (q_42n m2_lt0 (q_88x hd r9_nle (Or.inl rfl) (Or.inr m2_nle) kk))
  · cases hf : find h c (nI y) with
    | none =>
      refine ⟨fun tr lids => (cyOf h c w le n cr lc ltr len p m s lo ld st pri bd q pp ow d sy fe tr lids), Iv.of g (mm.le (Nat.le_succ K)), fun t1 l1 t2 l2 Φ kk => ?_⟩
      show w_L_isDugSo ((cyOf h c w le n cr lc ltr len p m s lo ld st pri bd q pp ow d sy fe t1 l1), (cyOf h c w le n cr lc ltr len p m s lo ld st pri bd q pp ow d sy fe t2 l2)) (nI y) Φ
      unfold w_L_isDugSo w_L_stackOf
      refine q_CstackOf g hy ?_
      rw [hf]
      refine ff m1_nle ?_
      exact q_22 (t1 := t1) (l1 := l1) (t2 := t2) (l2 := l2) (q_42n m1_lt0 (q_88x (q_Ldig_thr g hy (Or.inr (Or.inl hf))) r8_nle (Or.inr (Or.inr (Or.inl m1_lt0))) (Or.inr m1_nle) kk))
    | some i =>
      obtain ⟨hi, j, hj, hc⟩ := find_yes hf
      have hk := g.ok.2 i j hi hj
      have h5 := g.ok.1 i hi
      have hc := nI_inj (by omega) (by omega) hc
      have e0 : (0 : Int32) = nI (h i - 1 - 4) := by rw [show h i - 1 - 4 = 0 by omega]; rfl
      have go : ∀ (X' : SK → AI → CY), Iv X' (K + 1) → (∀ t1 l1 t2 l2 (Φ : Int32 → CC → Prop), (∀ t l t' l', Φ 1 (X' t l, X' t' l')) → ∀ x4, (¬ cr = -1 → x4 = -3) → (cr = -1 → x4 = o2i ((dig h c w (mo sy) (nI y)).map (fun z => z.1))) → b_L_isDugSo_88 Φ (nI y) (nI i) x4 cr lc (nI (h i - 1 - j)) ((cyOf h c w le n cr lc ltr len p m s lo ld st pri bd q pp ow d sy fe t1 l1), (cyOf h c w le n cr lc ltr len p m s lo ld st pri bd q pp ow d sy fe t2 l2))) → ∃ X' : SK → AI → CY, Iv X' (K + 1) ∧ ∀ t1 l1 t2 l2 (Φ : Int32 → CC → Prop), (∀ t l t' l', Φ 1 (X' t l, X' t' l')) → w_L_isDugSo ((cyOf h c w le n cr lc ltr len p m s lo ld st pri bd q pp ow d sy fe t1 l1), (cyOf h c w le n cr lc ltr len p m s lo ld st pri bd q pp ow d sy fe t2 l2)) (nI y) Φ := by
        intro X' hX' h88
        refine ⟨X', hX', fun t1 l1 t2 l2 Φ kk => ?_⟩
        have fin : ∀ t3 l3 x4, (¬ cr = -1 → x4 = -3) → (cr = -1 → x4 = o2i ((dig h c w (mo sy) (nI y)).map (fun z => z.1))) → b_L_isDugSo_22 Φ (nI y) (nI i) x4 ((cyOf h c w le n cr lc ltr len p m s lo ld st pri bd q pp ow d sy fe t3 l3), (cyOf h c w le n cr lc ltr len p m s lo ld st pri bd q pp ow d sy fe t2 l2)) := fun t3 l3 x4 a b => by
          refine q_22 (t1 := t3) (l1 := l3) (t2 := t2) (l2 := l2) (m9 := 4 - j + 1) ?_
          have := q_dl (t1 := t3) (l1 := l3) (u9 := (cyOf h c w le n cr lc ltr len p m s lo ld st pri bd q pp ow d sy fe t2 l2)) (x4 := x4) (x5 := cr) (x6 := lc) g mm hi hj hc (h88 t3 l3 t2 l2 Φ kk x4 a b) (4 - j) 4 (by omega) (by omega)
          rw [← e0] at this
          exact this
        unfold w_L_isDugSo w_L_stackOf
        refine q_CstackOf g hy ?_
        rw [hf]
        refine tt (nI_le (a := 0) (by omega) (by omega)) ?_
        unfold w_L_fewest
        refine q_few (tr := t1) (lids := l1) g (by omega) hf (fun z => Or.inr ⟨rfl, fin t1 l1 _ (fun _ => rfl) (fun z2 => absurd z2 z)⟩) (fun z t => fin t l1 _ (fun z2 => absurd z z2) (fun _ => rfl))
      by_cases hcr : cr = -1
      · cases hd : dig h c w (mo sy) (nI y) with
        | none =>
          refine go (fun tr lids => (cyOf h c w le n cr lc ltr len p m s lo ld st pri bd q pp ow d sy fe tr lids)) (Iv.of g (mm.le (Nat.le_succ K))) (fun t1 l1 t2 l2 Φ kk x4 a b => ?_)
          have b := b hcr
          rw [hd] at b
          have b : x4 = -1 := b
          have hthr := q_Ldig_thr (w := w) (le := le) (lc := lc) (s := s) (lo := lo) (ld := ld) (fe := fe) g hy (Or.inr (Or.inr hd))
          unfold b_L_isDugSo_88
          refine hthr t1 l1 _ (fun t l => hthr t2 l2 _ (fun t' l' => tt rfl (ff (by rw [hcr]; exact m1_nle) (tt (nI_le (a := 0) (by omega) (by omega)) (tt b (tt rfl ?_))))))
          unfold b_L_isDugSo_222
          exact ⟨Or.inr rfl, kk t l t' l'⟩
        | some z =>
          obtain ⟨r, h2, c2⟩ := z
          obtain ⟨X', hX', k⟩ := dug_some (le := le) (lc := lc) (lo := lo) (ld := ld) g mm hy hcr hi hj hc hd
          refine go X' hX' (fun t1 l1 t2 l2 Φ kk x4 a b => ?_)
          have b := b hcr
          rw [hd] at b
          have b : x4 = nI r := b
          rw [b]
          have := k t1 l1 t2 l2 Φ kk
          rw [← hcr] at this
          exact this
      · refine go (fun tr lids => (cyOf h c w le n cr lc ltr len p m s lo ld st pri bd q pp ow d sy fe tr lids)) (Iv.of g (mm.le (Nat.le_succ K))) (fun t1 l1 t2 l2 Φ kk x4 a b => ?_)
        refine q_88x (q_Ldig_thr g hy (Or.inl hcr)) r8_nle (Or.inr (Or.inr (Or.inr (a hcr)))) ?_ kk
        rcases g.1.2.2.2 with e2 | ⟨x, hx, e2⟩
        · exact absurd e2 hcr
        · rw [e2]; exact Or.inl (nI_le (a := 0) (by omega) (by omega))
