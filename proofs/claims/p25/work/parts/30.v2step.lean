section
variable {h : Nat → Nat} {c : Nat → Nat} {w : AI} {le : AI} {n : Nat} {cr : Int32} {lc : Int32} {ltr : AI} {len : Nat → Nat} {p : AI} {m : Nat} {s : Int32} {lo : AI} {ld : AI} {st : Nat → Nat} {pri : AI} {bd : Nat → Nat} {q : Nat} {pp : Int32} {ow : Int32} {d : Nat} {sy : Int32} {fe : Int32} {K : Nat}
theorem st_tell (g : Good h c n cr ltr len p m st pri bd q pp ow d sy) (mm : More h c cr s pri pp ow fe K) (v1 v2 v3 v4 : Int32) : RS [IAE, ISE] (fun tr lids => (cyOf h c w le n cr lc ltr len p m s lo ld st pri bd q pp ow d sy fe tr lids)) (fun σ => w_C_tell σ v1 v2 v3 v4) (K + 1) := by
  have hm := g.2.1.1
  have good : ∀ (j1 j2 : Nat), j1 < 26 → j2 < 26 → v1 = nI j1 → v2 = nI j2 → (v3 = -1 → v4 = -1) → (∀ tr lids Φ Ξ, b_C_tell_43 Φ Ξ v1 v2 v3 v4 (cyOf h c w le n cr lc ltr len p m s lo ld st pri bd q pp ow d sy fe tr lids) → w_C_tell (cyOf h c w le n cr lc ltr len p m s lo ld st pri bd q pp ow d sy fe tr lids) v1 v2 v3 v4 Φ Ξ) → RS [IAE, ISE] (fun tr lids => (cyOf h c w le n cr lc ltr len p m s lo ld st pri bd q pp ow d sy fe tr lids)) (fun σ => w_C_tell σ v1 v2 v3 v4) (K + 1) := by
    intro j1 j2 h1 h2 e1 e2 hcd kc
    by_cases qm : m = 8
    · refine RS.thr ISE (by simp) (fun tr lids Φ Ξ k => kc tr lids Φ Ξ ?_)
      unfold b_C_tell_43 w_W_number
      exact lt_f (b := 8) (by omega) (by omega) (k _ _)
    · have n1 : v1 ≠ -1 := by rw [e1]; exact nI_ne_m1 (by omega)
      have n2 : v2 ≠ -1 := by rw [e2]; exact nI_ne_m1 (by omega)
      have gd : Good h c n cr (set4 ltr m v1 v2 v3 v4) (up len m (wlen v3 v4)) p (m + 1) st pri bd q pp ow d sy := ⟨g.1, ⟨by omega, wok_set4 g.2.1.2.1 n1 n2 hcd, g.2.1.2.2⟩, g.2.2⟩
      refine RS.ret (nI m) (fun tr lids => (cyOf h c w le n cr lc (set4 ltr m v1 v2 v3 v4) (up len m (wlen v3 v4)) (payF (tops h c le 0 6) (set4 ltr m v1 v2 v3 v4) (up len m (wlen v3 v4)) 0 (m + 1) p s).1 (m + 1) (payF (tops h c le 0 6) (set4 ltr m v1 v2 v3 v4) (up len m (wlen v3 v4)) 0 (m + 1) p s).2 lo ld st pri bd q pp ow d sy fe tr lids)) (Iv.of (Good.pay (s := s) (tops h c le 0 6) gd) (mm.pay gd.2.1.2.1 gd.2.1.1)) (r_ok (by omega)) (fun tr lids Φ Ξ k => kc tr lids Φ Ξ ?_)
      unfold b_C_tell_43 w_W_number
      exact lt_t (b := 8) (by omega) (by omega) (q_Wadd (by omega) (q_Cpay (ltr := set4 ltr m v1 v2 v3 v4) (len := up len m (wlen v3 v4)) (m := m + 1) g.ok gd (k _ _)))
  have bad : (∀ tr lids Φ Ξ, Ξ IAE (cyOf h c w le n cr lc ltr len p m s lo ld st pri bd q pp ow d sy fe tr lids) → w_C_tell (cyOf h c w le n cr lc ltr len p m s lo ld st pri bd q pp ow d sy fe tr lids) v1 v2 v3 v4 Φ Ξ) → RS [IAE, ISE] (fun tr lids => (cyOf h c w le n cr lc ltr len p m s lo ld st pri bd q pp ow d sy fe tr lids)) (fun σ => w_C_tell σ v1 v2 v3 v4) (K + 1) := fun kc => RS.thr IAE (by simp) (fun tr lids Φ Ξ k => kc tr lids Φ Ξ (k _ _))
  clear hm
  have C17 : ∀ {tr lids Φ Ξ}, b_C_tell_17 Φ Ξ v1 v2 v3 v4 (cyOf h c w le n cr lc ltr len p m s lo ld st pri bd q pp ow d sy fe tr lids) = ((v4 = (-1 : Int32) → b_C_tell_43 Φ Ξ v1 v2 v3 v4 (cyOf h c w le n cr lc ltr len p m s lo ld st pri bd q pp ow d sy fe tr lids)) ∧ (¬ v4 = (-1 : Int32) → w_C_requireLetter v4 (fun _ => ((v3 = (-1 : Int32) → Ξ "java/lang/IllegalArgumentException" (cyOf h c w le n cr lc ltr len p m s lo ld st pri bd q pp ow d sy fe tr lids)) ∧ (¬ v3 = (-1 : Int32) → b_C_tell_43 Φ Ξ v1 v2 v3 v4 (cyOf h c w le n cr lc ltr len p m s lo ld st pri bd q pp ow d sy fe tr lids)))) (fun E _ => Ξ E (cyOf h c w le n cr lc ltr len p m s lo ld st pri bd q pp ow d sy fe tr lids)))) := fun {tr lids Φ Ξ} => rfl
  rcases or_assoc.mpr (pk_ix v1 (n := 26) (by omega)) with h1 | ⟨j1, h1, e1⟩
  · exact bad (fun tr lids Φ Ξ k => by unfold w_C_tell; exact q_rlF h1 k)
  rcases or_assoc.mpr (pk_ix v2 (n := 26) (by omega)) with h2 | ⟨j2, h2, e2⟩
  · exact bad (fun tr lids Φ Ξ k => by unfold w_C_tell; rw [e1]; exact q_rlT h1 (q_rlF h2 k))
  have cI : ∀ {tr lids Φ Ξ}, ((v3 = (-1 : Int32) → b_C_tell_17 Φ Ξ v1 v2 v3 v4 (cyOf h c w le n cr lc ltr len p m s lo ld st pri bd q pp ow d sy fe tr lids)) ∧ (¬ v3 = (-1 : Int32) → w_C_requireLetter v3 (fun _ => b_C_tell_17 Φ Ξ v1 v2 v3 v4 (cyOf h c w le n cr lc ltr len p m s lo ld st pri bd q pp ow d sy fe tr lids)) (fun E _ => Ξ E (cyOf h c w le n cr lc ltr len p m s lo ld st pri bd q pp ow d sy fe tr lids)))) → w_C_tell (cyOf h c w le n cr lc ltr len p m s lo ld st pri bd q pp ow d sy fe tr lids) v1 v2 v3 v4 Φ Ξ := fun {tr lids Φ Ξ} k => by
    unfold w_C_tell
    rw [e1, e2] at k ⊢
    exact q_rlT h1 (q_rlT h2 k)
  by_cases q3 : v3 = -1
  · by_cases q4 : v4 = -1
    · exact good j1 j2 h1 h2 e1 e2 (fun _ => q4) (fun tr lids Φ Ξ k => cI (tt q3 (by rw [C17]; exact tt q4 k)))
    · refine bad (fun tr lids Φ Ξ k => cI (tt q3 (by
        rw [C17]
        refine ff q4 ?_
        rcases or_assoc.mpr (pk_ix v4 (n := 26) (by omega)) with h4 | ⟨j4, h4, e4⟩
        · exact q_rlF h4 k
        · rw [e4]; exact q_rlT h4 (tt q3 k))))
  · rcases or_assoc.mpr (pk_ix v3 (n := 26) (by omega)) with h3 | ⟨j3, h3, e3⟩
    · exact bad (fun tr lids Φ Ξ k => cI (ff q3 (q_rlF h3 k)))
    · have cI3 : ∀ {tr lids Φ Ξ}, b_C_tell_17 Φ Ξ v1 v2 v3 v4 (cyOf h c w le n cr lc ltr len p m s lo ld st pri bd q pp ow d sy fe tr lids) → w_C_tell (cyOf h c w le n cr lc ltr len p m s lo ld st pri bd q pp ow d sy fe tr lids) v1 v2 v3 v4 Φ Ξ := fun {tr lids Φ Ξ} k => cI (ff q3 (by rw [e3] at k ⊢; exact q_rlT h3 k))
      by_cases q4 : v4 = -1
      · exact good j1 j2 h1 h2 e1 e2 (fun z => absurd z q3) (fun tr lids Φ Ξ k => cI3 (by rw [C17]; exact tt q4 k))
      · rcases or_assoc.mpr (pk_ix v4 (n := 26) (by omega)) with h4 | ⟨j4, h4, e4⟩
        · exact bad (fun tr lids Φ Ξ k => cI3 (by rw [C17]; exact ff q4 (q_rlF h4 k)))
        · exact good j1 j2 h1 h2 e1 e2 (fun z => absurd z q3) (fun tr lids Φ Ξ k => cI3 (by rw [C17]; refine ff q4 ?_; rw [e4] at k ⊢; exact q_rlT h4 (ff q3 k)))
theorem st_load (g : Good h c n cr ltr len p m st pri bd q pp ow d sy) (mm : More h c cr s pri pp ow fe K) : RS [ISE] (fun tr lids => (cyOf h c w le n cr lc ltr len p m s lo ld st pri bd q pp ow d sy fe tr lids)) (fun σ => w_C_load σ) (K + 1) := by
  have hq := g.2.2.1.1
  have hs := g.2.2.1.2.1
  by_cases hcr : cr = -1
  · refine RS.thr ISE (by simp) (fun tr lids Φ Ξ k => ?_)
    show w_C_load (cyOf h c w le n cr lc ltr len p m s lo ld st pri bd q pp ow d sy fe tr lids) Φ Ξ
    unfold w_C_load
    exact q_rfE hcr (k _ _)
  · have hno : (hF lo st cr 0 q = none ∨ ∃ i, hF lo st cr 0 q = some i ∧ st i ≠ 1) → RS [ISE] (fun tr lids => (cyOf h c w le n cr lc ltr len p m s lo ld st pri bd q pp ow d sy fe tr lids)) (fun σ => w_C_load σ) (K + 1) := by
      intro hz
      refine RS.thr ISE (by simp) (fun tr lids Φ Ξ k => ?_)
      show w_C_load (cyOf h c w le n cr lc ltr len p m s lo ld st pri bd q pp ow d sy fe tr lids) Φ Ξ
      unfold w_C_load b_C_load_33
      refine q_rfF hcr (q_openHaulOf hq hs ?_)
      rcases hz with hz | ⟨i, hz, h1⟩
      · rw [hz]; exact m1_t (k _ _)
      · obtain ⟨a, -, -⟩ := hF_yes q 0 i hz
        have h3 := hs i (by omega)
        rw [hz, show o2i (some i) = nI i from rfl]
        exact m1_f (by omega) (q_stateOf hq (by omega) (eq_f (b := 1) (by omega) (by omega) h1 (k _ _)))
    cases hh : hF lo st cr 0 q with
    | none => exact hno (Or.inl hh)
    | some i =>
      by_cases h1 : st i = 1
      · clear hno
        obtain ⟨a, -, -⟩ := hF_yes q 0 i hh
        have hc : (pp + pri i) + ow = ctr (up st i 2) pri q := by
          rw [ctr_one (st := st) (pri := pri) (i := i) q (by omega) (fun j hj hn => (co_up_n hn).symm), ← g.2.2.1.2.2.2]
          have e1 : co (up st i 2) pri i = pri i := by unfold co; rw [up_s]; rfl
          have e2 : co st pri i = 0 := by unfold co; rw [h1]; rfl
          rw [e1, e2]
          grind
        have gd : Good h c n (-1) ltr len p m (up st i 2) pri bd q (pp + pri i) ow d sy := ⟨⟨g.1.1, g.1.2.1, g.1.2.2.1, Or.inl rfl⟩, g.2.1, ⟨hq, fun j hj => by by_cases z : j = i; subst z; rw [up_s]; omega; rw [up_n z]; exact hs j hj, g.2.2.1.2.2.1, hc⟩, g.2.2.2⟩
        obtain ⟨x, hx, ex⟩ := mm.2.2.2.2.2.2 i (by omega)
        have md : More h c (-1) s pri (pp + pri i) ow fe (K + 1) := by
          obtain ⟨a, b, ⟨B, c1, c2⟩, ⟨P, d1, d2⟩, ⟨O, e1, e2⟩, ⟨F, f1, f2⟩, gg⟩ := mm
          exact ⟨a, fun x hx e => absurd e.symm (nI_ne_m1 (by omega)), ⟨B, by omega, c2⟩, ⟨P + x, by omega, by rw [d2, ex, nI_add]⟩, ⟨O, by omega, e2⟩, ⟨F, by omega, f2⟩, gg⟩
        refine RS.ret (pri i) (fun tr lids => (cyOf h c w le n (-1) lc ltr len p m s lo ld (up st i 2) pri bd q (pp + pri i) ow d sy fe tr lids)) (Iv.of gd md) (by rw [ex]; exact r_ok (by omega)) (fun tr lids Φ Ξ k9 => ?_)
        have k : Φ (pri i) (cyOf h c w le n (-1) lc ltr len p m s lo ld (up st i 2) pri bd q (pp + pri i) ow d sy fe tr lids) := k9 _ _
        show w_C_load (cyOf h c w le n cr lc ltr len p m s lo ld st pri bd q pp ow d sy fe tr lids) Φ Ξ
        unfold w_C_load
        refine q_rfF hcr (q_openHaulOf hq hs ?_)
        rw [hh, show o2i (some i) = nI i from rfl]
        refine m1_f (by omega) (q_stateOf hq (by omega) (eq_t (b := 1) h1 (all_t ?_)))
        unfold w_H_finish
        refine lt_f (b := 0) (by omega) (by omega) (lt_t (by omega) (by omega) (in_t (by omega) (by omega) (all_t (in_t (by omega) (by omega) (all_t (all_t (in_t (by omega) (by omega) ?_)))))))
        rw [nI_clamp (by omega)]
        have e1 : upd (I st) i 2 = I (up st i 2) := I_up st i 2
        unfold cyOf at k
        rw [← e1] at k
        exact k
      · exact hno (Or.inr ⟨i, hh, h1⟩)
theorem st_give (g : Good h c n cr ltr len p m st pri bd q pp ow d sy) (mm : More h c cr s pri pp ow fe K) (v : Int32) : RS [IOE, ISE] (fun tr lids => (cyOf h c w le n cr lc ltr len p m s lo ld st pri bd q pp ow d sy fe tr lids)) (fun σ => w_C_give σ v) (K + 1) := by
  have hq := g.2.2.1.1
  have hs := g.2.2.1.2.1
  have hb := g.2.2.1.2.2.1
  rcases or_assoc.mpr (pk_ix v (n := q) (by omega)) with hv | ⟨i, hi, rfl⟩
  · refine RS.thr IOE (by simp) (fun tr lids Φ Ξ k => ?_)
    show w_C_give (cyOf h c w le n cr lc ltr len p m s lo ld st pri bd q pp ow d sy fe tr lids) v Φ Ξ
    unfold w_C_give
    exact q_rhF (q := q) rfl hv (k _ _)
  · have h3 := hs i (by omega)
    by_cases h0 : st i = 0
    · cases hc : tgt (fun j => decide (0 < bd (4 * i + j))) (fun j => bd (4 * i + j)) 0 4 none with
      | none =>
        refine RS.thr ISE (by simp) (fun tr lids Φ Ξ k => ?_)
        show w_C_give (cyOf h c w le n cr lc ltr len p m s lo ld st pri bd q pp ow d sy fe tr lids) (nI i) Φ Ξ
        unfold w_C_give w_C_requireOffered
        refine q_rhT (q := q) rfl hq hi (q_stateOf hq hi (eq_t (b := 0) h0 (q_cheapest hq hi hb ?_)))
        rw [hc]
        exact m1_t (k _ _)
      | some j =>
        obtain ⟨j1, j2⟩ := tgt4_yes 4 0 none j (fun z h => by cases h) rfl hc
        simp only [decide_eq_true_eq] at j2
        have hbj := hb (4 * i + j) (by omega)
        have hct : pp + ow = ctr (up st i 1) (upd pri i (nI (bd (4 * i + j)))) q := by
          rw [g.2.2.1.2.2.2]
          refine ctr_congr q (fun z hz => ?_)
          by_cases y : z = i
          · subst y
            unfold co
            rw [up_s, h0]
            rfl
          · unfold co
            rw [up_n y, show upd pri i (nI (bd (4 * i + j))) z = pri z from if_neg y]
        have gd : Good h c n cr ltr len p m (up st i 1) (upd pri i (nI (bd (4 * i + j)))) bd q pp ow d sy := ⟨g.1, g.2.1, ⟨hq, fun j hj => by by_cases z : j = i; subst z; rw [up_s]; omega; rw [up_n z]; exact hs j hj, hb, hct⟩, g.2.2.2⟩
        have md : More h c cr s (upd pri i (nI (bd (4 * i + j)))) pp ow fe K := by
          obtain ⟨a, b, c1, d1, e1, f1, gg⟩ := mm
          refine ⟨a, b, c1, d1, e1, f1, fun z hz => ?_⟩
          by_cases y : z = i
          · subst y; exact ⟨bd (4 * z + j), hbj, if_pos rfl⟩
          · obtain ⟨x, hx, ex⟩ := gg z hz
            exact ⟨x, hx, (if_neg y).trans ex⟩
        refine RS.ret (nI j) (fun tr lids => (cyOf h c w le n cr lc ltr len p m s lo ld (up st i 1) (upd pri i (nI (bd (4 * i + j)))) bd q pp ow d sy fe tr lids)) (Iv.of gd (md.le (Nat.le_succ K))) (r_ok (by omega)) (fun tr lids Φ Ξ k9 => ?_)
        have k : Φ (nI j) (cyOf h c w le n cr lc ltr len p m s lo ld (up st i 1) (upd pri i (nI (bd (4 * i + j)))) bd q pp ow d sy fe tr lids) := k9 _ _
        show w_C_give (cyOf h c w le n cr lc ltr len p m s lo ld st pri bd q pp ow d sy fe tr lids) (nI i) Φ Ξ
        unfold w_C_give w_C_requireOffered
        refine q_rhT (q := q) rfl hq hi (q_stateOf hq hi (eq_t (b := 0) h0 (q_cheapest hq hi hb ?_)))
        rw [hc, show o2i (some j) = nI j from rfl]
        refine m1_f (by omega) ?_
        unfold w_H_giveTo b_H_giveTo_28
        refine q_place hq hi j1 (oo (in_t (by omega) (by omega) (all_t ?_)))
        rw [nI_clamp (by omega)]
        have e1 : upd (I st) i 1 = I (up st i 1) := I_up st i 1
        have e2 : s_HL_states (lo, ld, I st, pri, I bd, nI q, pp, ow) (upd (g_HL_states (lo, ld, I st, pri, I bd, nI q, pp, ow)) i 1) = (lo, ld, I (up st i 1), pri, I bd, nI q, pp, ow) := congrArg (fun z => ((lo, ld, z, pri, I bd, nI q, pp, ow) : HL)) e1
        have e3 := q_price (lo := lo) (ld := ld) (pri := pri) (st := up st i 1) (bd := bd) (q := q) (pp := pp) (ow := ow) (i := i) (j := j) hq hi j1 hb (Φ := fun r24 u24 => (vp_in (nI i) 20 ∧ ∀ z2 : HL, z2 = s_HL_prices u24 (upd (g_HL_prices u24) i r24) → Φ (nI j) (s_CY_hl (cyOf h c w le n cr lc ltr len p m s lo ld st pri bd q pp ow d sy fe tr lids) z2))) (fun z => absurd z (by omega)) (fun _ => in_t (by omega) (by omega) (all_t k))
        rw [← e2] at e3
        exact e3
    · refine RS.thr ISE (by simp) (fun tr lids Φ Ξ k => ?_)
      show w_C_give (cyOf h c w le n cr lc ltr len p m s lo ld st pri bd q pp ow d sy fe tr lids) (nI i) Φ Ξ
      unfold w_C_give w_C_requireOffered
      exact q_rhT (q := q) rfl hq hi (q_stateOf hq hi (eq_f (b := 0) (by omega) (by omega) h0 (k _ _)))
theorem st_bid (g : Good h c n cr ltr len p m st pri bd q pp ow d sy) (mm : More h c cr s pri pp ow fe K) (v u t : Int32) : RS [IOE, IAE, ISE] (fun tr lids => (cyOf h c w le n cr lc ltr len p m s lo ld st pri bd q pp ow d sy fe tr lids)) (fun σ Φ Ξ => w_C_bid σ v u t (Φ 0) Ξ) (K + 1) := by
  have hq := g.2.2.1.1
  have hs := g.2.2.1.2.1
  have hb := g.2.2.1.2.2.1
  rcases or_assoc.mpr (pk_ix v (n := q) (by omega)) with hv | ⟨i, hi, rfl⟩
  · refine RS.thr IOE (by simp) (fun tr lids Φ Ξ k => ?_)
    show w_C_bid (cyOf h c w le n cr lc ltr len p m s lo ld st pri bd q pp ow d sy fe tr lids) v u t (Φ 0) Ξ
    unfold w_C_bid
    exact q_rhF (q := q) rfl hv (k _ _)
  · have hno : (u < 0 ∨ nI 4 ≤ u) ∨ (∃ j, j < 4 ∧ u = nI j) ∧ (t < 1 ∨ 1000 < t) → RS [IOE, IAE, ISE] (fun tr lids => (cyOf h c w le n cr lc ltr len p m s lo ld st pri bd q pp ow d sy fe tr lids)) (fun σ Φ Ξ => w_C_bid σ (nI i) u t (Φ 0) Ξ) (K + 1) := by
      intro hz
      refine RS.thr IAE (by simp) (fun tr lids Φ Ξ k9 => ?_)
      have k : Ξ IAE (cyOf h c w le n cr lc ltr len p m s lo ld st pri bd q pp ow d sy fe tr lids) := k9 _ _
      show w_C_bid (cyOf h c w le n cr lc ltr len p m s lo ld st pri bd q pp ow d sy fe tr lids) (nI i) u t (Φ 0) Ξ
      unfold w_C_bid b_C_bid_14 b_C_bid_36
      refine q_rhT (q := q) rfl hq hi ?_
      rcases hz with hz | ⟨⟨j, hj, rfl⟩, hz⟩
      · exact ⟨fun _ => k, fun a => ⟨fun b => absurd ⟨a, b⟩ (lt_of_nI hz), fun _ => k⟩⟩
      · refine lt_f (b := 0) (by omega) (by omega) (lt_t (b := 4) (by omega) hj ⟨fun _ => k, fun a => ⟨fun b => absurd b (fun b => by rcases hz with hz | hz; exact a hz; exact absurd hz (Int32.not_lt.mpr b)), fun _ => k⟩⟩)
    rcases or_assoc.mpr (pk_ix u (n := 4) (by omega)) with hu | ⟨j, hj, rfl⟩
    · exact hno (Or.inl hu)
    by_cases ht : t < 1 ∨ 1000 < t
    · exact hno (Or.inr ⟨⟨j, hj, rfl⟩, ht⟩)
    clear hno
    have t1 : (1 : Int32) ≤ t := Int32.not_lt.mp (fun z => ht (Or.inl z))
    have t2 : t ≤ (1000 : Int32) := Int32.not_lt.mp (fun z => ht (Or.inr z))
    obtain ⟨e, he, rfl⟩ : ∃ e : Nat, e ≤ 1000 ∧ t = nI e := nI_of2 (M := 1000) (n := 1000) (by decide) (fun z => by
      have h1 := Int32.lt_iff_toInt_lt.mp z
      have h2 := Int32.le_iff_toInt_le.mp t1
      have h3 : (0 : Int32).toInt = 0 := by decide
      have h4 : (1 : Int32).toInt = 1 := by decide
      omega) t2
    have h3 := hs i (by omega)
    have cIn : ∀ {tr : SK} {lids : AI} {Φ : CY → Prop} {Ξ : String → CY → Prop}, w_C_requireOffered (cyOf h c w le n cr lc ltr len p m s lo ld st pri bd q pp ow d sy fe tr lids) (nI i) (fun u48 => (w_H_priceAsked (g_CY_hl u48) (nI i) (nI j) (fun r57 u57 => ((r57 = (-1 : Int32) → (w_H_enterBid (g_CY_hl (s_CY_hl u48 u57)) (nI i) (nI j) (nI e) (fun u81 => (Φ (s_CY_hl (s_CY_hl u48 u57) u81))))) ∧ (¬ r57 = (-1 : Int32) → (Ξ "java/lang/IllegalStateException" (s_CY_hl u48 u57))))))) (fun E u48 => Ξ E u48) → w_C_bid (cyOf h c w le n cr lc ltr len p m s lo ld st pri bd q pp ow d sy fe tr lids) (nI i) (nI j) (nI e) Φ Ξ := fun k => by
      unfold w_C_bid
      exact q_rhT (q := q) rfl hq hi (lt_f (b := 0) (by omega) (by omega) (lt_t (b := 4) (by omega) hj (ff (Int32.not_lt.mpr t1) (tt t2 k))))
    by_cases h0 : st i = 0
    · have hbij := hb (4 * i + j) (by omega)
      by_cases hb0 : bd (4 * i + j) = 0
      · have gd : Good h c n cr ltr len p m st pri (up bd (4 * i + j) e) q pp ow d sy := ⟨g.1, g.2.1, ⟨hq, hs, fun z hz => by by_cases y : z = 4 * i + j; subst y; rw [up_s]; exact he; rw [up_n y]; exact hb z hz, g.2.2.1.2.2.2⟩, g.2.2.2⟩
        refine RS.ret 0 (fun tr lids => (cyOf h c w le n cr lc ltr len p m s lo ld st pri (up bd (4 * i + j) e) q pp ow d sy fe tr lids)) (Iv.of gd (mm.le (Nat.le_succ K))) (r_ok (n := 0) (by omega)) (fun tr lids Φ Ξ k9 => cIn ?_)
        have k : Φ 0 (cyOf h c w le n cr lc ltr len p m s lo ld st pri (up bd (4 * i + j) e) q pp ow d sy fe tr lids) := k9 _ _
        unfold w_C_requireOffered
        refine q_stateOf hq hi (eq_t (b := 0) h0 (q_price hq hi hj hb (fun _ => m1_t ?_) (fun z => absurd hb0 (by omega))))
        unfold w_H_enterBid b_H_enterBid_20
        refine q_place hq hi hj (oo ?_)
        rw [ix4]
        refine in_t (by omega) (by omega) (all_t ?_)
        rw [nI_clamp (by omega)]
        unfold cyOf at k
        rw [← I_up bd] at k
        exact k
      · refine RS.thr ISE (by simp) (fun tr lids Φ Ξ k => cIn ?_)
        unfold w_C_requireOffered
        exact q_stateOf hq hi (eq_t (b := 0) h0 (q_price hq hi hj hb (fun z => absurd z hb0) (fun z => m1_f (by omega) (k _ _))))
    · refine RS.thr ISE (by simp) (fun tr lids Φ Ξ k => cIn ?_)
      unfold w_C_requireOffered
      exact q_stateOf hq hi (eq_f (b := 0) (by omega) (by omega) h0 (k _ _))
theorem st_offer (g : Good h c n cr ltr len p m st pri bd q pp ow d sy) (mm : More h c cr s pri pp ow fe K) (v u : Int32) : RS [IOE, IAE, ISE] (fun tr lids => (cyOf h c w le n cr lc ltr len p m s lo ld st pri bd q pp ow d sy fe tr lids)) (fun σ => w_C_offer σ v u) (K + 1) := by
  have hq := g.2.2.1.1
  have hs := g.2.2.1.2.1
  have hn := g.1.2.2.1
  rcases or_assoc.mpr (pk_ix v (n := n) (by omega)) with hv | ⟨x, hx, rfl⟩
  · refine RS.thr IOE (by simp) (fun tr lids Φ Ξ k => ?_)
    show w_C_offer (cyOf h c w le n cr lc ltr len p m s lo ld st pri bd q pp ow d sy fe tr lids) v u Φ Ξ
    unfold w_C_offer
    exact q_rcF (n := n) rfl hv (k _ _)
  · by_cases hu : u < nI d ∨ nI d + (100 : Int32) < u
    · refine RS.thr IAE (by simp) (fun tr lids Φ Ξ k9 => ?_)
      have k : Ξ IAE (cyOf h c w le n cr lc ltr len p m s lo ld st pri bd q pp ow d sy fe tr lids) := k9 _ _
      show w_C_offer (cyOf h c w le n cr lc ltr len p m s lo ld st pri bd q pp ow d sy fe tr lids) (nI x) u Φ Ξ
      unfold w_C_offer b_C_offer_24
      refine q_rcT (n := n) rfl hn hx ⟨fun _ => k, fun a => ⟨fun b => absurd b (fun b => by rcases hu with hu | hu; exact a hu; exact absurd hu (Int32.not_lt.mpr b)), fun _ => k⟩⟩
    · have u1 : nI d ≤ u := Int32.not_lt.mp (fun z => hu (Or.inl z))
      have u2 : u ≤ nI d + (100 : Int32) := Int32.not_lt.mp (fun z => hu (Or.inr z))
      have cIn : ∀ {tr : SK} {lids : AI} {Φ : Int32 → CY → Prop} {Ξ : String → CY → Prop}, w_C_requireInStack (cyOf h c w le n cr lc ltr len p m s lo ld st pri bd q pp ow d sy fe tr lids) (nI x) (fun u36 => (w_H_openHaulOf (g_CY_hl u36) (nI x) (fun r44 u44 => ((r44 = (-1 : Int32) → (w_H_number (g_CY_hl (s_CY_hl u36 u44)) (fun r65 u65 => ((r65 < (20 : Int32) → (w_H_add (g_CY_hl (s_CY_hl (s_CY_hl u36 u44) u65)) (nI x) u (fun r89 u89 => (Φ r89 (s_CY_hl (s_CY_hl (s_CY_hl u36 u44) u65) u89))))) ∧ (¬ r65 < (20 : Int32) → (Ξ "java/lang/IllegalStateException" (s_CY_hl (s_CY_hl u36 u44) u65))))))) ∧ (¬ r44 = (-1 : Int32) → (Ξ "java/lang/IllegalStateException" (s_CY_hl u36 u44))))))) (fun E u36 => Ξ E u36) → w_C_offer (cyOf h c w le n cr lc ltr len p m s lo ld st pri bd q pp ow d sy fe tr lids) (nI x) u Φ Ξ := fun k => by
        unfold w_C_offer
        exact q_rcT (n := n) rfl hn hx (ff (Int32.not_lt.mpr u1) (tt u2 k))
      cases hf : find h c (nI x) with
      | none => exact RS.thr ISE (by simp) (fun tr lids Φ Ξ k => cIn (q_riF rfl g.ok hf (k _ _)))
      | some home =>
        have hh := (find_yes hf).1
        cases ho : hF lo st (nI x) 0 q with
        | some i =>
          obtain ⟨i1, -, -⟩ := hF_yes q 0 i ho
          refine RS.thr ISE (by simp) (fun tr lids Φ Ξ k => cIn (q_riT rfl g.ok hf (q_openHaulOf hq hs ?_)))
          rw [ho]
          exact m1_f (by omega) (k _ _)
        | none =>
          by_cases hq20 : q < 20
          · have hct : pp + ow = ctr (up st q 0) pri (q + 1) := by
              rw [ctr_s, ← ctr_congr q (fun j hj => (co_up_n (by omega)).symm), ← g.2.2.1.2.2.2]
              have e1 : co (up st q 0) pri q = 0 := by unfold co; rw [up_s]; rfl
              rw [e1]
              grind
            have gd : Good h c n cr ltr len p m (up st q 0) pri bd (q + 1) pp ow d sy := ⟨g.1, g.2.1, ⟨hq20, fun j hj => by by_cases z : j = q; subst z; rw [up_s]; omega; rw [up_n z]; exact hs j hj, g.2.2.1.2.2.1, hct⟩, g.2.2.2⟩
            refine RS.ret (nI q) (fun tr lids => (cyOf h c w le n cr lc ltr len p m s (upd lo q (nI x)) (upd ld q u) (up st q 0) pri bd (q + 1) pp ow d sy fe tr lids)) (Iv.of gd (mm.le (Nat.le_succ K))) (r_ok (by omega)) (fun tr lids Φ Ξ k => cIn (q_riT rfl g.ok hf (q_openHaulOf hq hs ?_)))
            rw [ho]
            unfold w_H_number
            exact m1_t (lt_t (b := 20) (by omega) hq20 (q_Hadd hq20 (k _ _)))
          · refine RS.thr ISE (by simp) (fun tr lids Φ Ξ k => cIn (q_riT rfl g.ok hf (q_openHaulOf hq hs ?_)))
            rw [ho]
            unfold w_H_number
            exact m1_t (lt_f (b := 20) (by omega) (by omega) (k _ _))
/-- a storm, as a call that doesn't throw -/
theorem st_storm (g : Good h c n cr ltr len p m st pri bd q pp ow d sy) (mm : More h c cr s pri pp ow fe K) : ∃ (r : Int32) (X' : SK → AI → CY), Iv X' (K + 1) ∧ (-99998 : Int32) < r ∧ ∀ tr lids Φ, (∀ t l, Φ r (X' t l)) → w_C_storm (cyOf h c w le n cr lc ltr len p m s lo ld st pri bd q pp ow d sy fe tr lids) Φ := by
  have gd : Good h c n cr ltr len p m st pri bd q pp ow d 1 := ⟨g.1, g.2.1, g.2.2.1, g.2.2.2.1, Or.inr rfl⟩
  refine ⟨nI (abv h 6), fun tr lids => (cyOf h c w le n cr lc ltr len p m s lo ld st pri bd q pp ow d 1 fe tr lids), Iv.of gd (mm.le (Nat.le_succ K)), r_ok ?_, fun tr lids Φ k9 => ?_⟩
  · have := abv_le g.1.1 6 (Nat.le_refl 6)
    omega
  · have k : Φ (nI (abv h 6)) (cyOf h c w le n cr lc ltr len p m s lo ld st pri bd q pp ow d 1 fe tr lids) := k9 _ _
    unfold w_C_storm
    refine all_t (q_Cmost ?_)
    unfold w_S_cratesAbove
    exact ⟨7, q_ca g.1.1 k 6 0 rfl⟩
end
def fdN (h : Nat → Nat) : Nat → Nat | 0 => 0 | i + 1 => fdN h i + h i * (h i - 1) / 2
theorem fd_term {x : Nat} (hx : x ≤ 5) : (nI x * (nI x - (1 : Int32))) / (2 : Int32) = nI (x * (x - 1) / 2) ∧ x * (x - 1) / 2 ≤ 10 := by
  have h : x = 0 ∨ x = 1 ∨ x = 2 ∨ x = 3 ∨ x = 4 ∨ x = 5 := by omega
  rcases h with h | h | h | h | h | h <;> subst h <;> decide
theorem fdF_nat {h : Nat → Nat} (hh : ∀ i, i < 6 → h i ≤ 5) : ∀ i, i ≤ 6 → fdF h i = nI (fdN h i) ∧ fdN h i ≤ 10 * i
  | 0, _ => ⟨rfl, Nat.le_refl 0⟩
  | i + 1, hi => by
    obtain ⟨a, b⟩ := fdF_nat hh i (by omega)
    obtain ⟨a2, b2⟩ := fd_term (hh i (by omega))
    rw [fdF, fdN, a, a2, nI_add]
    exact ⟨rfl, by omega⟩
theorem eF_ow {ld : AI} {x : Int32} : ∀ (n i : Nat) (st : Nat → Nat) (O : Nat), ∃ O', O' ≤ O + 50 * n ∧ (eF ld x i n st (nI O)).2 = nI O'
  | 0, _, _, O => ⟨O, by omega, rfl⟩
  | n + 1, i, st, O => by
    rw [eF]
    by_cases z : st i ≤ 1 ∧ ld i = x
    · rw [if_pos z, l50, nI_add]
      obtain ⟨O', a, b⟩ := eF_ow (ld := ld) (x := x) n (i + 1) (up st i 3) (O + 50)
      exact ⟨O', by omega, b⟩
    · rw [if_neg z]
      obtain ⟨O', a, b⟩ := eF_ow (ld := ld) (x := x) n (i + 1) st O
      exact ⟨O', by omega, b⟩
theorem q_pass {h c : Nat → Nat} {w le : AI} {n : Nat} {cr lc : Int32} {ltr : AI} {len : Nat → Nat} {p : AI} {m : Nat} {s : Int32} {lo ld pri : AI} {bd : Nat → Nat} {q : Nat} {pp : Int32} {N : Nat} (hN : N ≤ 100) {F0 : Nat} : ∀ (k i : Nat) (st : Nat → Nat) (O : Nat) (d : Nat) (sy : Int32) (F : Nat), i + k = N → Good h c n cr ltr len p m st pri bd q pp (nI O) d sy → d + k ≤ 10000 → ∃ (st' : Nat → Nat) (O' d' F' : Nat) (sy' : Int32), Good h c n cr ltr len p m st' pri bd q pp (nI O') d' sy' ∧ O' ≤ O + 1000 * k ∧ F ≤ F' ∧ F' ≤ F + 60 * k ∧ ∀ tr lids Φ Ξ, Φ (nI F' - nI F0) (cyOf h c w le n cr lc ltr len p m s lo ld st' pri bd q pp (nI O') d' sy' (nI F') tr lids) → it4 (b_C_pass_50 Φ Ξ) (k + 1) (nI N) (nI F0) (nI i) (cyOf h c w le n cr lc ltr len p m s lo ld st pri bd q pp (nI O) d sy (nI F) tr lids) := by
  intro k
  induction k with
  | zero =>
    intro i st O d sy F e g hd
    refine ⟨st, O, d, F, sy, g, by omega, by omega, by omega, fun tr lids Φ Ξ k => ?_⟩
    show b_C_pass_50 Φ Ξ (it4 (b_C_pass_50 Φ Ξ) 0) (nI N) (nI F0) (nI i) (cyOf h c w le n cr lc ltr len p m s lo ld st pri bd q pp (nI O) d sy (nI F) tr lids)
    rw [b_C_pass_50]
    exact le_t (a := N) (by omega) (by omega) k
  | succ k ih =>
    intro i st O d sy F e g hd
    have a := eF_good (ld := ld) (pri := pri) (x := nI d) (pp := pp) (q := q) q 0 st (nI O) (by omega) g.2.2.1.2.1 g.2.2.1.2.2.2
    obtain ⟨O1, o1, o2⟩ := eF_ow (ld := ld) (x := nI d) q 0 st O
    obtain ⟨f1, f2⟩ := fdF_nat g.1.1 6 (Nat.le_refl 6)
    have hq := g.2.2.1.1
    rw [o2] at a
    have gd : Good h c n cr ltr len p m (eF ld (nI d) 0 q st (nI O)).1 pri bd q pp (nI O1) (d + 1) 0 := ⟨g.1, g.2.1, ⟨g.2.2.1.1, a.1, g.2.2.1.2.2.1, a.2⟩, by omega, Or.inl rfl⟩
    obtain ⟨st', O', d', F', sy', g', a1, a2, a3, a4⟩ := ih (i + 1) (eF ld (nI d) 0 q st (nI O)).1 O1 (d + 1) 0 (F + fdN h 6) (by omega) gd (by omega)
    refine ⟨st', O', d', F', sy', g', by omega, by omega, by omega, fun tr lids Φ Ξ kk => ?_⟩
    show b_C_pass_50 Φ Ξ (it4 (b_C_pass_50 Φ Ξ) (k + 1)) (nI N) (nI F0) (nI i) (cyOf h c w le n cr lc ltr len p m s lo ld st pri bd q pp (nI O) d sy (nI F) tr lids)
    rw [b_C_pass_50]
    refine le_f (a := N) (by omega) (by omega) (q_CendDay (ow := nI O) g.2.2.1.1 g.2.2.1.2.1 ?_)
    rw [nI_1, o2, f1, nI_add]
    exact a4 tr lids Φ Ξ kk
section
variable {h : Nat → Nat} {c : Nat → Nat} {w : AI} {le : AI} {n : Nat} {cr : Int32} {lc : Int32} {ltr : AI} {len : Nat → Nat} {p : AI} {m : Nat} {s : Int32} {lo : AI} {ld : AI} {st : Nat → Nat} {pri : AI} {bd : Nat → Nat} {q : Nat} {pp : Int32} {ow : Int32} {d : Nat} {sy : Int32} {fe : Int32} {K : Nat}
theorem st_pass (g : Good h c n cr ltr len p m st pri bd q pp ow d sy) (mm : More h c cr s pri pp ow fe K) (hK : K < 200) (v : Int32) : RS [IAE, ISE] (fun tr lids => (cyOf h c w le n cr lc ltr len p m s lo ld st pri bd q pp ow d sy fe tr lids)) (fun σ => w_C_pass σ v) (K + 1) := by
  have hd := g.2.2.2.1
  by_cases hv : v < 1 ∨ 100 < v
  · refine RS.thr IAE (by simp) (fun tr lids Φ Ξ k9 => ?_)
    have k : Ξ IAE (cyOf h c w le n cr lc ltr len p m s lo ld st pri bd q pp ow d sy fe tr lids) := k9 _ _
    show w_C_pass (cyOf h c w le n cr lc ltr len p m s lo ld st pri bd q pp ow d sy fe tr lids) v Φ Ξ
    unfold w_C_pass b_C_pass_11
    exact ⟨fun _ => k, fun a => ⟨fun b => absurd b (fun b => by rcases hv with z | z; exact a z; exact absurd z (Int32.not_lt.mpr b)), fun _ => k⟩⟩
  · have t1 : (1 : Int32) ≤ v := Int32.not_lt.mp (fun z => hv (Or.inl z))
    have t2 : v ≤ (100 : Int32) := Int32.not_lt.mp (fun z => hv (Or.inr z))
    obtain ⟨N, hN, rfl⟩ : ∃ e : Nat, e ≤ 100 ∧ v = nI e := nI_of2 (M := 100) (n := 100) (by decide) (fun z => by
      have h1 := Int32.lt_iff_toInt_lt.mp z
      have h2 := Int32.le_iff_toInt_le.mp t1
      have h3 : (0 : Int32).toInt = 0 := by decide
      have h4 : (1 : Int32).toInt = 1 := by decide
      omega) t2
    have cIn : ∀ {tr : SK} {lids : AI} {Φ : Int32 → CY → Prop} {Ξ : String → CY → Prop}, ((nI (d + N) ≤ (10000 : Int32) → (∃ n9, it4 (b_C_pass_50 Φ Ξ) n9 (nI N) fe (0 : Int32) (cyOf h c w le n cr lc ltr len p m s lo ld st pri bd q pp ow d sy fe tr lids))) ∧ (¬ nI (d + N) ≤ (10000 : Int32) → Ξ "java/lang/IllegalStateException" (cyOf h c w le n cr lc ltr len p m s lo ld st pri bd q pp ow d sy fe tr lids))) → w_C_pass (cyOf h c w le n cr lc ltr len p m s lo ld st pri bd q pp ow d sy fe tr lids) (nI N) Φ Ξ := fun k => by
      unfold w_C_pass
      rw [← nI_add] at k
      exact ff (Int32.not_lt.mpr t1) (tt t2 k)
    by_cases z : d + N ≤ 10000
    · obtain ⟨a, b, ⟨B, c1, c2⟩, ⟨P, d1, d2⟩, ⟨O, e1, e2⟩, ⟨F, f1, f2⟩, gg⟩ := mm
      subst e2 f2
      obtain ⟨st', O', d', F', sy', g', a1, a2, a3, a4⟩ := q_pass (w := w) (le := le) (lc := lc) (s := s) (lo := lo) (ld := ld) hN (F0 := F) N 0 st O d sy F (by omega) g z
      have er : nI F' - nI F = nI (F' - F) := pk_sub (by omega)
      exact RS.ret (nI (F' - F)) (fun tr lids => (cyOf h c w le n cr lc ltr len p m s lo ld st' pri bd q pp (nI O') d' sy' (nI F') tr lids)) (Iv.of g' ⟨a, b, ⟨B, by omega, c2⟩, ⟨P, by omega, d2⟩, ⟨O', by omega, rfl⟩, ⟨F', by omega, rfl⟩, gg⟩) (r_ok (by omega)) (fun tr lids Φ Ξ k => cIn (le_t (b := 10000) (by omega) z ⟨N + 1, a4 tr lids Φ Ξ (by rw [er]; exact k _ _)⟩))
    · exact RS.thr ISE (by simp) (fun tr lids Φ Ξ k => cIn (le_f (b := 10000) (by omega) (by omega) (k _ _)))
end
