theorem q_Hadd {lo ld pri : AI} {st bd : Nat → Nat} {q : Nat} {pp ow x u : Int32} (hq : q < 20) {Φ : Int32 → HL → Prop} (k : Φ (nI q) (upd lo q x, upd ld q u, I (up st q 0), pri, I bd, nI (q + 1), pp, ow)) : w_H_add (lo, ld, I st, pri, I bd, nI q, pp, ow) x u Φ := by
  unfold w_H_add
  refine lt_t (b := 20) (by omega) hq (all_t (all_t (in_t hq (by omega) (all_t (in_t hq (by omega) (all_t (in_t hq (by omega) (all_t ?_))))))))
  rw [nI_clamp (by omega)]
  have e1 : upd (I st) q 0 = I (up st q 0) := I_up st q 0
  have e2 : nI q + (1 : Int32) = nI (q + 1) := nI_1 q
  rw [← e1, ← e2] at k
  exact k
section
variable {h : Nat → Nat} {c : Nat → Nat} {w : AI} {le : AI} {n : Nat} {cr : Int32} {lc : Int32} {ltr : AI} {len : Nat → Nat} {p : AI} {m : Nat} {s : Int32} {lo : AI} {ld : AI} {st : Nat → Nat} {pri : AI} {bd : Nat → Nat} {q : Nat} {pp : Int32} {ow : Int32} {d : Nat} {sy : Int32} {fe : Int32} {tr : SK} {lids : AI} {th : Int32} {td tdh : AI}
theorem st_state (g : Good h c n cr ltr len p m st pri bd q pp ow d sy) (v : Int32) : Res [IOE] (w_C_state (cyOf h c w le n cr lc ltr len p m s lo ld st pri bd q pp ow d sy fe tr lids) v) (w_M_state (mdOf h c w le n cr lc ltr len p m s lo ld st pri bd q pp ow d sy fe th td tdh) v) := by
  have hq := g.2.2.1.1
  rcases or_assoc.mpr (pk_ix v (n := q) (by omega)) with hv | ⟨i, hi, rfl⟩
  · refine Res.thr 0 IOE 0 (cyOf h c w le n cr lc ltr len p m s lo ld st pri bd q pp ow d sy fe tr lids) (mdOf h c w le n cr lc ltr len p m s lo ld st pri bd q pp ow d sy fe 1 td tdh) rfl (Inv.of g) rfl (fun Φ Ξ k => ?_) (fun Ψ k => ?_)
    · unfold w_C_state
      exact q_rhF (q := q) rfl hv k
    · unfold w_M_state b_M_state_14 b_M_state_30
      exact q_hlF (n := q) rfl (by omega) hv (zz (q_gw1 (by decide) (zz k)))
  · refine Res.ret (nI (st i)) (cyOf h c w le n cr lc ltr len p m s lo ld st pri bd q pp ow d sy fe tr lids) (mdOf h c w le n cr lc ltr len p m s lo ld st pri bd q pp ow d sy fe 0 td tdh) (Inv.of g) rfl (fun Φ Ξ k => ?_) (fun Ψ k => ?_)
    · unfold w_C_state
      exact q_rhT (q := q) rfl hq hi (q_stateOf hq hi k)
    · unfold w_M_state b_M_state_14 b_M_state_30
      refine q_hlT (n := q) rfl (by omega) hi (oo (q_gw0 (oo (in_t (by omega) (by omega) ?_))))
      rw [nI_clamp (by omega)]
      exact k
theorem st_load (g : Good h c n cr ltr len p m st pri bd q pp ow d sy) : Res [ISE] (w_C_load (cyOf h c w le n cr lc ltr len p m s lo ld st pri bd q pp ow d sy fe tr lids)) (w_M_load (mdOf h c w le n cr lc ltr len p m s lo ld st pri bd q pp ow d sy fe th td tdh)) := by
  have hq := g.2.2.1.1
  have hs := g.2.2.1.2.1
  by_cases hcr : cr = -1
  · refine Res.thr 0 ISE 0 (cyOf h c w le n cr lc ltr len p m s lo ld st pri bd q pp ow d sy fe tr lids) (mdOf h c w le n cr lc ltr len p m s lo ld st pri bd q pp ow d sy fe 1 td tdh) rfl (Inv.of g) rfl (fun Φ Ξ k => ?_) (fun Ψ k => ?_)
    · unfold w_C_load
      exact q_rfE hcr k
    · unfold w_M_load b_M_load_20 b_M_load_37 b_M_load_42
      exact tt hcr (m1_t (q_gw1 (by decide) (zz k)))
  · have hno : (hF lo st cr 0 q = none ∨ ∃ i, hF lo st cr 0 q = some i ∧ st i ≠ 1) → Res [ISE] (w_C_load (cyOf h c w le n cr lc ltr len p m s lo ld st pri bd q pp ow d sy fe tr lids)) (w_M_load (mdOf h c w le n cr lc ltr len p m s lo ld st pri bd q pp ow d sy fe th td tdh)) := by
      intro hz
      refine Res.thr 0 ISE 0 (cyOf h c w le n cr lc ltr len p m s lo ld st pri bd q pp ow d sy fe tr lids) (mdOf h c w le n cr lc ltr len p m s lo ld st pri bd q pp ow d sy fe 1 td tdh) rfl (Inv.of g) rfl (fun Φ Ξ k => ?_) (fun Ψ k => ?_)
      · unfold w_C_load b_C_load_33
        refine q_rfF hcr (q_openHaulOf hq hs ?_)
        rcases hz with hz | ⟨i, hz, h1⟩
        · rw [hz]; exact m1_t k
        · obtain ⟨a, -, -⟩ := hF_yes q 0 i hz
          have h3 := hs i (by omega)
          rw [hz, show o2i (some i) = nI i from rfl]
          exact m1_f (by omega) (q_stateOf hq (by omega) (eq_f (b := 1) (by omega) (by omega) h1 k))
      · unfold w_M_load b_M_load_20 b_M_load_37 b_M_load_42
        refine ff hcr (q_MhaulOf (lo := lo) (st := st) (q := q) rfl rfl rfl hq hs ?_)
        rcases hz with hz | ⟨i, hz, h1⟩
        · rw [hz]; exact m1_t (q_gw1 (by decide) (zz k))
        · obtain ⟨a, -, -⟩ := hF_yes q 0 i hz
          have h3 := hs i (by omega)
          rw [hz, show o2i (some i) = nI i from rfl]
          refine m1_f (by omega) (in_t (by omega) (by omega) ?_)
          rw [nI_clamp (by omega)]
          exact eq_f (a := st i) (b := 1) (by omega) (by omega) h1 (q_gw1 (by decide) (zz k))
    cases hh : hF lo st cr 0 q with
    | none => exact hno (Or.inl hh)
    | some i =>
      by_cases h1 : st i = 1
      · clear hno
        obtain ⟨a, -, -⟩ := hF_yes q 0 i hh
        have hc : (pp + pri i) + ow = ctr (up st i 2) pri q := by
          rw [ctr_one (st := st) (pri := pri) (i := i) q (by omega) (fun j hj hn => (co_up_n hn).symm), ← g.2.2.1.2.2.2]
          have e1 : co (up st i 2) pri i = pri i := by unfold co; rw [up_s]; rfl
          have e2 : co st pri i = 0 := by unfold co; rw [h1]; rfl
          rw [e1, e2]
          grind
        have gd : Good h c n (-1) ltr len p m (up st i 2) pri bd q (pp + pri i) ow d sy := ⟨⟨g.1.1, g.1.2.1, g.1.2.2.1, Or.inl rfl⟩, g.2.1, ⟨hq, fun j hj => by by_cases z : j = i; subst z; rw [up_s]; omega; rw [up_n z]; exact hs j hj, g.2.2.1.2.2.1, hc⟩, g.2.2.2⟩
        refine Res.ret (pri i) (cyOf h c w le n (-1) lc ltr len p m s lo ld (up st i 2) pri bd q (pp + pri i) ow d sy fe tr lids) (mdOf h c w le n (-1) lc ltr len p m s lo ld (up st i 2) pri bd q (pp + pri i) ow d sy fe 0 td tdh) (Inv.of gd) rfl (fun Φ Ξ k => ?_) (fun Ψ k => ?_)
        · unfold w_C_load
          refine q_rfF hcr (q_openHaulOf hq hs ?_)
          rw [hh, show o2i (some i) = nI i from rfl]
          refine m1_f (by omega) (q_stateOf hq (by omega) (eq_t (b := 1) h1 (all_t ?_)))
          unfold w_H_finish
          refine lt_f (b := 0) (by omega) (by omega) (lt_t (by omega) (by omega) (in_t (by omega) (by omega) (all_t (in_t (by omega) (by omega) (all_t (all_t (in_t (by omega) (by omega) ?_)))))))
          rw [nI_clamp (by omega)]
          have e1 : upd (I st) i 2 = I (up st i 2) := I_up st i 2
          unfold cyOf at k
          rw [← e1] at k
          exact k
        · unfold w_M_load b_M_load_20 b_M_load_42
          refine ff hcr (q_MhaulOf (lo := lo) (st := st) (q := q) rfl rfl rfl hq hs ?_)
          rw [hh, show o2i (some i) = nI i from rfl]
          refine m1_f (by omega) (in_t (by omega) (by omega) ?_)
          rw [nI_clamp (by omega)]
          refine eq_t (a := st i) (b := 1) h1 (q_gw0 (oo (in_t (by omega) (by omega) (all_t (all_t (in_t (by omega) (by omega) ?_))))))
          have e1 : upd (I st) i 2 = I (up st i 2) := I_up st i 2
          unfold mdOf at k
          rw [← e1] at k
          exact k
      · exact hno (Or.inr ⟨i, hh, h1⟩)
theorem st_give (g : Good h c n cr ltr len p m st pri bd q pp ow d sy) (v : Int32) : Res [IOE, ISE] (w_C_give (cyOf h c w le n cr lc ltr len p m s lo ld st pri bd q pp ow d sy fe tr lids) v) (w_M_give (mdOf h c w le n cr lc ltr len p m s lo ld st pri bd q pp ow d sy fe th td tdh) v) := by
  have hq := g.2.2.1.1
  have hs := g.2.2.1.2.1
  have hb := g.2.2.1.2.2.1
  rcases or_assoc.mpr (pk_ix v (n := q) (by omega)) with hv | ⟨i, hi, rfl⟩
  · refine Res.thr 0 IOE 0 (cyOf h c w le n cr lc ltr len p m s lo ld st pri bd q pp ow d sy fe tr lids) (mdOf h c w le n cr lc ltr len p m s lo ld st pri bd q pp ow d sy fe 1 td tdh) rfl (Inv.of g) rfl (fun Φ Ξ k => ?_) (fun Ψ k => ?_)
    · unfold w_C_give
      exact q_rhF (q := q) rfl hv k
    · unfold w_M_give b_M_give_27 b_M_give_28 b_M_give_48
      exact q_hlF (n := q) rfl (by omega) hv (zz (zz (q_gw1 (by decide) (zz k))))
  · have h3 := hs i (by omega)
    by_cases h0 : st i = 0
    · cases hc : tgt (fun j => decide (0 < bd (4 * i + j))) (fun j => bd (4 * i + j)) 0 4 none with
      | none =>
        refine Res.thr 1 ISE 0 (cyOf h c w le n cr lc ltr len p m s lo ld st pri bd q pp ow d sy fe tr lids) (mdOf h c w le n cr lc ltr len p m s lo ld st pri bd q pp ow d sy fe 2 td tdh) rfl (Inv.of g) rfl (fun Φ Ξ k => ?_) (fun Ψ k => ?_)
        · unfold w_C_give w_C_requireOffered
          refine q_rhT (q := q) rfl hq hi (q_stateOf hq hi (eq_t (b := 0) h0 (q_cheapest hq hi hb ?_)))
          rw [hc]
          exact m1_t k
        · unfold w_M_give b_M_give_27 b_M_give_28 b_M_give_48
          refine q_hlT (n := q) rfl (by omega) hi (oo (in_t (by omega) (by omega) ?_))
          rw [nI_clamp (by omega)]
          refine eq_t (a := st i) (b := 0) h0 (q_Mcheapest (bd := bd) rfl (by omega) hb ?_)
          rw [hc]
          exact oo (m1_t (q_gw1 (by decide) (zz k)))
      | some j =>
        obtain ⟨j1, j2⟩ := tgt4_yes 4 0 none j (fun z h => by cases h) rfl hc
        simp only [decide_eq_true_eq] at j2
        have hbj := hb (4 * i + j) (by omega)
        have hct : pp + ow = ctr (up st i 1) (upd pri i (nI (bd (4 * i + j)))) q := by
          rw [g.2.2.1.2.2.2]
          refine ctr_congr q (fun z hz => ?_)
          by_cases y : z = i
          · subst y
            unfold co
            rw [up_s, h0]
            rfl
          · unfold co
            rw [up_n y, show upd pri i (nI (bd (4 * i + j))) z = pri z from if_neg y]
        have gd : Good h c n cr ltr len p m (up st i 1) (upd pri i (nI (bd (4 * i + j)))) bd q pp ow d sy := ⟨g.1, g.2.1, ⟨hq, fun j hj => by by_cases z : j = i; subst z; rw [up_s]; omega; rw [up_n z]; exact hs j hj, hb, hct⟩, g.2.2.2⟩
        refine Res.ret (nI j) (cyOf h c w le n cr lc ltr len p m s lo ld (up st i 1) (upd pri i (nI (bd (4 * i + j)))) bd q pp ow d sy fe tr lids) (mdOf h c w le n cr lc ltr len p m s lo ld (up st i 1) (upd pri i (nI (bd (4 * i + j)))) bd q pp ow d sy fe 0 td tdh) (Inv.of gd) rfl (fun Φ Ξ k => ?_) (fun Ψ k => ?_)
        · unfold w_C_give w_C_requireOffered
          refine q_rhT (q := q) rfl hq hi (q_stateOf hq hi (eq_t (b := 0) h0 (q_cheapest hq hi hb ?_)))
          rw [hc, show o2i (some j) = nI j from rfl]
          refine m1_f (by omega) ?_
          unfold w_H_giveTo b_H_giveTo_28
          refine q_place hq hi j1 (oo (in_t (by omega) (by omega) (all_t ?_)))
          rw [nI_clamp (by omega)]
          have e1 : upd (I st) i 1 = I (up st i 1) := I_up st i 1
          have e2 : s_HL_states (lo, ld, I st, pri, I bd, nI q, pp, ow) (upd (g_HL_states (lo, ld, I st, pri, I bd, nI q, pp, ow)) i 1) = (lo, ld, I (up st i 1), pri, I bd, nI q, pp, ow) := congrArg (fun z => ((lo, ld, z, pri, I bd, nI q, pp, ow) : HL)) e1
          have e3 := q_price (lo := lo) (ld := ld) (pri := pri) (st := up st i 1) (bd := bd) (q := q) (pp := pp) (ow := ow) (i := i) (j := j) hq hi j1 hb (Φ := fun r24 u24 => (vp_in (nI i) 20 ∧ ∀ z2 : HL, z2 = s_HL_prices u24 (upd (g_HL_prices u24) i r24) → Φ (nI j) (s_CY_hl (cyOf h c w le n cr lc ltr len p m s lo ld st pri bd q pp ow d sy fe tr lids) z2))) (fun z => absurd z (by omega)) (fun _ => in_t (by omega) (by omega) (all_t k))
          rw [← e2] at e3
          exact e3
        · unfold w_M_give b_M_give_27 b_M_give_28 b_M_give_48
          refine q_hlT (n := q) rfl (by omega) hi (oo (in_t (by omega) (by omega) ?_))
          rw [nI_clamp (by omega)]
          refine eq_t (a := st i) (b := 0) h0 (q_Mcheapest (bd := bd) rfl (by omega) hb ?_)
          rw [hc, show o2i (some j) = nI j from rfl]
          refine oo (m1_f (by omega) (q_gw0 (oo (in_t (by omega) (by omega) (all_t ?_)))))
          rw [ixM4]
          refine in_t (by omega) (by omega) (all_t (in_t (by omega) (by omega) (all_t ?_)))
          rw [nI_clamp (by omega)]
          have e1 : upd (I st) i 1 = I (up st i 1) := I_up st i 1
          unfold mdOf at k
          rw [← e1] at k
          exact k
    · refine Res.thr 1 ISE 0 (cyOf h c w le n cr lc ltr len p m s lo ld st pri bd q pp ow d sy fe tr lids) (mdOf h c w le n cr lc ltr len p m s lo ld st pri bd q pp ow d sy fe 2 td tdh) rfl (Inv.of g) rfl (fun Φ Ξ k => ?_) (fun Ψ k => ?_)
      · unfold w_C_give w_C_requireOffered
        exact q_rhT (q := q) rfl hq hi (q_stateOf hq hi (eq_f (b := 0) (by omega) (by omega) h0 k))
      · unfold w_M_give b_M_give_27 b_M_give_28 b_M_give_48
        refine q_hlT (n := q) rfl (by omega) hi (oo (in_t (by omega) (by omega) ?_))
        rw [nI_clamp (by omega)]
        exact eq_f (a := st i) (b := 0) (by omega) (by omega) h0 (oo (m1_t (q_gw1 (by decide) (zz k))))
theorem st_bid (g : Good h c n cr ltr len p m st pri bd q pp ow d sy) (v u t : Int32) : Res [IOE, IAE, ISE] (fun Φ Ξ => w_C_bid (cyOf h c w le n cr lc ltr len p m s lo ld st pri bd q pp ow d sy fe tr lids) v u t (Φ 0) Ξ) (fun Ψ => w_M_bid (mdOf h c w le n cr lc ltr len p m s lo ld st pri bd q pp ow d sy fe th td tdh) v u t (Ψ 0)) := by
  have hq := g.2.2.1.1
  have hs := g.2.2.1.2.1
  have hb := g.2.2.1.2.2.1
  rcases or_assoc.mpr (pk_ix v (n := q) (by omega)) with hv | ⟨i, hi, rfl⟩
  · refine Res.thr 0 IOE 0 (cyOf h c w le n cr lc ltr len p m s lo ld st pri bd q pp ow d sy fe tr lids) (mdOf h c w le n cr lc ltr len p m s lo ld st pri bd q pp ow d sy fe 1 td tdh) rfl (Inv.of g) rfl (fun Φ Ξ k => ?_) (fun Ψ k => ?_)
    · unfold w_C_bid
      exact q_rhF (q := q) rfl hv k
    · have f1 : ∀ x5 : Int32, b_M_bid_70 (Ψ 0) v u t 0 x5 (mdOf h c w le n cr lc ltr len p m s lo ld st pri bd q pp ow d sy fe th td tdh) := fun x5 => by
        unfold b_M_bid_70 b_M_bid_71 b_M_bid_102 b_M_bid_119
        exact zz (q_gw1 (by decide) (zz k))
      unfold w_M_bid
      refine q_hlF (n := q) rfl (by omega) hv ?_
      by_cases hu : (0 : Int32) ≤ u ∧ u ≤ (3 : Int32)
      · refine q_inT hu.1 hu.2 (oo ?_)
        by_cases ht : (1 : Int32) ≤ t ∧ t ≤ (1000 : Int32)
        · exact q_inT ht.1 ht.2 (oo (by unfold b_M_bid_32; exact zz (f1 _)))
        · refine q_inF ?_ (zz (by unfold b_M_bid_31 b_M_bid_32; exact zz (f1 _)))
          by_cases z : t < (1 : Int32)
          · exact Or.inl z
          · exact Or.inr (Int32.not_le.mp fun y => ht ⟨Int32.not_lt.mp z, y⟩)
      · refine q_inF ?_ (zz (by unfold b_M_bid_31 b_M_bid_32; exact zz (f1 _)))
        by_cases z : u < (0 : Int32)
        · exact Or.inl z
        · exact Or.inr (Int32.not_le.mp fun y => hu ⟨Int32.not_lt.mp z, y⟩)
  · have hno : (u < 0 ∨ nI 4 ≤ u) ∨ (∃ j, j < 4 ∧ u = nI j) ∧ (t < 1 ∨ 1000 < t) → Res [IOE, IAE, ISE] (fun Φ Ξ => w_C_bid (cyOf h c w le n cr lc ltr len p m s lo ld st pri bd q pp ow d sy fe tr lids) (nI i) u t (Φ 0) Ξ) (fun Ψ => w_M_bid (mdOf h c w le n cr lc ltr len p m s lo ld st pri bd q pp ow d sy fe th td tdh) (nI i) u t (Ψ 0)) := by
      intro hz
      refine Res.thr 1 IAE 0 (cyOf h c w le n cr lc ltr len p m s lo ld st pri bd q pp ow d sy fe tr lids) (mdOf h c w le n cr lc ltr len p m s lo ld st pri bd q pp ow d sy fe 2 td tdh) rfl (Inv.of g) rfl (fun Φ Ξ k => ?_) (fun Ψ k => ?_)
      · unfold w_C_bid b_C_bid_14 b_C_bid_36
        refine q_rhT (q := q) rfl hq hi ?_
        rcases hz with hz | ⟨⟨j, hj, rfl⟩, hz⟩
        · exact ⟨fun _ => k, fun a => ⟨fun b => absurd ⟨a, b⟩ (lt_of_nI hz), fun _ => k⟩⟩
        · refine lt_f (b := 0) (by omega) (by omega) (lt_t (b := 4) (by omega) hj ⟨fun _ => k, fun a => ⟨fun b => absurd b (fun b => by rcases hz with hz | hz; exact a hz; exact absurd hz (Int32.not_lt.mpr b)), fun _ => k⟩⟩)
      · have f1 : b_M_bid_70 (Ψ 0) (nI i) u t 1 0 (mdOf h c w le n cr lc ltr len p m s lo ld st pri bd q pp ow d sy fe th td tdh) := by
          unfold b_M_bid_70 b_M_bid_71 b_M_bid_102 b_M_bid_119
          exact oo (zz (q_gw1 (by decide) (zz k)))
        have f2 : b_M_bid_31 (Ψ 0) (nI i) u t 1 (mdOf h c w le n cr lc ltr len p m s lo ld st pri bd q pp ow d sy fe th td tdh) := by
          unfold b_M_bid_31 b_M_bid_32
          exact oo (zz f1)
        unfold w_M_bid
        refine q_hlT (n := q) rfl (by omega) hi ?_
        rcases hz with hz | ⟨⟨j, hj, rfl⟩, hz⟩
        · exact q_inF (hz.imp id (fun z => lt_of_ge (N := 3) (by omega) z)) (zz f2)
        · exact q_inT (nI_le (a := 0) (by omega) (by omega)) (nI_le (b := 3) (by omega) (by omega)) (oo (q_inF hz (zz f2)))
    rcases or_assoc.mpr (pk_ix u (n := 4) (by omega)) with hu | ⟨j, hj, rfl⟩
    · exact hno (Or.inl hu)
    by_cases ht : t < 1 ∨ 1000 < t
    · exact hno (Or.inr ⟨⟨j, hj, rfl⟩, ht⟩)
    clear hno
    have t1 : (1 : Int32) ≤ t := Int32.not_lt.mp (fun z => ht (Or.inl z))
    have t2 : t ≤ (1000 : Int32) := Int32.not_lt.mp (fun z => ht (Or.inr z))
    obtain ⟨e, he, rfl⟩ : ∃ e : Nat, e ≤ 1000 ∧ t = nI e := nI_of2 (M := 1000) (n := 1000) (by decide) (fun z => by
      have h1 := Int32.lt_iff_toInt_lt.mp z
      have h2 := Int32.le_iff_toInt_le.mp t1
      have h3 : (0 : Int32).toInt = 0 := by decide
      have h4 : (1 : Int32).toInt = 1 := by decide
      omega) t2
    have h3 := hs i (by omega)
    have mIn : ∀ {Ψ : MD → Prop}, b_M_bid_32 Ψ (nI i) (nI j) (nI e) 1 1 (mdOf h c w le n cr lc ltr len p m s lo ld st pri bd q pp ow d sy fe th td tdh) → w_M_bid (mdOf h c w le n cr lc ltr len p m s lo ld st pri bd q pp ow d sy fe th td tdh) (nI i) (nI j) (nI e) Ψ := fun k => by
      unfold w_M_bid
      exact q_hlT (n := q) rfl (by omega) hi (q_inT (nI_le (a := 0) (by omega) (by omega)) (nI_le (b := 3) (by omega) (by omega)) (oo (q_inT t1 t2 (oo k))))
    have cIn : ∀ {Φ : CY → Prop} {Ξ : String → CY → Prop}, w_C_requireOffered (cyOf h c w le n cr lc ltr len p m s lo ld st pri bd q pp ow d sy fe tr lids) (nI i) (fun u48 => (w_H_priceAsked (g_CY_hl u48) (nI i) (nI j) (fun r57 u57 => ((r57 = (-1 : Int32) → (w_H_enterBid (g_CY_hl (s_CY_hl u48 u57)) (nI i) (nI j) (nI e) (fun u81 => (Φ (s_CY_hl (s_CY_hl u48 u57) u81))))) ∧ (¬ r57 = (-1 : Int32) → (Ξ "java/lang/IllegalStateException" (s_CY_hl u48 u57))))))) (fun E u48 => Ξ E u48) → w_C_bid (cyOf h c w le n cr lc ltr len p m s lo ld st pri bd q pp ow d sy fe tr lids) (nI i) (nI j) (nI e) Φ Ξ := fun k => by
      unfold w_C_bid
      exact q_rhT (q := q) rfl hq hi (lt_f (b := 0) (by omega) (by omega) (lt_t (b := 4) (by omega) hj (ff (Int32.not_lt.mpr t1) (tt t2 k))))
    by_cases h0 : st i = 0
    · have hbij := hb (4 * i + j) (by omega)
      by_cases hb0 : bd (4 * i + j) = 0
      · have gd : Good h c n cr ltr len p m st pri (up bd (4 * i + j) e) q pp ow d sy := ⟨g.1, g.2.1, ⟨hq, hs, fun z hz => by by_cases y : z = 4 * i + j; subst y; rw [up_s]; exact he; rw [up_n y]; exact hb z hz, g.2.2.1.2.2.2⟩, g.2.2.2⟩
        refine Res.ret 0 (cyOf h c w le n cr lc ltr len p m s lo ld st pri (up bd (4 * i + j) e) q pp ow d sy fe tr lids) (mdOf h c w le n cr lc ltr len p m s lo ld st pri (up bd (4 * i + j) e) q pp ow d sy fe 0 td tdh) (Inv.of gd) rfl (fun Φ Ξ k => cIn ?_) (fun Ψ k => mIn ?_)
        · unfold w_C_requireOffered
          refine q_stateOf hq hi (eq_t (b := 0) h0 (q_price hq hi hj hb (fun _ => m1_t ?_) (fun z => absurd hb0 (by omega))))
          unfold w_H_enterBid b_H_enterBid_20
          refine q_place hq hi hj (oo ?_)
          rw [ix4]
          refine in_t (by omega) (by omega) (all_t ?_)
          rw [nI_clamp (by omega)]
          unfold cyOf at k
          rw [← I_up bd] at k
          exact k
        · unfold b_M_bid_32 b_M_bid_71 b_M_bid_102 b_M_bid_119
          refine oo (oo (in_t (by omega) (by omega) ?_))
          rw [nI_clamp (by omega), ixM4]
          refine eq_t (a := st i) (b := 0) h0 (in_t (by omega) (by omega) ?_)
          rw [nI_clamp (by omega)]
          refine eq_t (a := bd (4 * i + j)) (b := 0) hb0 (oo (oo (oo (q_gw0 (oo (in_t (by omega) (by omega) (all_t ?_)))))))
          unfold mdOf at k
          rw [← I_up bd] at k
          exact k
      · refine Res.thr 2 ISE 0 (cyOf h c w le n cr lc ltr len p m s lo ld st pri bd q pp ow d sy fe tr lids) (mdOf h c w le n cr lc ltr len p m s lo ld st pri bd q pp ow d sy fe 3 td tdh) rfl (Inv.of g) rfl (fun Φ Ξ k => cIn ?_) (fun Ψ k => mIn ?_)
        · unfold w_C_requireOffered
          exact q_stateOf hq hi (eq_t (b := 0) h0 (q_price hq hi hj hb (fun z => absurd z hb0) (fun z => m1_f (by omega) k)))
        · unfold b_M_bid_32 b_M_bid_70 b_M_bid_71 b_M_bid_102 b_M_bid_119
          refine oo (oo (in_t (by omega) (by omega) ?_))
          rw [nI_clamp (by omega), ixM4]
          refine eq_t (a := st i) (b := 0) h0 (in_t (by omega) (by omega) ?_)
          rw [nI_clamp (by omega)]
          exact eq_f (a := bd (4 * i + j)) (b := 0) (by omega) (by omega) hb0 (oo (oo (zz (q_gw1 (by decide) (zz k)))))
    · refine Res.thr 2 ISE 0 (cyOf h c w le n cr lc ltr len p m s lo ld st pri bd q pp ow d sy fe tr lids) (mdOf h c w le n cr lc ltr len p m s lo ld st pri bd q pp ow d sy fe 3 td tdh) rfl (Inv.of g) rfl (fun Φ Ξ k => cIn ?_) (fun Ψ k => mIn ?_)
      · unfold w_C_requireOffered
        exact q_stateOf hq hi (eq_f (b := 0) (by omega) (by omega) h0 k)
      · unfold b_M_bid_32 b_M_bid_70 b_M_bid_71 b_M_bid_102 b_M_bid_119
        refine oo (oo (in_t (by omega) (by omega) ?_))
        rw [nI_clamp (by omega)]
        exact eq_f (a := st i) (b := 0) (by omega) (by omega) h0 (oo (oo (zz (q_gw1 (by decide) (zz k)))))
theorem st_offer (g : Good h c n cr ltr len p m st pri bd q pp ow d sy) (v u : Int32) : Res [IOE, IAE, ISE] (w_C_offer (cyOf h c w le n cr lc ltr len p m s lo ld st pri bd q pp ow d sy fe tr lids) v u) (w_M_offer (mdOf h c w le n cr lc ltr len p m s lo ld st pri bd q pp ow d sy fe th td tdh) v u) := by
  have hq := g.2.2.1.1
  have hs := g.2.2.1.2.1
  have hn := g.1.2.2.1
  obtain ⟨a, b, rfl, rfl⟩ := I_td td tdh
  have oka : ok (mix 6 h b) (mix 30 c a) := ok_eqv eqv_mix g.ok
  rcases or_assoc.mpr (pk_ix v (n := n) (by omega)) with hv | ⟨x, hx, rfl⟩
  · refine Res.thr 0 IOE 0 (cyOf h c w le n cr lc ltr len p m s lo ld st pri bd q pp ow d sy fe tr lids) (mdOf h c w le n cr lc ltr len p m s lo ld st pri bd q pp ow d sy fe 1 (I (mix 30 c a)) (I (mix 6 h b))) rfl (Inv.of g) rfl (fun Φ Ξ k => ?_) (fun Ψ k => ?_)
    · unfold w_C_offer
      exact q_rcF (n := n) rfl hv k
    · unfold w_M_offer b_M_offer_45 b_M_offer_46 b_M_offer_89
      exact q_crF (n := n) rfl hn hv (q_Mcopy (h := h) (c := c) (a := a) (b := b) rfl rfl rfl rfl (zz (zz (q_gw1 (by decide) (zz k)))))
  · -- what the reference knows before it looks at the day
    have mIn : ∀ {Ψ : Int32 → MD → Prop}, (∀ r16 : Int32, r16 = o2i (find h c (nI x)) → (r16 = (-1 : Int32) → b_M_offer_45 Ψ (nI x) u 1 (mdOf h c w le n cr lc ltr len p m s lo ld st pri bd q pp ow d sy fe th (I (mix 30 c a)) (I (mix 6 h b)))) ∧ (¬ r16 = (-1 : Int32) → ∀ r25 : Int32, r25 = o2i (hF lo st (nI x) 0 q) → (r25 = (-1 : Int32) → (((20 : Int32) ≤ nI q → b_M_offer_45 Ψ (nI x) u 1 (mdOf h c w le n cr lc ltr len p m s lo ld st pri bd q pp ow d sy fe th (I (mix 30 c a)) (I (mix 6 h b)))) ∧ (¬ (20 : Int32) ≤ nI q → b_M_offer_46 Ψ (nI x) u 1 (1 : Int32) (mdOf h c w le n cr lc ltr len p m s lo ld st pri bd q pp ow d sy fe th (I (mix 30 c a)) (I (mix 6 h b)))))) ∧ (¬ r25 = (-1 : Int32) → b_M_offer_45 Ψ (nI x) u 1 (mdOf h c w le n cr lc ltr len p m s lo ld st pri bd q pp ow d sy fe th (I (mix 30 c a)) (I (mix 6 h b)))))) → w_M_offer (mdOf h c w le n cr lc ltr len p m s lo ld st pri bd q pp ow d sy fe th (I a) (I b)) (nI x) u Ψ := fun {Ψ} k => by
      unfold w_M_offer
      refine q_crT (n := n) rfl hn hx (q_Mcopy (h := h) (c := c) (a := a) (b := b) rfl rfl rfl rfl (oo (q_Mfind oka ?_)))
      rw [find_eqv eqv_mix g.ok.1]
      have k1 := k _ rfl
      exact ⟨k1.1, fun z => q_MhaulOf (lo := lo) (st := st) (q := q) rfl rfl rfl hq hs (k1.2 z _ rfl)⟩
    by_cases hu : u < nI d ∨ nI d + (100 : Int32) < u
    · refine Res.thr 1 IAE 0 (cyOf h c w le n cr lc ltr len p m s lo ld st pri bd q pp ow d sy fe tr lids) (mdOf h c w le n cr lc ltr len p m s lo ld st pri bd q pp ow d sy fe 2 (I (mix 30 c a)) (I (mix 6 h b))) rfl (Inv.of g) rfl (fun Φ Ξ k => ?_) (fun Ψ k => ?_)
      · unfold w_C_offer b_C_offer_24
        refine q_rcT (n := n) rfl hn hx ⟨fun _ => k, fun a => ⟨fun b => absurd b (fun b => by rcases hu with hu | hu; exact a hu; exact absurd hu (Int32.not_lt.mpr b)), fun _ => k⟩⟩
      · have f0 : ∀ t0 : Int32, b_M_offer_46 Ψ (nI x) u 1 t0 (mdOf h c w le n cr lc ltr len p m s lo ld st pri bd q pp ow d sy fe th (I (mix 30 c a)) (I (mix 6 h b))) := fun t0 => by
          unfold b_M_offer_46 b_M_offer_89
          exact oo (q_inF hu (zz (q_gw1 (by decide) (zz k))))
        exact mIn (fun r16 _ => ⟨fun _ => f0 0, fun _ r25 _ => ⟨fun _ => ⟨fun _ => f0 0, fun _ => f0 1⟩, fun _ => f0 0⟩⟩)
    · have u1 : nI d ≤ u := Int32.not_lt.mp (fun z => hu (Or.inl z))
      have u2 : u ≤ nI d + (100 : Int32) := Int32.not_lt.mp (fun z => hu (Or.inr z))
      have cIn : ∀ {Φ : Int32 → CY → Prop} {Ξ : String → CY → Prop}, w_C_requireInStack (cyOf h c w le n cr lc ltr len p m s lo ld st pri bd q pp ow d sy fe tr lids) (nI x) (fun u36 => (w_H_openHaulOf (g_CY_hl u36) (nI x) (fun r44 u44 => ((r44 = (-1 : Int32) → (w_H_number (g_CY_hl (s_CY_hl u36 u44)) (fun r65 u65 => ((r65 < (20 : Int32) → (w_H_add (g_CY_hl (s_CY_hl (s_CY_hl u36 u44) u65)) (nI x) u (fun r89 u89 => (Φ r89 (s_CY_hl (s_CY_hl (s_CY_hl u36 u44) u65) u89))))) ∧ (¬ r65 < (20 : Int32) → (Ξ "java/lang/IllegalStateException" (s_CY_hl (s_CY_hl u36 u44) u65))))))) ∧ (¬ r44 = (-1 : Int32) → (Ξ "java/lang/IllegalStateException" (s_CY_hl u36 u44))))))) (fun E u36 => Ξ E u36) → w_C_offer (cyOf h c w le n cr lc ltr len p m s lo ld st pri bd q pp ow d sy fe tr lids) (nI x) u Φ Ξ := fun k => by
        unfold w_C_offer
        exact q_rcT (n := n) rfl hn hx (ff (Int32.not_lt.mpr u1) (tt u2 k))
      have m45 : ∀ {Ψ : Int32 → MD → Prop}, Ψ 0 (mdOf h c w le n cr lc ltr len p m s lo ld st pri bd q pp ow d sy fe 3 (I (mix 30 c a)) (I (mix 6 h b))) → b_M_offer_45 Ψ (nI x) u 1 (mdOf h c w le n cr lc ltr len p m s lo ld st pri bd q pp ow d sy fe th (I (mix 30 c a)) (I (mix 6 h b))) := fun k => by
        unfold b_M_offer_45 b_M_offer_46 b_M_offer_89
        exact oo (q_inT u1 u2 (oo (zz (q_gw1 (by decide) (zz k)))))
      cases hf : find h c (nI x) with
      | none =>
        refine Res.thr 2 ISE 0 (cyOf h c w le n cr lc ltr len p m s lo ld st pri bd q pp ow d sy fe tr lids) (mdOf h c w le n cr lc ltr len p m s lo ld st pri bd q pp ow d sy fe 3 (I (mix 30 c a)) (I (mix 6 h b))) rfl (Inv.of g) rfl (fun Φ Ξ k => cIn (q_riF rfl g.ok hf k)) (fun Ψ k => mIn (fun r16 e => ?_))
        rw [hf] at e
        subst e
        exact m1_t (m45 k)
      | some home =>
        have hh := (find_yes hf).1
        cases ho : hF lo st (nI x) 0 q with
        | some i =>
          obtain ⟨i1, -, -⟩ := hF_yes q 0 i ho
          refine Res.thr 2 ISE 0 (cyOf h c w le n cr lc ltr len p m s lo ld st pri bd q pp ow d sy fe tr lids) (mdOf h c w le n cr lc ltr len p m s lo ld st pri bd q pp ow d sy fe 3 (I (mix 30 c a)) (I (mix 6 h b))) rfl (Inv.of g) rfl (fun Φ Ξ k => cIn (q_riT rfl g.ok hf (q_openHaulOf hq hs ?_))) (fun Ψ k => mIn (fun r16 e => ?_))
          · rw [ho]
            exact m1_f (by omega) k
          · rw [hf] at e
            subst e
            refine m1_f (by omega) (fun r25 e => ?_)
            rw [ho] at e
            subst e
            exact m1_f (by omega) (m45 k)
        | none =>
          by_cases hq20 : q < 20
          · have hct : pp + ow = ctr (up st q 0) pri (q + 1) := by
              rw [ctr_s, ← ctr_congr q (fun j hj => (co_up_n (by omega)).symm), ← g.2.2.1.2.2.2]
              have e1 : co (up st q 0) pri q = 0 := by unfold co; rw [up_s]; rfl
              rw [e1]
              grind
            have gd : Good h c n cr ltr len p m (up st q 0) pri bd (q + 1) pp ow d sy := ⟨g.1, g.2.1, ⟨hq20, fun j hj => by by_cases z : j = q; subst z; rw [up_s]; omega; rw [up_n z]; exact hs j hj, g.2.2.1.2.2.1, hct⟩, g.2.2.2⟩
            refine Res.ret (nI q) (cyOf h c w le n cr lc ltr len p m s (upd lo q (nI x)) (upd ld q u) (up st q 0) pri bd (q + 1) pp ow d sy fe tr lids) (mdOf h c w le n cr lc ltr len p m s (upd lo q (nI x)) (upd ld q u) (up st q 0) pri bd (q + 1) pp ow d sy fe 0 (I (mix 30 c a)) (I (mix 6 h b))) (Inv.of gd) rfl (fun Φ Ξ k => cIn (q_riT rfl g.ok hf (q_openHaulOf hq hs ?_))) (fun Ψ k => mIn (fun r16 e => ?_))
            · rw [ho]
              unfold w_H_number
              exact m1_t (lt_t (b := 20) (by omega) hq20 (q_Hadd hq20 k))
            · rw [hf] at e
              subst e
              refine m1_f (by omega) (fun r25 e => ?_)
              rw [ho] at e
              subst e
              refine m1_t (le_f (a := 20) (by omega) hq20 ?_)
              unfold b_M_offer_46 b_M_offer_89
              refine oo (q_inT u1 u2 (oo (oo (q_gw0 (oo (in_t hq20 (by omega) (all_t (in_t hq20 (by omega) (all_t (in_t hq20 (by omega) (all_t (all_t (all_t ?_)))))))))))))
              show Ψ (nI q + (1 : Int32) - (1 : Int32)) ((0, I c, I h, w, le, nI n, cr, lc, I (mix 30 c a), I (mix 6 h b), ltr, p, nI m, s, upd lo (nI q).toNatClampNeg (nI x), upd ld (nI q).toNatClampNeg u, upd (I st) (nI q).toNatClampNeg 0, pri, I bd, nI q + (1 : Int32), nI d, sy, fe) : MD)
              rw [nI_clamp (by omega)]
              have e1 : upd (I st) q 0 = I (up st q 0) := I_up st q 0
              have e2 : nI q + (1 : Int32) = nI (q + 1) := nI_1 q
              have e3 : nI (q + 1) - (1 : Int32) = nI q := nI_pred q
              rw [e2, e3, e1]
              exact k
          · refine Res.thr 2 ISE 0 (cyOf h c w le n cr lc ltr len p m s lo ld st pri bd q pp ow d sy fe tr lids) (mdOf h c w le n cr lc ltr len p m s lo ld st pri bd q pp ow d sy fe 3 (I (mix 30 c a)) (I (mix 6 h b))) rfl (Inv.of g) rfl (fun Φ Ξ k => cIn (q_riT rfl g.ok hf (q_openHaulOf hq hs ?_))) (fun Ψ k => mIn (fun r16 e => ?_))
            · rw [ho]
              unfold w_H_number
              exact m1_t (lt_f (b := 20) (by omega) (by omega) k)
            · rw [hf] at e
              subst e
              refine m1_f (by omega) (fun r25 e => ?_)
              rw [ho] at e
              subst e
              exact m1_t (le_t (a := 20) (by omega) (by omega) (m45 k))
end
