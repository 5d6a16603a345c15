section
variable {h : Nat → Nat} {c : Nat → Nat} {w : AI} {le : AI} {n : Nat} {cr : Int32} {lc : Int32} {ltr : AI} {len : Nat → Nat} {p : AI} {m : Nat} {s : Int32} {lo : AI} {ld : AI} {st : Nat → Nat} {pri : AI} {bd : Nat → Nat} {q : Nat} {pp : Int32} {ow : Int32} {d : Nat} {sy : Int32} {fe : Int32} {tr : SK} {lids : AI} {th : Int32} {td tdh : AI}
theorem st_fewestLifts (g : Good h c n cr ltr len p m st pri bd q pp ow d sy) (v : Int32) : Res [IAE, ISE] (w_C_fewestLifts (cyOf h c w le n cr lc ltr len p m s lo ld st pri bd q pp ow d sy fe tr lids) v) (w_M_fewestLifts (mdOf h c w le n cr lc ltr len p m s lo ld st pri bd q pp ow d sy fe th td tdh) v) := by
  obtain ⟨a, b, rfl, rfl⟩ := I_td td tdh
  by_cases hs : setB h c v.toBitVec.toNat = true
  · by_cases hcr : cr = -1
    · have hV0 : v.toBitVec.toNat < 2 ^ 30 := by
        by_cases z : v.toBitVec.toNat < 2 ^ 30
        · exact z
        · rw [setB_hi g.1.2.2.1 g.1.2.1 (by omega) v.toBitVec.isLt] at hs
          cases hs
      obtain ⟨V, hV, rfl⟩ : ∃ V : Nat, V < 2 ^ 30 ∧ v = nI V := ⟨v.toBitVec.toNat, hV0, Int32.toBitVec_inj.mp (BitVec.eq_of_toNat_eq (by rw [pk_tn (by omega)]))⟩
      rw [pk_tn (by omega)] at hs
      have hc : 1 ≤ cnt 32 V ∧ cnt 32 V ≤ 4 := by
        rw [setB, Bool.and_eq_true] at hs
        exact of_decide_eq_true hs.1
      rw [cnt_30 hV, ← memF_len0] at hc
      have hfe := fold_eq (w := w) (m := mo sy) (h := h) (c := c) (L := memF V.testBit 0 30) rfl (by omega) (by omega)
      have hS : ∀ s, s < 5 → fct 2 (s - 1) < 2 ^ 30 := by decide
      refine Or.inl ⟨o2i (foldN (fun o => digs w (mo sy) (cPerm (memF V.testBit 0 30).length (memF V.testBit 0 30) o) h c) 0 (fct 2 ((memF V.testBit 0 30).length - 1)) none), fun z => ∃ tr, z = (cyOf h c w le n cr lc ltr len p m s lo ld st pri bd q pp ow d sy fe tr lids), fun z => ∃ td tdh, z = (mdOf h c w le n cr lc ltr len p m s lo ld st pri bd q pp ow d sy fe 0 td tdh), fun σ' τ' ⟨tr, e1⟩ ⟨td, tdh, e2⟩ => by rw [e1, e2]; exact ⟨Inv.of g, rfl⟩, fun Φ Ξ k => ?_, fun Ψ k => ?_⟩
      · unfold w_C_fewestLifts
        refine q_ais g.ok ?_
        rw [pk_tn (by omega), hs]
        refine oo (q_reE hcr (q_bitCount ?_))
        rw [pk_tn (by omega), cnt_30 hV, ← memF_len0]
        refine q_ordersOf (by omega) (by omega) ⟨_, q_cfl g hV (by omega) (hS _ (by omega)) (fct 2 ((memF V.testBit 0 30).length - 1)) 0 none tr (by omega) (fun t y => by cases y) (fun u => k _ ⟨u, rfl⟩)⟩
      · unfold w_M_fewestLifts b_M_fewestLifts_26
        refine q_isSet g ?_
        rw [pk_tn (by omega), hs]
        refine oo (tt hcr (q_gw0 (oo (q_bits hV ?_))))
        rw [← memF_len0]
        rw [hfe] at k
        exact ⟨_, q_mfl (th := 0) g hV rfl (by omega) (by omega) (4 ^ (memF V.testBit 0 30).length) 0 none _ _ (by omega) (fun t y => by cases y) (fun x y => k _ ⟨x, y, rfl⟩)⟩
    · refine Res.thr 1 ISE 0 (cyOf h c w le n cr lc ltr len p m s lo ld st pri bd q pp ow d sy fe tr lids) (mdOf h c w le n cr lc ltr len p m s lo ld st pri bd q pp ow d sy fe 2 (I (mix 30 c a)) (I (mix 6 h b))) rfl (Inv.of g) rfl (fun Φ Ξ k => ?_) (fun Ψ k => ?_)
      · unfold w_C_fewestLifts
        refine q_ais g.ok ?_
        rw [hs]
        exact oo (q_reF hcr k)
      · unfold w_M_fewestLifts b_M_fewestLifts_26
        refine q_isSet g ?_
        rw [hs]
        exact oo (ff hcr (q_gw1 (by decide) (zz k)))
  · have hs : setB h c v.toBitVec.toNat = false := by cases z : setB h c v.toBitVec.toNat with | false => rfl | true => exact absurd z hs
    refine Res.thr 0 IAE 0 (cyOf h c w le n cr lc ltr len p m s lo ld st pri bd q pp ow d sy fe tr lids) (mdOf h c w le n cr lc ltr len p m s lo ld st pri bd q pp ow d sy fe 1 (I (mix 30 c a)) (I (mix 6 h b))) rfl (Inv.of g) rfl (fun Φ Ξ k => ?_) (fun Ψ k => ?_)
    · unfold w_C_fewestLifts
      refine q_ais g.ok ?_
      rw [hs]
      exact zz k
    · unfold w_M_fewestLifts b_M_fewestLifts_26
      refine q_isSet g ?_
      rw [hs]
      exact zz (q_gw1 (by decide) (zz k))
end
