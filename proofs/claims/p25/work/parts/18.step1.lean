theorem q_crateAt {h c : Nat → Nat} {w : AI} {i j : Nat} (hk : ok h c) (hi : i < 6) (hj : j < 5) {Φ : Int32 → SK → Prop} (k : Φ (if j < h i then nI (c (5 * i + j)) else -1) (I h, I c, w)) : w_S_crateAt (I h, I c, w) (nI i) (nI j) Φ := by
  unfold w_S_crateAt b_S_crateAt_26 b_S_crateAt_27
  have h5 := hk.1 i hi
  refine lt_f (b := 0) (by omega) (by omega) (q_heightOf hi (le_c (by omega) (by omega) (fun q => ?_) (fun q => ?_)))
  · rw [if_neg (by omega)] at k; exact k
  · rw [if_pos q] at k
    rw [ix]
    refine in_t (by omega) (by omega) ?_
    rw [nI_clamp (by omega)]
    exact k
theorem payF_bo {L : List Int32} {ltr : AI} {len : Nat → Nat} : ∀ (n i : Nat) (p : AI) (s : Int32), (∀ i, i < 8 → bo (p i)) → ∀ j, j < 8 → bo ((payF L ltr len i n p s).1 j)
  | 0, _, _, _, h => h
  | n + 1, i, p, s, h => by
    rw [payF]
    split
    · refine payF_bo n (i + 1) _ _ (fun j hj => ?_)
      by_cases q : j = i
      · subst q; simp [upd, bo]
      · simp [upd, q]; exact h j hj
    · exact payF_bo n (i + 1) p s h
section
variable {h : Nat → Nat} {c : Nat → Nat} {w : AI} {le : AI} {n : Nat} {cr : Int32} {lc : Int32} {ltr : AI} {len : Nat → Nat} {p : AI} {m : Nat} {s : Int32} {lo : AI} {ld : AI} {st : Nat → Nat} {pri : AI} {bd : Nat → Nat} {q : Nat} {pp : Int32} {ow : Int32} {d : Nat} {sy : Int32} {fe : Int32} {tr : SK} {lids : AI}
theorem q_Cpay (hk : ok h c) (g : Good h c n cr ltr len p m st pri bd q pp ow d sy) {Φ : CY → Prop} (k : Φ (cyOf h c w le n cr lc ltr len (payF (tops h c le 0 6) ltr len 0 m p s).1 m (payF (tops h c le 0 6) ltr len 0 m p s).2 lo ld st pri bd q pp ow d sy fe tr (lidF h c le 0 6 0 lids))) : w_C_payWords (cyOf h c w le n cr lc ltr len p m s lo ld st pri bd q pp ow d sy fe tr lids) Φ := q_CpayWords hk g.2.1.1 g.2.1.2.1 k
theorem Good.pay (L : List Int32) (g : Good h c n cr ltr len p m st pri bd q pp ow d sy) : Good h c n cr ltr len (payF L ltr len 0 m p s).1 m st pri bd q pp ow d sy := ⟨g.1, ⟨g.2.1.1, g.2.1.2.1, payF_bo m 0 p s g.2.1.2.2⟩, g.2.2⟩
theorem I_td (td tdh : AI) : ∃ a b : Nat → Nat, td = I a ∧ tdh = I b := by
  obtain ⟨a, ha⟩ := I_of td
  obtain ⟨b, hb⟩ := I_of tdh
  exact ⟨a, b, ha, hb⟩
end
