def abv (h : Nat → Nat) : Nat → Nat | 0 => 0 | i + 1 => abv h i + (h i - 3)
theorem abv_le {h : Nat → Nat} (hh : ∀ i, i < 6 → h i ≤ 5) : ∀ i, i ≤ 6 → abv h i ≤ 2 * i
  | 0, _ => Nat.le_refl 0
  | i + 1, hi => by
    have a := abv_le hh i (by omega)
    have b := hh i (by omega)
    rw [abv]; omega
theorem abv_term {x : Nat} (hx : x ≤ 5) : (if (0 : Int32) < nI x - (3 : Int32) then nI x - (3 : Int32) else (0 : Int32)) = nI (x - 3) := by
  have h : x = 0 ∨ x = 1 ∨ x = 2 ∨ x = 3 ∨ x = 4 ∨ x = 5 := by omega
  rcases h with h | h | h | h | h | h <;> subst h <;> decide
theorem q_ca {h c : Nat → Nat} {w : AI} (hh : ∀ i, i < 6 → h i ≤ 5) {Φ : Int32 → SK → Prop} (k : Φ (nI (abv h 6)) (I h, I c, w)) : ∀ (n i : Nat), i + n = 6 → it4 (b_S_cratesAbove_4 Φ) (n + 1) 3 (nI (abv h i)) (nI i) (I h, I c, w) := by
  intro n
  induction n with
  | zero =>
    intro i e
    show b_S_cratesAbove_4 Φ (it4 (b_S_cratesAbove_4 Φ) 0) 3 (nI (abv h i)) (nI i) (I h, I c, w)
    rw [b_S_cratesAbove_4]
    have e : i = 6 := by omega
    subst e
    exact le_t (a := 6) (by omega) (by omega) k
  | succ n ih =>
    intro i e
    show b_S_cratesAbove_4 Φ (it4 (b_S_cratesAbove_4 Φ) (n + 1)) 3 (nI (abv h i)) (nI i) (I h, I c, w)
    rw [b_S_cratesAbove_4]
    refine le_f (a := 6) (by omega) (by omega) (in_t (by omega) (by omega) (all_t ?_))
    rw [nI_clamp (by omega), nI_1]
    have e1 : (if (0 : Int32) < g_SK_heights (I h, I c, w) i - (3 : Int32) then g_SK_heights (I h, I c, w) i - (3 : Int32) else (0 : Int32)) = nI (h i - 3) := abv_term (hh i (by omega))
    rw [e1, nI_add]
    exact ih (i + 1) (by omega)
theorem q_ms {h : Nat → Nat} {σ : MD} (hH : g_MD_heights σ = I h) (hh : ∀ i, i < 6 → h i ≤ 5) {Φ : Int32 → MD → Prop} (k : Φ (nI (abv h 6)) σ) : ∀ (n i : Nat), i + n = 6 → it3 (b_M_storm_14 Φ) (n + 1) (nI (abv h i)) (nI i) σ := by
  intro n
  induction n with
  | zero =>
    intro i e
    show b_M_storm_14 Φ (it3 (b_M_storm_14 Φ) 0) (nI (abv h i)) (nI i) σ
    rw [b_M_storm_14]
    have e : i = 6 := by omega
    subst e
    exact le_t (a := 6) (by omega) (by omega) k
  | succ n ih =>
    intro i e
    show b_M_storm_14 Φ (it3 (b_M_storm_14 Φ) (n + 1)) (nI (abv h i)) (nI i) σ
    rw [b_M_storm_14]
    unfold b_M_storm_43
    refine le_f (a := 6) (by omega) (by omega) (in_t (by omega) (by omega) ?_)
    rw [nI_clamp (by omega), nI_1, hH]
    have h5 := hh i (by omega)
    have ih := ih (i + 1) (by omega)
    rw [abv] at ih
    refine le_c (a := h i) (b := 3) (by omega) (by omega) (fun z => ?_) (fun z => in_t (by omega) (by omega) ?_)
    · rw [l0, nI_add]
      rw [show h i - 3 = 0 by omega] at ih
      exact ih
    · have e2 : (nI (h i) : Int32) - (3 : Int32) = nI (h i - 3) := by
        have y : h i = 4 ∨ h i = 5 := by omega
        rcases y with y | y <;> rw [y] <;> decide
      show it3 (b_M_storm_14 Φ) (n + 1) (nI (abv h i) + (nI (h i) - (3 : Int32))) (nI (i + 1)) σ
      rw [e2, nI_add]
      exact ih
def fdF (h : Nat → Nat) : Nat → Int32 | 0 => 0 | i + 1 => fdF h i + (nI (h i) * (nI (h i) - (1 : Int32))) / (2 : Int32)
theorem q_fd {h c : Nat → Nat} {w : AI} {Φ : Int32 → SK → Prop} (k : Φ (fdF h 6) (I h, I c, w)) : ∀ (n i : Nat), i + n = 6 → it3 (b_S_feeOfOneDay_4 Φ) (n + 1) (fdF h i) (nI i) (I h, I c, w) := by
  intro n
  induction n with
  | zero =>
    intro i e
    show b_S_feeOfOneDay_4 Φ (it3 (b_S_feeOfOneDay_4 Φ) 0) (fdF h i) (nI i) (I h, I c, w)
    rw [b_S_feeOfOneDay_4]
    have e : i = 6 := by omega
    subst e
    exact le_t (a := 6) (by omega) (by omega) k
  | succ n ih =>
    intro i e
    show b_S_feeOfOneDay_4 Φ (it3 (b_S_feeOfOneDay_4 Φ) (n + 1)) (fdF h i) (nI i) (I h, I c, w)
    rw [b_S_feeOfOneDay_4]
    refine le_f (a := 6) (by omega) (by omega) (in_t (by omega) (by omega) (in_t (by omega) (by omega) (all_t ?_)))
    rw [nI_clamp (by omega), nI_1]
    exact ih (i + 1) (by omega)
theorem q_mfd {h : Nat → Nat} {σ : MD} (hH : g_MD_heights σ = I h) {Φ : Int32 → MD → Prop} (k : ∃ n, it3 (b_M_endDay_38 Φ) n (fdF h 6) 0 σ) : ∀ (n i : Nat), i + n = 6 → it3 (b_M_endDay_4 Φ) (n + 1) (fdF h i) (nI i) σ := by
  intro n
  induction n with
  | zero =>
    intro i e
    show b_M_endDay_4 Φ (it3 (b_M_endDay_4 Φ) 0) (fdF h i) (nI i) σ
    rw [b_M_endDay_4]
    have e : i = 6 := by omega
    subst e
    exact le_t (a := 6) (by omega) (by omega) k
  | succ n ih =>
    intro i e
    show b_M_endDay_4 Φ (it3 (b_M_endDay_4 Φ) (n + 1)) (fdF h i) (nI i) σ
    rw [b_M_endDay_4]
    refine le_f (a := 6) (by omega) (by omega) (in_t (by omega) (by omega) (in_t (by omega) (by omega) (all_t ?_)))
    rw [nI_clamp (by omega), nI_1, hH]
    exact ih (i + 1) (by omega)
/-- the hauls at the end of day x -/
def eF (ld : AI) (x : Int32) : Nat → Nat → (Nat → Nat) → Int32 → (Nat → Nat) × Int32
  | _, 0, st, ow => (st, ow)
  | i, n + 1, st, ow => if st i ≤ 1 ∧ ld i = x then eF ld x (i + 1) n (up st i 3) (ow + 50) else eF ld x (i + 1) n st ow
theorem eF_good {ld pri : AI} {x pp : Int32} {q : Nat} : ∀ (n i : Nat) (st : Nat → Nat) (ow : Int32), i + n = q → (∀ j, j < 20 → st j ≤ 3) → pp + ow = ctr st pri q → (∀ j, j < 20 → (eF ld x i n st ow).1 j ≤ 3) ∧ pp + (eF ld x i n st ow).2 = ctr (eF ld x i n st ow).1 pri q
  | 0, _, _, _, _, h1, h2 => ⟨h1, h2⟩
  | n + 1, i, st, ow, e, h1, h2 => by
    rw [eF]
    by_cases z : st i ≤ 1 ∧ ld i = x
    · rw [if_pos z]
      refine eF_good n (i + 1) _ _ (by omega) (fun j hj => ?_) ?_
      · by_cases y : j = i
        · subst y; rw [up_s]; omega
        · rw [up_n y]; exact h1 j hj
      · rw [ctr_one (st := st) (pri := pri) (i := i) q (by omega) (fun j hj hn => (co_up_n hn).symm), ← h2]
        have e1 : co (up st i 3) pri i = 50 := by unfold co; rw [up_s]; rfl
        have e2 : co st pri i = 0 := by unfold co; rw [if_neg (by omega), if_neg (by omega)]
        rw [e1, e2]
        grind
    · rw [if_neg z]
      exact eF_good n (i + 1) _ _ (by omega) h1 h2
section
variable {lo ld pri : AI} {bd : Nat → Nat} {q : Nat} {pp : Int32}
theorem q_he {x : Int32} (hq : q ≤ 20) {Φ : HL → Prop} : ∀ (n i : Nat) (st : Nat → Nat) (ow : Int32), i + n = q → (∀ j, j < 20 → st j ≤ 3) → Φ (lo, ld, I (eF ld x i n st ow).1, pri, I bd, nI q, pp, (eF ld x i n st ow).2) → it3 (b_H_endDay_2 Φ) (n + 1) x (nI i) (lo, ld, I st, pri, I bd, nI q, pp, ow) := by
  intro n
  induction n with
  | zero =>
    intro i st ow e hs k
    show b_H_endDay_2 Φ (it3 (b_H_endDay_2 Φ) 0) x (nI i) (lo, ld, I st, pri, I bd, nI q, pp, ow)
    rw [b_H_endDay_2]
    exact le_t (a := q) (by omega) (by omega) k
  | succ n ih =>
    intro i st ow e hs k
    show b_H_endDay_2 Φ (it3 (b_H_endDay_2 Φ) (n + 1)) x (nI i) (lo, ld, I st, pri, I bd, nI q, pp, ow)
    rw [b_H_endDay_2]
    unfold b_H_endDay_46
    rw [nI_1]
    rw [eF] at k
    refine le_f (a := q) (by omega) (by omega) (q_isOpen hq (by omega) (hs i (by omega)) (b2i_c (fun z => ?_) (fun z => in_t (by omega) (by omega) ?_)))
    · rw [if_neg (fun w => by have := of_decide_eq_false z; exact this w.1)] at k
      exact ih (i + 1) st ow (by omega) hs k
    · rw [nI_clamp (by omega)]
      refine ⟨fun y => in_t (by omega) (by omega) (all_t (all_t (all_t ?_))), fun y => ?_⟩
      · rw [if_pos ⟨of_decide_eq_true z, y⟩] at k
        have e1 : upd (I st) i 3 = I (up st i 3) := I_up st i 3
        have := ih (i + 1) (up st i 3) (ow + 50) (by omega) (fun j hj => by by_cases y : j = i; subst y; rw [up_s]; omega; rw [up_n y]; exact hs j hj) k
        rw [← e1] at this
        exact this
      · rw [if_neg (fun w => y w.2)] at k
        exact ih (i + 1) st ow (by omega) hs k
end
section
variable {h : Nat → Nat} {c : Nat → Nat} {w : AI} {le : AI} {n : Nat} {cr : Int32} {lc : Int32} {ltr : AI} {len : Nat → Nat} {p : AI} {m : Nat} {s : Int32} {lo : AI} {ld : AI} {st : Nat → Nat} {pri : AI} {bd : Nat → Nat} {q : Nat} {pp : Int32} {ow : Int32} {d : Nat} {sy : Int32} {fe : Int32} {tr : SK} {lids : AI} {th : Int32} {td tdh : AI}
theorem q_me {f : Int32} {Φ : Int32 → MD → Prop} (hq : q ≤ 20) : ∀ (n9 i : Nat) (st : Nat → Nat) (ow : Int32), i + n9 = q → (∀ j, j < 20 → st j ≤ 3) → Φ f (mdOf h c w le n cr lc ltr len p m s lo ld (eF ld (nI d) i n9 st ow).1 pri bd q pp ow (d + 1) 0 (fe + f) th td tdh) → it3 (b_M_endDay_38 Φ) (n9 + 1) f (nI i) (mdOf h c w le n cr lc ltr len p m s lo ld st pri bd q pp ow d sy fe th td tdh) := by
  intro n9
  induction n9 with
  | zero =>
    intro i st ow e hs k
    show b_M_endDay_38 Φ (it3 (b_M_endDay_38 Φ) 0) f (nI i) (mdOf h c w le n cr lc ltr len p m s lo ld st pri bd q pp ow d sy fe th td tdh)
    rw [b_M_endDay_38]
    have e2 : nI d + (1 : Int32) = nI (d + 1) := nI_1 d
    unfold eF mdOf at k
    rw [← e2] at k
    exact le_t (a := q) (by omega) (by omega) (all_t (all_t (all_t (all_t k))))
  | succ n9 ih =>
    intro i st ow e hs k
    show b_M_endDay_38 Φ (it3 (b_M_endDay_38 Φ) (n9 + 1)) f (nI i) (mdOf h c w le n cr lc ltr len p m s lo ld st pri bd q pp ow d sy fe th td tdh)
    rw [b_M_endDay_38]
    unfold b_M_endDay_76
    rw [nI_1]
    rw [eF] at k
    have h3 := hs i (by omega)
    refine le_f (a := q) (by omega) (by omega) (in_t (by omega) (by omega) ?_)
    rw [nI_clamp (by omega)]
    refine lt_c (a := 1) (b := st i) (by omega) (by omega) (fun z => ?_) (fun z => in_t (by omega) (by omega) ⟨fun y => in_t (by omega) (by omega) (all_t ?_), fun y => ?_⟩)
    · rw [if_neg (fun w => by omega)] at k
      exact ih (i + 1) st ow (by omega) hs k
    · rw [if_pos ⟨z, y⟩] at k
      have e1 : upd (I st) i 3 = I (up st i 3) := I_up st i 3
      have := ih (i + 1) (up st i 3) (ow + 50) (by omega) (fun j hj => by by_cases y : j = i; subst y; rw [up_s]; omega; rw [up_n y]; exact hs j hj) k
      unfold mdOf at this
      rw [← e1] at this
      exact this
    · rw [if_neg (fun w => y w.2)] at k
      exact ih (i + 1) st ow (by omega) hs k
theorem q_CendDay (hq : q ≤ 20) (hs : ∀ j, j < 20 → st j ≤ 3) {Φ : CY → Prop} (k : Φ (cyOf h c w le n cr lc ltr len p m s lo ld (eF ld (nI d) 0 q st ow).1 pri bd q pp (eF ld (nI d) 0 q st ow).2 (d + 1) 0 (fe + fdF h 6) tr lids)) : w_C_endDay (cyOf h c w le n cr lc ltr len p m s lo ld st pri bd q pp ow d sy fe tr lids) Φ := by
  unfold w_C_endDay w_S_feeOfOneDay
  refine ⟨7, q_fd ?_ 6 0 rfl⟩
  refine all_t ?_
  unfold w_H_endDay
  refine ⟨q + 1, q_he (x := nI d) hq q 0 st ow (by omega) hs ?_⟩
  refine all_t (all_t (all_t ?_))
  have e2 : nI d + (1 : Int32) = nI (d + 1) := nI_1 d
  unfold cyOf at k
  rw [← e2] at k
  exact k
theorem q_MendDay (hq : q ≤ 20) (hs : ∀ j, j < 20 → st j ≤ 3) {Φ : Int32 → MD → Prop} (k : Φ (fdF h 6) (mdOf h c w le n cr lc ltr len p m s lo ld (eF ld (nI d) 0 q st ow).1 pri bd q pp ow (d + 1) 0 (fe + fdF h 6) th td tdh)) : w_M_endDay (mdOf h c w le n cr lc ltr len p m s lo ld st pri bd q pp ow d sy fe th td tdh) Φ := by
  unfold w_M_endDay
  exact ⟨7, q_mfd (h := h) rfl ⟨q + 1, q_me hq q 0 st ow (by omega) hs k⟩ 6 0 rfl⟩
theorem st_storm (g : Good h c n cr ltr len p m st pri bd q pp ow d sy) : Res0 (w_C_storm (cyOf h c w le n cr lc ltr len p m s lo ld st pri bd q pp ow d sy fe tr lids)) (w_M_storm (mdOf h c w le n cr lc ltr len p m s lo ld st pri bd q pp ow d sy fe th td tdh)) := by
  have gd : Good h c n cr ltr len p m st pri bd q pp ow d 1 := ⟨g.1, g.2.1, g.2.2.1, g.2.2.2.1, Or.inr rfl⟩
  refine ⟨nI (abv h 6), (cyOf h c w le n cr lc ltr len p m s lo ld st pri bd q pp ow d 1 fe tr lids), (mdOf h c w le n cr lc ltr len p m s lo ld st pri bd q pp ow d 1 fe 0 td tdh), Inv.of gd, fun Φ k => ?_, fun Ψ k => ?_⟩
  · unfold w_C_storm
    refine all_t (q_Cmost ?_)
    unfold w_S_cratesAbove
    exact ⟨7, q_ca g.1.1 k 6 0 rfl⟩
  · unfold w_M_storm
    exact all_t (all_t ⟨7, q_ms (h := h) rfl g.1.1 k 6 0 rfl⟩)
end
theorem q_pass {h c : Nat → Nat} {w le : AI} {n : Nat} {cr lc : Int32} {ltr : AI} {len : Nat → Nat} {p : AI} {m : Nat} {s : Int32} {lo ld pri : AI} {bd : Nat → Nat} {q : Nat} {pp : Int32} {tr : SK} {lids td tdh : AI} {N : Nat} (hN : N ≤ 100) {f0 : Int32} : ∀ (k i : Nat) (st : Nat → Nat) (ow : Int32) (d : Nat) (sy fe x3 : Int32), i + k = N → Good h c n cr ltr len p m st pri bd q pp ow d sy → d + k ≤ 10000 → fe = f0 + x3 → ∃ r σ' τ', Inv σ' τ' ∧ g_MD_thrown τ' = 0 ∧ (∀ Φ Ξ, Φ r σ' → it4 (b_C_pass_50 Φ Ξ) (k + 1) (nI N) f0 (nI i) (cyOf h c w le n cr lc ltr len p m s lo ld st pri bd q pp ow d sy fe tr lids)) ∧ (∀ Ψ, Ψ r τ' → it4 (b_M_pass_47 Ψ) (k + 1) (nI N) x3 (nI i) (mdOf h c w le n cr lc ltr len p m s lo ld st pri bd q pp ow d sy fe 0 td tdh)) := by
  intro k
  induction k with
  | zero =>
    intro i st ow d sy fe x3 e g hd hf
    refine ⟨x3, (cyOf h c w le n cr lc ltr len p m s lo ld st pri bd q pp ow d sy fe tr lids), (mdOf h c w le n cr lc ltr len p m s lo ld st pri bd q pp ow d sy fe 0 td tdh), Inv.of g, rfl, fun Φ Ξ k => ?_, fun Ψ k => ?_⟩
    · show b_C_pass_50 Φ Ξ (it4 (b_C_pass_50 Φ Ξ) 0) (nI N) f0 (nI i) (cyOf h c w le n cr lc ltr len p m s lo ld st pri bd q pp ow d sy fe tr lids)
      rw [b_C_pass_50]
      have e1 : fe - f0 = x3 := by rw [hf]; grind
      refine le_t (a := N) (by omega) (by omega) ?_
      show Φ (fe - f0) (cyOf h c w le n cr lc ltr len p m s lo ld st pri bd q pp ow d sy fe tr lids)
      rw [e1]
      exact k
    · show b_M_pass_47 Ψ (it4 (b_M_pass_47 Ψ) 0) (nI N) x3 (nI i) (mdOf h c w le n cr lc ltr len p m s lo ld st pri bd q pp ow d sy fe 0 td tdh)
      rw [b_M_pass_47]
      exact le_t (a := N) (by omega) (by omega) k
  | succ k ih =>
    intro i st ow d sy fe x3 e g hd hf
    have a := eF_good (ld := ld) (pri := pri) (x := nI d) (pp := pp) (q := q) q 0 st ow (by omega) g.2.2.1.2.1 g.2.2.1.2.2.2
    have gd : Good h c n cr ltr len p m (eF ld (nI d) 0 q st ow).1 pri bd q pp (eF ld (nI d) 0 q st ow).2 (d + 1) 0 := ⟨g.1, g.2.1, ⟨g.2.2.1.1, a.1, g.2.2.1.2.2.1, a.2⟩, by omega, Or.inl rfl⟩
    obtain ⟨r, σ', τ', hI, ht, h1, h2⟩ := ih (i + 1) (eF ld (nI d) 0 q st ow).1 (eF ld (nI d) 0 q st ow).2 (d + 1) 0 (fe + fdF h 6) (x3 + fdF h 6) (by omega) gd (by omega) (by rw [hf]; grind)
    refine ⟨r, σ', τ', hI, ht, fun Φ Ξ kk => ?_, fun Ψ kk => ?_⟩
    · show b_C_pass_50 Φ Ξ (it4 (b_C_pass_50 Φ Ξ) (k + 1)) (nI N) f0 (nI i) (cyOf h c w le n cr lc ltr len p m s lo ld st pri bd q pp ow d sy fe tr lids)
      rw [b_C_pass_50]
      refine le_f (a := N) (by omega) (by omega) (q_CendDay g.2.2.1.1 g.2.2.1.2.1 ?_)
      rw [nI_1]
      exact h1 Φ Ξ kk
    · show b_M_pass_47 Ψ (it4 (b_M_pass_47 Ψ) (k + 1)) (nI N) x3 (nI i) (mdOf h c w le n cr lc ltr len p m s lo ld st pri bd q pp ow d sy fe 0 td tdh)
      rw [b_M_pass_47]
      refine le_f (a := N) (by omega) (by omega) (q_MendDay (ow := ow) g.2.2.1.1 g.2.2.1.2.1 ?_)
      rw [nI_1]
      exact h2 Ψ kk
section
variable {h : Nat → Nat} {c : Nat → Nat} {w : AI} {le : AI} {n : Nat} {cr : Int32} {lc : Int32} {ltr : AI} {len : Nat → Nat} {p : AI} {m : Nat} {s : Int32} {lo : AI} {ld : AI} {st : Nat → Nat} {pri : AI} {bd : Nat → Nat} {q : Nat} {pp : Int32} {ow : Int32} {d : Nat} {sy : Int32} {fe : Int32} {tr : SK} {lids : AI} {th : Int32} {td tdh : AI}
theorem st_pass (g : Good h c n cr ltr len p m st pri bd q pp ow d sy) (v : Int32) : Res [IAE, ISE] (w_C_pass (cyOf h c w le n cr lc ltr len p m s lo ld st pri bd q pp ow d sy fe tr lids) v) (w_M_pass (mdOf h c w le n cr lc ltr len p m s lo ld st pri bd q pp ow d sy fe th td tdh) v) := by
  have hd := g.2.2.2.1
  by_cases hv : v < 1 ∨ 100 < v
  · refine Res.thr 0 IAE 0 (cyOf h c w le n cr lc ltr len p m s lo ld st pri bd q pp ow d sy fe tr lids) (mdOf h c w le n cr lc ltr len p m s lo ld st pri bd q pp ow d sy fe 1 td tdh) rfl (Inv.of g) rfl (fun Φ Ξ k => ?_) (fun Ψ k => ?_)
    · unfold w_C_pass b_C_pass_11
      exact ⟨fun _ => k, fun a => ⟨fun b => absurd b (fun b => by rcases hv with z | z; exact a z; exact absurd z (Int32.not_lt.mpr b)), fun _ => k⟩⟩
    · unfold w_M_pass b_M_pass_34
      exact q_inF hv (zz (q_gw1 (by decide) (zz k)))
  · have t1 : (1 : Int32) ≤ v := Int32.not_lt.mp (fun z => hv (Or.inl z))
    have t2 : v ≤ (100 : Int32) := Int32.not_lt.mp (fun z => hv (Or.inr z))
    obtain ⟨N, hN, rfl⟩ : ∃ e : Nat, e ≤ 100 ∧ v = nI e := nI_of2 (M := 100) (n := 100) (by decide) (fun z => by
      have h1 := Int32.lt_iff_toInt_lt.mp z
      have h2 := Int32.le_iff_toInt_le.mp t1
      have h3 : (0 : Int32).toInt = 0 := by decide
      have h4 : (1 : Int32).toInt = 1 := by decide
      omega) t2
    have cIn : ∀ {Φ : Int32 → CY → Prop} {Ξ : String → CY → Prop}, ((nI (d + N) ≤ (10000 : Int32) → (∃ n9, it4 (b_C_pass_50 Φ Ξ) n9 (nI N) fe (0 : Int32) (cyOf h c w le n cr lc ltr len p m s lo ld st pri bd q pp ow d sy fe tr lids))) ∧ (¬ nI (d + N) ≤ (10000 : Int32) → Ξ "java/lang/IllegalStateException" (cyOf h c w le n cr lc ltr len p m s lo ld st pri bd q pp ow d sy fe tr lids))) → w_C_pass (cyOf h c w le n cr lc ltr len p m s lo ld st pri bd q pp ow d sy fe tr lids) (nI N) Φ Ξ := fun k => by
      unfold w_C_pass
      rw [← nI_add] at k
      exact ff (Int32.not_lt.mpr t1) (tt t2 k)
    have mIn : ∀ {Ψ : Int32 → MD → Prop}, ((nI (d + N) ≤ (10000 : Int32) → b_M_pass_34 Ψ (nI N) 0 (mdOf h c w le n cr lc ltr len p m s lo ld st pri bd q pp ow d sy fe th td tdh)) ∧ (¬ nI (d + N) ≤ (10000 : Int32) → b_M_pass_34 Ψ (nI N) 2 (mdOf h c w le n cr lc ltr len p m s lo ld st pri bd q pp ow d sy fe th td tdh))) → w_M_pass (mdOf h c w le n cr lc ltr len p m s lo ld st pri bd q pp ow d sy fe th td tdh) (nI N) Ψ := fun k => by
      unfold w_M_pass
      rw [← nI_add] at k
      exact q_inT t1 t2 (oo k)
    by_cases z : d + N ≤ 10000
    · obtain ⟨r, σ', τ', hI, ht, h1, h2⟩ := q_pass (h := h) (c := c) (w := w) (le := le) (n := n) (cr := cr) (lc := lc) (ltr := ltr) (len := len) (p := p) (m := m) (s := s) (lo := lo) (ld := ld) (pri := pri) (bd := bd) (q := q) (pp := pp) (tr := tr) (lids := lids) (td := td) (tdh := tdh) hN (f0 := fe) N 0 st ow d sy fe 0 (by omega) g z (by grind)
      refine Res.ret r σ' τ' hI ht (fun Φ Ξ k => cIn (le_t (b := 10000) (by omega) z ⟨N + 1, h1 Φ Ξ k⟩)) (fun Ψ k => mIn (le_t (b := 10000) (by omega) z ?_))
      unfold b_M_pass_34
      exact q_gw0 (oo ⟨N + 1, h2 Ψ k⟩)
    · refine Res.thr 1 ISE 0 (cyOf h c w le n cr lc ltr len p m s lo ld st pri bd q pp ow d sy fe tr lids) (mdOf h c w le n cr lc ltr len p m s lo ld st pri bd q pp ow d sy fe 2 td tdh) rfl (Inv.of g) rfl (fun Φ Ξ k => cIn (le_f (b := 10000) (by omega) (by omega) k)) (fun Ψ k => mIn (le_f (b := 10000) (by omega) (by omega) ?_))
      unfold b_M_pass_34
      exact q_gw1 (by decide) (zz k)
theorem q_mb {x : Int32} {Φ : Int32 → MD → Prop} (hq : q ≤ 20) (hs : ∀ j, j < 20 → st j ≤ 3) (k : Φ (x - ctr st pri q) (mdOf h c w le n cr lc ltr len p m s lo ld st pri bd q pp ow d sy fe th td tdh)) : ∀ (n' i : Nat), i + n' = q → it3 (b_M_balance_17 Φ) (n' + 1) (x - ctr st pri i) (nI i) (mdOf h c w le n cr lc ltr len p m s lo ld st pri bd q pp ow d sy fe th td tdh) := by
  intro n'
  induction n' with
  | zero =>
    intro i e
    show b_M_balance_17 Φ (it3 (b_M_balance_17 Φ) 0) (x - ctr st pri i) (nI i) (mdOf h c w le n cr lc ltr len p m s lo ld st pri bd q pp ow d sy fe th td tdh)
    rw [b_M_balance_17]
    have e : i = q := by omega
    subst e
    exact le_t (a := i) (by omega) (by omega) k
  | succ n' ih =>
    intro i e
    show b_M_balance_17 Φ (it3 (b_M_balance_17 Φ) (n' + 1)) (x - ctr st pri i) (nI i) (mdOf h c w le n cr lc ltr len p m s lo ld st pri bd q pp ow d sy fe th td tdh)
    rw [b_M_balance_17]
    unfold b_M_balance_61
    rw [nI_1]
    have h3 := hs i (by omega)
    have ih := ih (i + 1) (by omega)
    rw [ctr_s] at ih
    refine le_f (a := q) (by omega) (by omega) (in_t (by omega) (by omega) ?_)
    rw [nI_clamp (by omega)]
    refine eq_c (a := st i) (b := 2) (by omega) (by omega) (fun z => in_t (by omega) (by omega) ?_) (fun z => in_t (by omega) (by omega) ?_)
    · have e1 : co st pri i = pri i := by unfold co; rw [z]; rfl
      rw [e1] at ih
      rw [show x - ctr st pri i - g_MD_prices (mdOf h c w le n cr lc ltr len p m s lo ld st pri bd q pp ow d sy fe th td tdh) i = x - (ctr st pri i + pri i) from by show x - ctr st pri i - pri i = _; grind]
      exact ih
    · refine eq_c (a := st i) (b := 3) (by omega) (by omega) (fun y => ?_) (fun y => ?_)
      · have e1 : co st pri i = 50 := by unfold co; rw [y]; rfl
        rw [e1] at ih
        rw [show x - ctr st pri i - (50 : Int32) = x - (ctr st pri i + 50) from by grind]
        exact ih
      · have e1 : co st pri i = 0 := by unfold co; rw [if_neg z, if_neg y]
        rw [e1] at ih
        rw [show x - ctr st pri i - (0 : Int32) = x - (ctr st pri i + 0) from by grind]
        exact ih
theorem st_balance (g : Good h c n cr ltr len p m st pri bd q pp ow d sy) : Res0 (w_C_balance (cyOf h c w le n cr lc ltr len p m s lo ld st pri bd q pp ow d sy fe tr lids)) (w_M_balance (mdOf h c w le n cr lc ltr len p m s lo ld st pri bd q pp ow d sy fe th td tdh)) := by
  refine ⟨(s - fe) - ctr st pri q, (cyOf h c w le n cr lc ltr len p m s lo ld st pri bd q pp ow d sy fe tr lids), (mdOf h c w le n cr lc ltr len p m s lo ld st pri bd q pp ow d sy fe 0 td tdh), Inv.of g, fun Φ k => ?_, fun Ψ k => ?_⟩
  · unfold w_C_balance w_W_paidInAll w_H_pricesOfDone w_H_owedForLate
    show Φ (((s - fe) - pp) - ow) (cyOf h c w le n cr lc ltr len p m s lo ld st pri bd q pp ow d sy fe tr lids)
    have e : ((s - fe) - pp) - ow = (s - fe) - ctr st pri q := by rw [← g.2.2.1.2.2.2]; grind
    rw [e]
    exact k
  · unfold w_M_balance
    refine all_t (all_t ⟨q + 1, ?_⟩)
    have e : s - fe = (s - fe) - ctr st pri 0 := by show s - fe = s - fe - 0; grind
    show it3 (b_M_balance_17 Ψ) (q + 1) (s - fe) (nI 0) (mdOf h c w le n cr lc ltr len p m s lo ld st pri bd q pp ow d sy fe 0 td tdh)
    rw [e]
    exact q_mb g.2.2.1.1 g.2.2.1.2.1 k q 0 (by omega)
end
