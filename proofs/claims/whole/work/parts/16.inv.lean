def ctr (st : Nat → Nat) (pri : AI) : Nat → Int32 | 0 => 0 | i + 1 => ctr st pri i + (if st i = 2 then pri i else if st i = 3 then 50 else 0)
def Good (h c : Nat → Nat) (n : Nat) (cr : Int32) (ltr : AI) (len : Nat → Nat) (p : AI) (m : Nat) (st : Nat → Nat) (pri : AI) (bd : Nat → Nat) (q : Nat) (pp ow : Int32) (d : Nat) (sy : Int32) : Prop :=
  ((∀ i, i < 6 → h i ≤ 5) ∧ (∀ i j, i < 6 → j < h i → c (5 * i + j) < n) ∧ n ≤ 30 ∧ (cr = -1 ∨ ∃ k, k < n ∧ cr = nI k)) ∧
  (m ≤ 8 ∧ wok ltr len m ∧ ∀ i, i < 8 → bo (p i)) ∧ (q ≤ 20 ∧ (∀ i, i < 20 → st i ≤ 3) ∧ (∀ i, i < 80 → bd i ≤ 1000) ∧ pp + ow = ctr st pri q) ∧ d ≤ 10000 ∧ bo sy
abbrev cyOf (h c : Nat → Nat) (w le : AI) (n : Nat) (cr lc : Int32) (ltr : AI) (len : Nat → Nat) (p : AI) (m : Nat) (s : Int32) (lo ld : AI) (st : Nat → Nat) (pri : AI) (bd : Nat → Nat) (q : Nat) (pp ow : Int32) (d : Nat) (sy fe : Int32) (tr : SK) (lids : AI) : CY := ((I h, I c, w), tr, (ltr, I len, p, nI m, s), (lo, ld, I st, pri, I bd, nI q, pp, ow), le, lids, nI n, cr, lc, nI d, sy, fe)
abbrev mdOf (h c : Nat → Nat) (w le : AI) (n : Nat) (cr lc : Int32) (ltr : AI) (len : Nat → Nat) (p : AI) (m : Nat) (s : Int32) (lo ld : AI) (st : Nat → Nat) (pri : AI) (bd : Nat → Nat) (q : Nat) (pp ow : Int32) (d : Nat) (sy fe : Int32) (th : Int32) (td tdh : AI) : MD := (th, I c, I h, w, le, nI n, cr, lc, td, tdh, ltr, p, nI m, s, lo, ld, I st, pri, I bd, nI q, nI d, sy, fe)
def Inv (σ : CY) (τ : MD) : Prop := ∃ (h c : Nat → Nat) (w le : AI) (n : Nat) (cr lc : Int32) (ltr : AI) (len : Nat → Nat) (p : AI) (m : Nat) (s : Int32) (lo ld : AI) (st : Nat → Nat) (pri : AI) (bd : Nat → Nat) (q : Nat) (pp ow : Int32) (d : Nat) (sy fe : Int32) (tr : SK) (lids : AI) (th : Int32) (td tdh : AI), Good h c n cr ltr len p m st pri bd q pp ow d sy ∧ σ = (cyOf h c w le n cr lc ltr len p m s lo ld st pri bd q pp ow d sy fe tr lids) ∧ τ = (mdOf h c w le n cr lc ltr len p m s lo ld st pri bd q pp ow d sy fe th td tdh)
theorem Inv.of {h : Nat → Nat} {c : Nat → Nat} {w : AI} {le : AI} {n : Nat} {cr : Int32} {lc : Int32} {ltr : AI} {len : Nat → Nat} {p : AI} {m : Nat} {s : Int32} {lo : AI} {ld : AI} {st : Nat → Nat} {pri : AI} {bd : Nat → Nat} {q : Nat} {pp : Int32} {ow : Int32} {d : Nat} {sy : Int32} {fe : Int32} {tr : SK} {lids : AI} {th : Int32} {td tdh : AI} (g : Good h c n cr ltr len p m st pri bd q pp ow d sy) : Inv (cyOf h c w le n cr lc ltr len p m s lo ld st pri bd q pp ow d sy fe tr lids) (mdOf h c w le n cr lc ltr len p m s lo ld st pri bd q pp ow d sy fe th td tdh) := ⟨h, c, w, le, n, cr, lc, ltr, len, p, m, s, lo, ld, st, pri, bd, q, pp, ow, d, sy, fe, tr, lids, th, td, tdh, g, rfl, rfl⟩
def Res (E : List String) (wc : (Int32 → CY → Prop) → (String → CY → Prop) → Prop) (wm : (Int32 → MD → Prop) → Prop) : Prop :=
  (∃ (r : Int32) (P : CY → Prop) (Q : MD → Prop), (∀ σ' τ', P σ' → Q τ' → Inv σ' τ' ∧ g_MD_thrown τ' = 0) ∧ (∀ Φ Ξ, (∀ σ', P σ' → Φ r σ') → wc Φ Ξ) ∧ ∀ Ψ, (∀ τ', Q τ' → Ψ r τ') → wm Ψ) ∨ ∃ (k : Nat) (e : String) (P : CY → Prop) (Q : MD → Prop), E[k]? = some e ∧ (∀ σ' τ', P σ' → Q τ' → Inv σ' τ' ∧ g_MD_thrown τ' = nI (k + 1)) ∧ (∀ Φ Ξ, (∀ σ', P σ' → Ξ e σ') → wc Φ Ξ) ∧ ∀ Ψ, (∀ τ' b, Q τ' → Ψ b τ') → wm Ψ
def Res0 (wc : (Int32 → CY → Prop) → Prop) (wm : (Int32 → MD → Prop) → Prop) : Prop := ∃ r σ' τ', Inv σ' τ' ∧ (∀ Φ, Φ r σ' → wc Φ) ∧ ∀ Ψ, Ψ r τ' → wm Ψ
theorem Res.ret {E : List String} {wc : (Int32 → CY → Prop) → (String → CY → Prop) → Prop} {wm : (Int32 → MD → Prop) → Prop} (r : Int32) (σ' : CY) (τ' : MD) (hI : Inv σ' τ') (ht : g_MD_thrown τ' = 0) (k1 : ∀ Φ Ξ, Φ r σ' → wc Φ Ξ) (k2 : ∀ Ψ, Ψ r τ' → wm Ψ) : Res E wc wm := Or.inl ⟨r, fun z => z = σ', fun z => z = τ', fun _ _ a b => by rw [a, b]; exact ⟨hI, ht⟩, fun Φ Ξ k => k1 Φ Ξ (k _ rfl), fun Ψ k => k2 Ψ (k _ rfl)⟩
theorem Res.thr {E : List String} {wc : (Int32 → CY → Prop) → (String → CY → Prop) → Prop} {wm : (Int32 → MD → Prop) → Prop} (k : Nat) (e : String) (b : Int32) (σ' : CY) (τ' : MD) (he : E[k]? = some e) (hI : Inv σ' τ') (ht : g_MD_thrown τ' = nI (k + 1)) (k1 : ∀ Φ Ξ, Ξ e σ' → wc Φ Ξ) (k2 : ∀ Ψ, Ψ b τ' → wm Ψ) : Res E wc wm := Or.inr ⟨k, e, fun z => z = σ', fun z => z = τ', he, fun _ _ a b => by rw [a, b]; exact ⟨hI, ht⟩, fun Φ Ξ kk => k1 Φ Ξ (kk _ rfl), fun Ψ kk => k2 Ψ (kk _ b rfl)⟩
theorem Res.thrP {E : List String} {wc : (Int32 → CY → Prop) → (String → CY → Prop) → Prop} {wm : (Int32 → MD → Prop) → Prop} (k : Nat) (e : String) (P : CY → Prop) (Q : MD → Prop) (he : E[k]? = some e) (hI : ∀ σ' τ', P σ' → Q τ' → Inv σ' τ' ∧ g_MD_thrown τ' = nI (k + 1)) (k1 : ∀ Φ Ξ, (∀ σ', P σ' → Ξ e σ') → wc Φ Ξ) (k2 : ∀ Ψ, (∀ τ' b, Q τ' → Ψ b τ') → wm Ψ) : Res E wc wm := Or.inr ⟨k, e, P, Q, he, hI, k1, k2⟩
abbrev IAE : String := "java/lang/IllegalArgumentException"
abbrev ISE : String := "java/lang/IllegalStateException"
abbrev IOE : String := "java/lang/IndexOutOfBoundsException"
theorem Good.ok {h : Nat → Nat} {c : Nat → Nat} {n : Nat} {cr : Int32} {ltr : AI} {len : Nat → Nat} {p : AI} {m : Nat} {st : Nat → Nat} {pri : AI} {bd : Nat → Nat} {q : Nat} {pp : Int32} {ow : Int32} {d : Nat} {sy : Int32} (g : Good h c n cr ltr len p m st pri bd q pp ow d sy) : ok h c := ⟨g.1.1, fun i j hi hj => Nat.lt_of_lt_of_le (g.1.2.1 i j hi hj) g.1.2.2.1⟩
theorem zz {A B : Prop} (k : A) : ((0 : Int32) = 0 → A) ∧ (¬ (0 : Int32) = 0 → B) := ⟨fun _ => k, fun y => absurd rfl y⟩
theorem oo {A B : Prop} (k : B) : ((1 : Int32) = 0 → A) ∧ (¬ (1 : Int32) = 0 → B) := ⟨fun y => absurd y (by decide), fun _ => k⟩
theorem tt {c A B : Prop} (h : c) (k : A) : (c → A) ∧ (¬ c → B) := ⟨fun _ => k, fun y => absurd h y⟩
theorem ff {c A B : Prop} (h : ¬ c) (k : B) : (c → A) ∧ (¬ c → B) := ⟨fun y => absurd y h, fun _ => k⟩
theorem q_gw0 {σ : MD} {Ψ : Int32 → MD → Prop} (k : Ψ 1 (s_MD_thrown σ 0)) : w_M_goesWell σ 0 Ψ := by
  unfold w_M_goesWell b_M_goesWell_14
  exact all_t (zz ⟨Or.inr rfl, k⟩)
theorem q_gw1 {σ : MD} {t : Int32} {Ψ : Int32 → MD → Prop} (ht : ¬ t = 0) (k : Ψ 0 (s_MD_thrown σ t)) : w_M_goesWell σ t Ψ := by
  unfold w_M_goesWell b_M_goesWell_14
  exact all_t (ff ht ⟨Or.inl rfl, k⟩)
theorem q_inT {v a b : Int32} {Φ : Int32 → Unit → Prop} (h1 : a ≤ v) (h2 : v ≤ b) (k : Φ 1 ()) : w_M_in v a b Φ := by
  unfold w_M_in b_M_in_14 b_M_in_15
  exact ff (Int32.not_lt.mpr h1) (ff (Int32.not_lt.mpr h2) ⟨Or.inr rfl, k⟩)
theorem q_inF {v a b : Int32} {Φ : Int32 → Unit → Prop} (h : v < a ∨ b < v) (k : Φ 0 ()) : w_M_in v a b Φ := by
  unfold w_M_in b_M_in_14 b_M_in_15
  by_cases q : v < a
  · exact tt q ⟨Or.inl rfl, k⟩
  · exact ff q (tt (h.resolve_left q) ⟨Or.inl rfl, k⟩)
theorem nI_sub1 {n : Nat} (hn : n < 2 ^ 30) : (nI n - (1 : Int32)).toInt = (n : Int) - 1 := by
  have := pk_sub_toInt (a := n) (b := 1) hn (by omega)
  exact this
theorem lt_of_ge {N : Nat} {v : Int32} (hN : N < 2 ^ 30) (h : nI (N + 1) ≤ v) : nI N < v := by
  have h1 := Int32.le_iff_toInt_le.mp h
  rw [nI_toInt (by omega)] at h1
  refine Int32.lt_iff_toInt_lt.mpr ?_
  rw [nI_toInt (by omega)]
  omega
theorem sub1_lt {n : Nat} {v : Int32} (hn : n < 2 ^ 30) (h : nI n ≤ v) : nI n - (1 : Int32) < v := by
  have h1 := Int32.le_iff_toInt_le.mp h
  rw [nI_toInt (by omega)] at h1
  refine Int32.lt_iff_toInt_lt.mpr ?_
  rw [nI_sub1 hn]
  omega
theorem le_sub1 {n i : Nat} (hn : n < 2 ^ 30) (h : i < n) : nI i ≤ nI n - (1 : Int32) := by
  rw [l1, pk_sub (by omega)]
  exact nI_le (by omega) (by omega)
theorem q_stT {i : Nat} {Φ : Int32 → Unit → Prop} (hi : i < 6) (k : Φ 1 ()) : w_M_isStack (nI i) Φ := by
  unfold w_M_isStack
  exact q_inT (nI_le (a := 0) (by omega) (by omega)) (nI_le (b := 5) (by omega) (by omega)) ⟨Or.inr rfl, k⟩
theorem q_stF {v : Int32} {Φ : Int32 → Unit → Prop} (h : v < 0 ∨ nI 6 ≤ v) (k : Φ 0 ()) : w_M_isStack v Φ := by
  unfold w_M_isStack
  exact q_inF (h.imp id (fun z => lt_of_ge (N := 5) (by omega) z)) ⟨Or.inl rfl, k⟩
theorem q_ltT {i : Nat} {Φ : Int32 → Unit → Prop} (hi : i < 26) (k : Φ 1 ()) : w_M_isLetter (nI i) Φ := by
  unfold w_M_isLetter
  exact q_inT (nI_le (a := 0) (by omega) (by omega)) (nI_le (b := 25) (by omega) (by omega)) ⟨Or.inr rfl, k⟩
theorem q_ltF {v : Int32} {Φ : Int32 → Unit → Prop} (h : v < 0 ∨ nI 26 ≤ v) (k : Φ 0 ()) : w_M_isLetter v Φ := by
  unfold w_M_isLetter
  exact q_inF (h.imp id (fun z => lt_of_ge (N := 25) (by omega) z)) ⟨Or.inl rfl, k⟩
theorem q_crT {σ : MD} {n i : Nat} {Φ : Int32 → MD → Prop} (hc : g_MD_crates σ = nI n) (hn : n ≤ 30) (hi : i < n) (k : Φ 1 σ) : w_M_isCrate σ (nI i) Φ := by
  unfold w_M_isCrate
  rw [hc]
  exact q_inT (nI_le (a := 0) (by omega) (by omega)) (le_sub1 (by omega) hi) ⟨Or.inr rfl, k⟩
theorem q_crF {σ : MD} {n : Nat} {v : Int32} {Φ : Int32 → MD → Prop} (hc : g_MD_crates σ = nI n) (hn : n ≤ 30) (h : v < 0 ∨ nI n ≤ v) (k : Φ 0 σ) : w_M_isCrate σ v Φ := by
  unfold w_M_isCrate
  rw [hc]
  exact q_inF (h.imp id (fun z => sub1_lt (by omega) z)) ⟨Or.inl rfl, k⟩
theorem q_hlT {σ : MD} {n i : Nat} {Φ : Int32 → MD → Prop} (hc : g_MD_hauls σ = nI n) (hn : n ≤ 30) (hi : i < n) (k : Φ 1 σ) : w_M_isHaul σ (nI i) Φ := by
  unfold w_M_isHaul
  rw [hc]
  exact q_inT (nI_le (a := 0) (by omega) (by omega)) (le_sub1 (by omega) hi) ⟨Or.inr rfl, k⟩
theorem q_hlF {σ : MD} {n : Nat} {v : Int32} {Φ : Int32 → MD → Prop} (hc : g_MD_hauls σ = nI n) (hn : n ≤ 30) (h : v < 0 ∨ nI n ≤ v) (k : Φ 0 σ) : w_M_isHaul σ v Φ := by
  unfold w_M_isHaul
  rw [hc]
  exact q_inF (h.imp id (fun z => sub1_lt (by omega) z)) ⟨Or.inl rfl, k⟩
theorem lt_of_nI {v : Int32} {N : Nat} (h : v < 0 ∨ nI N ≤ v) : ¬ (¬ v < 0 ∧ v < nI N) := fun z => h.elim z.1 (fun y => absurd z.2 (Int32.not_lt.mpr y))
theorem q_rsT {i : Nat} {Φ : Unit → Prop} {Ξ : String → Unit → Prop} (hi : i < 6) (k : Φ ()) : w_C_requireStack (nI i) Φ Ξ := by
  unfold w_C_requireStack
  exact lt_f (b := 0) (by omega) (by omega) (lt_t (b := 6) (by omega) (by omega) k)
theorem q_rsF {v : Int32} {Φ : Unit → Prop} {Ξ : String → Unit → Prop} (h : v < 0 ∨ nI 6 ≤ v) (k : Ξ IAE ()) : w_C_requireStack v Φ Ξ := by
  unfold w_C_requireStack b_C_requireStack_10
  exact ⟨fun _ => k, fun a => ⟨fun b => absurd ⟨a, b⟩ (lt_of_nI h), fun _ => k⟩⟩
theorem q_rlT {i : Nat} {Φ : Unit → Prop} {Ξ : String → Unit → Prop} (hi : i < 26) (k : Φ ()) : w_C_requireLetter (nI i) Φ Ξ := by
  unfold w_C_requireLetter
  exact lt_f (b := 0) (by omega) (by omega) (lt_t (b := 26) (by omega) (by omega) k)
theorem q_rlF {v : Int32} {Φ : Unit → Prop} {Ξ : String → Unit → Prop} (h : v < 0 ∨ nI 26 ≤ v) (k : Ξ IAE ()) : w_C_requireLetter v Φ Ξ := by
  unfold w_C_requireLetter b_C_requireLetter_10
  exact ⟨fun _ => k, fun a => ⟨fun b => absurd ⟨a, b⟩ (lt_of_nI h), fun _ => k⟩⟩
theorem q_rcT {σ : CY} {n i : Nat} {Φ : CY → Prop} {Ξ : String → CY → Prop} (hc : g_CY_crateCount σ = nI n) (hn : n ≤ 30) (hi : i < n) (k : Φ σ) : w_C_requireCrate σ (nI i) Φ Ξ := by
  unfold w_C_requireCrate
  rw [hc]
  exact lt_f (b := 0) (by omega) (by omega) (lt_t (by omega) hi k)
theorem q_rcF {σ : CY} {n : Nat} {v : Int32} {Φ : CY → Prop} {Ξ : String → CY → Prop} (hc : g_CY_crateCount σ = nI n) (h : v < 0 ∨ nI n ≤ v) (k : Ξ IOE σ) : w_C_requireCrate σ v Φ Ξ := by
  unfold w_C_requireCrate b_C_requireCrate_12
  rw [hc]
  exact ⟨fun _ => k, fun a => ⟨fun b => absurd ⟨a, b⟩ (lt_of_nI h), fun _ => k⟩⟩
theorem q_reE {σ : CY} {Φ : CY → Prop} {Ξ : String → CY → Prop} (h : g_CY_craneCrate σ = -1) (k : Φ σ) : w_C_requireEmptyCrane σ Φ Ξ := by
  unfold w_C_requireEmptyCrane
  exact tt h k
theorem q_reF {σ : CY} {Φ : CY → Prop} {Ξ : String → CY → Prop} (h : ¬ g_CY_craneCrate σ = -1) (k : Ξ ISE σ) : w_C_requireEmptyCrane σ Φ Ξ := by
  unfold w_C_requireEmptyCrane
  exact ff h k
theorem q_rfF {σ : CY} {Φ : CY → Prop} {Ξ : String → CY → Prop} (h : ¬ g_CY_craneCrate σ = -1) (k : Φ σ) : w_C_requireFullCrane σ Φ Ξ := by
  unfold w_C_requireFullCrane
  exact ff h k
theorem q_rfE {σ : CY} {Φ : CY → Prop} {Ξ : String → CY → Prop} (h : g_CY_craneCrate σ = -1) (k : Ξ ISE σ) : w_C_requireFullCrane σ Φ Ξ := by
  unfold w_C_requireFullCrane
  exact tt h k
theorem q_Cmost {σ : CY} {Φ : Int32 → CY → Prop} (k : Φ (nI (mo (g_CY_stormy σ))) σ) : w_C_mostPlaces σ Φ := by
  unfold w_C_mostPlaces b_C_mostPlaces_12
  refine ⟨fun q => ?_, fun q => ?_⟩
  · rw [mo, if_pos q] at k; exact k
  · rw [mo, if_neg q] at k; exact k
section
variable {h : Nat → Nat} {c : Nat → Nat} {w : AI} {le : AI} {n : Nat} {cr : Int32} {lc : Int32} {ltr : AI} {len : Nat → Nat} {p : AI} {m : Nat} {s : Int32} {lo : AI} {ld : AI} {st : Nat → Nat} {pri : AI} {bd : Nat → Nat} {q : Nat} {pp : Int32} {ow : Int32} {d : Nat} {sy : Int32} {fe : Int32} {tr : SK} {lids : AI} {th : Int32} {td tdh : AI}
theorem st_crane (g : Good h c n cr ltr len p m st pri bd q pp ow d sy) : Res0 (w_C_crane (cyOf h c w le n cr lc ltr len p m s lo ld st pri bd q pp ow d sy fe tr lids)) (w_M_crane (mdOf h c w le n cr lc ltr len p m s lo ld st pri bd q pp ow d sy fe th td tdh)) := ⟨_, (cyOf h c w le n cr lc ltr len p m s lo ld st pri bd q pp ow d sy fe tr lids), (mdOf h c w le n cr lc ltr len p m s lo ld st pri bd q pp ow d sy fe 0 td tdh), Inv.of g, fun Φ k => k, fun Ψ k => all_t k⟩
theorem st_lifts (g : Good h c n cr ltr len p m st pri bd q pp ow d sy) : Res0 (w_C_lifts (cyOf h c w le n cr lc ltr len p m s lo ld st pri bd q pp ow d sy fe tr lids)) (w_M_lifts (mdOf h c w le n cr lc ltr len p m s lo ld st pri bd q pp ow d sy fe th td tdh)) := ⟨_, (cyOf h c w le n cr lc ltr len p m s lo ld st pri bd q pp ow d sy fe tr lids), (mdOf h c w le n cr lc ltr len p m s lo ld st pri bd q pp ow d sy fe 0 td tdh), Inv.of g, fun Φ k => k, fun Ψ k => all_t k⟩
theorem st_bonus (g : Good h c n cr ltr len p m st pri bd q pp ow d sy) : Res0 (w_C_bonus (cyOf h c w le n cr lc ltr len p m s lo ld st pri bd q pp ow d sy fe tr lids)) (w_M_bonus (mdOf h c w le n cr lc ltr len p m s lo ld st pri bd q pp ow d sy fe th td tdh)) := ⟨_, (cyOf h c w le n cr lc ltr len p m s lo ld st pri bd q pp ow d sy fe tr lids), (mdOf h c w le n cr lc ltr len p m s lo ld st pri bd q pp ow d sy fe 0 td tdh), Inv.of g, fun Φ k => k, fun Ψ k => all_t k⟩
theorem st_today (g : Good h c n cr ltr len p m st pri bd q pp ow d sy) : Res0 (w_C_today (cyOf h c w le n cr lc ltr len p m s lo ld st pri bd q pp ow d sy fe tr lids)) (w_M_today (mdOf h c w le n cr lc ltr len p m s lo ld st pri bd q pp ow d sy fe th td tdh)) := ⟨_, (cyOf h c w le n cr lc ltr len p m s lo ld st pri bd q pp ow d sy fe tr lids), (mdOf h c w le n cr lc ltr len p m s lo ld st pri bd q pp ow d sy fe 0 td tdh), Inv.of g, fun Φ k => k, fun Ψ k => all_t k⟩
theorem st_height (g : Good h c n cr ltr len p m st pri bd q pp ow d sy) (v : Int32) : Res [IAE] (w_C_height (cyOf h c w le n cr lc ltr len p m s lo ld st pri bd q pp ow d sy fe tr lids) v) (w_M_height (mdOf h c w le n cr lc ltr len p m s lo ld st pri bd q pp ow d sy fe th td tdh) v) := by
  rcases or_assoc.mpr (pk_ix v (n := 6) (by omega)) with hv | ⟨i, hi, rfl⟩
  · refine Res.thr 0 IAE 0 (cyOf h c w le n cr lc ltr len p m s lo ld st pri bd q pp ow d sy fe tr lids) (mdOf h c w le n cr lc ltr len p m s lo ld st pri bd q pp ow d sy fe 1 td tdh) rfl (Inv.of g) rfl (fun Φ Ξ k => ?_) (fun Ψ k => ?_)
    · unfold w_C_height
      exact q_rsF hv k
    · unfold w_M_height b_M_height_13 b_M_height_29
      exact q_stF hv (zz (q_gw1 (by decide) (zz k)))
  · refine Res.ret (nI (h i)) (cyOf h c w le n cr lc ltr len p m s lo ld st pri bd q pp ow d sy fe tr lids) (mdOf h c w le n cr lc ltr len p m s lo ld st pri bd q pp ow d sy fe 0 td tdh) (Inv.of g) rfl (fun Φ Ξ k => ?_) (fun Ψ k => ?_)
    · unfold w_C_height
      exact q_rsT hi (q_heightOf hi k)
    · unfold w_M_height b_M_height_13 b_M_height_29
      refine q_stT hi (oo (q_gw0 (oo (in_t hi (by omega) ?_))))
      rw [nI_clamp (by omega)]
      exact k
end
