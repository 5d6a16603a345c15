def ctr (st : Nat → Nat) (pri : AI) : Nat → Int32 | 0 => 0 | i + 1 => ctr st pri i + (if st i = 2 then pri i else if st i = 3 then 50 else 0)
def Good (h c : Nat → Nat) (n : Nat) (cr : Int32) (ltr : AI) (len : Nat → Nat) (p : AI) (m : Nat) (st : Nat → Nat) (pri : AI) (bd : Nat → Nat) (q : Nat) (pp ow : Int32) (d : Nat) (sy : Int32) : Prop :=
  ((∀ i, i < 6 → h i ≤ 5) ∧ (∀ i j, i < 6 → j < h i → c (5 * i + j) < n) ∧ n ≤ 30 ∧ (cr = -1 ∨ ∃ k, k < n ∧ cr = nI k)) ∧
  (m ≤ 8 ∧ wok ltr len m ∧ ∀ i, i < 8 → bo (p i)) ∧ (q ≤ 20 ∧ (∀ i, i < 20 → st i ≤ 3) ∧ (∀ i, i < 80 → bd i ≤ 1000) ∧ pp + ow = ctr st pri q) ∧ d ≤ 10000 ∧ bo sy
abbrev cyOf (h c : Nat → Nat) (w le : AI) (n : Nat) (cr lc : Int32) (ltr : AI) (len : Nat → Nat) (p : AI) (m : Nat) (s : Int32) (lo ld : AI) (st : Nat → Nat) (pri : AI) (bd : Nat → Nat) (q : Nat) (pp ow : Int32) (d : Nat) (sy fe : Int32) (tr : SK) (lids : AI) : CY := ((I h, I c, w), tr, (ltr, I len, p, nI m, s), (lo, ld, I st, pri, I bd, nI q, pp, ow), le, lids, nI n, cr, lc, nI d, sy, fe)
abbrev IAE : String := "java/lang/IllegalArgumentException"
abbrev ISE : String := "java/lang/IllegalStateException"
abbrev IOE : String := "java/lang/IndexOutOfBoundsException"
theorem Good.ok {h : Nat → Nat} {c : Nat → Nat} {n : Nat} {cr : Int32} {ltr : AI} {len : Nat → Nat} {p : AI} {m : Nat} {st : Nat → Nat} {pri : AI} {bd : Nat → Nat} {q : Nat} {pp : Int32} {ow : Int32} {d : Nat} {sy : Int32} (g : Good h c n cr ltr len p m st pri bd q pp ow d sy) : ok h c := ⟨g.1.1, fun i j hi hj => Nat.lt_of_lt_of_le (g.1.2.1 i j hi hj) g.1.2.2.1⟩
theorem zz {A B : Prop} (k : A) : ((0 : Int32) = 0 → A) ∧ (¬ (0 : Int32) = 0 → B) := ⟨fun _ => k, fun y => absurd rfl y⟩
theorem oo {A B : Prop} (k : B) : ((1 : Int32) = 0 → A) ∧ (¬ (1 : Int32) = 0 → B) := ⟨fun y => absurd y (by decide), fun _ => k⟩
theorem tt {c A B : Prop} (h : c) (k : A) : (c → A) ∧ (¬ c → B) := ⟨fun _ => k, fun y => absurd h y⟩
theorem ff {c A B : Prop} (h : ¬ c) (k : B) : (c → A) ∧ (¬ c → B) := ⟨fun y => absurd y h, fun _ => k⟩
theorem nI_sub1 {n : Nat} (hn : n < 2 ^ 30) : (nI n - (1 : Int32)).toInt = (n : Int) - 1 := by
  have := pk_sub_toInt (a := n) (b := 1) hn (by omega)
  exact this
theorem lt_of_ge {N : Nat} {v : Int32} (hN : N < 2 ^ 30) (h : nI (N + 1) ≤ v) : nI N < v := by
  have h1 := Int32.le_iff_toInt_le.mp h
  rw [nI_toInt (by omega)] at h1
  refine Int32.lt_iff_toInt_lt.mpr ?_
  rw [nI_toInt (by omega)]
  omega
theorem sub1_lt {n : Nat} {v : Int32} (hn : n < 2 ^ 30) (h : nI n ≤ v) : nI n - (1 : Int32) < v := by
  have h1 := Int32.le_iff_toInt_le.mp h
  rw [nI_toInt (by omega)] at h1
  refine Int32.lt_iff_toInt_lt.mpr ?_
  rw [nI_sub1 hn]
  omega
theorem le_sub1 {n i : Nat} (hn : n < 2 ^ 30) (h : i < n) : nI i ≤ nI n - (1 : Int32) := by
  rw [l1, pk_sub (by omega)]
  exact nI_le (by omega) (by omega)
theorem lt_of_nI {v : Int32} {N : Nat} (h : v < 0 ∨ nI N ≤ v) : ¬ (¬ v < 0 ∧ v < nI N) := fun z => h.elim z.1 (fun y => absurd z.2 (Int32.not_lt.mpr y))
theorem q_rsT {i : Nat} {Φ : Unit → Prop} {Ξ : String → Unit → Prop} (hi : i < 6) (k : Φ ()) : w_C_requireStack (nI i) Φ Ξ := by
  unfold w_C_requireStack
  exact lt_f (b := 0) (by omega) (by omega) (lt_t (b := 6) (by omega) (by omega) k)
theorem q_rsF {v : Int32} {Φ : Unit → Prop} {Ξ : String → Unit → Prop} (h : v < 0 ∨ nI 6 ≤ v) (k : Ξ IAE ()) : w_C_requireStack v Φ Ξ := by
  unfold w_C_requireStack b_C_requireStack_10
  exact ⟨fun _ => k, fun a => ⟨fun b => absurd ⟨a, b⟩ (lt_of_nI h), fun _ => k⟩⟩
theorem q_rlT {i : Nat} {Φ : Unit → Prop} {Ξ : String → Unit → Prop} (hi : i < 26) (k : Φ ()) : w_C_requireLetter (nI i) Φ Ξ := by
  unfold w_C_requireLetter
  exact lt_f (b := 0) (by omega) (by omega) (lt_t (b := 26) (by omega) (by omega) k)
theorem q_rlF {v : Int32} {Φ : Unit → Prop} {Ξ : String → Unit → Prop} (h : v < 0 ∨ nI 26 ≤ v) (k : Ξ IAE ()) : w_C_requireLetter v Φ Ξ := by
  unfold w_C_requireLetter b_C_requireLetter_10
  exact ⟨fun _ => k, fun a => ⟨fun b => absurd ⟨a, b⟩ (lt_of_nI h), fun _ => k⟩⟩
theorem q_rcT {σ : CY} {n i : Nat} {Φ : CY → Prop} {Ξ : String → CY → Prop} (hc : g_CY_crateCount σ = nI n) (hn : n ≤ 30) (hi : i < n) (k : Φ σ) : w_C_requireCrate σ (nI i) Φ Ξ := by
  unfold w_C_requireCrate
  rw [hc]
  exact lt_f (b := 0) (by omega) (by omega) (lt_t (by omega) hi k)
theorem q_rcF {σ : CY} {n : Nat} {v : Int32} {Φ : CY → Prop} {Ξ : String → CY → Prop} (hc : g_CY_crateCount σ = nI n) (h : v < 0 ∨ nI n ≤ v) (k : Ξ IOE σ) : w_C_requireCrate σ v Φ Ξ := by
  unfold w_C_requireCrate b_C_requireCrate_12
  rw [hc]
  exact ⟨fun _ => k, fun a => ⟨fun b => absurd ⟨a, b⟩ (lt_of_nI h), fun _ => k⟩⟩
theorem q_reE {σ : CY} {Φ : CY → Prop} {Ξ : String → CY → Prop} (h : g_CY_craneCrate σ = -1) (k : Φ σ) : w_C_requireEmptyCrane σ Φ Ξ := by
  unfold w_C_requireEmptyCrane
  exact tt h k
theorem q_reF {σ : CY} {Φ : CY → Prop} {Ξ : String → CY → Prop} (h : ¬ g_CY_craneCrate σ = -1) (k : Ξ ISE σ) : w_C_requireEmptyCrane σ Φ Ξ := by
  unfold w_C_requireEmptyCrane
  exact ff h k
theorem q_rfF {σ : CY} {Φ : CY → Prop} {Ξ : String → CY → Prop} (h : ¬ g_CY_craneCrate σ = -1) (k : Φ σ) : w_C_requireFullCrane σ Φ Ξ := by
  unfold w_C_requireFullCrane
  exact ff h k
theorem q_rfE {σ : CY} {Φ : CY → Prop} {Ξ : String → CY → Prop} (h : g_CY_craneCrate σ = -1) (k : Ξ ISE σ) : w_C_requireFullCrane σ Φ Ξ := by
  unfold w_C_requireFullCrane
  exact tt h k
theorem q_Cmost {σ : CY} {Φ : Int32 → CY → Prop} (k : Φ (nI (mo (g_CY_stormy σ))) σ) : w_C_mostPlaces σ Φ := by
  unfold w_C_mostPlaces b_C_mostPlaces_12
  refine ⟨fun q => ?_, fun q => ?_⟩
  · rw [mo, if_pos q] at k; exact k
  · rw [mo, if_neg q] at k; exact k
