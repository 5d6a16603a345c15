theorem or_nI {a b : Nat} (ha : a < 2 ^ 30) (hb : b < 2 ^ 30) : nI a ||| nI b = nI (a ||| b) := by
  have hc : a ||| b < 2 ^ 30 := Nat.or_lt_two_pow ha hb
  refine Int32.toBitVec_inj.mp (BitVec.eq_of_toNat_eq ?_)
  rw [Int32.toBitVec_or, BitVec.toNat_or, pk_tn (by omega), pk_tn (by omega), pk_tn (by omega)]
theorem pw_shl : ∀ y, y < 30 → (1 : Int32) <<< (nI y &&& 31) = nI (2 ^ y) := by decide +kernel
theorem pw_lt : ∀ y, y < 30 → 2 ^ y < 2 ^ 30 := by decide +kernel
theorem pw_cnt : ∀ y, y < 30 → cnt 32 (2 ^ y) = 1 := by decide +kernel
theorem pw_mem : ∀ y, y < 30 → memF (2 ^ y).testBit 0 30 = [y] := by decide +kernel
theorem nI_sub_self (x : Int32) : x - x = 0 := by grind
section
variable {h : Nat → Nat} {c : Nat → Nat} {w : AI} {le : AI} {n : Nat} {cr : Int32} {lc : Int32} {ltr : AI} {len : Nat → Nat} {p : AI} {m : Nat} {s : Int32} {lo : AI} {ld : AI} {st : Nat → Nat} {pri : AI} {bd : Nat → Nat} {q : Nat} {pp : Int32} {ow : Int32} {d : Nat} {sy : Int32} {fe : Int32} {K : Nat}
/-- a yard's balance is not above its bonus -/
theorem bal_le (mm : More h c cr s pri pp ow fe K) (hK : K ≤ 200) : ¬ s < s - fe - pp - ow := by
  obtain ⟨-, -, ⟨B, c1, c2⟩, ⟨P, d1, d2⟩, ⟨O, e1, e2⟩, ⟨F, f1, f2⟩, -⟩ := mm
  subst c2 d2 e2 f2
  have e : nI (100 * B) - nI F - nI P - nI O = nI (100 * B) - nI (F + P + O) := by rw [← nI_add, ← nI_add]; grind
  rw [e]
  intro z
  have z := Int32.lt_iff_toInt_lt.mp z
  rw [nI_toInt (by omega), pk_sub_toInt (by omega) (by omega)] at z
  omega
theorem bon_mod (mm : More h c cr s pri pp ow fe K) (hK : K ≤ 200) : s - s / (100 : Int32) * (100 : Int32) = 0 := by
  obtain ⟨-, -, ⟨B, c1, c2⟩, -⟩ := mm
  subst c2
  rw [l100, pk_div (by omega) (by omega) (by omega), pk_mul, show 100 * B / 100 * 100 = 100 * B by omega]
  exact nI_sub_self _
theorem q_al_in (g : Good h c n cr ltr len p m st pri bd q pp ow d sy) {t1 t2 : SK} {l1 l2 : AI} {i : Nat} (hi : i < 6) {K63 : Int32 → Int32 → CC → Prop} {Φ : Int32 → CC → Prop} (kk : K63 1 (nI (i + 1)) ((cyOf h c w le n cr lc ltr len p m s lo ld st pri bd q pp ow d sy fe t1 l1), (cyOf h c w le n cr lc ltr len p m s lo ld st pri bd q pp ow d sy fe t2 l2))) : ∀ (n9 j : Nat), j + n9 = 5 → it4 (b_L_areAlike_95 K63 Φ) (n9 + 1) 1 (nI i) (nI j) ((cyOf h c w le n cr lc ltr len p m s lo ld st pri bd q pp ow d sy fe t1 l1), (cyOf h c w le n cr lc ltr len p m s lo ld st pri bd q pp ow d sy fe t2 l2)) := by
  intro n9
  induction n9 with
  | zero =>
    intro j e
    show b_L_areAlike_95 K63 Φ (it4 (b_L_areAlike_95 K63 Φ) 0) 1 (nI i) (nI j) ((cyOf h c w le n cr lc ltr len p m s lo ld st pri bd q pp ow d sy fe t1 l1), (cyOf h c w le n cr lc ltr len p m s lo ld st pri bd q pp ow d sy fe t2 l2))
    rw [b_L_areAlike_95, nI_1]
    exact le_t (a := 5) (by omega) (by omega) kk
  | succ n9 ih =>
    intro j e
    show b_L_areAlike_95 K63 Φ (it4 (b_L_areAlike_95 K63 Φ) (n9 + 1)) 1 (nI i) (nI j) ((cyOf h c w le n cr lc ltr len p m s lo ld st pri bd q pp ow d sy fe t1 l1), (cyOf h c w le n cr lc ltr len p m s lo ld st pri bd q pp ow d sy fe t2 l2))
    rw [b_L_areAlike_95]
    refine le_f (a := 5) (by omega) (by omega) (oo (q_Cat (tr := t1) (lids := l1) g hi (by omega) (q_Cat (tr := t2) (lids := l2) g hi (by omega) (tt rfl ?_))))
    unfold b_L_areAlike_127
    rw [nI_1]
    exact ih (j + 1) (by omega)
theorem q_al_out (g : Good h c n cr ltr len p m st pri bd q pp ow d sy) {t1 t2 : SK} {l1 l2 : AI} {Φ : Int32 → CC → Prop} (kk : Φ 1 ((cyOf h c w le n cr lc ltr len p m s lo ld st pri bd q pp ow d sy fe t1 l1), (cyOf h c w le n cr lc ltr len p m s lo ld st pri bd q pp ow d sy fe t2 l2))) : ∀ (n9 i : Nat), i + n9 = 6 → it3 (b_L_areAlike_63 Φ) (n9 + 1) 1 (nI i) ((cyOf h c w le n cr lc ltr len p m s lo ld st pri bd q pp ow d sy fe t1 l1), (cyOf h c w le n cr lc ltr len p m s lo ld st pri bd q pp ow d sy fe t2 l2)) := by
  intro n9
  induction n9 with
  | zero =>
    intro i e
    show b_L_areAlike_63 Φ (it3 (b_L_areAlike_63 Φ) 0) 1 (nI i) ((cyOf h c w le n cr lc ltr len p m s lo ld st pri bd q pp ow d sy fe t1 l1), (cyOf h c w le n cr lc ltr len p m s lo ld st pri bd q pp ow d sy fe t2 l2))
    rw [b_L_areAlike_63]
    exact le_t (a := 6) (by omega) (by omega) ⟨Or.inr rfl, kk⟩
  | succ n9 ih =>
    intro i e
    show b_L_areAlike_63 Φ (it3 (b_L_areAlike_63 Φ) (n9 + 1)) 1 (nI i) ((cyOf h c w le n cr lc ltr len p m s lo ld st pri bd q pp ow d sy fe t1 l1), (cyOf h c w le n cr lc ltr len p m s lo ld st pri bd q pp ow d sy fe t2 l2))
    rw [b_L_areAlike_63]
    have h5 := g.ok.1 i (by omega)
    refine le_f (a := 6) (by omega) (by omega) (oo (q_Cheight (tr := t1) (lids := l1) (by omega) (q_Cheight (tr := t2) (lids := l2) (by omega) (tt rfl ?_))))
    unfold b_L_areAlike_91
    exact ⟨6, q_al_in g (i := i) (by omega) (ih (i + 1) (by omega)) 5 0 rfl⟩
end
/-- the two objects look alike -/
theorem q_areAlike {X : SK → AI → CY} {K : Nat} (hX : Iv X K) {t1 t2 : SK} {l1 l2 : AI} {Φ : Int32 → CC → Prop} (kk : Φ 1 (X t1 l1, X t2 l2)) : w_L_areAlike (X t1 l1, X t2 l2) Φ := by
  obtain ⟨h, c, w, le, n, cr, lc, ltr, len, p, m, s, lo, ld, st, pri, bd, q, pp, ow, d, sy, fe, g, mm, rfl⟩ := hX
  show w_L_areAlike ((cyOf h c w le n cr lc ltr len p m s lo ld st pri bd q pp ow d sy fe t1 l1), (cyOf h c w le n cr lc ltr len p m s lo ld st pri bd q pp ow d sy fe t2 l2)) Φ
  unfold w_L_areAlike w_C_crane w_C_lifts w_C_bonus w_C_today w_C_balance w_W_paidInAll w_H_pricesOfDone w_H_owedForLate
  refine tt rfl (tt rfl (tt rfl (tt rfl (tt rfl ?_))))
  show b_L_areAlike_60 Φ 1 ((cyOf h c w le n cr lc ltr len p m s lo ld st pri bd q pp ow d sy fe t1 l1), (cyOf h c w le n cr lc ltr len p m s lo ld st pri bd q pp ow d sy fe t2 l2))
  unfold b_L_areAlike_60
  exact ⟨7, q_al_out g kk 6 0 rfl⟩
/-- the crates met so far: bits of V -/
def met (h c : Nat → Nat) (V i j : Nat) : Prop := V < 2 ^ 30 ∧ ∀ k, V.testBit k = true → ∃ a b, a < 6 ∧ b < h a ∧ (a < i ∨ a = i ∧ b < j) ∧ c (5 * a + b) = k
theorem met_skip {h c : Nat → Nat} {V i j : Nat} (m9 : met h c V i j) : met h c V i (j + 1) := ⟨m9.1, fun k hk => by
  obtain ⟨a, b, h1, h2, h3, h4⟩ := m9.2 k hk
  exact ⟨a, b, h1, h2, by omega, h4⟩⟩
theorem met_row {h c : Nat → Nat} {V i : Nat} (h5 : ∀ i, i < 6 → h i ≤ 5) (m9 : met h c V i 5) : met h c V (i + 1) 0 := ⟨m9.1, fun k hk => by
  obtain ⟨a, b, h1, h2, h3, h4⟩ := m9.2 k hk
  exact ⟨a, b, h1, h2, by omega, h4⟩⟩
theorem met_add {h c : Nat → Nat} {V i j : Nat} (m9 : met h c V i j) (hi : i < 6) (hj : j < h i) (hk : c (5 * i + j) < 30) : met h c (V ||| 2 ^ c (5 * i + j)) i (j + 1) := by
  refine ⟨Nat.or_lt_two_pow m9.1 (pw_lt _ hk), fun k hk => ?_⟩
  rw [Nat.testBit_or, Bool.or_eq_true, Nat.testBit_two_pow] at hk
  rcases hk with hk | hk
  · obtain ⟨a, b, h1, h2, h3, h4⟩ := m9.2 k hk
    exact ⟨a, b, h1, h2, by omega, h4⟩
  · exact ⟨i, j, hi, hj, by omega, of_decide_eq_true hk⟩
theorem met_new {h c : Nat → Nat} {V i j : Nat} (u : uq h c) (m9 : met h c V i j) (hi : i < 6) (hj : j < h i) (hk : c (5 * i + j) < 30) : ¬ (nI V >>> (nI (c (5 * i + j)) &&& 31)) &&& (1 : Int32) = (1 : Int32) := by
  have hV := m9.1
  rw [bitM (by omega) (by omega)]
  intro z
  have z := nI_inj (a := V / 2 ^ c (5 * i + j) % 2) (b := 1) (Nat.lt_of_lt_of_le (Nat.mod_lt _ (by decide)) (by decide)) (by decide) z
  have t : V.testBit (c (5 * i + j)) = true := by rw [tb]; exact decide_eq_true z
  obtain ⟨a, b, h1, h2, h3, h4⟩ := m9.2 _ t
  obtain ⟨e1, e2⟩ := u a b i j h1 h2 hi hj h4
  omega
section
variable {h : Nat → Nat} {c : Nat → Nat} {w : AI} {le : AI} {n : Nat} {cr : Int32} {lc : Int32} {ltr : AI} {len : Nat → Nat} {p : AI} {m : Nat} {s : Int32} {lo : AI} {ld : AI} {st : Nat → Nat} {pri : AI} {bd : Nat → Nat} {q : Nat} {pp : Int32} {ow : Int32} {d : Nat} {sy : Int32} {fe : Int32} {K : Nat}
theorem q_ys_in (g : Good h c n cr ltr len p m st pri bd q pp ow d sy) (mm : More h c cr s pri pp ow fe K) {tr : SK} {lids : AI} {i : Nat} (hi : i < 6) {K6 : Int32 → Int32 → Int32 → CY → Prop} {Φ : Int32 → CY → Prop} (kk : ∀ V N, met h c V (i + 1) 0 → N ≤ 5 * (i + 1) → K6 (nI V) (nI N) (nI (i + 1)) (cyOf h c w le n cr lc ltr len p m s lo ld st pri bd q pp ow d sy fe tr lids)) : ∀ (n9 j V N : Nat), j + n9 = 5 → met h c V i j → N ≤ 5 * i + j → it6 (b_L_isYardSo_22 K6 Φ) (n9 + 1) (nI V) (nI N) (nI i) (nI (h i)) (nI j) (cyOf h c w le n cr lc ltr len p m s lo ld st pri bd q pp ow d sy fe tr lids) := by
  have h5 := g.ok.1 i hi
  intro n9
  induction n9 with
  | zero =>
    intro j V N e m9 hN
    show b_L_isYardSo_22 K6 Φ (it6 (b_L_isYardSo_22 K6 Φ) 0) (nI V) (nI N) (nI i) (nI (h i)) (nI j) (cyOf h c w le n cr lc ltr len p m s lo ld st pri bd q pp ow d sy fe tr lids)
    rw [b_L_isYardSo_22, nI_1]
    have e5 : j = 5 := by omega
    subst e5
    exact le_t (a := 5) (by omega) (by omega) (kk V N (met_row g.ok.1 m9) (by omega))
  | succ n9 ih =>
    intro j V N e m9 hN
    show b_L_isYardSo_22 K6 Φ (it6 (b_L_isYardSo_22 K6 Φ) (n9 + 1)) (nI V) (nI N) (nI i) (nI (h i)) (nI j) (cyOf h c w le n cr lc ltr len p m s lo ld st pri bd q pp ow d sy fe tr lids)
    rw [b_L_isYardSo_22]
    refine le_f (a := 5) (by omega) (by omega) (q_Cat g hi (by omega) ?_)
    unfold b_L_isYardSo_49 b_L_isYardSo_61 b_L_isYardSo_93 b_L_isYardSo_107 b_L_isYardSo_120
    rw [nI_1]
    by_cases hj : j < h i
    · have hk := g.ok.2 i j hi hj
      have hb := g.1.2.1 i j hi hj
      rw [if_pos hj]
      refine le_f (a := h i) (by omega) hj (lt_f (b := 0) (by omega) (by omega) (tt rfl (oo (ff (met_new mm.1 m9 hi hj hk) ?_))))
      unfold w0_L_stackOf
      refine q_CstackOf g hb ?_
      rw [find_at g.ok mm.1 hi hj]
      refine tt rfl (oo (oo ?_))
      rw [pw_shl _ hk, or_nI m9.1 (pw_lt _ hk), nI_1]
      exact ih (j + 1) (V ||| 2 ^ c (5 * i + j)) (N + 1) (by omega) (met_add m9 hi hj hk) (by omega)
    · rw [if_neg hj]
      refine le_t (a := h i) (by omega) (by omega) (tt m1_lt0 (tt rfl (tt rfl (zz (zz ?_)))))
      rw [l0, or_nI m9.1 (by decide), Nat.or_zero, nI_add, Nat.add_zero]
      exact ih (j + 1) V N (by omega) (met_skip m9) (by omega)
theorem q_ys_end (mm : More h c cr s pri pp ow fe K) (hK : K ≤ 200) {tr : SK} {lids : AI} {Φ : Int32 → CY → Prop} (kk : Φ 1 (cyOf h c w le n cr lc ltr len p m s lo ld st pri bd q pp ow d sy fe tr lids)) : b_L_isYardSo_159 Φ (cyOf h c w le n cr lc ltr len p m s lo ld st pri bd q pp ow d sy fe tr lids) := by
  unfold b_L_isYardSo_159 w_C_bonus w_C_balance w_W_paidInAll w_H_pricesOfDone w_H_owedForLate b_L_isYardSo_185
  exact tt (bon_mod mm hK) (ff (bal_le mm hK) ⟨Or.inr rfl, kk⟩)
theorem q_ys_out (g : Good h c n cr ltr len p m st pri bd q pp ow d sy) (mm : More h c cr s pri pp ow fe K) (hK : K ≤ 200) {tr : SK} {lids : AI} {Φ : Int32 → CY → Prop} (kk : Φ 1 (cyOf h c w le n cr lc ltr len p m s lo ld st pri bd q pp ow d sy fe tr lids)) : ∀ (n9 i V N : Nat), i + n9 = 6 → met h c V i 0 → N ≤ 5 * i → it4 (b_L_isYardSo_6 Φ) (n9 + 1) (nI V) (nI N) (nI i) (cyOf h c w le n cr lc ltr len p m s lo ld st pri bd q pp ow d sy fe tr lids) := by
  intro n9
  induction n9 with
  | zero =>
    intro i V N e m9 hN
    show b_L_isYardSo_6 Φ (it4 (b_L_isYardSo_6 Φ) 0) (nI V) (nI N) (nI i) (cyOf h c w le n cr lc ltr len p m s lo ld st pri bd q pp ow d sy fe tr lids)
    rw [b_L_isYardSo_6]
    unfold w_C_crane
    refine le_t (a := 6) (by omega) (by omega) (lt_f (a := 30) (by omega) (by omega) ?_)
    rcases g.1.2.2.2 with hcr | ⟨k, hk, hcr⟩
    · exact tt hcr (q_ys_end mm hK kk)
    · have hn := g.1.2.2.1
      have e1 : find h c cr = none := by rw [hcr]; exact find_nin g.ok (by omega) (mm.2.1 k (by omega) hcr)
      refine ff (by show ¬ cr = -1; rw [hcr]; exact nI_ne_m1 (by omega)) ?_
      unfold w0_L_stackOf
      show w_C_stackOf (cyOf h c w le n cr lc ltr len p m s lo ld st pri bd q pp ow d sy fe tr lids) cr _ _
      have key : ∀ {Ψ : Int32 → CY → Prop} {Ξ : String → CY → Prop}, Ψ (-1) (cyOf h c w le n cr lc ltr len p m s lo ld st pri bd q pp ow d sy fe tr lids) → w_C_stackOf (cyOf h c w le n cr lc ltr len p m s lo ld st pri bd q pp ow d sy fe tr lids) cr Ψ Ξ := fun {Ψ Ξ} kz => by
        subst hcr
        refine q_CstackOf g hk ?_
        rw [e1]
        exact kz
      exact key (tt rfl (q_ys_end mm hK kk))
  | succ n9 ih =>
    intro i V N e m9 hN
    show b_L_isYardSo_6 Φ (it4 (b_L_isYardSo_6 Φ) (n9 + 1)) (nI V) (nI N) (nI i) (cyOf h c w le n cr lc ltr len p m s lo ld st pri bd q pp ow d sy fe tr lids)
    rw [b_L_isYardSo_6]
    exact le_f (a := 6) (by omega) (by omega) (q_Cheight (by omega) ⟨6, q_ys_in g mm (i := i) (by omega) (fun V N m9 hN => ih (i + 1) V N (by omega) m9 hN) 5 0 V N rfl m9 (by omega)⟩)
end
/-- the yard is so -/
theorem q_isYardSo {X : SK → AI → CY} {K : Nat} (hX : Iv X K) (hK : K ≤ 200) {t1 : SK} {l1 : AI} {Φ : Int32 → CY → Prop} (kk : Φ 1 (X t1 l1)) : w_L_isYardSo (X t1 l1) Φ := by
  obtain ⟨h, c, w, le, n, cr, lc, ltr, len, p, m, s, lo, ld, st, pri, bd, q, pp, ow, d, sy, fe, g, mm, rfl⟩ := hX
  show w_L_isYardSo (cyOf h c w le n cr lc ltr len p m s lo ld st pri bd q pp ow d sy fe t1 l1) Φ
  unfold w_L_isYardSo
  exact ⟨7, q_ys_out g mm hK kk 6 0 0 0 rfl ⟨by decide, fun k hk => by rw [Nat.zero_testBit] at hk; cases hk⟩ (Nat.zero_le _)⟩
