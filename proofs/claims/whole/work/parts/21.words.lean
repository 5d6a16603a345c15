def set4 (f : AI) (m : Nat) (a b c d : Int32) : AI := upd (upd (upd (upd f (4 * m) a) (4 * m + 1) b) (4 * m + 2) c) (4 * m + 3) d
theorem set4_o {f : AI} {m w k : Nat} {a b c d : Int32} (h : w ≠ m) (hk : k < 4) : set4 f m a b c d (4 * w + k) = f (4 * w + k) := by
  unfold set4 upd
  rw [if_neg (by omega), if_neg (by omega), if_neg (by omega), if_neg (by omega)]
theorem set4_0 {f : AI} {m : Nat} {a b c d : Int32} : set4 f m a b c d (4 * m + 0) = a := by
  unfold set4 upd
  rw [if_neg (by omega), if_neg (by omega), if_neg (by omega), if_pos (by omega)]
theorem set4_1 {f : AI} {m : Nat} {a b c d : Int32} : set4 f m a b c d (4 * m + 1) = b := by
  unfold set4 upd
  rw [if_neg (by omega), if_neg (by omega), if_pos rfl]
theorem set4_2 {f : AI} {m : Nat} {a b c d : Int32} : set4 f m a b c d (4 * m + 2) = c := by
  unfold set4 upd
  rw [if_neg (by omega), if_pos rfl]
theorem set4_3 {f : AI} {m : Nat} {a b c d : Int32} : set4 f m a b c d (4 * m + 3) = d := by
  unfold set4 upd
  rw [if_pos rfl]
def wlen (c d : Int32) : Nat := if c = -1 then 2 else if d = -1 then 3 else 4
theorem wok_set4 {ltr : AI} {len : Nat → Nat} {m : Nat} {a b c d : Int32} (hW : wok ltr len m) (ha : a ≠ -1) (hb : b ≠ -1) (hcd : c = -1 → d = -1) : wok (set4 ltr m a b c d) (up len m (wlen c d)) (m + 1) := by
  intro w hw
  by_cases q : w = m
  · subst q
    rw [up_s]
    unfold wlen
    by_cases qc : c = -1
    · have qd := hcd qc
      rw [if_pos qc]
      refine ⟨by omega, by omega, fun k hk => ?_, fun k h1 h2 => ?_⟩
      · obtain rfl | rfl : k = 0 ∨ k = 1 := by omega
        · rw [set4_0]; exact ha
        · rw [set4_1]; exact hb
      · obtain rfl | rfl : k = 2 ∨ k = 3 := by omega
        · rw [set4_2]; exact qc
        · rw [set4_3]; exact qd
    · rw [if_neg qc]
      by_cases qd : d = -1
      · rw [if_pos qd]
        refine ⟨by omega, by omega, fun k hk => ?_, fun k h1 h2 => ?_⟩
        · obtain rfl | rfl | rfl : k = 0 ∨ k = 1 ∨ k = 2 := by omega
          · rw [set4_0]; exact ha
          · rw [set4_1]; exact hb
          · rw [set4_2]; exact qc
        · obtain rfl : k = 3 := by omega
          rw [set4_3]; exact qd
      · rw [if_neg qd]
        refine ⟨by omega, by omega, fun k hk => ?_, fun k h1 h2 => by omega⟩
        obtain rfl | rfl | rfl | rfl : k = 0 ∨ k = 1 ∨ k = 2 ∨ k = 3 := by omega
        · rw [set4_0]; exact ha
        · rw [set4_1]; exact hb
        · rw [set4_2]; exact qc
        · rw [set4_3]; exact qd
  · obtain ⟨h1, h2, h3, h4⟩ := hW w (by omega)
    rw [up_n q]
    exact ⟨h1, h2, fun k hk => by rw [set4_o q (by omega)]; exact h3 k hk, fun k a b => by rw [set4_o q b]; exact h4 k a b⟩
theorem q_Wadd {ltr p : AI} {len : Nat → Nat} {m : Nat} {s a b c d : Int32} (hm : m < 8) {Φ : Int32 → WD → Prop} (k : Φ (nI m) (set4 ltr m a b c d, I (up len m (wlen c d)), p, nI (m + 1), s)) : w_W_add (ltr, I len, p, nI m, s) a b c d Φ := by
  unfold w_W_add b_W_add_98
  have e4 : nI m * (4 : Int32) = nI (4 * m) := by rw [l4, pk_mul, Nat.mul_comm]
  have e1 : nI (4 * m) + (1 : Int32) = nI (4 * m + 1) := nI_1 _
  have e2 : nI (4 * m) + (2 : Int32) = nI (4 * m + 2) := by rw [l2, nI_add]
  have e3 : nI (4 * m) + (3 : Int32) = nI (4 * m + 3) := by rw [l3, nI_add]
  refine lt_t (b := 8) (by omega) hm (all_t (all_t (all_t ?_)))
  show vp_in (nI m * (4 : Int32)) 32 ∧ _
  rw [show g_WD_count (ltr, I len, p, nI m, s) * (4 : Int32) = nI (4 * m) from e4, e1, e2, e3]
  refine in_t (by omega) (by omega) (all_t (in_t (by omega) (by omega) (all_t (in_t (by omega) (by omega) (all_t (in_t (by omega) (by omega) (all_t ?_)))))))
  rw [nI_clamp (by omega), nI_clamp (by omega), nI_clamp (by omega), nI_clamp (by omega)]
  have key : ∀ L : Nat, L = wlen c d → (vp_in (nI m) 8 ∧ ∀ z1 : WD, z1 = (set4 ltr m a b c d, upd (I len) (nI m).toNatClampNeg (nI L), p, nI m + 1, s) → Φ (nI m) z1) := by
    intro L hL
    refine in_t (by omega) (by omega) (all_t ?_)
    rw [nI_clamp (by omega), I_up, hL, nI_1]
    exact k
  refine ⟨fun q => ?_, fun q => ⟨fun q2 => ?_, fun q2 => ?_⟩⟩
  · exact key 2 (by rw [wlen, if_pos q])
  · exact key 3 (by rw [wlen, if_neg q, if_pos q2])
  · exact key 4 (by rw [wlen, if_neg q, if_neg q2])
theorem q_isPaid {ltr le p : AI} {m i : Nat} {s : Int32} (hi : i < m) (hm : m ≤ 8) {Φ : Int32 → WD → Prop} (k : Φ (b2i (decide (¬ p i = 0))) (ltr, le, p, nI m, s)) : w_W_isPaid (ltr, le, p, nI m, s) (nI i) Φ := by
  unfold w_W_isPaid b_W_isPaid_25 b_W_isPaid_26
  refine lt_f (b := 0) (by omega) (by omega) (le_f (a := m) (by omega) (by omega) (in_t (by omega) (by omega) ?_))
  rw [nI_clamp (by omega)]
  refine ⟨fun q => ⟨Or.inl rfl, ?_⟩, fun q => ⟨Or.inr rfl, ?_⟩⟩
  · rw [decide_eq_false (fun z => z q)] at k; exact k
  · rw [decide_eq_true (show ¬ p i = 0 from q)] at k; exact k
section
variable {h : Nat → Nat} {c : Nat → Nat} {w : AI} {le : AI} {n : Nat} {cr : Int32} {lc : Int32} {ltr : AI} {len : Nat → Nat} {p : AI} {m : Nat} {s : Int32} {lo : AI} {ld : AI} {st : Nat → Nat} {pri : AI} {bd : Nat → Nat} {q : Nat} {pp : Int32} {ow : Int32} {d : Nat} {sy : Int32} {fe : Int32} {tr : SK} {lids : AI} {th : Int32} {td tdh : AI}
theorem st_hasPaid (g : Good h c n cr ltr len p m st pri bd q pp ow d sy) (v : Int32) : Res [IOE] (w_C_hasPaid (cyOf h c w le n cr lc ltr len p m s lo ld st pri bd q pp ow d sy fe tr lids) v) (w_M_hasPaid (mdOf h c w le n cr lc ltr len p m s lo ld st pri bd q pp ow d sy fe th td tdh) v) := by
  have hm := g.2.1.1
  rcases or_assoc.mpr (pk_ix v (n := m) (by omega)) with hv | ⟨i, hi, rfl⟩
  · refine Res.thr 0 IOE 0 (cyOf h c w le n cr lc ltr len p m s lo ld st pri bd q pp ow d sy fe tr lids) (mdOf h c w le n cr lc ltr len p m s lo ld st pri bd q pp ow d sy fe 1 td tdh) rfl (Inv.of g) rfl (fun Φ Ξ k => ?_) (fun Ψ k => ?_)
    · unfold w_C_hasPaid b_C_hasPaid_15 w_W_number
      exact ⟨fun _ => k, fun a => ⟨fun b => absurd ⟨a, b⟩ (lt_of_nI hv), fun _ => k⟩⟩
    · unfold w_M_hasPaid b_M_hasPaid_20 b_M_hasPaid_39 b_M_hasPaid_40
      exact q_inF (hv.imp id (fun z => sub1_lt (n := m) (by omega) z)) (zz (q_gw1 (by decide) (zz ⟨Or.inl rfl, k⟩)))
  · refine Res.ret (b2i (decide (¬ p i = 0))) (cyOf h c w le n cr lc ltr len p m s lo ld st pri bd q pp ow d sy fe tr lids) (mdOf h c w le n cr lc ltr len p m s lo ld st pri bd q pp ow d sy fe 0 td tdh) (Inv.of g) rfl (fun Φ Ξ k => ?_) (fun Ψ k => ?_)
    · unfold w_C_hasPaid w_W_number
      exact lt_f (b := 0) (by omega) (by omega) (lt_t (by omega) hi (q_isPaid hi hm ⟨b2i_bo _, k⟩))
    · unfold w_M_hasPaid b_M_hasPaid_20 b_M_hasPaid_39 b_M_hasPaid_40
      refine q_inT (nI_le (a := 0) (by omega) (by omega)) (le_sub1 (n := m) (by omega) hi) (oo (q_gw0 (oo (in_t (by omega) (by omega) ?_))))
      rw [nI_clamp (by omega)]
      refine ⟨fun q => ⟨Or.inl rfl, ?_⟩, fun q => ⟨Or.inr rfl, ?_⟩⟩
      · rw [decide_eq_false (fun z => z (show p i = 0 from q))] at k; exact k
      · rw [decide_eq_true (show ¬ p i = 0 from q)] at k; exact k
theorem st_tell (g : Good h c n cr ltr len p m st pri bd q pp ow d sy) (v1 v2 v3 v4 : Int32) : Res [IAE, ISE] (w_C_tell (cyOf h c w le n cr lc ltr len p m s lo ld st pri bd q pp ow d sy fe tr lids) v1 v2 v3 v4) (w_M_tell (mdOf h c w le n cr lc ltr len p m s lo ld st pri bd q pp ow d sy fe th td tdh) v1 v2 v3 v4) := by
  have hm := g.2.1.1
  have m1l : (-1 : Int32) < 0 ∨ nI 26 ≤ (-1 : Int32) := Or.inl m1_lt0
  -- the good words
  have good : ∀ (j1 j2 : Nat), j1 < 26 → j2 < 26 → v1 = nI j1 → v2 = nI j2 → (v3 = -1 → v4 = -1) → (∀ Φ Ξ, b_C_tell_43 Φ Ξ v1 v2 v3 v4 (cyOf h c w le n cr lc ltr len p m s lo ld st pri bd q pp ow d sy fe tr lids) → w_C_tell (cyOf h c w le n cr lc ltr len p m s lo ld st pri bd q pp ow d sy fe tr lids) v1 v2 v3 v4 Φ Ξ) → (∀ Ψ, b_M_tell_49 Ψ v1 v2 v3 v4 (mdOf h c w le n cr lc ltr len p m s lo ld st pri bd q pp ow d sy fe th td tdh) → w_M_tell (mdOf h c w le n cr lc ltr len p m s lo ld st pri bd q pp ow d sy fe th td tdh) v1 v2 v3 v4 Ψ) → Res [IAE, ISE] (w_C_tell (cyOf h c w le n cr lc ltr len p m s lo ld st pri bd q pp ow d sy fe tr lids) v1 v2 v3 v4) (w_M_tell (mdOf h c w le n cr lc ltr len p m s lo ld st pri bd q pp ow d sy fe th td tdh) v1 v2 v3 v4) := by
    intro j1 j2 h1 h2 e1 e2 hcd kc km
    by_cases qm : m = 8
    · refine Res.thr 1 ISE 0 (cyOf h c w le n cr lc ltr len p m s lo ld st pri bd q pp ow d sy fe tr lids) (mdOf h c w le n cr lc ltr len p m s lo ld st pri bd q pp ow d sy fe 2 td tdh) rfl (Inv.of g) rfl (fun Φ Ξ k => kc Φ Ξ ?_) (fun Ψ k => km Ψ ?_)
      · unfold b_C_tell_43 w_W_number
        exact lt_f (b := 8) (by omega) (by omega) k
      · unfold b_M_tell_49 b_M_tell_54 b_M_tell_80
        exact oo (eq_t (b := 8) qm (q_gw1 (by decide) (zz k)))
    · have n1 : v1 ≠ -1 := by rw [e1]; exact nI_ne_m1 (by omega)
      have n2 : v2 ≠ -1 := by rw [e2]; exact nI_ne_m1 (by omega)
      have gd : Good h c n cr (set4 ltr m v1 v2 v3 v4) (up len m (wlen v3 v4)) p (m + 1) st pri bd q pp ow d sy := ⟨g.1, ⟨by omega, wok_set4 g.2.1.2.1 n1 n2 hcd, g.2.1.2.2⟩, g.2.2⟩
      have gp := Good.pay (s := s) (tops h c le 0 6) gd
      refine Res.ret (nI m) (cyOf h c w le n cr lc (set4 ltr m v1 v2 v3 v4) (up len m (wlen v3 v4)) (payF (tops h c le 0 6) (set4 ltr m v1 v2 v3 v4) (up len m (wlen v3 v4)) 0 (m + 1) p s).1 (m + 1) (payF (tops h c le 0 6) (set4 ltr m v1 v2 v3 v4) (up len m (wlen v3 v4)) 0 (m + 1) p s).2 lo ld st pri bd q pp ow d sy fe tr (lidF h c le 0 6 0 lids)) (mdOf h c w le n cr lc (set4 ltr m v1 v2 v3 v4) (up len m (wlen v3 v4)) (payF (tops h c le 0 6) (set4 ltr m v1 v2 v3 v4) (up len m (wlen v3 v4)) 0 (m + 1) p s).1 (m + 1) (payF (tops h c le 0 6) (set4 ltr m v1 v2 v3 v4) (up len m (wlen v3 v4)) 0 (m + 1) p s).2 lo ld st pri bd q pp ow d sy fe 0 td tdh) (Inv.of gp) rfl (fun Φ Ξ k => kc Φ Ξ ?_) (fun Ψ k => km Ψ ?_)
      · unfold b_C_tell_43 w_W_number
        exact lt_t (b := 8) (by omega) (by omega) (q_Wadd (by omega) (q_Cpay (ltr := set4 ltr m v1 v2 v3 v4) (len := up len m (wlen v3 v4)) (m := m + 1) g.ok gd k))
      · unfold b_M_tell_49 b_M_tell_54 b_M_tell_80
        have x0 : (4 : Int32) * nI m = nI (4 * m) := by rw [l4, pk_mul]
        have x1 : (4 : Int32) * nI m + (1 : Int32) = nI (4 * m + 1) := by rw [x0, nI_1]
        have x2 : (4 : Int32) * nI m + (2 : Int32) = nI (4 * m + 2) := by rw [x0, l2, nI_add]
        have x3 : (4 : Int32) * nI m + (3 : Int32) = nI (4 * m + 3) := by rw [x0, l3, nI_add]
        refine oo (eq_f (b := 8) (by omega) (by omega) qm (q_gw0 (oo ?_)))
        show vp_in ((4 : Int32) * nI m) 32 ∧ _
        rw [show (4 : Int32) * g_MD_many (s_MD_thrown (mdOf h c w le n cr lc ltr len p m s lo ld st pri bd q pp ow d sy fe th td tdh) 0) = nI (4 * m) from x0]
        refine in_t (by omega) (by omega) (all_t ?_)
        show vp_in ((4 : Int32) * nI m + (1 : Int32)) 32 ∧ _
        rw [x1]
        refine ⟨vp_in_nI (by omega) (by omega), all_t ?_⟩
        show vp_in ((4 : Int32) * nI m + (2 : Int32)) 32 ∧ _
        rw [x2]
        refine ⟨vp_in_nI (by omega) (by omega), all_t ?_⟩
        show vp_in ((4 : Int32) * nI m + (3 : Int32)) 32 ∧ _
        rw [x3]
        refine ⟨vp_in_nI (by omega) (by omega), all_t (all_t (all_t ?_))⟩
        have e2 := q_Mpay (ltr := set4 ltr m v1 v2 v3 v4) (len := up len m (wlen v3 v4)) (m := m + 1) (th := 0) (td := td) (tdh := tdh) (w := w) (le := le) (lo := lo) (ld := ld) (s := s) (fe := fe) (lc := lc) (Φ := fun u => Ψ (g_MD_many u - (1 : Int32)) u) g.ok gd (by
          show Ψ (nI (m + 1) - (1 : Int32)) _
          rw [nI_pred]
          exact k)
        rw [nI_clamp (show 4 * m < 2 ^ 31 by omega), nI_clamp (show 4 * m + 1 < 2 ^ 31 by omega), nI_clamp (show 4 * m + 2 < 2 ^ 31 by omega), nI_clamp (show 4 * m + 3 < 2 ^ 31 by omega)]
        have e3 : nI (m + 1) = nI m + (1 : Int32) := (nI_1 m).symm
        unfold mdOf at e2
        rw [e3] at e2
        exact e2
  have bad : (∀ Φ Ξ, Ξ IAE (cyOf h c w le n cr lc ltr len p m s lo ld st pri bd q pp ow d sy fe tr lids) → w_C_tell (cyOf h c w le n cr lc ltr len p m s lo ld st pri bd q pp ow d sy fe tr lids) v1 v2 v3 v4 Φ Ξ) → (∀ Ψ, b_M_tell_53 Ψ v1 v2 v3 v4 (mdOf h c w le n cr lc ltr len p m s lo ld st pri bd q pp ow d sy fe th td tdh) → w_M_tell (mdOf h c w le n cr lc ltr len p m s lo ld st pri bd q pp ow d sy fe th td tdh) v1 v2 v3 v4 Ψ) → Res [IAE, ISE] (w_C_tell (cyOf h c w le n cr lc ltr len p m s lo ld st pri bd q pp ow d sy fe tr lids) v1 v2 v3 v4) (w_M_tell (mdOf h c w le n cr lc ltr len p m s lo ld st pri bd q pp ow d sy fe th td tdh) v1 v2 v3 v4) := by
    intro kc km
    refine Res.thr 0 IAE 0 (cyOf h c w le n cr lc ltr len p m s lo ld st pri bd q pp ow d sy fe tr lids) (mdOf h c w le n cr lc ltr len p m s lo ld st pri bd q pp ow d sy fe 1 td tdh) rfl (Inv.of g) rfl (fun Φ Ξ k => kc Φ Ξ k) (fun Ψ k => km Ψ ?_)
    unfold b_M_tell_53 b_M_tell_54 b_M_tell_80
    exact zz (q_gw1 (by decide) (zz k))
  clear hm
  have C17 : ∀ {Φ Ξ}, b_C_tell_17 Φ Ξ v1 v2 v3 v4 (cyOf h c w le n cr lc ltr len p m s lo ld st pri bd q pp ow d sy fe tr lids) = ((v4 = (-1 : Int32) → b_C_tell_43 Φ Ξ v1 v2 v3 v4 (cyOf h c w le n cr lc ltr len p m s lo ld st pri bd q pp ow d sy fe tr lids)) ∧ (¬ v4 = (-1 : Int32) → w_C_requireLetter v4 (fun _ => ((v3 = (-1 : Int32) → Ξ "java/lang/IllegalArgumentException" (cyOf h c w le n cr lc ltr len p m s lo ld st pri bd q pp ow d sy fe tr lids)) ∧ (¬ v3 = (-1 : Int32) → b_C_tell_43 Φ Ξ v1 v2 v3 v4 (cyOf h c w le n cr lc ltr len p m s lo ld st pri bd q pp ow d sy fe tr lids)))) (fun E _ => Ξ E (cyOf h c w le n cr lc ltr len p m s lo ld st pri bd q pp ow d sy fe tr lids)))) := fun {Φ Ξ} => rfl
  rcases or_assoc.mpr (pk_ix v1 (n := 26) (by omega)) with h1 | ⟨j1, h1, e1⟩
  · exact bad (fun Φ Ξ k => by unfold w_C_tell; exact q_rlF h1 k) (fun Ψ k => by unfold w_M_tell; exact q_ltF h1 (zz k))
  rcases or_assoc.mpr (pk_ix v2 (n := 26) (by omega)) with h2 | ⟨j2, h2, e2⟩
  · exact bad (fun Φ Ξ k => by unfold w_C_tell; rw [e1]; exact q_rlT h1 (q_rlF h2 k)) (fun Ψ k => by unfold w_M_tell; rw [e1] at k ⊢; exact q_ltT h1 (oo (q_ltF h2 (zz k))))
  have cI : ∀ {Φ Ξ}, ((v3 = (-1 : Int32) → b_C_tell_17 Φ Ξ v1 v2 v3 v4 (cyOf h c w le n cr lc ltr len p m s lo ld st pri bd q pp ow d sy fe tr lids)) ∧ (¬ v3 = (-1 : Int32) → w_C_requireLetter v3 (fun _ => b_C_tell_17 Φ Ξ v1 v2 v3 v4 (cyOf h c w le n cr lc ltr len p m s lo ld st pri bd q pp ow d sy fe tr lids)) (fun E _ => Ξ E (cyOf h c w le n cr lc ltr len p m s lo ld st pri bd q pp ow d sy fe tr lids)))) → w_C_tell (cyOf h c w le n cr lc ltr len p m s lo ld st pri bd q pp ow d sy fe tr lids) v1 v2 v3 v4 Φ Ξ := fun {Φ Ξ} k => by
    unfold w_C_tell
    rw [e1, e2] at k ⊢
    exact q_rlT h1 (q_rlT h2 k)
  have mI : ∀ {Ψ}, ((v3 = (-1 : Int32) → ((v4 = (-1 : Int32) → b_M_tell_49 Ψ v1 v2 v3 v4 (mdOf h c w le n cr lc ltr len p m s lo ld st pri bd q pp ow d sy fe th td tdh)) ∧ (¬ v4 = (-1 : Int32) → b_M_tell_53 Ψ v1 v2 v3 v4 (mdOf h c w le n cr lc ltr len p m s lo ld st pri bd q pp ow d sy fe th td tdh)))) ∧ (¬ v3 = (-1 : Int32) → w_M_isLetter v3 (fun r29 _ => ((r29 = 0 → b_M_tell_53 Ψ v1 v2 v3 v4 (mdOf h c w le n cr lc ltr len p m s lo ld st pri bd q pp ow d sy fe th td tdh)) ∧ (¬ r29 = 0 → ((v4 = (-1 : Int32) → b_M_tell_49 Ψ v1 v2 v3 v4 (mdOf h c w le n cr lc ltr len p m s lo ld st pri bd q pp ow d sy fe th td tdh)) ∧ (¬ v4 = (-1 : Int32) → w_M_isLetter v4 (fun r43 _ => ((r43 = 0 → b_M_tell_53 Ψ v1 v2 v3 v4 (mdOf h c w le n cr lc ltr len p m s lo ld st pri bd q pp ow d sy fe th td tdh)) ∧ (¬ r43 = 0 → b_M_tell_49 Ψ v1 v2 v3 v4 (mdOf h c w le n cr lc ltr len p m s lo ld st pri bd q pp ow d sy fe th td tdh))))))))))) → w_M_tell (mdOf h c w le n cr lc ltr len p m s lo ld st pri bd q pp ow d sy fe th td tdh) v1 v2 v3 v4 Ψ := fun {Ψ} k => by
    unfold w_M_tell
    rw [e1, e2] at k ⊢
    exact q_ltT h1 (oo (q_ltT h2 (oo k)))
  by_cases q3 : v3 = -1
  · by_cases q4 : v4 = -1
    · exact good j1 j2 h1 h2 e1 e2 (fun _ => q4) (fun Φ Ξ k => cI (tt q3 (by rw [C17]; exact tt q4 k))) (fun Ψ k => mI (tt q3 (tt q4 k)))
    · refine bad (fun Φ Ξ k => cI (tt q3 (by
        rw [C17]
        refine ff q4 ?_
        rcases or_assoc.mpr (pk_ix v4 (n := 26) (by omega)) with h4 | ⟨j4, h4, e4⟩
        · exact q_rlF h4 k
        · rw [e4]; exact q_rlT h4 (tt q3 k)))) (fun Ψ k => mI (tt q3 (ff q4 k)))
  · rcases or_assoc.mpr (pk_ix v3 (n := 26) (by omega)) with h3 | ⟨j3, h3, e3⟩
    · exact bad (fun Φ Ξ k => cI (ff q3 (q_rlF h3 k))) (fun Ψ k => mI (ff q3 (q_ltF h3 (zz k))))
    · have cI3 : ∀ {Φ Ξ}, b_C_tell_17 Φ Ξ v1 v2 v3 v4 (cyOf h c w le n cr lc ltr len p m s lo ld st pri bd q pp ow d sy fe tr lids) → w_C_tell (cyOf h c w le n cr lc ltr len p m s lo ld st pri bd q pp ow d sy fe tr lids) v1 v2 v3 v4 Φ Ξ := fun {Φ Ξ} k => cI (ff q3 (by rw [e3] at k ⊢; exact q_rlT h3 k))
      have mI3 : ∀ {Ψ}, ((v4 = (-1 : Int32) → b_M_tell_49 Ψ v1 v2 v3 v4 (mdOf h c w le n cr lc ltr len p m s lo ld st pri bd q pp ow d sy fe th td tdh)) ∧ (¬ v4 = (-1 : Int32) → w_M_isLetter v4 (fun r43 _ => ((r43 = 0 → b_M_tell_53 Ψ v1 v2 v3 v4 (mdOf h c w le n cr lc ltr len p m s lo ld st pri bd q pp ow d sy fe th td tdh)) ∧ (¬ r43 = 0 → b_M_tell_49 Ψ v1 v2 v3 v4 (mdOf h c w le n cr lc ltr len p m s lo ld st pri bd q pp ow d sy fe th td tdh)))))) → w_M_tell (mdOf h c w le n cr lc ltr len p m s lo ld st pri bd q pp ow d sy fe th td tdh) v1 v2 v3 v4 Ψ := fun {Ψ} k => mI (ff q3 (by rw [e3] at k ⊢; exact q_ltT h3 (oo k)))
      by_cases q4 : v4 = -1
      · exact good j1 j2 h1 h2 e1 e2 (fun z => absurd z q3) (fun Φ Ξ k => cI3 (by rw [C17]; exact tt q4 k)) (fun Ψ k => mI3 (tt q4 k))
      · rcases or_assoc.mpr (pk_ix v4 (n := 26) (by omega)) with h4 | ⟨j4, h4, e4⟩
        · exact bad (fun Φ Ξ k => cI3 (by rw [C17]; exact ff q4 (q_rlF h4 k))) (fun Ψ k => mI3 (ff q4 (q_ltF h4 (zz k))))
        · exact good j1 j2 h1 h2 e1 e2 (fun z => absurd z q3) (fun Φ Ξ k => cI3 (by rw [C17]; refine ff q4 ?_; rw [e4] at k ⊢; exact q_rlT h4 (ff q3 k))) (fun Ψ k => mI3 (ff q4 (by rw [e4] at k ⊢; exact q_ltT h4 (oo k))))
end
