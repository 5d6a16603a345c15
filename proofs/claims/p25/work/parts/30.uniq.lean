/-- each crate lies in one place -/
def uq (h c : Nat → Nat) : Prop := ∀ i j i' j', i < 6 → j < h i → i' < 6 → j' < h i' → c (5 * i + j) = c (5 * i' + j') → i = i' ∧ j = j'
def nin (h c : Nat → Nat) (x : Nat) : Prop := ∀ i j, i < 6 → j < h i → c (5 * i + j) ≠ x
theorem uq_eqv {h c h' c' : Nat → Nat} (e : eqv h c h' c') (h5 : ∀ i, i < 6 → h' i ≤ 5) (k : uq h' c') : uq h c := fun i j i' j' hi hj hi' hj' q => by
  rw [e.1 i hi] at hj
  rw [e.1 i' hi'] at hj'
  have a := h5 i hi
  have b := h5 i' hi'
  rw [e.2 _ (by omega), e.2 _ (by omega)] at q
  exact k i j i' j' hi hj hi' hj' q
theorem nin_eqv {h c h' c' : Nat → Nat} {x : Nat} (e : eqv h c h' c') (h5 : ∀ i, i < 6 → h' i ≤ 5) (k : nin h' c' x) : nin h c x := fun i j hi hj => by
  rw [e.1 i hi] at hj
  have a := h5 i hi
  rw [e.2 _ (by omega)]
  exact k i j hi hj
theorem up_le {h : Nat → Nat} {i k : Nat} : up h i (h i - 1) k ≤ h k := by
  by_cases q : k = i
  · subst q; rw [up_s]; omega
  · rw [up_n q]; exact Nat.le_refl _
theorem uq_down {h c : Nat → Nat} {i : Nat} (k : uq h c) : uq (up h i (h i - 1)) c := fun a b a' b' ha hb ha' hb' q => k a b a' b' ha (Nat.lt_of_lt_of_le hb up_le) ha' (Nat.lt_of_lt_of_le hb' up_le) q
theorem nin_down {h c : Nat → Nat} {i x : Nat} (k : nin h c x) : nin (up h i (h i - 1)) c x := fun a b ha hb => k a b ha (Nat.lt_of_lt_of_le hb up_le)
theorem nin_top {h c : Nat → Nat} {i : Nat} (k : uq h c) (hi : i < 6) (h0 : 0 < h i) : nin (up h i (h i - 1)) c (top h c i) := fun a b ha hb q => by
  obtain ⟨e1, e2⟩ := k a b i (h i - 1) ha (Nat.lt_of_lt_of_le hb up_le) hi (by omega) q
  subst e1
  rw [up_s] at hb
  omega
theorem cell_put {h c : Nat → Nat} {b v i j : Nat} (h5 : ∀ i, i < 6 → h i ≤ 5) (hb : b < 6) (h4 : h b < 5) (hi : i < 6) (hj : j < up h b (h b + 1) i) : (i = b ∧ j = h b ∧ up c (5 * b + h b) v (5 * i + j) = v) ∨ (j < h i ∧ up c (5 * b + h b) v (5 * i + j) = c (5 * i + j)) := by
  by_cases q : i = b
  · subst q
    rw [up_s] at hj
    by_cases z : j = h i
    · subst z; exact Or.inl ⟨rfl, rfl, up_s⟩
    · exact Or.inr ⟨by omega, up_n (by omega)⟩
  · rw [up_n q] at hj
    have h1 := h5 i hi
    exact Or.inr ⟨hj, up_n (by omega)⟩
theorem nin_put {h c : Nat → Nat} {b v x : Nat} (h5 : ∀ i, i < 6 → h i ≤ 5) (k : nin h c x) (hb : b < 6) (h4 : h b < 5) (hv : v ≠ x) : nin (up h b (h b + 1)) (up c (5 * b + h b) v) x := fun i j hi hj => by
  rcases cell_put (c := c) (v := v) h5 hb h4 hi hj with ⟨-, -, e⟩ | ⟨e1, e2⟩
  · rw [e]; exact hv
  · rw [e2]; exact k i j hi e1
theorem uq_put {h c : Nat → Nat} {b v : Nat} (h5 : ∀ i, i < 6 → h i ≤ 5) (k : uq h c) (kn : nin h c v) (hb : b < 6) (h4 : h b < 5) : uq (up h b (h b + 1)) (up c (5 * b + h b) v) := fun i j i' j' hi hj hi' hj' q => by
  rcases cell_put (c := c) (v := v) h5 hb h4 hi hj with ⟨p1, p2, e⟩ | ⟨p1, e⟩
  · rcases cell_put (c := c) (v := v) h5 hb h4 hi' hj' with ⟨r1, r2, e'⟩ | ⟨r1, e'⟩
    · exact ⟨by omega, by omega⟩
    · rw [e, e'] at q; exact absurd q.symm (kn i' j' hi' r1)
  · rcases cell_put (c := c) (v := v) h5 hb h4 hi' hj' with ⟨r1, r2, e'⟩ | ⟨r1, e'⟩
    · rw [e, e'] at q; exact absurd q (kn i j hi p1)
    · rw [e, e'] at q; exact k i j i' j' hi p1 hi' r1 q
theorem findJ_no {c : Nat → Nat} {x : Int32} {i : Nat} : ∀ (m j : Nat), findJ c x i j m = false → ∀ k, j ≤ k → k < j + m → nI (c (5 * i + k)) ≠ x
  | 0, j, _, k, h1, h2 => by omega
  | m + 1, j, e, k, h1, h2 => by
    rw [findJ, Bool.or_eq_false_iff] at e
    by_cases q : k = j
    · subst q; exact of_decide_eq_false e.1
    · exact findJ_no m (j + 1) e.2 k (by omega) (by omega)
theorem findI_no {h c : Nat → Nat} {x : Int32} : ∀ (m i : Nat), findI h c x i m = none → ∀ k, i ≤ k → k < i + m → findJ c x k 0 (h k) = false
  | 0, i, _, k, h1, h2 => by omega
  | m + 1, i, e, k, h1, h2 => by
    rw [findI] at e
    by_cases z : findJ c x i 0 (h i) = true
    · rw [if_pos z] at e; cases e
    · rw [if_neg z] at e
      by_cases q : k = i
      · subst q; exact Bool.eq_false_iff.mpr z
      · exact findI_no m (i + 1) e k (by omega) (by omega)
theorem find_none {h c : Nat → Nat} {x : Int32} (e : find h c x = none) : ∀ i j, i < 6 → j < h i → nI (c (5 * i + j)) ≠ x := fun i j hi hj => findJ_no (h i) 0 (findI_no 6 0 e i (Nat.zero_le _) (by omega)) j (Nat.zero_le _) (by omega)
theorem find_nin {h c : Nat → Nat} {x : Nat} (k : ok h c) (hx : x < 30) (kn : nin h c x) : find h c (nI x) = none := by
  cases e : find h c (nI x) with
  | none => rfl
  | some i =>
    obtain ⟨h1, j, h2, h3⟩ := find_yes e
    have := k.2 i j h1 h2
    exact absurd (nI_inj (by omega) (by omega) h3) (kn i j h1 h2)
theorem find_at {h c : Nat → Nat} {i j : Nat} (k : ok h c) (u : uq h c) (hi : i < 6) (hj : j < h i) : find h c (nI (c (5 * i + j))) = some i := by
  cases e : find h c (nI (c (5 * i + j))) with
  | none => exact absurd rfl (find_none e i j hi hj)
  | some i' =>
    obtain ⟨h1, j', h2, h3⟩ := find_yes e
    have a := k.2 i j hi hj
    have b := k.2 i' j' h1 h2
    obtain ⟨e1, -⟩ := u i' j' i j h1 h2 hi hj (nI_inj (by omega) (by omega) h3)
    rw [e1]
theorem digF_more {w : AI} {m home y : Nat} (hm : m ≤ 5) (hh : home < 6) (hy : y < 30) : ∀ (n : Nat) (h c : Nat → Nat) (t j : Nat), ok h c → uq h c → j < h home → nI (c (5 * home + j)) = nI y → ∀ r h1 c1, digF w m (nI y) home n h c t = some (r, h1, c1) → uq h1 c1 ∧ nin h1 c1 y ∧ r + j + 1 = t + h home
  | 0, h, c, t, j, _, _, _, _, r, h1, c1, e => by cases e
  | n + 1, h, c, t, j, k, u, hj, hx, r, h1, c1, e => by
    have hl := top_lt k hh (by omega)
    have h5 := k.1 home hh
    rw [digF] at e
    by_cases q : nI (top h c home) = nI y
    · rw [if_pos q] at e
      cases e
      have q2 : top h c home = y := nI_inj (by omega) (by omega) q
      have a := k.2 home j hh hj
      have q3 : c (5 * home + j) = y := nI_inj (by omega) (by omega) hx
      obtain ⟨-, e2⟩ := u home j home (h home - 1) hh hj hh (by omega) (q3.trans q2.symm)
      refine ⟨uq_down u, ?_, by omega⟩
      rw [← q2]
      exact nin_top u hh (by omega)
    · rw [if_neg q] at e
      cases hb : target (up h home (h home - 1)) c w m (w (top h c home)) home with
      | none => rw [hb] at e; cases e
      | some b =>
        rw [hb] at e
        obtain ⟨b1, b2, b3⟩ := target_yes hb
        have b4 := canB_lt b3
        rw [up_n b2] at b4
        have ho := ok_put (ok_down (i := home) k) b1 (by rw [up_n b2]; omega) hl
        rw [up_n b2] at ho
        have hu := uq_put (ok_down (i := home) k).1 (uq_down (i := home) u) (nin_top u hh (by omega)) b1 (by rw [up_n b2]; omega)
        rw [up_n b2] at hu
        obtain ⟨k1, k2⟩ := bot_keep (v := top h c home) hh b1 b2 (by omega) h5 hj hx q
        obtain ⟨g1, g2, g3⟩ := digF_more hm hh hy n _ _ (t + 1) j ho hu k1 k2 r h1 c1 e
        refine ⟨g1, g2, ?_⟩
        rw [up_n (Ne.symm b2), up_s] at g3
        omega
theorem dig_more {h c : Nat → Nat} {w : AI} {m y : Nat} (hm : m ≤ 5) (hy : y < 30) (k : ok h c) (u : uq h c) {r : Nat} {h1 c1 : Nat → Nat} (e : dig h c w m (nI y) = some (r, h1, c1)) : uq h1 c1 ∧ nin h1 c1 y ∧ ∀ i j, i < 6 → j < h i → c (5 * i + j) = y → r + j = h i := by
  unfold dig at e
  cases hf : find h c (nI y) with
  | none => rw [hf] at e; cases e
  | some home =>
    rw [hf] at e
    obtain ⟨g1, j, g2, g3⟩ := find_yes hf
    obtain ⟨a1, a2, a3⟩ := digF_more hm g1 hy 5 h c 1 j k u g2 g3 r h1 c1 e
    refine ⟨a1, a2, fun i j' hi hj' e => ?_⟩
    have b := k.2 home j g1 g2
    obtain ⟨z1, z2⟩ := u home j i j' g1 g2 hi hj' ((nI_inj (by omega) (by omega) g3).trans e.symm)
    subst z1 z2
    omega
theorem payF_s {L : List Int32} {ltr : AI} {len : Nat → Nat} {m : Nat} (hW : wok ltr len m) : ∀ (n i : Nat) (p : AI) (B : Nat), i + n = m → ∃ B', B' ≤ B + 4 * n ∧ (payF L ltr len i n p (nI (100 * B))).2 = nI (100 * B')
  | 0, _, _, B, _ => ⟨B, by omega, rfl⟩
  | n + 1, i, p, B, e => by
    rw [payF]
    obtain ⟨-, h4, -, -⟩ := hW i (by omega)
    by_cases q : p i = 0 ∧ anyS (wf ltr i) (len i) L = true
    · rw [if_pos q]
      have e1 : nI (100 * B) + 100 * nI (len i) = nI (100 * (B + len i)) := by rw [l100, pk_mul, nI_add, Nat.mul_add]
      rw [e1]
      obtain ⟨B', h1, h2⟩ := payF_s hW n (i + 1) (upd p i 1) (B + len i) (by omega)
      exact ⟨B', by omega, h2⟩
    · rw [if_neg q]
      obtain ⟨B', h1, h2⟩ := payF_s hW n (i + 1) p B (by omega)
      exact ⟨B', by omega, h2⟩
def More (h c : Nat → Nat) (cr s : Int32) (pri : AI) (pp ow fe : Int32) (K : Nat) : Prop :=
  uq h c ∧ (∀ k, k < 30 → cr = nI k → nin h c k) ∧ (∃ B, B ≤ 32 * K ∧ s = nI (100 * B)) ∧ (∃ P, P ≤ 1000 * K ∧ pp = nI P) ∧ (∃ O, O ≤ 100000 * K ∧ ow = nI O) ∧ (∃ F, F ≤ 6000 * K ∧ fe = nI F) ∧ ∀ i, i < 20 → ∃ x, x ≤ 1000 ∧ pri i = nI x
theorem More.le {h c : Nat → Nat} {cr s : Int32} {pri : AI} {pp ow fe : Int32} {K K' : Nat} (mm : More h c cr s pri pp ow fe K) (hK : K ≤ K') : More h c cr s pri pp ow fe K' := by
  obtain ⟨a, b, ⟨B, c1, c2⟩, ⟨P, d1, d2⟩, ⟨O, e1, e2⟩, ⟨F, f1, f2⟩, g⟩ := mm
  exact ⟨a, b, ⟨B, by omega, c2⟩, ⟨P, by omega, d2⟩, ⟨O, by omega, e2⟩, ⟨F, by omega, f2⟩, g⟩
/-- what stands the same in the two objects: all but the trial's stacks and the lids; after K calls -/
def Iv (X : SK → AI → CY) (K : Nat) : Prop := ∃ (h c : Nat → Nat) (w le : AI) (n : Nat) (cr lc : Int32) (ltr : AI) (len : Nat → Nat) (p : AI) (m : Nat) (s : Int32) (lo ld : AI) (st : Nat → Nat) (pri : AI) (bd : Nat → Nat) (q : Nat) (pp ow : Int32) (d : Nat) (sy fe : Int32), Good h c n cr ltr len p m st pri bd q pp ow d sy ∧ More h c cr s pri pp ow fe K ∧ X = fun tr lids => (cyOf h c w le n cr lc ltr len p m s lo ld st pri bd q pp ow d sy fe tr lids)
theorem Iv.le {X : SK → AI → CY} {K K' : Nat} (I9 : Iv X K) (hK : K ≤ K') : Iv X K' := by
  obtain ⟨h, c, w, le, n, cr, lc, ltr, len, p, m, s, lo, ld, st, pri, bd, q, pp, ow, d, sy, fe, g, mm, e⟩ := I9
  exact ⟨h, c, w, le, n, cr, lc, ltr, len, p, m, s, lo, ld, st, pri, bd, q, pp, ow, d, sy, fe, g, mm.le hK, e⟩
theorem Iv.of {h : Nat → Nat} {c : Nat → Nat} {w : AI} {le : AI} {n : Nat} {cr : Int32} {lc : Int32} {ltr : AI} {len : Nat → Nat} {p : AI} {m : Nat} {s : Int32} {lo : AI} {ld : AI} {st : Nat → Nat} {pri : AI} {bd : Nat → Nat} {q : Nat} {pp : Int32} {ow : Int32} {d : Nat} {sy : Int32} {fe : Int32} {K : Nat} (g : Good h c n cr ltr len p m st pri bd q pp ow d sy) (mm : More h c cr s pri pp ow fe K) : Iv (fun tr lids => (cyOf h c w le n cr lc ltr len p m s lo ld st pri bd q pp ow d sy fe tr lids)) K := ⟨h, c, w, le, n, cr, lc, ltr, len, p, m, s, lo, ld, st, pri, bd, q, pp, ow, d, sy, fe, g, mm, rfl⟩
/-- a call from X: it returns r above -99998, in X' whatever the trial and the lids were, or it throws and X stays -/
def RS (E : List String) (X : SK → AI → CY) (wc : CY → (Int32 → CY → Prop) → (String → CY → Prop) → Prop) (K : Nat) : Prop :=
  (∃ (r : Int32) (X' : SK → AI → CY), Iv X' K ∧ (-99998 : Int32) < r ∧ ∀ tr lids Φ Ξ, (∀ t l, Φ r (X' t l)) → wc (X tr lids) Φ Ξ) ∨ ∃ e, e ∈ E ∧ ∀ tr lids Φ Ξ, (∀ t l, Ξ e (X t l)) → wc (X tr lids) Φ Ξ
theorem RS.ret {E : List String} {X : SK → AI → CY} {wc : CY → (Int32 → CY → Prop) → (String → CY → Prop) → Prop} {K : Nat} (r : Int32) (X' : SK → AI → CY) (hI : Iv X' K) (hr : (-99998 : Int32) < r) (k : ∀ tr lids Φ Ξ, (∀ t l, Φ r (X' t l)) → wc (X tr lids) Φ Ξ) : RS E X wc K := Or.inl ⟨r, X', hI, hr, k⟩
theorem RS.thr {E : List String} {X : SK → AI → CY} {wc : CY → (Int32 → CY → Prop) → (String → CY → Prop) → Prop} {K : Nat} (e : String) (he : e ∈ E) (k : ∀ tr lids Φ Ξ, (∀ t l, Ξ e (X t l)) → wc (X tr lids) Φ Ξ) : RS E X wc K := Or.inr ⟨e, he, k⟩
theorem r_ok {n : Nat} (h : n < 2 ^ 31) : (-99998 : Int32) < nI n := Int32.lt_iff_toInt_lt.mpr (by rw [nI_toInt h, show (-99998 : Int32).toInt = -99998 by decide]; omega)
theorem More.pay {h c : Nat → Nat} {cr s : Int32} {pri : AI} {pp ow fe : Int32} {K m : Nat} {ltr : AI} {len : Nat → Nat} {L : List Int32} {p : AI} (hW : wok ltr len m) (hm : m ≤ 8) (mm : More h c cr s pri pp ow fe K) : More h c cr (payF L ltr len 0 m p s).2 pri pp ow fe (K + 1) := by
  obtain ⟨a, b, ⟨B, c1, c2⟩, ⟨P, d1, d2⟩, ⟨O, e1, e2⟩, ⟨F, f1, f2⟩, g⟩ := mm
  subst c2
  obtain ⟨B', h1, h2⟩ := payF_s (L := L) hW m 0 p B (by omega)
  exact ⟨a, b, ⟨B', by omega, h2⟩, ⟨P, by omega, d2⟩, ⟨O, by omega, e2⟩, ⟨F, by omega, f2⟩, g⟩
