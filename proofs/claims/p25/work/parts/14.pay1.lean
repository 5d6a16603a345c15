def tops (h c : Nat → Nat) (le : AI) : Nat → Nat → List Int32 | _, 0 => [] | s, n + 1 => if h s = 0 then tops h c le (s + 1) n else le (top h c s) :: tops h c le (s + 1) n
def pre (f : Nat → Int32) : Nat → Nat → List Int32 → Bool | _, 0, _ => true | _, _ + 1, [] => false | k, n + 1, a :: L => decide (a = f k) && pre f (k + 1) n L
def anyS (f : Nat → Int32) (n : Nat) : List Int32 → Bool | [] => false | a :: L => pre f 0 n (a :: L) || anyS f n L
def wf (ltr : AI) (w : Nat) : Nat → Int32 := fun k => ltr (4 * w + k)
def payF (L : List Int32) (ltr : AI) (len : Nat → Nat) : Nat → Nat → AI → Int32 → AI × Int32
  | _, 0, p, s => (p, s)
  | i, n + 1, p, s => if p i = 0 ∧ anyS (wf ltr i) (len i) L = true then payF L ltr len (i + 1) n (upd p i 1) (s + 100 * nI (len i)) else payF L ltr len (i + 1) n p s
def wok (ltr : AI) (len : Nat → Nat) (m : Nat) : Prop := ∀ w, w < m → 2 ≤ len w ∧ len w ≤ 4 ∧ (∀ k, k < len w → ltr (4 * w + k) ≠ -1) ∧ ∀ k, len w ≤ k → k < 4 → ltr (4 * w + k) = -1
theorem pre_short {f : Nat → Int32} : ∀ (n k : Nat) (L : List Int32), L.length < n → pre f k n L = false
  | 0, _, _, h => by omega
  | n + 1, k, [], _ => rfl
  | n + 1, k, a :: L, h => by
    rw [pre, pre_short n (k + 1) L (by simp at h; omega), Bool.and_false]
theorem anyS_short {f : Nat → Int32} {n : Nat} : ∀ (L : List Int32), L.length < n → anyS f n L = false
  | [], _ => rfl
  | a :: L, h => by
    rw [anyS, pre_short n 0 (a :: L) h, anyS_short L (by simp at h; omega)]
    rfl
theorem anyS_drop {f : Nat → Int32} {n : Nat} {L : List Int32} {i : Nat} (h : i < L.length) : anyS f n (L.drop i) = (pre f 0 n (L.drop i) || anyS f n (L.drop (i + 1))) := by
  rw [List.drop_eq_getElem_cons h, anyS]
theorem tops_len {h c : Nat → Nat} {le : AI} : ∀ (n s : Nat), (tops h c le s n).length ≤ n
  | 0, _ => Nat.le_refl _
  | n + 1, s => by
    have := tops_len (h := h) (c := c) (le := le) n (s + 1)
    rw [tops]
    split
    · omega
    · simp; omega
def holdsL (lids : AI) (L : List Int32) : Prop := L.length ≤ 6 ∧ ∀ i (h : i < L.length), lids i = L[i]
theorem q_isf {ltr p lids : AI} {len : Nat → Nat} {m w fr : Nat} {s : Int32} {L : List Int32} {Φ : Int32 → WL → Prop} (hL : holdsL lids L) (hw : w < 8) (hl : len w ≤ 4) (hf : fr + len w ≤ L.length) : ∀ (n k : Nat), k + n = len w → Φ (b2i (pre (wf ltr w) k n (L.drop (fr + k)))) ((ltr, I len, p, nI m, s), lids) → it4 (b_W_isShownFrom_3 Φ) (n + 1) (nI fr) (nI w) (nI k) ((ltr, I len, p, nI m, s), lids) := by
  have hL6 := hL.1
  intro n
  induction n with
  | zero =>
    intro k e kk
    show b_W_isShownFrom_3 Φ (it4 (b_W_isShownFrom_3 Φ) 0) (nI fr) (nI w) (nI k) ((ltr, I len, p, nI m, s), lids)
    rw [b_W_isShownFrom_3]
    refine in_t hw (by omega) ?_
    rw [nI_clamp (by omega)]
    exact le_t (a := len w) (by omega) (by omega) ⟨Or.inr rfl, kk⟩
  | succ n ih =>
    intro k e kk
    show b_W_isShownFrom_3 Φ (it4 (b_W_isShownFrom_3 Φ) (n + 1)) (nI fr) (nI w) (nI k) ((ltr, I len, p, nI m, s), lids)
    rw [b_W_isShownFrom_3]
    have hd : fr + k < L.length := by omega
    have ed : L.drop (fr + k) = lids (fr + k) :: L.drop (fr + k + 1) := by rw [hL.2 _ hd]; exact List.drop_eq_getElem_cons hd
    rw [ed, pre] at kk
    have e1 : nI k + (1 : Int32) = nI (k + 1) := nI_1 k
    rw [nI_add, e1, l4, pk_mul, nI_add]
    refine in_t hw (by omega) ?_
    rw [nI_clamp (show w < 2 ^ 31 by omega)]
    refine le_f (a := len w) (by omega) (by omega) (in_t (by omega) (by omega) (in_t (by omega) (by omega) ?_))
    rw [nI_clamp (by omega), nI_clamp (by omega)]
    have ew : w * 4 + k = 4 * w + k := by omega
    rw [ew]
    refine ⟨fun q => ih (k + 1) (by omega) ?_, fun q => ⟨Or.inl rfl, ?_⟩⟩
    · have q : lids (fr + k) = wf ltr w k := q
      rw [decide_eq_true q, Bool.true_and] at kk
      exact kk
    · have q : ¬ lids (fr + k) = wf ltr w k := q
      rw [decide_eq_false q, Bool.false_and] at kk
      exact kk
theorem q_is {ltr p lids : AI} {len : Nat → Nat} {m w : Nat} {s : Int32} {L : List Int32} {Φ : Int32 → WL → Prop} (hL : holdsL lids L) (hw : w < 8) (hl : len w ≤ 4) (h2 : 0 < len w) (kk : Φ (b2i (anyS (wf ltr w) (len w) L)) ((ltr, I len, p, nI m, s), lids)) : w_W_isShown ((ltr, I len, p, nI m, s), lids) (nI w) (nI L.length) Φ := by
  have hL6 := hL.1
  unfold w_W_isShown
  refine in_t hw (by omega) (all_t ?_)
  rw [nI_clamp (show w < 2 ^ 31 by omega), if_neg (show ¬ (6 : Int32) < nI L.length from Int32.not_lt.mpr (nI_le (b := 6) (by omega) (by omega)))]
  show ∃ n, it4 (b_W_isShown_18 Φ) n (nI w) (nI L.length - nI (len w)) (0 : Int32) ((ltr, I len, p, nI m, s), lids)
  by_cases q : L.length < len w
  · refine ⟨1, ?_⟩
    show b_W_isShown_18 Φ (it4 (b_W_isShown_18 Φ) 0) (nI w) (nI L.length - nI (len w)) (0 : Int32) ((ltr, I len, p, nI m, s), lids)
    rw [b_W_isShown_18]
    rw [anyS_short L q] at kk
    exact ⟨fun _ => ⟨Or.inl rfl, kk⟩, fun z => absurd (pk_sneg (by omega) q) z⟩
  · rw [pk_sub (by omega)]
    have key : ∀ (n fr : Nat), fr + n = L.length - len w + 1 → Φ (b2i (anyS (wf ltr w) (len w) (L.drop fr))) ((ltr, I len, p, nI m, s), lids) → it4 (b_W_isShown_18 Φ) (n + 1) (nI w) (nI (L.length - len w)) (nI fr) ((ltr, I len, p, nI m, s), lids) := by
      intro n
      induction n with
      | zero =>
        intro fr e kk
        show b_W_isShown_18 Φ (it4 (b_W_isShown_18 Φ) 0) (nI w) (nI (L.length - len w)) (nI fr) ((ltr, I len, p, nI m, s), lids)
        rw [b_W_isShown_18]
        rw [anyS_short (L.drop fr) (by rw [List.length_drop]; omega)] at kk
        exact lt_t (by omega) (by omega) ⟨Or.inl rfl, kk⟩
      | succ n ih =>
        intro fr e kk
        show b_W_isShown_18 Φ (it4 (b_W_isShown_18 Φ) (n + 1)) (nI w) (nI (L.length - len w)) (nI fr) ((ltr, I len, p, nI m, s), lids)
        rw [b_W_isShown_18]
        have e1 : nI fr + (1 : Int32) = nI (fr + 1) := nI_1 fr
        rw [e1]
        refine lt_f (by omega) (by omega) ?_
        unfold w_W_isShownFrom
        refine ⟨len w + 1, q_isf hL hw hl (by omega) (len w) 0 (by omega) (b2i_c (fun z => ih (fr + 1) (by omega) ?_) (fun z => ⟨Or.inr rfl, ?_⟩))⟩
        · rw [anyS_drop (by omega), show pre (wf ltr w) 0 (len w) (L.drop fr) = false from z, Bool.false_or] at kk
          exact kk
        · rw [anyS_drop (by omega), show pre (wf ltr w) 0 (len w) (L.drop fr) = true from z, Bool.true_or] at kk
          exact kk
    exact ⟨L.length - len w + 1 + 1, key _ 0 (by omega) kk⟩
theorem q_ps {ltr lids : AI} {len : Nat → Nat} {m : Nat} {L : List Int32} {Φ : WL → Prop} (hL : holdsL lids L) (hm : m ≤ 8) (hW : wok ltr len m) : ∀ (n i : Nat) (p : AI) (s : Int32), i + n = m → Φ ((ltr, I len, (payF L ltr len i n p s).1, nI m, (payF L ltr len i n p s).2), lids) → it3 (b_W_payShown_2 Φ) (n + 1) (nI L.length) (nI i) ((ltr, I len, p, nI m, s), lids) := by
  intro n
  induction n with
  | zero =>
    intro i p s e kk
    show b_W_payShown_2 Φ (it3 (b_W_payShown_2 Φ) 0) (nI L.length) (nI i) ((ltr, I len, p, nI m, s), lids)
    rw [b_W_payShown_2]
    exact le_t (a := m) (by omega) (by omega) kk
  | succ n ih =>
    intro i p s e kk
    show b_W_payShown_2 Φ (it3 (b_W_payShown_2 Φ) (n + 1)) (nI L.length) (nI i) ((ltr, I len, p, nI m, s), lids)
    rw [b_W_payShown_2]
    unfold b_W_payShown_54
    have e1 : nI i + (1 : Int32) = nI (i + 1) := nI_1 i
    rw [e1, payF] at *
    obtain ⟨w1, w2, -, -⟩ := hW i (by omega)
    refine le_f (a := m) (by omega) (by omega) (in_t (by omega) (by omega) ?_)
    rw [nI_clamp (show i < 2 ^ 31 by omega)]
    refine ⟨fun q => q_is hL (by omega) w2 (by omega) (b2i_c (fun z => ?_) (fun z => in_t (by omega) (by omega) (all_t (in_t (by omega) (by omega) (all_t (all_t ?_)))))), fun q => ?_⟩
    · rw [if_neg (by rw [z]; exact fun y => absurd y.2 (by decide))] at kk
      exact ih (i + 1) p s (by omega) kk
    · rw [if_pos ⟨q, z⟩] at kk
      exact ih (i + 1) _ _ (by omega) kk
    · rw [if_neg (fun y => q y.1)] at kk
      exact ih (i + 1) p s (by omega) kk
theorem holds_add {lids : AI} {L : List Int32} {v : Int32} (h : holdsL lids L) (hl : L.length < 6) : holdsL (upd lids L.length v) (L ++ [v]) := by
  refine ⟨by simp; omega, fun i hi => ?_⟩
  simp at hi
  by_cases q : i < L.length
  · rw [List.getElem_append_left q]
    show (if i = L.length then v else lids i) = _
    rw [if_neg (by omega)]
    exact h.2 i q
  · have q2 : i = L.length := by omega
    subst q2
    simp [upd]
def lidF (h c : Nat → Nat) (le : AI) : Nat → Nat → Nat → AI → AI | _, 0, _, l => l | s, n + 1, k, l => if h s = 0 then lidF h c le (s + 1) n k l else lidF h c le (s + 1) n (k + 1) (upd l k (le (top h c s)))
theorem q_CpL {h c : Nat → Nat} {w : AI} {tr : SK} {ltr p le : AI} {len : Nat → Nat} {m : Nat} {s : Int32} {hl : HL} {cc cr lc dy sy fe : Int32} {Φ : CY → Prop} (hk : ok h c) (hm : m ≤ 8) (hW : wok ltr len m) (L : List Int32) (hLe : L = tops h c le 0 6) (LF : AI) (kk : Φ ((I h, I c, w), tr, (ltr, I len, (payF L ltr len 0 m p s).1, nI m, (payF L ltr len 0 m p s).2), hl, le, LF, cc, cr, lc, dy, sy, fe)) :
    ∀ (n st : Nat) (L0 : List Int32) (lids : AI), st + n = 6 → L0.length ≤ st → holdsL lids L0 → L0 ++ tops h c le st n = L → lidF h c le st n L0.length lids = LF → it3 (b_C_payWords_4 Φ) (n + 1) (nI L0.length) (nI st) ((I h, I c, w), tr, (ltr, I len, p, nI m, s), hl, le, lids, cc, cr, lc, dy, sy, fe) := by
  intro n
  induction n with
  | zero =>
    intro st L0 lids e hl0 hL0 eL eF
    show b_C_payWords_4 Φ (it3 (b_C_payWords_4 Φ) 0) (nI L0.length) (nI st) ((I h, I c, w), tr, (ltr, I len, p, nI m, s), hl, le, lids, cc, cr, lc, dy, sy, fe)
    rw [b_C_payWords_4]
    refine le_t (a := 6) (by omega) (by omega) ?_
    unfold w_W_payShown
    have eL : L0 = L := by rw [← eL]; exact (List.append_nil L0).symm
    subst eL
    have eF : lids = LF := eF
    subst eF
    exact ⟨m + 1, q_ps hL0 hm hW m 0 p s (by omega) kk⟩
  | succ n ih =>
    intro st L0 lids e hl0 hL0 eL eF
    show b_C_payWords_4 Φ (it3 (b_C_payWords_4 Φ) (n + 1)) (nI L0.length) (nI st) ((I h, I c, w), tr, (ltr, I len, p, nI m, s), hl, le, lids, cc, cr, lc, dy, sy, fe)
    rw [b_C_payWords_4]
    unfold b_C_payWords_50
    have e1 : nI st + (1 : Int32) = nI (st + 1) := nI_1 st
    rw [e1]
    rw [tops] at eL
    rw [lidF] at eF
    have h5 := hk.1 st (by omega)
    refine le_f (a := 6) (by omega) (by omega) (q_topOf hk (by omega) (fun z => ⟨fun _ => ?_, fun y => absurd m1_lt0 y⟩) (fun z => ?_))
    · rw [if_pos z] at eL eF
      exact ih (st + 1) L0 lids (by omega) (by omega) hL0 eL eF
    · rw [if_neg (by omega)] at eL eF
      have ht := top_lt hk (show st < 6 by omega) z
      refine lt_f (b := 0) (by omega) (by omega) (le_f (a := 30) (by omega) (by omega) (le_f (a := 6) (by omega) (by omega) (in_t ht (by omega) (all_t (in_t (by omega) (by omega) (all_t ?_))))))
      rw [nI_clamp (by omega), nI_clamp (by omega)]
      have e2 : nI L0.length + (1 : Int32) = nI (L0 ++ [le (top h c st)]).length := by rw [nI_1, List.length_append]; rfl
      rw [e2]
      exact ih (st + 1) (L0 ++ [le (top h c st)]) _ (by omega) (by simp; omega) (holds_add hL0 (by omega)) (by rw [← eL]; simp) (by rw [← eF, List.length_append]; rfl)
theorem q_CpayWords {h c : Nat → Nat} {w : AI} {tr : SK} {ltr p le lids : AI} {len : Nat → Nat} {m : Nat} {s : Int32} {hl : HL} {cc cr lc dy sy fe : Int32} {Φ : CY → Prop} (hk : ok h c) (hm : m ≤ 8) (hW : wok ltr len m) (kk : Φ ((I h, I c, w), tr, (ltr, I len, (payF (tops h c le 0 6) ltr len 0 m p s).1, nI m, (payF (tops h c le 0 6) ltr len 0 m p s).2), hl, le, lidF h c le 0 6 0 lids, cc, cr, lc, dy, sy, fe)) : w_C_payWords ((I h, I c, w), tr, (ltr, I len, p, nI m, s), hl, le, lids, cc, cr, lc, dy, sy, fe) Φ := by
  unfold w_C_payWords
  exact ⟨7, q_CpL hk hm hW _ rfl _ kk 6 0 [] lids rfl (Nat.le_refl 0) ⟨Nat.zero_le _, fun i hi => absurd hi (by simp)⟩ rfl rfl⟩
