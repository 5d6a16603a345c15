theorem q_ordL {s9 : Nat} (hs : s9 < 5) {Φ : Int32 → Unit → Prop} : ∀ (n p x : Nat), x + n = s9 + 1 → Φ (nI (p * fct x n)) () → it3 (b_C_ordersOf_4 Φ) (n + 1) (nI s9) (nI p) (nI x)
  | 0, p, x, e, k => by
    show b_C_ordersOf_4 Φ (it3 (b_C_ordersOf_4 Φ) 0) (nI s9) (nI p) (nI x)
    rw [b_C_ordersOf_4]
    rw [fct, Nat.mul_one] at k
    exact lt_t (a := s9) (b := x) (by omega) (by omega) k
  | n + 1, p, x, e, k => by
    show b_C_ordersOf_4 Φ (it3 (b_C_ordersOf_4 Φ) (n + 1)) (nI s9) (nI p) (nI x)
    rw [b_C_ordersOf_4]
    refine lt_f (a := s9) (b := x) (by omega) (by omega) ?_
    rw [pk_mul, nI_1]
    rw [fct, ← Nat.mul_assoc] at k
    exact q_ordL hs n _ _ (by omega) k
theorem q_ordersOf {s9 : Nat} (h0 : 0 < s9) (hs : s9 < 5) {Φ : Int32 → Unit → Prop} (k : Φ (nI (fct 2 (s9 - 1))) ()) : w_C_ordersOf (nI s9) Φ := by
  unfold w_C_ordersOf
  exact ⟨s9 - 1 + 1, q_ordL hs (s9 - 1) 1 2 (by omega) (by rw [Nat.one_mul]; exact k)⟩
def oval (t : Nat) : Option Nat → Int32 | none => -1 | some r => nI (t + r)
section
variable {h : Nat → Nat} {c : Nat → Nat} {w : AI} {le : AI} {n : Nat} {cr : Int32} {lc : Int32} {ltr : AI} {len : Nat → Nat} {p : AI} {m : Nat} {s : Int32} {lo : AI} {ld : AI} {st : Nat → Nat} {pri : AI} {bd : Nat → Nat} {q : Nat} {pp : Int32} {ow : Int32} {d : Nat} {sy : Int32} {fe : Int32} {lids : AI} {th : Int32}
theorem q_lio (hsy : mo sy ≤ 5) {Φ : Int32 → CY → Prop} : ∀ (k A o t : Nat) (ta tb : Nat → Nat) (tw : AI), A < 2 ^ 30 → (memF A.testBit 0 30).length = k → k < 5 → o < 2 ^ 30 → ok ta tb → (∀ u : SK, Φ (oval t (digs tw (mo sy) (cPerm k (memF A.testBit 0 30) o) ta tb)) (cyOf h c w le n cr lc ltr len p m s lo ld st pri bd q pp ow d sy fe u lids)) → it5 (b_C_liftsInOrder_25 Φ) (k + 1) (nI A) (nI o) (nI t) (nI k) (cyOf h c w le n cr lc ltr len p m s lo ld st pri bd q pp ow d sy fe (I ta, I tb, tw) lids) := by
  intro k
  induction k with
  | zero =>
    intro A o t ta tb tw hA hL h5 ho hk kk
    show b_C_liftsInOrder_25 Φ (it5 (b_C_liftsInOrder_25 Φ) 0) (nI A) (nI o) (nI t) (nI 0) (cyOf h c w le n cr lc ltr len p m s lo ld st pri bd q pp ow d sy fe (I ta, I tb, tw) lids)
    rw [b_C_liftsInOrder_25]
    exact le_t (a := 0) (b := 0) (by omega) (by omega) (kk _)
  | succ k ih =>
    intro A o t ta tb tw hA hL h5 ho hk kk
    show b_C_liftsInOrder_25 Φ (it5 (b_C_liftsInOrder_25 Φ) (k + 1)) (nI A) (nI o) (nI t) (nI (k + 1)) (cyOf h c w le n cr lc ltr len p m s lo ld st pri bd q pp ow d sy fe (I ta, I tb, tw) lids)
    rw [b_C_liftsInOrder_25]
    rw [pk_rem (by omega) (by omega) (by omega), pk_div (by omega) (by omega) (by omega), pk_m1]
    have hm : o % (k + 1) < k + 1 := Nat.mod_lt _ (by omega)
    have hi : o % (k + 1) < (memF A.testBit 0 30).length := by omega
    have hdv : o / (k + 1) ≤ o := Nat.div_le_self o (k + 1)
    obtain ⟨a, ha⟩ : ∃ a, (memF A.testBit 0 30)[o % (k + 1)]? = some a := ⟨_, List.getElem?_eq_getElem hi⟩
    have ha30 : a < 30 := by
      have := (memF_mem 30 0 a).mp (List.mem_of_getElem? ha)
      omega
    have hne : ¬ nI (k + 1) = (0 : Int32) := fun z => by have := nI_inj (b := 0) (by omega) (by omega) z; omega
    refine le_f (b := 0) (by omega) (by omega) ⟨hne, q_memberOf (by omega) ?_⟩
    rw [pk_tn (by omega), ha, show o2i (some a) = nI a from rfl]
    rw [cPerm, show (memF A.testBit 0 30).getD (o % (k + 1)) 0 = a by rw [List.getD_eq_getElem?_getD, ha]; rfl, digs] at kk
    refine q_Cmost (q_digOut hk hsy (fun e u _ => m1_t ?_) (fun r h' c' e => m1_f ?_ (all_t ⟨hne, ?_⟩)))
    · have e : dig ta tb tw (mo sy) (nI a) = none := e
      rw [e] at kk
      exact kk u
    · have e : dig ta tb tw (mo sy) (nI a) = some (r, h', c') := e
      have := (dig_bd hsy hk (ok_bd hk) e).2
      omega
    · have e : dig ta tb tw (mo sy) (nI a) = some (r, h', c') := e
      obtain ⟨W, hW, e2, e3⟩ := delBit hA ha30
      have e4 : memF W.testBit 0 30 = (memF A.testBit 0 30).eraseIdx (o % (k + 1)) := by
        rw [← memF_del 30 0 _ ha]
        exact memF_congr 30 0 (fun j _ _ => e3 j)
      rw [e2, nI_add]
      refine ih W (o / (k + 1)) (t + r) h' c' tw hW (by rw [e4, List.length_eraseIdx_of_lt hi]; omega) (by omega) (by omega) (dig_ok hsy hk e) (fun u => ?_)
      rw [e4]
      rw [e] at kk
      have kk := kk u
      have e5 : (Option.bind (some (r, h', c')) fun r9 => (digs tw (mo sy) (cPerm k ((memF A.testBit 0 30).eraseIdx (o % (k + 1))) (o / (k + 1))) r9.2.1 r9.2.2).map (r9.1 + ·)) = (digs tw (mo sy) (cPerm k ((memF A.testBit 0 30).eraseIdx (o % (k + 1))) (o / (k + 1))) h' c').map (r + ·) := rfl
      rw [e5] at kk
      cases hd : digs tw (mo sy) (cPerm k ((memF A.testBit 0 30).eraseIdx (o % (k + 1))) (o / (k + 1))) h' c' with
      | none => rw [hd] at kk; exact kk
      | some r2 =>
        rw [hd] at kk
        show Φ (nI (t + r + r2)) _
        rw [Nat.add_assoc]
        exact kk
theorem q_lio2 (g : Good h c n cr ltr len p m st pri bd q pp ow d sy) {V o : Nat} {ta tb : Nat → Nat} {tw : AI} (hV : V < 2 ^ 30) (h5 : (memF V.testBit 0 30).length < 5) (ho : o < 2 ^ 30) {Φ : Int32 → CY → Prop} (kk : ∀ u : SK, Φ (o2i (digs w (mo sy) (cPerm (memF V.testBit 0 30).length (memF V.testBit 0 30) o) h c)) (cyOf h c w le n cr lc ltr len p m s lo ld st pri bd q pp ow d sy fe u lids)) : w_C_liftsInOrder (cyOf h c w le n cr lc ltr len p m s lo ld st pri bd q pp ow d sy fe (I ta, I tb, tw) lids) (nI V) (nI o) Φ := by
  unfold w_C_liftsInOrder
  refine q_copyFrom ?_
  rw [mixA_I, mixA_I]
  refine q_bitCount ?_
  rw [pk_tn (by omega), cnt_30 hV, ← memF_len0]
  have hmo := mo_le sy
  refine ⟨(memF V.testBit 0 30).length + 1, q_lio hmo _ V o 0 (mix 6 h ta) (mix 30 c tb) (mixA 30 w tw) hV rfl h5 ho (ok_eqv eqv_mix g.ok) (fun u => ?_)⟩
  rw [digs_eqv (w := mixA 30 w tw) (w' := w) (fun k hk => if_pos hk) hmo _ _ _ _ _ eqv_mix g.ok]
  have kk := kk u
  cases hd : digs w (mo sy) (cPerm (memF V.testBit 0 30).length (memF V.testBit 0 30) o) h c with
  | none => rw [hd] at kk; exact kk
  | some r => rw [hd] at kk; show Φ (nI (0 + r)) _; rw [Nat.zero_add]; exact kk
theorem q_cfl (g : Good h c n cr ltr len p m st pri bd q pp ow d sy) {V S : Nat} (hV : V < 2 ^ 30) (h5 : (memF V.testBit 0 30).length < 5) (hS : S < 2 ^ 30) {Φ : Int32 → CY → Prop} {Ξ : String → CY → Prop} : ∀ (n9 i : Nat) (b : Option Nat) (u : SK), i + n9 = S → (∀ t, b = some t → t < 31) → (∀ u : SK, Φ (o2i (foldN (fun o => digs w (mo sy) (cPerm (memF V.testBit 0 30).length (memF V.testBit 0 30) o) h c) i n9 b)) (cyOf h c w le n cr lc ltr len p m s lo ld st pri bd q pp ow d sy fe u lids)) → it5 (b_C_fewestLifts_35 Φ Ξ) (n9 + 1) (nI V) (nI S) (o2i b) (nI i) (cyOf h c w le n cr lc ltr len p m s lo ld st pri bd q pp ow d sy fe u lids) := by
  intro n9
  induction n9 with
  | zero =>
    intro i b u e hb kk
    show b_C_fewestLifts_35 Φ Ξ (it5 (b_C_fewestLifts_35 Φ Ξ) 0) (nI V) (nI S) (o2i b) (nI i) (cyOf h c w le n cr lc ltr len p m s lo ld st pri bd q pp ow d sy fe u lids)
    rw [b_C_fewestLifts_35]
    exact le_t (a := S) (b := i) (by omega) (by omega) (kk u)
  | succ n9 ih =>
    intro i b u e hb kk
    show b_C_fewestLifts_35 Φ Ξ (it5 (b_C_fewestLifts_35 Φ Ξ) (n9 + 1)) (nI V) (nI S) (o2i b) (nI i) (cyOf h c w le n cr lc ltr len p m s lo ld st pri bd q pp ow d sy fe u lids)
    rw [b_C_fewestLifts_35]
    unfold b_C_fewestLifts_70 b_C_fewestLifts_67 b_C_fewestLifts_70
    obtain ⟨ta, tb, tw⟩ := u
    obtain ⟨ta, rfl⟩ := I_of ta
    obtain ⟨tb, rfl⟩ := I_of tb
    rw [nI_1]
    refine le_f (a := S) (b := i) (by omega) (by omega) (q_lio2 g hV h5 (by omega) (fun u => ?_))
    rw [foldN] at kk
    cases hd : digs w (mo sy) (cPerm (memF V.testBit 0 30).length (memF V.testBit 0 30) i) h c with
    | none =>
      rw [hd] at kk
      exact m1_t (ih (i + 1) b u (by omega) hb kk)
    | some r =>
      rw [hd] at kk
      have hr := digs_bd (mo_le sy) _ _ _ _ g.ok hd
      rw [cPerm_len] at hr
      rw [show o2i (some r) = nI r from rfl]
      refine m1_f (by omega) ?_
      cases b with
      | none => exact m1_t (ih (i + 1) (some r) u (by omega) (fun t y => by cases y; omega) kk)
      | some t =>
        have ht := hb t rfl
        rw [show o2i (some t) = nI t from rfl]
        refine m1_f (by omega) (le_c (a := t) (b := r) (by omega) (by omega) (fun y => ?_) (fun y => ?_))
        · rw [show bst (some t) (some r) = some t from if_pos y] at kk
          exact ih (i + 1) (some t) u (by omega) hb kk
        · rw [show bst (some t) (some r) = some r from if_neg (by omega)] at kk
          exact ih (i + 1) (some r) u (by omega) (fun t y => by cases y; omega) kk
theorem mv_bd (g : Good h c n cr ltr len p m st pri bd q pp ow d sy) {s9 V z r : Nat} (hL : (memF V.testBit 0 30).length = s9) (h0 : 0 < s9) (h5 : s9 < 5) (hz : z < 4 ^ s9) (e : mv w (mo sy) (memF V.testBit 0 30) s9 s9 z 0 h c = some r) : r < 31 := by
  rcases val_bwd (w := w) (m := mo sy) (h := h) (c := c) hL h0 h5 hz with y | ⟨o, _, y⟩
  · rw [y] at e; cases e
  · rw [y] at e
    have hr := digs_bd (mo_le sy) _ _ _ _ g.ok e
    rw [cPerm_len] at hr
    omega
theorem mv_eqv {w : AI} {m s : Nat} {L : List Nat} {h c h' c' : Nat → Nat} {k o B : Nat} (hm : m ≤ 5) (e : eqv h c h' c') (hk : ok h' c') : mv w m L s k o B h c = mv w m L s k o B h' c' := by
  rw [mv_eq, mv_eq]
  congr 1
  funext J
  exact digs_eqv (fun _ _ => rfl) hm _ _ _ _ _ e hk
theorem pow4 : ∀ s, s < 5 → ((1 : Int32) <<< (((2 : Int32) * nI s) &&& 31)) = nI (4 ^ s) ∧ 4 ^ s < 300 := by decide +kernel
end
