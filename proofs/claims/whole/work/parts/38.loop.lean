set_option linter.unusedVariables false
theorem and31 (x : Int32) : ∃ j, j < 32 ∧ x &&& 31 = nI j := by
  refine ⟨x.toBitVec.toNat % 32, Nat.mod_lt _ (by decide), ?_⟩
  apply Int32.toBitVec_inj.mp
  apply BitVec.eq_of_toNat_eq
  have h1 : (x &&& 31).toBitVec.toNat = x.toBitVec.toNat &&& 31 := by
    rw [Int32.toBitVec_and, BitVec.toNat_and]
    rfl
  rw [h1, show (31 : Nat) = 2 ^ 5 - 1 from rfl, Nat.and_two_pow_sub_one_eq_mod]
  show _ = (BitVec.ofNat 32 (x.toBitVec.toNat % 32)).toNat
  rw [BitVec.toNat_ofNat]
  omega
theorem nI_plus (x y : Nat) : nI x + nI y = nI (x + y) := (Int32.ofNat_add x y).symm
theorem fits5 {k L : Nat} (hL : L ≤ 2560) (hk : 5 * k ≤ L) (h : ¬ (nI L - (5 : Int32)) < nI (5 * k)) : 5 * k + 5 ≤ L := by
  have h1 := Int32.not_lt.mp h
  have h2 := Int32.le_iff_toInt_le.mp h1
  rw [nI_toInt (by omega)] at h2
  have h3 : (nI L - (5 : Int32)).toInt = (L : Int) - 5 := pk_sub_toInt (a := L) (b := 5) (by omega) (by omega)
  rw [h3] at h2
  omega
set_option maxHeartbeats 4000000 in
theorem law_loop {p : Program} {l : Launch} {e : Env} {s : State} {m : MethodId} {below : List Frame} {meth : Method} {c : Code} {b L : Nat} {xs : Nat → Int32} {D : va_G} {cs : CS} {a d : Nat → Nat} (hL : L ≤ 2560) (C0 : lw_At p s m meth c b L xs) (hfl : l.stackTraces = false) (hts : ∀ w ∈ wsL_law, w.before #[Value.ref b] s = true) (hE : XE (fun q : Nat => s.heap.size ≤ q) s s.heap) (hK : va_K D vwCl (tysG cs) s) :
    ∀ (n k : Nat) (i : Int32) (cells slots : Nat), 5 * k ≤ L → L + 1 ≤ 5 * k + n → i = nI (5 * k) → cells = 40 + k → slots = 800 + 6 * k → ∀ (σ : LH) (τ : MD) (H : Heap) (locs : List Loc) (ls : Array Slot), Inv σ.1 τ → lv_has ls 7 [(0, .ref b), (1, .ref (a 0)), (2, .ref (d 0)), (3, .ref (a 21)), (4, .int i)] → va_P D vwCl (ws_LW cs a d (σ, τ)) H → va_D (fun q : Nat => s.heap.size ≤ q) (ws_LW cs a d (σ, τ)) → va_S (fun q : Nat => s.heap.size ≤ q) s.heap H locs → W p l e room_1 s m #[Value.ref b] below meth c H locs cells slots (lw_Z below #[Value.ref b] s) (F0 m 23 ls []) := by
  obtain ⟨hx, hb, hr, hml, hown, -, hX, hbl, hlocks, hgv⟩ := C0
  have hown : s.vm.findClass RL = some m.cls := hown
  have hb : c.code = cL_law := hb
  have hA : ∀ q : Nat, s.heap.size ≤ q → (fun q : Nat => s.heap.size ≤ q) q := fun _ h => h
  have hbA : ¬ (fun q : Nat => s.heap.size ≤ q) b := Nat.not_le.mpr hbl
  intro n
  induction n with
  | zero =>
    intro k i cells slots h1 h2
    exact absurd h2 (by omega)
  | succ n ih =>
    intro k i cells slots hk hn hi hce hsl σ τ H locs ls g hl hP hD hS
    refine lv_iload hx hb dL_law_23 (lv_at hl 4 rfl) ?_
    refine lv_aload_n hx hb dL_law_25 rfl (lv_at hl 0 rfl) ?_
    refine va_slen hx hb hX hbl hbA hS dL_law_26 ?_
    refine lv_iconst (v := (5 : Int32)) hx hb dL_law_27 (by decide) ?_
    refine lv_isub hx hb dL_law_28 ?_
    refine lv_icmp_gt (tgt := 1203) hx hb dL_law_29 (by decide) (fun c_10 => ?_) (fun c_10 => ?_)
    · refine lv_iconst (v := (1 : Int32)) hx hb dL_law_1203 (by decide) ?_
      refine va_forget (fun q hq => hS.2.2 q hq) ?_
      refine W.widen (k := 1088) (n := 9123) (by omega) (by omega) ?_
      exact lw_ret hx hb hr hlocks dL_law_1204
    · have h5 : 5 * k + 5 ≤ L := fits5 hL hk (by rw [← hi]; exact c_10)
      have hc1 : cells + 1 ≤ 1088 ∧ slots + 6 ≤ 9123 := by constructor <;> omega
      have v0 : vp_in i L := by rw [hi]; exact vp_in_nI (by omega) (by omega)
      have v1 : vp_in (i + (1 : Int32)) L := by rw [hi, show (1 : Int32) = nI 1 from rfl, nI_plus]; exact vp_in_nI (by omega) (by omega)
      have v2 : vp_in (i + (2 : Int32)) L := by rw [hi, show (2 : Int32) = nI 2 from rfl, nI_plus]; exact vp_in_nI (by omega) (by omega)
      have v3 : vp_in (i + (3 : Int32)) L := by rw [hi, show (3 : Int32) = nI 3 from rfl, nI_plus]; exact vp_in_nI (by omega) (by omega)
      have v4 : vp_in (i + (4 : Int32)) L := by rw [hi, show (4 : Int32) = nI 4 from rfl, nI_plus]; exact vp_in_nI (by omega) (by omega)
      have kk : ∀ (σ' : LH) (τ' : MD) (H : Heap) (locs : List Loc) (ls : Array Slot), Inv σ'.1 τ' → lv_has ls 7 [(0, .ref b), (1, .ref (a 0)), (2, .ref (d 0)), (3, .ref (a 21)), (4, .int i)] → va_P D vwCl (ws_LW cs a d (σ', τ')) H → va_D (fun q : Nat => s.heap.size ≤ q) (ws_LW cs a d (σ', τ')) → va_S (fun q : Nat => s.heap.size ≤ q) s.heap H locs → W p l e room_1 s m #[Value.ref b] below meth c H locs (cells + 1) (slots + 6) (lw_Z below #[Value.ref b] s) (F0 m 1197 ls []) := by
        intro σ' τ' H locs ls g hl hP hD hS
        obtain ⟨i', hi'⟩ : ∃ y : Int32, y = i + 5 := ⟨_, rfl⟩
        refine lv_iinc (v := i') (lv' := [(4, .int i'), (0, .ref b), (1, .ref (a 0)), (2, .ref (d 0)), (3, .ref (a 21))]) hx hb dL_law_1197 hl (k := 4) rfl (by rw [hi']; rfl) (by decide) rfl (fun ls hl => ?_)
        refine lv_goto (tgt := 23) hx hb dL_law_1200 (by decide) ?_
        exact ih (k + 1) i' (cells + 1) (slots + 6) (by omega) (by omega) (by rw [hi', hi, show (5 : Int32) = nI 5 from rfl, nI_plus]; rfl) (by omega) (by omega) σ' τ' H locs ls g (lv_sub hl [1, 2, 3, 4, 0] rfl) hP hD hS
      clear ih
      refine lv_aload_n hx hb dL_law_32 rfl (lv_at hl 0 rfl) ?_
      refine lv_iload hx hb dL_law_33 (lv_at hl 4 rfl) ?_
      refine va_sld hx hb hX hbl hbA hS v0 dL_law_35 ?_
      refine lv_bipush (v := (31 : Int32)) hx hb dL_law_36 rfl ?_
      refine lv_iand hx hb dL_law_38 ?_
      obtain ⟨j, hj, ej⟩ := and31 (xs i.toNatClampNeg)
      rw [ej]
      have hji : (nI j).toInt = (j : Int) := nI_toInt (by omega)
      rcases Nat.lt_or_ge j 22 with h22 | h22
      · have hs1 : ¬ (nI j).toInt < (0 : Int) := by rw [hji]; omega
        have hs2 : ¬ (21 : Int) < (nI j).toInt := by rw [hji]; omega
        match j, h22 with
        | 0, _ => exact lv_tableIn (off := 101) (tgt := 140) hx hb dL_law_39 hs1 hs2 (by decide +kernel) (by decide) (k_arrive hfl hx hb hml hown hts hE hK hA hX hbl hbA v1 v2 v3 v4 g hc1 hP hD hS hl kk)
        | 1, _ => exact lv_tableIn (off := 181) (tgt := 220) hx hb dL_law_39 hs1 hs2 (by decide +kernel) (by decide) (k_lift hfl hx hb hml hown hts hE hK hA hX hbl hbA v1 v2 v3 v4 g hc1 hP hD hS hl kk)
        | 2, _ => exact lv_tableIn (off := 237) (tgt := 276) hx hb dL_law_39 hs1 hs2 (by decide +kernel) (by decide) (k_drop hfl hx hb hml hown hts hE hK hA hX hbl hbA v1 v2 v3 v4 g hc1 hP hD hS hl kk)
        | 3, _ => exact lv_tableIn (off := 293) (tgt := 332) hx hb dL_law_39 hs1 hs2 (by decide +kernel) (by decide) (k_dig hfl hx hb hml hown hts hE hK hA hX hbl hbA v1 v2 v3 v4 g hc1 hP hD hS hl kk)
        | 4, _ => exact lv_tableIn (off := 349) (tgt := 388) hx hb dL_law_39 hs1 hs2 (by decide +kernel) (by decide) (k_crane hfl hx hb hml hown hts hE hK hA hX hbl hbA v1 v2 v3 v4 g hc1 hP hD hS hl kk)
        | 5, _ => exact lv_tableIn (off := 362) (tgt := 401) hx hb dL_law_39 hs1 hs2 (by decide +kernel) (by decide) (k_height hfl hx hb hml hown hts hE hK hA hX hbl hbA v1 v2 v3 v4 g hc1 hP hD hS hl kk)
        | 6, _ => exact lv_tableIn (off := 418) (tgt := 457) hx hb dL_law_39 hs1 hs2 (by decide +kernel) (by decide) (k_at hfl hx hb hml hown hts hE hK hA hX hbl hbA v1 v2 v3 v4 g hc1 hP hD hS hl kk)
        | 7, _ => exact lv_tableIn (off := 486) (tgt := 525) hx hb dL_law_39 hs1 hs2 (by decide +kernel) (by decide) (k_stackOf hfl hx hb hml hown hts hE hK hA hX hbl hbA v1 v2 v3 v4 g hc1 hP hD hS hl kk)
        | 8, _ => exact lv_tableIn (off := 542) (tgt := 581) hx hb dL_law_39 hs1 hs2 (by decide +kernel) (by decide) (k_lifts hfl hx hb hml hown hts hE hK hA hX hbl hbA v1 v2 v3 v4 g hc1 hP hD hS hl kk)
        | 9, _ => exact lv_tableIn (off := 555) (tgt := 594) hx hb dL_law_39 hs1 hs2 (by decide +kernel) (by decide) (k_fewestLifts hfl hx hb hml hown hts hE hK hA hX hbl hbA v1 v2 v3 v4 g hc1 hP hD hS hl kk)
        | 10, _ => exact lv_tableIn (off := 611) (tgt := 650) hx hb dL_law_39 hs1 hs2 (by decide +kernel) (by decide) (k_tell hfl hx hb hml hown hts hE hK hA hX hbl hbA v1 v2 v3 v4 g hc1 hP hD hS hl kk)
        | 11, _ => exact lv_tableIn (off := 703) (tgt := 742) hx hb dL_law_39 hs1 hs2 (by decide +kernel) (by decide) (k_hasPaid hfl hx hb hml hown hts hE hK hA hX hbl hbA v1 v2 v3 v4 g hc1 hP hD hS hl kk)
        | 12, _ => exact lv_tableIn (off := 766) (tgt := 805) hx hb dL_law_39 hs1 hs2 (by decide +kernel) (by decide) (k_bonus hfl hx hb hml hown hts hE hK hA hX hbl hbA v1 v2 v3 v4 g hc1 hP hD hS hl kk)
        | 13, _ => exact lv_tableIn (off := 779) (tgt := 818) hx hb dL_law_39 hs1 hs2 (by decide +kernel) (by decide) (k_offer hfl hx hb hml hown hts hE hK hA hX hbl hbA v1 v2 v3 v4 g hc1 hP hD hS hl kk)
        | 14, _ => exact lv_tableIn (off := 847) (tgt := 886) hx hb dL_law_39 hs1 hs2 (by decide +kernel) (by decide) (k_bid hfl hx hb hml hown hts hE hK hA hX hbl hbA v1 v2 v3 v4 g hc1 hP hD hS hl kk)
        | 15, _ => exact lv_tableIn (off := 907) (tgt := 946) hx hb dL_law_39 hs1 hs2 (by decide +kernel) (by decide) (k_give hfl hx hb hml hown hts hE hK hA hX hbl hbA v1 v2 v3 v4 g hc1 hP hD hS hl kk)
        | 16, _ => exact lv_tableIn (off := 963) (tgt := 1002) hx hb dL_law_39 hs1 hs2 (by decide +kernel) (by decide) (k_load hfl hx hb hml hown hts hE hK hA hX hbl hbA v1 v2 v3 v4 g hc1 hP hD hS hl kk)
        | 17, _ => exact lv_tableIn (off := 1007) (tgt := 1046) hx hb dL_law_39 hs1 hs2 (by decide +kernel) (by decide) (k_state hfl hx hb hml hown hts hE hK hA hX hbl hbA v1 v2 v3 v4 g hc1 hP hD hS hl kk)
        | 18, _ => exact lv_tableIn (off := 1063) (tgt := 1102) hx hb dL_law_39 hs1 hs2 (by decide +kernel) (by decide) (k_storm hfl hx hb hml hown hts hE hK hA hX hbl hbA v1 v2 v3 v4 g hc1 hP hD hS hl kk)
        | 19, _ => exact lv_tableIn (off := 1076) (tgt := 1115) hx hb dL_law_39 hs1 hs2 (by decide +kernel) (by decide) (k_pass hfl hx hb hml hown hts hE hK hA hX hbl hbA v1 v2 v3 v4 g hc1 hP hD hS hl kk)
        | 20, _ => exact lv_tableIn (off := 1132) (tgt := 1171) hx hb dL_law_39 hs1 hs2 (by decide +kernel) (by decide) (k_today hfl hx hb hml hown hts hE hK hA hX hbl hbA v1 v2 v3 v4 g hc1 hP hD hS hl kk)
        | 21, _ => exact lv_tableIn (off := 1145) (tgt := 1184) hx hb dL_law_39 hs1 hs2 (by decide +kernel) (by decide) (k_balance hfl hx hb hml hown hts hE hK hA hX hbl hbA v1 v2 v3 v4 g hc1 hP hD hS hl kk)
        | j + 22, h22 => exact absurd h22 (by omega)
      · refine lv_tableOut (tgt := 1197) hx hb dL_law_39 (Or.inr (by rw [hji]; omega)) (by decide) ?_
        exact W.widen (k := cells + 1) (n := slots + 6) (Nat.le_succ _) (Nat.le_add_right _ 6) (kk σ τ H locs ls g hl hP hD hS)
