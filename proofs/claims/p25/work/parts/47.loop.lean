set_option linter.unusedVariables false
theorem rem_nI {x d : Nat} (hx : x < 2 ^ 31) (h0 : 0 < d) (hd : d < 2 ^ 31) : nI x - nI x / nI d * nI d = nI (x % d) := by
  rw [pk_div hx h0 hd, pk_mul]
  have h1 : x / d * d ≤ x := Nat.div_mul_le_self x d
  rw [pk_sub h1]
  have h2 := Nat.div_add_mod x d
  rw [Nat.mul_comm] at h2
  rw [show x - x / d * d = x % d by omega]
set_option maxHeartbeats 4000000 in
theorem law_loop {p : Program} {l : Launch} {e : Env} {s : State} {m : MethodId} {below : List Frame} {meth : Method} {c : Code} {b L : Nat} {xs : Nat → Int32} {D : va_G} {cs : CS} {a : Nat → Nat} (hL : L ≤ 260) (C0 : lw_At p s m meth c b L xs) (hfl : l.stackTraces = false) (hts : ∀ w ∈ wsL_law, w.before #[Value.ref b] s = true) (hE : XE (fun q : Nat => s.heap.size ≤ q) s s.heap) (hK : va_K D vwCl (tysG cs) s) :
    ∀ (n k : Nat) (i : Int32) (cells slots : Nat), k + n = 90 → i = nI k → cells ≤ 42 + k + 5 * (k / 12) → slots ≤ 814 + 6 * (k + 5 * (k / 12)) → ∀ (X : SK → AI → CY), Iv X (2 * k) → ∀ (t1 : SK) (l1 : AI) (t2 : SK) (l2 : AI) (H : Heap) (locs : List Loc) (ls : Array Slot), lv_has ls 6 [(0, .ref b), (1, .ref (a 0)), (2, .ref (a 21)), (3, .int i)] → va_P D vwCl (ws_CC cs a (X t1 l1, X t2 l2)) H → va_D (fun q : Nat => s.heap.size ≤ q) (ws_CC cs a (X t1 l1, X t2 l2)) → va_S (fun q : Nat => s.heap.size ≤ q) s.heap H locs → W p l e room_1 s m #[Value.ref b] below meth c H locs (cells) (slots) (lw_Z below #[Value.ref b] s) (F0 m 18 ls []) := by
  obtain ⟨hx, hb, hr, hml, hown, -, hX, hbl, hlocks, hgv⟩ := C0
  have hown : s.vm.findClass RL = some m.cls := hown
  have hb : c.code = cL_law := hb
  have hA : ∀ q : Nat, s.heap.size ≤ q → (fun q : Nat => s.heap.size ≤ q) q := fun _ h => h
  have hbA : ¬ (fun q : Nat => s.heap.size ≤ q) b := Nat.not_le.mpr hbl
  intro n
  induction n with
  | zero =>
    intro k i cells slots hk hi hc hs X hI t1 l1 t2 l2 H locs ls hl hP hD hS
    subst hi
    have hcl : cells ≤ room_1.cells ∧ slots ≤ room_1.slots := ⟨show cells ≤ 173 by omega, show slots ≤ 1808 by omega⟩
    refine lv_iload_n hx hb dL_law_18 rfl (lv_at hl 3 rfl) ?_
    refine lv_bipush (v := (90 : Int32)) hx hb dL_law_19 (by decide) ?_
    refine lv_icmp_ge (tgt := 123) hx hb dL_law_21 (by decide) (fun c9 => ?_) (fun c9 => absurd (show nI 90 ≤ nI k from nI_le (by omega) (by omega)) c9)
    refine lv_aload_n hx hb dL_law_123 rfl (lv_at hl 1 rfl) ?_
    refine lv_aload_n hx hb dL_law_124 rfl (lv_at hl 2 rfl) ?_
    refine kSi (As := [.ref (a 0), .ref (a 21)]) (rest := []) ⟨hx, hb, hml, hown, hts⟩ (c_L_areAlike l D cs a _ (X t1 l1, X t2 l2) (q_areAlike hI (Φ := fun r9 u9 => r9 = 1 ∧ u9 = (X t1 l1, X t2 l2)) ⟨rfl, rfl⟩)) (va_cwS 2 hts gL_law_L_areAlike rfl rfl rfl (by decide +kernel) ⟨Nat.le_of_ble_eq_true rfl, Nat.le_of_ble_eq_true rfl⟩) (pt_self_CC cs a (X t1 l1, X t2 l2)) hK hP hD hS hA rfl hl.1 rfl (Nat.le_of_ble_eq_true rfl) dL_law_125 hcl (fun r9 u9 H locs hw hP hD hS => ?_)
    obtain ⟨er, eu⟩ := hw
    rw [eu] at hP hD
    have hP : va_P D vwCl (ws_CC cs a (X t1 l1, X t2 l2)) H := hP
    have hD : va_D (fun q : Nat => s.heap.size ≤ q) (ws_CC cs a (X t1 l1, X t2 l2)) := hD
    rw [er]
    refine va_forget (fun q hq => hS.2.2 q hq) ?_
    refine W.widen (k := 173) (n := 1808) hcl.1 hcl.2 ?_
    exact lw_ret hx hb hr hlocks dL_law_128
  | succ n ih =>
    intro k i cells slots hk hi hc hs X hI t1 l1 t2 l2 H locs ls hl hP hD hS
    subst hi
    have hcl : cells ≤ room_1.cells ∧ slots ≤ room_1.slots := ⟨show cells ≤ 173 by omega, show slots ≤ 1808 by omega⟩
    have hc1 : cells + 1 ≤ room_1.cells ∧ slots + 6 ≤ room_1.slots := ⟨show cells + 1 ≤ 173 by omega, show slots + 6 ≤ 1808 by omega⟩
    refine lv_iload_n hx hb dL_law_18 rfl (lv_at hl 3 rfl) ?_
    refine lv_bipush (v := (90 : Int32)) hx hb dL_law_19 (by decide) ?_
    refine lv_icmp_ge (tgt := 123) hx hb dL_law_21 (by decide) (fun c9 => absurd c9 (show ¬ nI 90 ≤ nI k from nI_ge (by omega) (by omega))) (fun c9 => ?_)
    refine lv_aload_n hx hb dL_law_24 rfl (lv_at hl 0 rfl) ?_
    refine lv_iload_n hx hb dL_law_25 rfl (lv_at hl 3 rfl) ?_
    refine kCell (As := [.ref b, .int (nI k)]) (rest := []) ⟨hx, hb, hml, hown, hts⟩ (c_L_cell l D cs b L xs hL k (by omega) _) (va_cwS 2 hts gL_law_L_cell rfl rfl rfl (by decide +kernel) ⟨Nat.le_of_ble_eq_true rfl, Nat.le_of_ble_eq_true rfl⟩) (pt_un_CC cs a (X t1 l1, X t2 l2)) hX hbl hbA hK hP hD hS hA rfl hl.1 rfl (Nat.le_of_ble_eq_true rfl) dL_law_26 hcl (fun v H locs hP hD hS => ?_)
    refine lv_istore (lv' := [(4, .int v), (0, .ref b), (1, .ref (a 0)), (2, .ref (a 21)), (3, .int (nI k))]) hx hb dL_law_29 hl (by decide) rfl (fun ls hl => ?_)
    -- the loop's end: the next call
    have kk117 : ∀ (X : SK → AI → CY), Iv X (2 * (k + 1)) → ∀ (cells slots : Nat), cells ≤ 42 + (k + 1) + 5 * ((k + 1) / 12) → slots ≤ 814 + 6 * ((k + 1) + 5 * ((k + 1) / 12)) → ∀ (r : Int32) (t1 : SK) (l1 : AI) (t2 : SK) (l2 : AI) (H : Heap) (locs : List Loc) (ls : Array Slot), lv_has ls 6 [(5, .int r), (4, .int v), (0, .ref b), (1, .ref (a 0)), (2, .ref (a 21)), (3, .int (nI k))] → va_P D vwCl (ws_CC cs a (X t1 l1, X t2 l2)) H → va_D (fun q : Nat => s.heap.size ≤ q) (ws_CC cs a (X t1 l1, X t2 l2)) → va_S (fun q : Nat => s.heap.size ≤ q) s.heap H locs → W p l e room_1 s m #[Value.ref b] below meth c H locs (cells) (slots) (lw_Z below #[Value.ref b] s) (F0 m 117 ls []) := by
      intro X hI cells slots hc hs r t1 l1 t2 l2 H locs ls hl hP hD hS
      refine lv_iinc (v := nI k + (1 : Int32)) (lv' := [(3, .int (nI k + (1 : Int32))), (5, .int r), (4, .int v), (0, .ref b), (1, .ref (a 0)), (2, .ref (a 21))]) hx hb dL_law_117 hl (k := 5) rfl rfl (by decide) rfl (fun ls hl => ?_)
      refine lv_goto (tgt := 18) hx hb dL_law_120 (by decide) ?_
      exact ih (k + 1) (nI k + (1 : Int32)) cells slots (by omega) (nI_1 k) hc hs X hI t1 l1 t2 l2 H locs ls (lv_sub hl [3, 4, 5, 0] rfl) hP hD hS
    clear ih
    -- the dig
    have kk81 : ∀ (X : SK → AI → CY), Iv X (2 * k + 1) → ∀ (r : Int32) (t1 : SK) (l1 : AI) (t2 : SK) (l2 : AI) (H : Heap) (locs : List Loc) (ls : Array Slot), lv_has ls 6 [(5, .int r), (4, .int v), (0, .ref b), (1, .ref (a 0)), (2, .ref (a 21)), (3, .int (nI k))] → va_P D vwCl (ws_CC cs a (X t1 l1, X t2 l2)) H → va_D (fun q : Nat => s.heap.size ≤ q) (ws_CC cs a (X t1 l1, X t2 l2)) → va_S (fun q : Nat => s.heap.size ≤ q) s.heap H locs → W p l e room_1 s m #[Value.ref b] below meth c H locs (cells + 1) (slots + 6) (lw_Z below #[Value.ref b] s) (F0 m 81 ls []) := by
      intro X hI r t1 l1 t2 l2 H locs ls hl hP hD hS
      refine lv_iload_n hx hb dL_law_81 rfl (lv_at hl 5 rfl) ?_
      refine lv_bipush (v := (12 : Int32)) hx hb dL_law_82 (by decide) ?_
      refine lv_irem hx hb dL_law_84 (by decide) ?_
      refine lv_bipush (v := (11 : Int32)) hx hb dL_law_85 (by decide) ?_
      rw [show nI k - nI k / (12 : Int32) * (12 : Int32) = nI (k % 12) from rem_nI (d := 12) (by omega) (by omega) (by omega)]
      refine lv_icmp_ne (tgt := 117) hx hb dL_law_87 (by decide) (fun c9 => ?_) (fun c9 => ?_)
      · exact kk117 X (hI.le (by omega)) _ _ (by omega) (by omega) r t1 l1 t2 l2 H locs ls hl hP hD hS
      · have h12 : k % 12 = 11 := nI_inj (a := k % 12) (b := 11) (by omega) (by omega) c9
        have hc6 : cells + 1 + 5 ≤ room_1.cells ∧ slots + 6 + 30 ≤ room_1.slots := ⟨show cells + 1 + 5 ≤ 173 by omega, show slots + 6 + 30 ≤ 1808 by omega⟩
        refine lv_aload_n hx hb dL_law_90 rfl (lv_at hl 3 rfl) ?_
        refine lv_aload_n hx hb dL_law_91 rfl (lv_at hl 4 rfl) ?_
        refine lv_iload hx hb dL_law_92 (lv_at hl 1 rfl) ?_
        refine lv_iconst (v := (5 : Int32)) hx hb dL_law_94 (by decide) ?_
        refine lv_ishr hx hb dL_law_95 ?_
        refine lv_bipush (v := (14 : Int32)) hx hb dL_law_96 (by decide) ?_
        refine kSi (As := [.int (v >>> ((5 : Int32) &&& 31)), .int (14 : Int32)]) (rest := [.ref (a 21), .ref (a 0)]) ⟨hx, hb, hml, hown, hts⟩ (c_L_low l D cs a _ (v >>> ((5 : Int32) &&& 31)) (14 : Int32) (Φ := fun _ _ => True) ⟨by decide, trivial⟩) (va_cwS 2 hts gL_law_L_low rfl rfl rfl (by decide +kernel) ⟨Nat.le_of_ble_eq_true rfl, Nat.le_of_ble_eq_true rfl⟩) (pt_un_CC cs a (X t1 l1, X t2 l2)) hK hP hD hS hA rfl hl.1 rfl (Nat.le_of_ble_eq_true rfl) dL_law_98 hc1 (fun y u9 H locs hw hP hD hS => ?_)
        obtain ⟨X2, hI2, k2⟩ := q_isDugSo hI y
        refine kAi (As := [.ref (a 0), .ref (a 21), .int y]) (rest := []) ⟨hx, hb, hml, hown, hts⟩ hE (c_L_isDugSo l hfl D cs a _ (X t1 l1, X t2 l2) y (k2 t1 l1 t2 l2 (fun r9 u9 => r9 = 1 ∧ ∃ t3 l3 t4 l4, u9 = (X2 t3 l3, X2 t4 l4)) (fun t3 l3 t4 l4 => ⟨rfl, t3, l3, t4, l4, rfl⟩))) (va_cwS 3 hts gL_law_L_isDugSo rfl rfl rfl (by decide +kernel) ⟨Nat.le_of_ble_eq_true rfl, Nat.le_of_ble_eq_true rfl⟩) (pt_self_CC cs a (X t1 l1, X t2 l2)) hK hP hD hS hA rfl hl.1 rfl (Nat.le_of_ble_eq_true rfl) dL_law_101 hc6 (fun r9 u9 H locs hw hP hD hS => ?_)
        obtain ⟨er, t3, l3, t4, l4, eu⟩ := hw
        rw [eu] at hP hD
        rw [er]
        have hP : va_P D vwCl (ws_CC cs a (X2 t3 l3, X2 t4 l4)) H := hP
        have hD : va_D (fun q : Nat => s.heap.size ≤ q) (ws_CC cs a (X2 t3 l3, X2 t4 l4)) := hD
        refine lv_if_eq (tgt := 115) hx hb dL_law_104 (by decide) (fun c9 => absurd c9 (by decide)) (fun c9 => ?_)
        refine lv_aload_n hx hb dL_law_107 rfl (lv_at hl 3 rfl) ?_
        refine lv_aload_n hx hb dL_law_108 rfl (lv_at hl 4 rfl) ?_
        refine kSi (As := [.ref (a 0), .ref (a 21)]) (rest := []) ⟨hx, hb, hml, hown, hts⟩ (c_L_areAlike l D cs a _ (X2 t3 l3, X2 t4 l4) (q_areAlike hI2 (Φ := fun r9 u9 => r9 = 1 ∧ u9 = (X2 t3 l3, X2 t4 l4)) ⟨rfl, rfl⟩)) (va_cwS 2 hts gL_law_L_areAlike rfl rfl rfl (by decide +kernel) ⟨Nat.le_of_ble_eq_true rfl, Nat.le_of_ble_eq_true rfl⟩) (pt_self_CC cs a (X2 t3 l3, X2 t4 l4)) hK hP hD hS hA rfl hl.1 rfl (Nat.le_of_ble_eq_true rfl) dL_law_109 hc6 (fun r9 u9 H locs hw hP hD hS => ?_)
        obtain ⟨er, eu⟩ := hw
        rw [eu] at hP hD
        have hP : va_P D vwCl (ws_CC cs a (X2 t3 l3, X2 t4 l4)) H := hP
        have hD : va_D (fun q : Nat => s.heap.size ≤ q) (ws_CC cs a (X2 t3 l3, X2 t4 l4)) := hD
        rw [er]
        refine lv_if_ne (tgt := 117) hx hb dL_law_112 (by decide) (fun c9 => ?_) (fun c9 => absurd c9 (by decide))
        exact kk117 X2 (hI2.le (by omega)) _ _ (by omega) (by omega) r t3 l3 t4 l4 H locs ls hl hP hD hS
    -- behind the acts
    have kk57 : ∀ (X : SK → AI → CY), Iv X (2 * k + 1) → ∀ (r : Int32) (t1 : SK) (l1 : AI) (t2 : SK) (l2 : AI) (H : Heap) (locs : List Loc) (ls : Array Slot), lv_has ls 6 [(5, .int r), (4, .int v), (0, .ref b), (1, .ref (a 0)), (2, .ref (a 21)), (3, .int (nI k))] → va_P D vwCl (ws_CC cs a (X t1 l1, X t2 l2)) H → va_D (fun q : Nat => s.heap.size ≤ q) (ws_CC cs a (X t1 l1, X t2 l2)) → va_S (fun q : Nat => s.heap.size ≤ q) s.heap H locs → W p l e room_1 s m #[Value.ref b] below meth c H locs (cells + 1) (slots + 6) (lw_Z below #[Value.ref b] s) (F0 m 57 ls []) := by
      intro X hI r t1 l1 t2 l2 H locs ls hl hP hD hS
      refine lv_aload_n hx hb dL_law_57 rfl (lv_at hl 3 rfl) ?_
      refine lv_aload_n hx hb dL_law_58 rfl (lv_at hl 4 rfl) ?_
      refine kSi (As := [.ref (a 0), .ref (a 21)]) (rest := []) ⟨hx, hb, hml, hown, hts⟩ (c_L_areAlike l D cs a _ (X t1 l1, X t2 l2) (q_areAlike hI (Φ := fun r9 u9 => r9 = 1 ∧ u9 = (X t1 l1, X t2 l2)) ⟨rfl, rfl⟩)) (va_cwS 2 hts gL_law_L_areAlike rfl rfl rfl (by decide +kernel) ⟨Nat.le_of_ble_eq_true rfl, Nat.le_of_ble_eq_true rfl⟩) (pt_self_CC cs a (X t1 l1, X t2 l2)) hK hP hD hS hA rfl hl.1 rfl (Nat.le_of_ble_eq_true rfl) dL_law_59 hc1 (fun r9 u9 H locs hw hP hD hS => ?_)
      obtain ⟨er, eu⟩ := hw
      rw [eu] at hP hD
      have hP : va_P D vwCl (ws_CC cs a (X t1 l1, X t2 l2)) H := hP
      have hD : va_D (fun q : Nat => s.heap.size ≤ q) (ws_CC cs a (X t1 l1, X t2 l2)) := hD
      rw [er]
      refine lv_if_ne (tgt := 67) hx hb dL_law_62 (by decide) (fun c9 => ?_) (fun c9 => absurd c9 (by decide))
      refine lv_iload_n hx hb dL_law_67 rfl (lv_at hl 5 rfl) ?_
      refine lv_iconst (v := (5 : Int32)) hx hb dL_law_68 (by decide) ?_
      refine lv_irem hx hb dL_law_69 (by decide) ?_
      refine lv_iconst (v := (4 : Int32)) hx hb dL_law_70 (by decide) ?_
      refine lv_icmp_ne (tgt := 81) hx hb dL_law_71 (by decide) (fun c9 => ?_) (fun c9 => ?_)
      · exact kk81 X hI r t1 l1 t2 l2 H locs ls hl hP hD hS
      · refine lv_aload_n hx hb dL_law_74 rfl (lv_at hl 3 rfl) ?_
        refine kSi (As := [.ref (a 0)]) (rest := []) ⟨hx, hb, hml, hown, hts⟩ (c_L_isYardSo l D cs a _ (X t1 l1) (q_isYardSo hI (by omega) (Φ := fun r9 u9 => r9 = 1 ∧ u9 = X t1 l1) ⟨rfl, rfl⟩)) (va_cwS 1 hts gL_law_L_isYardSo rfl rfl rfl (by decide +kernel) ⟨Nat.le_of_ble_eq_true rfl, Nat.le_of_ble_eq_true rfl⟩) (pt_CC_o cs a (X t1 l1, X t2 l2)) hK hP hD hS hA rfl hl.1 rfl (Nat.le_of_ble_eq_true rfl) dL_law_75 hc1 (fun r9 u9 H locs hw hP hD hS => ?_)
        obtain ⟨er, eu⟩ := hw
        rw [eu] at hP hD
        have hP : va_P D vwCl (ws_CC cs a (X t1 l1, X t2 l2)) H := hP
        have hD : va_D (fun q : Nat => s.heap.size ≤ q) (ws_CC cs a (X t1 l1, X t2 l2)) := hD
        rw [er]
        refine lv_if_eq (tgt := 115) hx hb dL_law_78 (by decide) (fun c9 => absurd c9 (by decide)) (fun c9 => ?_)
        exact kk81 X hI r t1 l1 t2 l2 H locs ls hl hP hD hS
    clear kk117 kk81
    refine lv_aload_n hx hb dL_law_31 rfl (lv_at hl 2 rfl) ?_
    refine lv_iload hx hb dL_law_32 (lv_at hl 0 rfl) ?_
    rcases ac_act hI (by omega) v with ⟨r, X1, hI1, hr9, kA, kB⟩ | ⟨r, hr9, kA⟩
    · refine kAi (As := [.ref (a 0), .int v]) (rest := []) ⟨hx, hb, hml, hown, hts⟩ hE (c_L_act l hfl D cs a _ (X t1 l1) v (kA t1 l1 (fun r9 u9 => r9 = r ∧ ∃ t3 l3, u9 = X1 t3 l3) (fun t3 l3 => ⟨rfl, t3, l3, rfl⟩))) (va_cwS 2 hts gL_law_L_act rfl rfl rfl (by decide +kernel) ⟨Nat.le_of_ble_eq_true rfl, Nat.le_of_ble_eq_true rfl⟩) (pt_CC_o cs a (X t1 l1, X t2 l2)) hK hP hD hS hA rfl hl.1 rfl (Nat.le_of_ble_eq_true rfl) dL_law_34 hc1 (fun r9 u9 H locs hw hP hD hS => ?_)
      obtain ⟨er, t3, l3, eu⟩ := hw
      rw [eu] at hP hD
      rw [er]
      have hP : va_P D vwCl (ws_CC cs a (X1 t3 l3, X t2 l2)) H := hP
      have hD : va_D (fun q : Nat => s.heap.size ≤ q) (ws_CC cs a (X1 t3 l3, X t2 l2)) := hD
      refine lv_istore (lv' := [(5, .int r), (4, .int v), (0, .ref b), (1, .ref (a 0)), (2, .ref (a 21)), (3, .int (nI k))]) hx hb dL_law_37 hl (by decide) rfl (fun ls hl => ?_)
      refine lv_iload hx hb dL_law_39 (lv_at hl 0 rfl) ?_
      refine lv_ldc (v := (-99998 : Int32)) hx hb hown (hts _ w_c98) dL_law_41 ?_
      refine lv_icmp_le (tgt := 57) hx hb dL_law_43 (by decide) (fun c9 => absurd c9 (Int32.not_le.mpr hr9)) (fun c9 => ?_)
      refine lv_aload_n hx hb dL_law_46 rfl (lv_at hl 4 rfl) ?_
      refine lv_iload hx hb dL_law_47 (lv_at hl 1 rfl) ?_
      refine kSi (As := [.ref (a 21), .int v]) (rest := []) ⟨hx, hb, hml, hown, hts⟩ (c0_L_act l D cs (sh a 21) _ (X t2 l2) v (kB t2 l2 (fun r9 u9 => r9 = r ∧ ∃ t4 l4, u9 = X1 t4 l4) (fun t4 l4 => ⟨rfl, t4, l4, rfl⟩))) (va_cwS 2 hts gL_law_L_act rfl rfl rfl (by decide +kernel) ⟨Nat.le_of_ble_eq_true rfl, Nat.le_of_ble_eq_true rfl⟩) (pt_CC_p cs a (X1 t3 l3, X t2 l2)) hK hP hD hS hA rfl hl.1 rfl (Nat.le_of_ble_eq_true rfl) dL_law_49 hc1 (fun r9 u9 H locs hw hP hD hS => ?_)
      obtain ⟨er, t4, l4, eu⟩ := hw
      rw [eu] at hP hD
      rw [er]
      have hP : va_P D vwCl (ws_CC cs a (X1 t3 l3, X1 t4 l4)) H := hP
      have hD : va_D (fun q : Nat => s.heap.size ≤ q) (ws_CC cs a (X1 t3 l3, X1 t4 l4)) := hD
      refine lv_iload hx hb dL_law_52 (lv_at hl 0 rfl) ?_
      refine lv_icmp_ne (tgt := 65) hx hb dL_law_54 (by decide) (fun c9 => absurd rfl c9) (fun c9 => ?_)
      exact kk57 X1 hI1 r t3 l3 t4 l4 H locs ls hl hP hD hS
    · refine kAi (As := [.ref (a 0), .int v]) (rest := []) ⟨hx, hb, hml, hown, hts⟩ hE (c_L_act l hfl D cs a _ (X t1 l1) v (kA t1 l1 (fun r9 u9 => r9 = r ∧ ∃ t3 l3, u9 = X t3 l3) (fun t3 l3 => ⟨rfl, t3, l3, rfl⟩))) (va_cwS 2 hts gL_law_L_act rfl rfl rfl (by decide +kernel) ⟨Nat.le_of_ble_eq_true rfl, Nat.le_of_ble_eq_true rfl⟩) (pt_CC_o cs a (X t1 l1, X t2 l2)) hK hP hD hS hA rfl hl.1 rfl (Nat.le_of_ble_eq_true rfl) dL_law_34 hc1 (fun r9 u9 H locs hw hP hD hS => ?_)
      obtain ⟨er, t3, l3, eu⟩ := hw
      rw [eu] at hP hD
      rw [er]
      have hP : va_P D vwCl (ws_CC cs a (X t3 l3, X t2 l2)) H := hP
      have hD : va_D (fun q : Nat => s.heap.size ≤ q) (ws_CC cs a (X t3 l3, X t2 l2)) := hD
      refine lv_istore (lv' := [(5, .int r), (4, .int v), (0, .ref b), (1, .ref (a 0)), (2, .ref (a 21)), (3, .int (nI k))]) hx hb dL_law_37 hl (by decide) rfl (fun ls hl => ?_)
      refine lv_iload hx hb dL_law_39 (lv_at hl 0 rfl) ?_
      refine lv_ldc (v := (-99998 : Int32)) hx hb hown (hts _ w_c98) dL_law_41 ?_
      refine lv_icmp_le (tgt := 57) hx hb dL_law_43 (by decide) (fun c9 => ?_) (fun c9 => absurd hr9 c9)
      exact kk57 X (hI.le (by omega)) r t3 l3 t2 l2 H locs ls hl hP hD hS
