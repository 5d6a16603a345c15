abbrev rm_M_isSet : Room := { frames := 1, cells := 0, slots := 0, locals := 22 }
set_option maxHeartbeats 4000000 in
set_option maxRecDepth 100000 in
theorem c_M_isSet (l : Launch) (D : va_G) (cs : CS) (a : Nat → Nat) (sz : Nat) (σ : MD) (p1 : Int32) {Φ : Int32 → MD → Prop} (hw : w_M_isSet σ p1 Φ) : Met l yX4_isSet wsX4_isSet rm_M_isSet (PcG [.ref (a 0), .int p1] D cs (ws_MD cs a σ) sz) (va_Qi Φ (BG D cs (va_A (ws_MD cs a σ) sz) sz (ws_MD cs a)) (va_A (ws_MD cs a σ) sz)) 0 0 (va_A (ws_MD cs a σ) sz) := by
  refine Met.ofW (cc := cX4_isSet) (maxL := 4) (ret := (some .boolean)) (by decide) rfl ?_
  intro p e s m args below meth c s₁ B hml hv
  obtain ⟨rfl, hsz, hP, hK, hD0⟩ := hv
  have hx := B.exec
  have hb := B.bytes
  have hr := B.returns
  have hts := atoms_spec (ws := wsX4_isSet) B.pre
  have hown : s.vm.findClass RX4 = some m.cls := findClass_of_methodNamed B.named
  have hlocks := B.notSynchronized
  subst hsz
  have hD := hD0.self (sz := s.heap.size)
  generalize hAe : va_A (ws_MD cs a σ) s.heap.size = A at hD ⊢
  have hA : ∀ q : Nat, s.heap.size ≤ q → A q := fun q h => by rw [← hAe]; exact Or.inr h
  have hS : va_S A s.heap s.heap [] := va_S.rf
  have hc127 : (Cond.constant RX4 127 (1073741824 : Int32)).before ([.ref (a 0), .int p1] : List Value).toArray s = true := hts _ (List.mem_of_getElem? (i := 1) rfl)
  have hP : va_P D vwCl (ws_MD cs a σ) s.heap := hP
  have B73 : ∀ (x2 : Int32) (σ : MD), b_M_isSet_73 Φ x2 σ → At p l e (headSpec wsX4_isSet rm_M_isSet).room s m ([.ref (a 0), .int p1] : List Value).toArray below meth c (MQ below (va_Qi Φ (BG D cs A s.heap.size (ws_MD cs a)) A) ([.ref (a 0), .int p1] : List Value).toArray s 0 0 A) D A 4 [(2, .int x2)] (ws_MD cs a σ) 73 [] := by
    intro x2 σ hw H locs ls hl hP hD hS
    unfold b_M_isSet_73 at hw
    refine lv_iload_n hx hb dX4_isSet_73 rfl (lv_at hl 0 rfl) ?_
    exact rZ (wf := (ws_MD cs a)) (u := σ) hx hb hr hlocks hK hP hD hS hw dX4_isSet_74
  have B66 : ∀ (K34 : (Int32 → Int32 → Int32 → MD → Prop)) (hK34 : ∀ (x1 : Int32) (x2 : Int32) (x3 : Int32) (σ : MD), K34 x1 x2 x3 σ → At p l e (headSpec wsX4_isSet rm_M_isSet).room s m ([.ref (a 0), .int p1] : List Value).toArray below meth c (MQ below (va_Qi Φ (BG D cs A s.heap.size (ws_MD cs a)) A) ([.ref (a 0), .int p1] : List Value).toArray s 0 0 A) D A 4 [(0, .ref (a 0)), (1, .int x1), (2, .int x2), (3, .int x3)] (ws_MD cs a σ) 34 []) (x1 : Int32) (x3 : Int32) (t0 : Int32) (σ : MD), b_M_isSet_66 K34 Φ x1 x3 t0 σ → At p l e (headSpec wsX4_isSet rm_M_isSet).room s m ([.ref (a 0), .int p1] : List Value).toArray below meth c (MQ below (va_Qi Φ (BG D cs A s.heap.size (ws_MD cs a)) A) ([.ref (a 0), .int p1] : List Value).toArray s 0 0 A) D A 4 [(0, .ref (a 0)), (1, .int x1), (3, .int x3)] (ws_MD cs a σ) 66 [.int t0] := by
    intro K34 hK34 x1 x3 t0 σ hw H locs ls hl hP hD hS
    unfold b_M_isSet_66 at hw
    refine lv_istore_n (lv' := [(2, .int t0), (0, .ref (a 0)), (1, .int x1), (3, .int x3)]) hx hb dX4_isSet_66 rfl hl (by decide) rfl (fun ls hl => ?_)
    refine lv_iinc (v := (x3 + (1 : Int32))) (lv' := [(3, .int (x3 + (1 : Int32))), (2, .int t0), (0, .ref (a 0)), (1, .int x1)]) hx hb dX4_isSet_67 hl (k := 3) rfl rfl (by decide) rfl (fun ls hl => ?_)
    refine lv_goto (tgt := 34) hx hb dX4_isSet_70 (by decide) ?_
    exact hK34 _ _ _ _ hw _ _ ls (lv_sub hl [2, 3, 1, 0] rfl) hP hD hS
  have B61 : ∀ (K34 : (Int32 → Int32 → Int32 → MD → Prop)) (hK34 : ∀ (x1 : Int32) (x2 : Int32) (x3 : Int32) (σ : MD), K34 x1 x2 x3 σ → At p l e (headSpec wsX4_isSet rm_M_isSet).room s m ([.ref (a 0), .int p1] : List Value).toArray below meth c (MQ below (va_Qi Φ (BG D cs A s.heap.size (ws_MD cs a)) A) ([.ref (a 0), .int p1] : List Value).toArray s 0 0 A) D A 4 [(0, .ref (a 0)), (1, .int x1), (2, .int x2), (3, .int x3)] (ws_MD cs a σ) 34 []) (x1 : Int32) (x3 : Int32) (σ : MD), b_M_isSet_61 K34 Φ x1 x3 σ → At p l e (headSpec wsX4_isSet rm_M_isSet).room s m ([.ref (a 0), .int p1] : List Value).toArray below meth c (MQ below (va_Qi Φ (BG D cs A s.heap.size (ws_MD cs a)) A) ([.ref (a 0), .int p1] : List Value).toArray s 0 0 A) D A 4 [(0, .ref (a 0)), (1, .int x1), (3, .int x3)] (ws_MD cs a σ) 61 [] := by
    intro K34 hK34 x1 x3 σ hw H locs ls hl hP hD hS
    unfold b_M_isSet_61 at hw
    refine lv_iconst (v := (1 : Int32)) hx hb dX4_isSet_61 (by decide) ?_
    refine lv_goto (tgt := 66) hx hb dX4_isSet_62 (by decide) ?_
    exact B66 _ hK34 _ _ _ _ hw _ _ ls (lv_sub hl [0, 1, 2] rfl) hP hD hS
  have B34 : ∀ (n : Nat) (x1 : Int32) (x2 : Int32) (x3 : Int32) (σ : MD), it4 (b_M_isSet_34 Φ) n x1 x2 x3 σ → At p l e (headSpec wsX4_isSet rm_M_isSet).room s m ([.ref (a 0), .int p1] : List Value).toArray below meth c (MQ below (va_Qi Φ (BG D cs A s.heap.size (ws_MD cs a)) A) ([.ref (a 0), .int p1] : List Value).toArray s 0 0 A) D A 4 [(0, .ref (a 0)), (1, .int x1), (2, .int x2), (3, .int x3)] (ws_MD cs a σ) 34 [] := by
    intro n
    induction n with
    | zero => intro x1 x2 x3 σ hw; exact absurd hw id
    | succ n ih =>
      intro x1 x2 x3 σ hw H locs ls hl hP hD hS
      have hw : b_M_isSet_34 Φ (it4 (b_M_isSet_34 Φ) n) x1 x2 x3 σ := hw
      unfold b_M_isSet_34 at hw
      refine lv_iload_n hx hb dX4_isSet_34 rfl (lv_at hl 3 rfl) ?_
      refine lv_bipush (v := (30 : Int32)) hx hb dX4_isSet_35 (by decide) ?_
      refine lv_icmp_ge (tgt := 73) hx hb dX4_isSet_37 (by decide) (fun c37 => ?_) (fun c37 => ?_)
      · have hw := hw.1 c37
        exact B73 _ _ hw _ _ ls (lv_sub hl [2] rfl) hP hD hS
      · have hw := hw.2 c37
        refine lv_iload_n hx hb dX4_isSet_40 rfl (lv_at hl 2 rfl) ?_
        refine lv_if_eq (tgt := 73) hx hb dX4_isSet_41 (by decide) (fun c41 => ?_) (fun c41 => ?_)
        · have hw := hw.1 c41
          exact B73 _ _ hw _ _ ls (lv_sub hl [2] rfl) hP hD hS
        · have hw := hw.2 c41
          refine lv_iload_n hx hb dX4_isSet_44 rfl (lv_at hl 1 rfl) ?_
          refine lv_iload_n hx hb dX4_isSet_45 rfl (lv_at hl 3 rfl) ?_
          refine lv_ishr hx hb dX4_isSet_46 ?_
          refine lv_iconst (v := (1 : Int32)) hx hb dX4_isSet_47 (by decide) ?_
          refine lv_iand hx hb dX4_isSet_48 ?_
          refine lv_if_eq (tgt := 61) hx hb dX4_isSet_49 (by decide) (fun c49 => ?_) (fun c49 => ?_)
          · have hw := hw.1 c49
            exact B61 _ ih _ _ _ hw _ _ ls (lv_sub hl [0, 1, 3] rfl) hP hD hS
          · have hw := hw.2 c49
            refine lv_aload_n hx hb dX4_isSet_52 rfl (lv_at hl 0 rfl) ?_
            refine lv_iload_n hx hb dX4_isSet_53 rfl (lv_at hl 3 rfl) ?_
            refine kVi (As := [.int x3]) (rest := []) ⟨hx, hb, hml, hown, hts⟩ (c_M_find l D cs a _ σ x3 hw) (cwV 1 hts gX4_isSet_X4_find rfl rfl rfl (by decide +kernel) ⟨Nat.le_of_ble_eq_true rfl, Nat.le_of_ble_eq_true rfl⟩) (pt_self_MD cs a σ) hK hP hD hS hA (ci := 4) rfl rfl rfl rfl hl.1 rfl (Nat.le_of_ble_eq_true rfl) dX4_isSet_54 ⟨Nat.zero_le _, Nat.zero_le _⟩ (fun r54 u54 H locs hw hP hD hS => ?_)
            have hP : va_P D vwCl (ws_MD cs a u54) H := hP
            have hD : va_D A (ws_MD cs a u54) := hD
            refine lv_iconst (v := (-1 : Int32)) hx hb dX4_isSet_57 (by decide) ?_
            refine lv_icmp_eq (tgt := 65) hx hb dX4_isSet_58 (by decide) (fun c58 => ?_) (fun c58 => ?_)
            · have hw := hw.1 c58
              refine lv_iconst (v := (0 : Int32)) hx hb dX4_isSet_65 (by decide) ?_
              exact B66 _ ih _ _ _ _ hw _ _ ls (lv_sub hl [0, 1, 3] rfl) hP hD hS
            · have hw := hw.2 c58
              exact B61 _ ih _ _ _ hw _ _ ls (lv_sub hl [0, 1, 3] rfl) hP hD hS
  have B31 : ∀ (x1 : Int32) (t0 : Int32) (σ : MD), b_M_isSet_31 Φ x1 t0 σ → At p l e (headSpec wsX4_isSet rm_M_isSet).room s m ([.ref (a 0), .int p1] : List Value).toArray below meth c (MQ below (va_Qi Φ (BG D cs A s.heap.size (ws_MD cs a)) A) ([.ref (a 0), .int p1] : List Value).toArray s 0 0 A) D A 4 [(0, .ref (a 0)), (1, .int x1)] (ws_MD cs a σ) 31 [.int t0] := by
    intro x1 t0 σ hw H locs ls hl hP hD hS
    unfold b_M_isSet_31 at hw
    refine lv_istore_n (lv' := [(2, .int t0), (0, .ref (a 0)), (1, .int x1)]) hx hb dX4_isSet_31 rfl hl (by decide) rfl (fun ls hl => ?_)
    refine lv_iconst (v := (0 : Int32)) hx hb dX4_isSet_32 (by decide) ?_
    refine lv_istore_n (lv' := [(3, .int (0 : Int32)), (2, .int t0), (0, .ref (a 0)), (1, .int x1)]) hx hb dX4_isSet_33 rfl hl (by decide) rfl (fun ls hl => ?_)
    obtain ⟨n, hw⟩ := hw
    exact B34 n _ _ _ _ hw _ _ ls (lv_sub hl [2, 3, 1, 0] rfl) hP hD hS
  have B30 : ∀ (x1 : Int32) (σ : MD), b_M_isSet_30 Φ x1 σ → At p l e (headSpec wsX4_isSet rm_M_isSet).room s m ([.ref (a 0), .int p1] : List Value).toArray below meth c (MQ below (va_Qi Φ (BG D cs A s.heap.size (ws_MD cs a)) A) ([.ref (a 0), .int p1] : List Value).toArray s 0 0 A) D A 4 [(0, .ref (a 0)), (1, .int x1)] (ws_MD cs a σ) 30 [] := by
    intro x1 σ hw H locs ls hl hP hD hS
    unfold b_M_isSet_30 at hw
    refine lv_iconst (v := (0 : Int32)) hx hb dX4_isSet_30 (by decide) ?_
    exact B31 _ _ _ hw _ _ ls (lv_sub hl [0, 1] rfl) hP hD hS
  have hl := lv_entry ([.ref (a 0), .int p1]) (n := 4) (Nat.le_of_ble_eq_true rfl)
  rw [lg_entry_eq]
  generalize (lg_sl ([.ref (a 0), .int p1]) ++ List.replicate (4 - (lg_sl ([.ref (a 0), .int p1])).length) Slot.unset).toArray = ls at hl ⊢
  have hl : lv_has ls 4 [(0, .ref (a 0)), (1, .int p1)] := hl
  unfold w_M_isSet at hw
  refine lv_aload_n hx hb dX4_isSet_0 rfl (lv_at hl 0 rfl) ?_
  refine kVv (As := []) (rest := []) ⟨hx, hb, hml, hown, hts⟩ (c_M_copyYard l D cs a _ σ hw) (cwV 0 hts gX4_isSet_X4_copyYard rfl rfl rfl (by decide +kernel) ⟨Nat.le_of_ble_eq_true rfl, Nat.le_of_ble_eq_true rfl⟩) (pt_self_MD cs a σ) hK hP hD hS hA (ci := 4) rfl rfl rfl rfl hl.1 rfl (Nat.le_of_ble_eq_true rfl) dX4_isSet_1 ⟨Nat.zero_le _, Nat.zero_le _⟩ (fun u1 H locs hw hP hD hS => ?_)
  have hP : va_P D vwCl (ws_MD cs a u1) H := hP
  have hD : va_D A (ws_MD cs a u1) := hD
  refine lv_iload_n hx hb dX4_isSet_4 rfl (lv_at hl 1 rfl) ?_
  refine lv_if_le (tgt := 30) hx hb dX4_isSet_5 (by decide) (fun c5 => ?_) (fun c5 => ?_)
  · have hw := hw.1 c5
    exact B30 _ _ hw _ _ ls (lv_sub hl [0, 1] rfl) hP hD hS
  · have hw := hw.2 c5
    refine lv_iload_n hx hb dX4_isSet_8 rfl (lv_at hl 1 rfl) ?_
    refine lv_ldc (v := (1073741824 : Int32)) hx hb hown hc127 dX4_isSet_9 ?_
    refine lv_icmp_ge (tgt := 30) hx hb dX4_isSet_11 (by decide) (fun c11 => ?_) (fun c11 => ?_)
    · have hw := hw.1 c11
      exact B30 _ _ hw _ _ ls (lv_sub hl [0, 1] rfl) hP hD hS
    · have hw := hw.2 c11
      refine lv_iload_n hx hb dX4_isSet_14 rfl (lv_at hl 1 rfl) ?_
      refine kSi (As := [.int p1]) (rest := []) ⟨hx, hb, hml, hown, hts⟩ (c_M_bits l D cs a _ p1 hw) (va_cwS 1 hts gX4_isSet_X4_bits rfl rfl rfl (by decide +kernel) ⟨Nat.le_of_ble_eq_true rfl, Nat.le_of_ble_eq_true rfl⟩) (pt_un_MD cs a u1) hK hP hD hS hA rfl hl.1 rfl (Nat.le_of_ble_eq_true rfl) dX4_isSet_15 ⟨Nat.zero_le _, Nat.zero_le _⟩ (fun r15 u15 H locs hw hP hD hS => ?_)
      have hP : va_P D vwCl (ws_MD cs a u1) H := hP
      have hD : va_D A (ws_MD cs a u1) := hD
      refine lv_iconst (v := (1 : Int32)) hx hb dX4_isSet_18 (by decide) ?_
      refine lv_iconst (v := (4 : Int32)) hx hb dX4_isSet_19 (by decide) ?_
      refine kSi (As := [.int r15, .int (1 : Int32), .int (4 : Int32)]) (rest := []) ⟨hx, hb, hml, hown, hts⟩ (c_M_in l D cs a _ r15 (1 : Int32) (4 : Int32) hw) (va_cwS 3 hts gX4_isSet_X4_in rfl rfl rfl (by decide +kernel) ⟨Nat.le_of_ble_eq_true rfl, Nat.le_of_ble_eq_true rfl⟩) (pt_un_MD cs a u1) hK hP hD hS hA rfl hl.1 rfl (Nat.le_of_ble_eq_true rfl) dX4_isSet_20 ⟨Nat.zero_le _, Nat.zero_le _⟩ (fun r20 u20 H locs hw hP hD hS => ?_)
      have hP : va_P D vwCl (ws_MD cs a u1) H := hP
      have hD : va_D A (ws_MD cs a u1) := hD
      refine lv_if_eq (tgt := 30) hx hb dX4_isSet_23 (by decide) (fun c23 => ?_) (fun c23 => ?_)
      · have hw := hw.1 c23
        exact B30 _ _ hw _ _ ls (lv_sub hl [0, 1] rfl) hP hD hS
      · have hw := hw.2 c23
        refine lv_iconst (v := (1 : Int32)) hx hb dX4_isSet_26 (by decide) ?_
        refine lv_goto (tgt := 31) hx hb dX4_isSet_27 (by decide) ?_
        exact B31 _ _ _ hw _ _ ls (lv_sub hl [0, 1] rfl) hP hD hS
abbrev rm_M_liftsBy : Room := { frames := 3, cells := 0, slots := 0, locals := 70 }
set_option maxHeartbeats 4000000 in
set_option maxRecDepth 100000 in
theorem c_M_liftsBy (l : Launch) (D : va_G) (cs : CS) (a : Nat → Nat) (sz : Nat) (σ : MD) (p1 : Int32) (p2 : Int32) (p3 : Int32) {Φ : Int32 → MD → Prop} (hw : w_M_liftsBy σ p1 p2 p3 Φ) : Met l yX4_liftsBy wsX4_liftsBy rm_M_liftsBy (PcG [.ref (a 0), .int p1, .int p2, .int p3] D cs (ws_MD cs a σ) sz) (va_Qi Φ (BG D cs (va_A (ws_MD cs a σ) sz) sz (ws_MD cs a)) (va_A (ws_MD cs a σ) sz)) 0 0 (va_A (ws_MD cs a σ) sz) := by
  refine Met.ofW (cc := cX4_liftsBy) (maxL := 11) (ret := (some .int)) (by decide) rfl ?_
  intro p e s m args below meth c s₁ B hml hv
  obtain ⟨rfl, hsz, hP, hK, hD0⟩ := hv
  have hx := B.exec
  have hb := B.bytes
  have hr := B.returns
  have hts := atoms_spec (ws := wsX4_liftsBy) B.pre
  have hown : s.vm.findClass RX4 = some m.cls := findClass_of_methodNamed B.named
  have hlocks := B.notSynchronized
  subst hsz
  have hD := hD0.self (sz := s.heap.size)
  generalize hAe : va_A (ws_MD cs a σ) s.heap.size = A at hD ⊢
  have hA : ∀ q : Nat, s.heap.size ≤ q → A q := fun q h => by rw [← hAe]; exact Or.inr h
  have hS : va_S A s.heap s.heap [] := va_S.rf
  have hP : va_P D vwCl (ws_MD cs a σ) s.heap := hP
  have B76 : ∀ (K16 : (Int32 → Int32 → Int32 → Int32 → Int32 → Int32 → MD → Prop)) (hK16 : ∀ (x1 : Int32) (x2 : Int32) (x4 : Int32) (x5 : Int32) (x6 : Int32) (x7 : Int32) (σ : MD), K16 x1 x2 x4 x5 x6 x7 σ → At p l e (headSpec wsX4_liftsBy rm_M_liftsBy).room s m ([.ref (a 0), .int p1, .int p2, .int p3] : List Value).toArray below meth c (MQ below (va_Qi Φ (BG D cs A s.heap.size (ws_MD cs a)) A) ([.ref (a 0), .int p1, .int p2, .int p3] : List Value).toArray s 0 0 A) D A 11 [(0, .ref (a 0)), (1, .int x1), (2, .int x2), (4, .int x4), (5, .int x5), (6, .int x6), (7, .int x7)] (ws_MD cs a σ) 16 []) (x1 : Int32) (x2 : Int32) (x4 : Int32) (x5 : Int32) (x6 : Int32) (x7 : Int32) (x8 : Int32) (t0 : Int32) (σ : MD), b_M_liftsBy_76 K16 Φ x1 x2 x4 x5 x6 x7 x8 t0 σ → At p l e (headSpec wsX4_liftsBy rm_M_liftsBy).room s m ([.ref (a 0), .int p1, .int p2, .int p3] : List Value).toArray below meth c (MQ below (va_Qi Φ (BG D cs A s.heap.size (ws_MD cs a)) A) ([.ref (a 0), .int p1, .int p2, .int p3] : List Value).toArray s 0 0 A) D A 11 [(0, .ref (a 0)), (1, .int x1), (2, .int x2), (4, .int x4), (5, .int x5), (6, .int x6), (7, .int x7), (8, .int x8)] (ws_MD cs a σ) 76 [.int t0] := by
    intro K16 hK16 x1 x2 x4 x5 x6 x7 x8 t0 σ hw H locs ls hl hP hD hS
    unfold b_M_liftsBy_76 at hw
    refine lv_istore (lv' := [(10, .int t0), (0, .ref (a 0)), (1, .int x1), (2, .int x2), (4, .int x4), (5, .int x5), (6, .int x6), (7, .int x7), (8, .int x8)]) hx hb dX4_liftsBy_76 hl (by decide) rfl (fun ls hl => ?_)
    refine lv_iload hx hb dX4_liftsBy_78 (lv_at hl 0 rfl) ?_
    refine lv_iconst (v := (-1 : Int32)) hx hb dX4_liftsBy_80 (by decide) ?_
    refine lv_icmp_ne (tgt := 86) hx hb dX4_liftsBy_81 (by decide) (fun c81 => ?_) (fun c81 => ?_)
    · have hw := hw.2 c81
      refine lv_iload hx hb dX4_liftsBy_86 (lv_at hl 5 rfl) ?_
      refine lv_iconst (v := (1 : Int32)) hx hb dX4_liftsBy_88 (by decide) ?_
      refine lv_iload hx hb dX4_liftsBy_89 (lv_at hl 8 rfl) ?_
      refine lv_ishl hx hb dX4_liftsBy_91 ?_
      refine lv_ior hx hb dX4_liftsBy_92 ?_
      refine lv_topi (fun y1 ey1 => ?_)
      have hw := hw y1 ey1
      refine lv_istore (lv' := [(5, .int y1), (10, .int t0), (0, .ref (a 0)), (1, .int x1), (2, .int x2), (4, .int x4), (6, .int x6), (7, .int x7), (8, .int x8)]) hx hb dX4_liftsBy_93 hl (by decide) rfl (fun ls hl => ?_)
      refine lv_iload hx hb dX4_liftsBy_95 (lv_at hl 5 rfl) ?_
      refine lv_iload hx hb dX4_liftsBy_97 (lv_at hl 1 rfl) ?_
      refine lv_iadd hx hb dX4_liftsBy_99 ?_
      refine lv_istore (lv' := [(4, .int (x4 + t0)), (5, .int y1), (10, .int t0), (0, .ref (a 0)), (1, .int x1), (2, .int x2), (6, .int x6), (7, .int x7), (8, .int x8)]) hx hb dX4_liftsBy_100 hl (by decide) rfl (fun ls hl => ?_)
      refine lv_iinc (v := (x7 + (1 : Int32))) (lv' := [(7, .int (x7 + (1 : Int32))), (4, .int (x4 + t0)), (5, .int y1), (10, .int t0), (0, .ref (a 0)), (1, .int x1), (2, .int x2), (6, .int x6), (8, .int x8)]) hx hb dX4_liftsBy_102 hl (k := 7) rfl rfl (by decide) rfl (fun ls hl => ?_)
      refine lv_goto (tgt := 16) hx hb dX4_liftsBy_105 (by decide) ?_
      exact hK16 _ _ _ _ _ _ _ hw _ _ ls (lv_sub hl [4, 5, 6, 1, 2, 7, 0] rfl) hP hD hS
    · have hw := hw.1 c81
      refine lv_iconst (v := (-1 : Int32)) hx hb dX4_liftsBy_84 (by decide) ?_
      exact rI (wf := (ws_MD cs a)) (u := σ) hx hb hr hlocks hK hP hD hS hw dX4_liftsBy_85
  have B55 : ∀ (K16 : (Int32 → Int32 → Int32 → Int32 → Int32 → Int32 → MD → Prop)) (hK16 : ∀ (x1 : Int32) (x2 : Int32) (x4 : Int32) (x5 : Int32) (x6 : Int32) (x7 : Int32) (σ : MD), K16 x1 x2 x4 x5 x6 x7 σ → At p l e (headSpec wsX4_liftsBy rm_M_liftsBy).room s m ([.ref (a 0), .int p1, .int p2, .int p3] : List Value).toArray below meth c (MQ below (va_Qi Φ (BG D cs A s.heap.size (ws_MD cs a)) A) ([.ref (a 0), .int p1, .int p2, .int p3] : List Value).toArray s 0 0 A) D A 11 [(0, .ref (a 0)), (1, .int x1), (2, .int x2), (4, .int x4), (5, .int x5), (6, .int x6), (7, .int x7)] (ws_MD cs a σ) 16 []) (x1 : Int32) (x2 : Int32) (x4 : Int32) (x5 : Int32) (x6 : Int32) (x7 : Int32) (x8 : Int32) (t0 : Int32) (σ : MD), b_M_liftsBy_55 K16 Φ x1 x2 x4 x5 x6 x7 x8 t0 σ → At p l e (headSpec wsX4_liftsBy rm_M_liftsBy).room s m ([.ref (a 0), .int p1, .int p2, .int p3] : List Value).toArray below meth c (MQ below (va_Qi Φ (BG D cs A s.heap.size (ws_MD cs a)) A) ([.ref (a 0), .int p1, .int p2, .int p3] : List Value).toArray s 0 0 A) D A 11 [(0, .ref (a 0)), (1, .int x1), (2, .int x2), (4, .int x4), (5, .int x5), (6, .int x6), (7, .int x7), (8, .int x8)] (ws_MD cs a σ) 55 [.int t0] := by
    intro K16 hK16 x1 x2 x4 x5 x6 x7 x8 t0 σ hw H locs ls hl hP hD hS
    unfold b_M_liftsBy_55 at hw
    refine lv_istore (lv' := [(9, .int t0), (0, .ref (a 0)), (1, .int x1), (2, .int x2), (4, .int x4), (5, .int x5), (6, .int x6), (7, .int x7), (8, .int x8)]) hx hb dX4_liftsBy_55 hl (by decide) rfl (fun ls hl => ?_)
    refine lv_iload hx hb dX4_liftsBy_57 (lv_at hl 0 rfl) ?_
    refine lv_if_eq (tgt := 75) hx hb dX4_liftsBy_59 (by decide) (fun c59 => ?_) (fun c59 => ?_)
    · have hw := hw.1 c59
      refine lv_iconst (v := (-1 : Int32)) hx hb dX4_liftsBy_75 (by decide) ?_
      exact B76 _ hK16 _ _ _ _ _ _ _ _ _ hw _ _ ls (lv_sub hl [1, 2, 3, 4, 5, 6, 7, 8] rfl) hP hD hS
    · have hw := hw.2 c59
      refine lv_aload_n hx hb dX4_liftsBy_62 rfl (lv_at hl 1 rfl) ?_
      refine lv_iload_n hx hb dX4_liftsBy_63 rfl (lv_at hl 2 rfl) ?_
      refine lv_iload hx hb dX4_liftsBy_64 (lv_at hl 8 rfl) ?_
      refine kSi (As := [.int x1, .int x8]) (rest := [.ref (a 0)]) ⟨hx, hb, hml, hown, hts⟩ (c_M_member l D cs a _ x1 x8 hw) (va_cwS 2 hts gX4_liftsBy_X4_member rfl rfl rfl (by decide +kernel) ⟨Nat.le_of_ble_eq_true rfl, Nat.le_of_ble_eq_true rfl⟩) (pt_un_MD cs a σ) hK hP hD hS hA rfl hl.1 rfl (Nat.le_of_ble_eq_true rfl) dX4_liftsBy_66 ⟨Nat.zero_le _, Nat.zero_le _⟩ (fun r66 u66 H locs hw hP hD hS => ?_)
      have hP : va_P D vwCl (ws_MD cs a σ) H := hP
      have hD : va_D A (ws_MD cs a σ) := hD
      refine kVi (As := [.int r66]) (rest := []) ⟨hx, hb, hml, hown, hts⟩ (c_M_digOut l D cs a _ σ r66 hw) (cwV 1 hts gX4_liftsBy_X4_digOut rfl rfl rfl (by decide +kernel) ⟨Nat.le_of_ble_eq_true rfl, Nat.le_of_ble_eq_true rfl⟩) (pt_self_MD cs a σ) hK hP hD hS hA (ci := 4) rfl rfl rfl rfl hl.1 rfl (Nat.le_of_ble_eq_true rfl) dX4_liftsBy_69 ⟨Nat.zero_le _, Nat.zero_le _⟩ (fun r69 u69 H locs hw hP hD hS => ?_)
      have hP : va_P D vwCl (ws_MD cs a u69) H := hP
      have hD : va_D A (ws_MD cs a u69) := hD
      refine lv_goto (tgt := 76) hx hb dX4_liftsBy_72 (by decide) ?_
      exact B76 _ hK16 _ _ _ _ _ _ _ _ _ hw H locs ls (lv_sub hl [1, 2, 3, 4, 5, 6, 7, 8] rfl) hP hD hS
  have B54 : ∀ (K16 : (Int32 → Int32 → Int32 → Int32 → Int32 → Int32 → MD → Prop)) (hK16 : ∀ (x1 : Int32) (x2 : Int32) (x4 : Int32) (x5 : Int32) (x6 : Int32) (x7 : Int32) (σ : MD), K16 x1 x2 x4 x5 x6 x7 σ → At p l e (headSpec wsX4_liftsBy rm_M_liftsBy).room s m ([.ref (a 0), .int p1, .int p2, .int p3] : List Value).toArray below meth c (MQ below (va_Qi Φ (BG D cs A s.heap.size (ws_MD cs a)) A) ([.ref (a 0), .int p1, .int p2, .int p3] : List Value).toArray s 0 0 A) D A 11 [(0, .ref (a 0)), (1, .int x1), (2, .int x2), (4, .int x4), (5, .int x5), (6, .int x6), (7, .int x7)] (ws_MD cs a σ) 16 []) (x1 : Int32) (x2 : Int32) (x4 : Int32) (x5 : Int32) (x6 : Int32) (x7 : Int32) (x8 : Int32) (σ : MD), b_M_liftsBy_54 K16 Φ x1 x2 x4 x5 x6 x7 x8 σ → At p l e (headSpec wsX4_liftsBy rm_M_liftsBy).room s m ([.ref (a 0), .int p1, .int p2, .int p3] : List Value).toArray below meth c (MQ below (va_Qi Φ (BG D cs A s.heap.size (ws_MD cs a)) A) ([.ref (a 0), .int p1, .int p2, .int p3] : List Value).toArray s 0 0 A) D A 11 [(0, .ref (a 0)), (1, .int x1), (2, .int x2), (4, .int x4), (5, .int x5), (6, .int x6), (7, .int x7), (8, .int x8)] (ws_MD cs a σ) 54 [] := by
    intro K16 hK16 x1 x2 x4 x5 x6 x7 x8 σ hw H locs ls hl hP hD hS
    unfold b_M_liftsBy_54 at hw
    refine lv_iconst (v := (0 : Int32)) hx hb dX4_liftsBy_54 (by decide) ?_
    exact B55 _ hK16 _ _ _ _ _ _ _ _ _ hw _ _ ls (lv_sub hl [0, 1, 2, 3, 4, 5, 6, 7] rfl) hP hD hS
  have B16 : ∀ (n : Nat) (x1 : Int32) (x2 : Int32) (x4 : Int32) (x5 : Int32) (x6 : Int32) (x7 : Int32) (σ : MD), it7 (b_M_liftsBy_16 Φ) n x1 x2 x4 x5 x6 x7 σ → At p l e (headSpec wsX4_liftsBy rm_M_liftsBy).room s m ([.ref (a 0), .int p1, .int p2, .int p3] : List Value).toArray below meth c (MQ below (va_Qi Φ (BG D cs A s.heap.size (ws_MD cs a)) A) ([.ref (a 0), .int p1, .int p2, .int p3] : List Value).toArray s 0 0 A) D A 11 [(0, .ref (a 0)), (1, .int x1), (2, .int x2), (4, .int x4), (5, .int x5), (6, .int x6), (7, .int x7)] (ws_MD cs a σ) 16 [] := by
    intro n
    induction n with
    | zero => intro x1 x2 x4 x5 x6 x7 σ hw; exact absurd hw id
    | succ n ih =>
      intro x1 x2 x4 x5 x6 x7 σ hw H locs ls hl hP hD hS
      have hw : b_M_liftsBy_16 Φ (it7 (b_M_liftsBy_16 Φ) n) x1 x2 x4 x5 x6 x7 σ := hw
      unfold b_M_liftsBy_16 at hw
      refine lv_iload hx hb dX4_liftsBy_16 (lv_at hl 6 rfl) ?_
      refine lv_iload_n hx hb dX4_liftsBy_18 rfl (lv_at hl 2 rfl) ?_
      refine lv_icmp_ge (tgt := 108) hx hb dX4_liftsBy_19 (by decide) (fun c19 => ?_) (fun c19 => ?_)
      · have hw := hw.1 c19
        refine lv_iload hx hb dX4_liftsBy_108 (lv_at hl 3 rfl) ?_
        exact rI (wf := (ws_MD cs a)) (u := σ) hx hb hr hlocks hK hP hD hS hw dX4_liftsBy_110
      · have hw := hw.2 c19
        refine lv_iload hx hb dX4_liftsBy_22 (lv_at hl 5 rfl) ?_
        refine lv_iconst (v := (4 : Int32)) hx hb dX4_liftsBy_24 (by decide) ?_
        refine lv_irem hx hb dX4_liftsBy_25 (by decide) ?_
        refine lv_topi (fun y1 ey1 => ?_)
        have hw := hw y1 ey1
        refine lv_istore (lv' := [(8, .int y1), (0, .ref (a 0)), (1, .int x1), (2, .int x2), (4, .int x4), (5, .int x5), (6, .int x6), (7, .int x7)]) hx hb dX4_liftsBy_26 hl (by decide) rfl (fun ls hl => ?_)
        refine lv_iload hx hb dX4_liftsBy_28 (lv_at hl 6 rfl) ?_
        refine lv_iconst (v := (4 : Int32)) hx hb dX4_liftsBy_30 (by decide) ?_
        refine lv_idiv hx hb dX4_liftsBy_31 (by decide) ?_
        refine lv_istore (lv' := [(6, .int (x6 / (4 : Int32))), (8, .int y1), (0, .ref (a 0)), (1, .int x1), (2, .int x2), (4, .int x4), (5, .int x5), (7, .int x7)]) hx hb dX4_liftsBy_32 hl (by decide) rfl (fun ls hl => ?_)
        refine lv_iload hx hb dX4_liftsBy_34 (lv_at hl 1 rfl) ?_
        refine lv_iload_n hx hb dX4_liftsBy_36 rfl (lv_at hl 4 rfl) ?_
        refine lv_icmp_ge (tgt := 54) hx hb dX4_liftsBy_37 (by decide) (fun c37 => ?_) (fun c37 => ?_)
        · have hw := hw.1 c37
          exact B54 _ ih _ _ _ _ _ _ _ _ hw _ _ ls (lv_sub hl [2, 3, 4, 5, 6, 0, 7, 1] rfl) hP hD hS
        · have hw := hw.2 c37
          refine lv_iload hx hb dX4_liftsBy_40 (lv_at hl 6 rfl) ?_
          refine lv_iload hx hb dX4_liftsBy_42 (lv_at hl 1 rfl) ?_
          refine lv_ishr hx hb dX4_liftsBy_44 ?_
          refine lv_iconst (v := (1 : Int32)) hx hb dX4_liftsBy_45 (by decide) ?_
          refine lv_iand hx hb dX4_liftsBy_46 ?_
          refine lv_if_ne (tgt := 54) hx hb dX4_liftsBy_47 (by decide) (fun c47 => ?_) (fun c47 => ?_)
          · have hw := hw.2 c47
            exact B54 _ ih _ _ _ _ _ _ _ _ hw _ _ ls (lv_sub hl [2, 3, 4, 5, 6, 0, 7, 1] rfl) hP hD hS
          · have hw := hw.1 c47
            refine lv_iconst (v := (1 : Int32)) hx hb dX4_liftsBy_50 (by decide) ?_
            refine lv_goto (tgt := 55) hx hb dX4_liftsBy_51 (by decide) ?_
            exact B55 _ ih _ _ _ _ _ _ _ _ _ hw _ _ ls (lv_sub hl [2, 3, 4, 5, 6, 0, 7, 1] rfl) hP hD hS
  have hl := lv_entry ([.ref (a 0), .int p1, .int p2, .int p3]) (n := 11) (Nat.le_of_ble_eq_true rfl)
  rw [lg_entry_eq]
  generalize (lg_sl ([.ref (a 0), .int p1, .int p2, .int p3]) ++ List.replicate (11 - (lg_sl ([.ref (a 0), .int p1, .int p2, .int p3])).length) Slot.unset).toArray = ls at hl ⊢
  have hl : lv_has ls 11 [(0, .ref (a 0)), (1, .int p1), (2, .int p2), (3, .int p3)] := hl
  unfold w_M_liftsBy at hw
  refine lv_aload_n hx hb dX4_liftsBy_0 rfl (lv_at hl 0 rfl) ?_
  refine kVv (As := []) (rest := []) ⟨hx, hb, hml, hown, hts⟩ (c_M_copyYard l D cs a _ σ hw) (cwV 0 hts gX4_liftsBy_X4_copyYard rfl rfl rfl (by decide +kernel) ⟨Nat.le_of_ble_eq_true rfl, Nat.le_of_ble_eq_true rfl⟩) (pt_self_MD cs a σ) hK hP hD hS hA (ci := 4) rfl rfl rfl rfl hl.1 rfl (Nat.le_of_ble_eq_true rfl) dX4_liftsBy_1 ⟨Nat.zero_le _, Nat.zero_le _⟩ (fun u1 H locs hw hP hD hS => ?_)
  have hP : va_P D vwCl (ws_MD cs a u1) H := hP
  have hD : va_D A (ws_MD cs a u1) := hD
  refine lv_iconst (v := (0 : Int32)) hx hb dX4_liftsBy_4 (by decide) ?_
  refine lv_istore (lv' := [(4, .int (0 : Int32)), (0, .ref (a 0)), (1, .int p1), (2, .int p2), (3, .int p3)]) hx hb dX4_liftsBy_5 hl (by decide) rfl (fun ls hl => ?_)
  refine lv_iconst (v := (0 : Int32)) hx hb dX4_liftsBy_7 (by decide) ?_
  refine lv_istore (lv' := [(5, .int (0 : Int32)), (4, .int (0 : Int32)), (0, .ref (a 0)), (1, .int p1), (2, .int p2), (3, .int p3)]) hx hb dX4_liftsBy_8 hl (by decide) rfl (fun ls hl => ?_)
  refine lv_iload_n hx hb dX4_liftsBy_10 rfl (lv_at hl 5 rfl) ?_
  refine lv_istore (lv' := [(6, .int p3), (5, .int (0 : Int32)), (4, .int (0 : Int32)), (0, .ref (a 0)), (1, .int p1), (2, .int p2), (3, .int p3)]) hx hb dX4_liftsBy_11 hl (by decide) rfl (fun ls hl => ?_)
  refine lv_iconst (v := (0 : Int32)) hx hb dX4_liftsBy_13 (by decide) ?_
  refine lv_istore (lv' := [(7, .int (0 : Int32)), (6, .int p3), (5, .int (0 : Int32)), (4, .int (0 : Int32)), (0, .ref (a 0)), (1, .int p1), (2, .int p2), (3, .int p3)]) hx hb dX4_liftsBy_14 hl (by decide) rfl (fun ls hl => ?_)
  obtain ⟨n, hw⟩ := hw
  exact B16 n _ _ _ _ _ _ _ hw H locs ls (lv_sub hl [4, 5, 6, 3, 2, 1, 0] rfl) hP hD hS
abbrev rm_M_fewestLifts : Room := { frames := 4, cells := 0, slots := 0, locals := 100 }
set_option maxHeartbeats 4000000 in
set_option maxRecDepth 100000 in
theorem c_M_fewestLifts (l : Launch) (D : va_G) (cs : CS) (a : Nat → Nat) (sz : Nat) (σ : MD) (p1 : Int32) {Φ : Int32 → MD → Prop} (hw : w_M_fewestLifts σ p1 Φ) : Met l yX4_fewestLifts wsX4_fewestLifts rm_M_fewestLifts (PcG [.ref (a 0), .int p1] D cs (ws_MD cs a σ) sz) (va_Qi Φ (BG D cs (va_A (ws_MD cs a σ) sz) sz (ws_MD cs a)) (va_A (ws_MD cs a σ) sz)) 0 0 (va_A (ws_MD cs a σ) sz) := by
  refine Met.ofW (cc := cX4_fewestLifts) (maxL := 6) (ret := (some .int)) (by decide) rfl ?_
  intro p e s m args below meth c s₁ B hml hv
  obtain ⟨rfl, hsz, hP, hK, hD0⟩ := hv
  have hx := B.exec
  have hb := B.bytes
  have hr := B.returns
  have hts := atoms_spec (ws := wsX4_fewestLifts) B.pre
  have hown : s.vm.findClass RX4 = some m.cls := findClass_of_methodNamed B.named
  have hlocks := B.notSynchronized
  subst hsz
  have hD := hD0.self (sz := s.heap.size)
  generalize hAe : va_A (ws_MD cs a σ) s.heap.size = A at hD ⊢
  have hA : ∀ q : Nat, s.heap.size ≤ q → A q := fun q h => by rw [← hAe]; exact Or.inr h
  have hS : va_S A s.heap s.heap [] := va_S.rf
  have hf22 : (Cond.fieldLink RX4 22 "CraneYardModel" "crane" "I").before ([.ref (a 0), .int p1] : List Value).toArray s = true := hts _ (List.mem_of_getElem? (i := 1) rfl)
  have hinX4 : ∀ w ∈ wsX40, w ∈ wsX4_fewestLifts := fun _ h => List.mem_cons_of_mem _ (List.mem_append_right _ h)
  have hP : va_P D vwCl (ws_MD cs a σ) s.heap := hP
  have B87 : ∀ (K44 : (Int32 → Int32 → Int32 → Int32 → MD → Prop)) (hK44 : ∀ (x1 : Int32) (x2 : Int32) (x3 : Int32) (x4 : Int32) (σ : MD), K44 x1 x2 x3 x4 σ → At p l e (headSpec wsX4_fewestLifts rm_M_fewestLifts).room s m ([.ref (a 0), .int p1] : List Value).toArray below meth c (MQ below (va_Qi Φ (BG D cs A s.heap.size (ws_MD cs a)) A) ([.ref (a 0), .int p1] : List Value).toArray s 0 0 A) D A 6 [(0, .ref (a 0)), (1, .int x1), (2, .int x2), (3, .int x3), (4, .int x4)] (ws_MD cs a σ) 44 []) (x1 : Int32) (x2 : Int32) (x4 : Int32) (t0 : Int32) (σ : MD), b_M_fewestLifts_87 K44 Φ x1 x2 x4 t0 σ → At p l e (headSpec wsX4_fewestLifts rm_M_fewestLifts).room s m ([.ref (a 0), .int p1] : List Value).toArray below meth c (MQ below (va_Qi Φ (BG D cs A s.heap.size (ws_MD cs a)) A) ([.ref (a 0), .int p1] : List Value).toArray s 0 0 A) D A 6 [(0, .ref (a 0)), (1, .int x1), (2, .int x2), (4, .int x4)] (ws_MD cs a σ) 87 [.int t0] := by
    intro K44 hK44 x1 x2 x4 t0 σ hw H locs ls hl hP hD hS
    unfold b_M_fewestLifts_87 at hw
    refine lv_istore_n (lv' := [(3, .int t0), (0, .ref (a 0)), (1, .int x1), (2, .int x2), (4, .int x4)]) hx hb dX4_fewestLifts_87 rfl hl (by decide) rfl (fun ls hl => ?_)
    refine lv_iinc (v := (x4 + (1 : Int32))) (lv' := [(4, .int (x4 + (1 : Int32))), (3, .int t0), (0, .ref (a 0)), (1, .int x1), (2, .int x2)]) hx hb dX4_fewestLifts_88 hl (k := 4) rfl rfl (by decide) rfl (fun ls hl => ?_)
    refine lv_goto (tgt := 44) hx hb dX4_fewestLifts_91 (by decide) ?_
    exact hK44 _ _ _ _ _ hw _ _ ls (lv_sub hl [2, 3, 4, 1, 0] rfl) hP hD hS
  have B86 : ∀ (K44 : (Int32 → Int32 → Int32 → Int32 → MD → Prop)) (hK44 : ∀ (x1 : Int32) (x2 : Int32) (x3 : Int32) (x4 : Int32) (σ : MD), K44 x1 x2 x3 x4 σ → At p l e (headSpec wsX4_fewestLifts rm_M_fewestLifts).room s m ([.ref (a 0), .int p1] : List Value).toArray below meth c (MQ below (va_Qi Φ (BG D cs A s.heap.size (ws_MD cs a)) A) ([.ref (a 0), .int p1] : List Value).toArray s 0 0 A) D A 6 [(0, .ref (a 0)), (1, .int x1), (2, .int x2), (3, .int x3), (4, .int x4)] (ws_MD cs a σ) 44 []) (x1 : Int32) (x2 : Int32) (x3 : Int32) (x4 : Int32) (σ : MD), b_M_fewestLifts_86 K44 Φ x1 x2 x3 x4 σ → At p l e (headSpec wsX4_fewestLifts rm_M_fewestLifts).room s m ([.ref (a 0), .int p1] : List Value).toArray below meth c (MQ below (va_Qi Φ (BG D cs A s.heap.size (ws_MD cs a)) A) ([.ref (a 0), .int p1] : List Value).toArray s 0 0 A) D A 6 [(0, .ref (a 0)), (1, .int x1), (2, .int x2), (3, .int x3), (4, .int x4)] (ws_MD cs a σ) 86 [] := by
    intro K44 hK44 x1 x2 x3 x4 σ hw H locs ls hl hP hD hS
    unfold b_M_fewestLifts_86 at hw
    refine lv_iload_n hx hb dX4_fewestLifts_86 rfl (lv_at hl 3 rfl) ?_
    exact B87 _ hK44 _ _ _ _ _ hw _ _ ls (lv_sub hl [0, 1, 2, 4] rfl) hP hD hS
  have B81 : ∀ (K44 : (Int32 → Int32 → Int32 → Int32 → MD → Prop)) (hK44 : ∀ (x1 : Int32) (x2 : Int32) (x3 : Int32) (x4 : Int32) (σ : MD), K44 x1 x2 x3 x4 σ → At p l e (headSpec wsX4_fewestLifts rm_M_fewestLifts).room s m ([.ref (a 0), .int p1] : List Value).toArray below meth c (MQ below (va_Qi Φ (BG D cs A s.heap.size (ws_MD cs a)) A) ([.ref (a 0), .int p1] : List Value).toArray s 0 0 A) D A 6 [(0, .ref (a 0)), (1, .int x1), (2, .int x2), (3, .int x3), (4, .int x4)] (ws_MD cs a σ) 44 []) (x1 : Int32) (x2 : Int32) (x4 : Int32) (x5 : Int32) (σ : MD), b_M_fewestLifts_81 K44 Φ x1 x2 x4 x5 σ → At p l e (headSpec wsX4_fewestLifts rm_M_fewestLifts).room s m ([.ref (a 0), .int p1] : List Value).toArray below meth c (MQ below (va_Qi Φ (BG D cs A s.heap.size (ws_MD cs a)) A) ([.ref (a 0), .int p1] : List Value).toArray s 0 0 A) D A 6 [(0, .ref (a 0)), (1, .int x1), (2, .int x2), (4, .int x4), (5, .int x5)] (ws_MD cs a σ) 81 [] := by
    intro K44 hK44 x1 x2 x4 x5 σ hw H locs ls hl hP hD hS
    unfold b_M_fewestLifts_81 at hw
    refine lv_iload hx hb dX4_fewestLifts_81 (lv_at hl 4 rfl) ?_
    refine lv_goto (tgt := 87) hx hb dX4_fewestLifts_83 (by decide) ?_
    exact B87 _ hK44 _ _ _ _ _ hw _ _ ls (lv_sub hl [0, 1, 2, 3] rfl) hP hD hS
  have B44 : ∀ (n : Nat) (x1 : Int32) (x2 : Int32) (x3 : Int32) (x4 : Int32) (σ : MD), it5 (b_M_fewestLifts_44 Φ) n x1 x2 x3 x4 σ → At p l e (headSpec wsX4_fewestLifts rm_M_fewestLifts).room s m ([.ref (a 0), .int p1] : List Value).toArray below meth c (MQ below (va_Qi Φ (BG D cs A s.heap.size (ws_MD cs a)) A) ([.ref (a 0), .int p1] : List Value).toArray s 0 0 A) D A 6 [(0, .ref (a 0)), (1, .int x1), (2, .int x2), (3, .int x3), (4, .int x4)] (ws_MD cs a σ) 44 [] := by
    intro n
    induction n with
    | zero => intro x1 x2 x3 x4 σ hw; exact absurd hw id
    | succ n ih =>
      intro x1 x2 x3 x4 σ hw H locs ls hl hP hD hS
      have hw : b_M_fewestLifts_44 Φ (it5 (b_M_fewestLifts_44 Φ) n) x1 x2 x3 x4 σ := hw
      unfold b_M_fewestLifts_44 at hw
      refine lv_iload hx hb dX4_fewestLifts_44 (lv_at hl 4 rfl) ?_
      refine lv_iconst (v := (1 : Int32)) hx hb dX4_fewestLifts_46 (by decide) ?_
      refine lv_iconst (v := (2 : Int32)) hx hb dX4_fewestLifts_47 (by decide) ?_
      refine lv_iload_n hx hb dX4_fewestLifts_48 rfl (lv_at hl 2 rfl) ?_
      refine lv_imul hx hb dX4_fewestLifts_49 ?_
      refine lv_ishl hx hb dX4_fewestLifts_50 ?_
      refine lv_icmp_ge (tgt := 94) hx hb dX4_fewestLifts_51 (by decide) (fun c51 => ?_) (fun c51 => ?_)
      · have hw := hw.1 c51
        refine lv_iload_n hx hb dX4_fewestLifts_94 rfl (lv_at hl 3 rfl) ?_
        exact rI (wf := (ws_MD cs a)) (u := σ) hx hb hr hlocks hK hP hD hS hw dX4_fewestLifts_95
      · have hw := hw.2 c51
        refine lv_aload_n hx hb dX4_fewestLifts_54 rfl (lv_at hl 0 rfl) ?_
        refine lv_iload_n hx hb dX4_fewestLifts_55 rfl (lv_at hl 1 rfl) ?_
        refine lv_iload_n hx hb dX4_fewestLifts_56 rfl (lv_at hl 2 rfl) ?_
        refine lv_iload hx hb dX4_fewestLifts_57 (lv_at hl 4 rfl) ?_
        refine kVi (As := [.int x1, .int x2, .int x4]) (rest := []) ⟨hx, hb, hml, hown, hts⟩ (c_M_liftsBy l D cs a _ σ x1 x2 x4 hw) (cwV 3 hts gX4_fewestLifts_X4_liftsBy rfl rfl rfl (by decide +kernel) ⟨Nat.le_of_ble_eq_true rfl, Nat.le_of_ble_eq_true rfl⟩) (pt_self_MD cs a σ) hK hP hD hS hA (ci := 4) rfl rfl rfl rfl hl.1 rfl (Nat.le_of_ble_eq_true rfl) dX4_fewestLifts_59 ⟨Nat.zero_le _, Nat.zero_le _⟩ (fun r59 u59 H locs hw hP hD hS => ?_)
        have hP : va_P D vwCl (ws_MD cs a u59) H := hP
        have hD : va_D A (ws_MD cs a u59) := hD
        refine lv_istore (lv' := [(5, .int r59), (0, .ref (a 0)), (1, .int x1), (2, .int x2), (3, .int x3), (4, .int x4)]) hx hb dX4_fewestLifts_62 hl (by decide) rfl (fun ls hl => ?_)
        refine lv_iload hx hb dX4_fewestLifts_64 (lv_at hl 0 rfl) ?_
        refine lv_iconst (v := (-1 : Int32)) hx hb dX4_fewestLifts_66 (by decide) ?_
        refine lv_icmp_eq (tgt := 86) hx hb dX4_fewestLifts_67 (by decide) (fun c67 => ?_) (fun c67 => ?_)
        · have hw := hw.1 c67
          exact B86 _ ih _ _ _ _ _ hw _ _ ls (lv_sub hl [1, 2, 3, 4, 5] rfl) hP hD hS
        · have hw := hw.2 c67
          refine lv_iload_n hx hb dX4_fewestLifts_70 rfl (lv_at hl 4 rfl) ?_
          refine lv_iconst (v := (-1 : Int32)) hx hb dX4_fewestLifts_71 (by decide) ?_
          refine lv_icmp_eq (tgt := 81) hx hb dX4_fewestLifts_72 (by decide) (fun c72 => ?_) (fun c72 => ?_)
          · have hw := hw.1 c72
            exact B81 _ ih _ _ _ _ _ hw _ _ ls (lv_sub hl [1, 2, 3, 5, 0] rfl) hP hD hS
          · have hw := hw.2 c72
            refine lv_iload hx hb dX4_fewestLifts_75 (lv_at hl 0 rfl) ?_
            refine lv_iload_n hx hb dX4_fewestLifts_77 rfl (lv_at hl 4 rfl) ?_
            refine lv_icmp_ge (tgt := 86) hx hb dX4_fewestLifts_78 (by decide) (fun c78 => ?_) (fun c78 => ?_)
            · have hw := hw.1 c78
              exact B86 _ ih _ _ _ _ _ hw _ _ ls (lv_sub hl [1, 2, 3, 4, 5] rfl) hP hD hS
            · have hw := hw.2 c78
              exact B81 _ ih _ _ _ _ _ hw _ _ ls (lv_sub hl [1, 2, 3, 5, 0] rfl) hP hD hS
  have B26 : ∀ (x1 : Int32) (t1 : Int32) (σ : MD), b_M_fewestLifts_26 Φ x1 t1 σ → At p l e (headSpec wsX4_fewestLifts rm_M_fewestLifts).room s m ([.ref (a 0), .int p1] : List Value).toArray below meth c (MQ below (va_Qi Φ (BG D cs A s.heap.size (ws_MD cs a)) A) ([.ref (a 0), .int p1] : List Value).toArray s 0 0 A) D A 6 [(0, .ref (a 0)), (1, .int x1)] (ws_MD cs a σ) 26 [.int t1, .ref (a 0)] := by
    intro x1 t1 σ hw H locs ls hl hP hD hS
    unfold b_M_fewestLifts_26 at hw
    refine kVi (As := [.int t1]) (rest := []) ⟨hx, hb, hml, hown, hts⟩ (c_M_goesWell l D cs a _ σ t1 hw) (cwV 1 hts gX4_fewestLifts_X4_goesWell rfl rfl rfl (by decide +kernel) ⟨Nat.le_of_ble_eq_true rfl, Nat.le_of_ble_eq_true rfl⟩) (pt_self_MD cs a σ) hK hP hD hS hA (ci := 4) rfl rfl rfl rfl hl.1 rfl (Nat.le_of_ble_eq_true rfl) dX4_fewestLifts_26 ⟨Nat.zero_le _, Nat.zero_le _⟩ (fun r26 u26 H locs hw hP hD hS => ?_)
    have hP : va_P D vwCl (ws_MD cs a u26) H := hP
    have hD : va_D A (ws_MD cs a u26) := hD
    refine lv_if_ne (tgt := 34) hx hb dX4_fewestLifts_29 (by decide) (fun c29 => ?_) (fun c29 => ?_)
    · have hw := hw.2 c29
      refine lv_iload_n hx hb dX4_fewestLifts_34 rfl (lv_at hl 1 rfl) ?_
      refine kSi (As := [.int x1]) (rest := []) ⟨hx, hb, hml, hown, hts⟩ (c_M_bits l D cs a _ x1 hw) (va_cwS 1 hts gX4_fewestLifts_X4_bits rfl rfl rfl (by decide +kernel) ⟨Nat.le_of_ble_eq_true rfl, Nat.le_of_ble_eq_true rfl⟩) (pt_un_MD cs a u26) hK hP hD hS hA rfl hl.1 rfl (Nat.le_of_ble_eq_true rfl) dX4_fewestLifts_35 ⟨Nat.zero_le _, Nat.zero_le _⟩ (fun r35 u35 H locs hw hP hD hS => ?_)
      have hP : va_P D vwCl (ws_MD cs a u26) H := hP
      have hD : va_D A (ws_MD cs a u26) := hD
      refine lv_istore_n (lv' := [(2, .int r35), (0, .ref (a 0)), (1, .int x1)]) hx hb dX4_fewestLifts_38 rfl hl (by decide) rfl (fun ls hl => ?_)
      refine lv_iconst (v := (-1 : Int32)) hx hb dX4_fewestLifts_39 (by decide) ?_
      refine lv_istore_n (lv' := [(3, .int (-1 : Int32)), (2, .int r35), (0, .ref (a 0)), (1, .int x1)]) hx hb dX4_fewestLifts_40 rfl hl (by decide) rfl (fun ls hl => ?_)
      refine lv_iconst (v := (0 : Int32)) hx hb dX4_fewestLifts_41 (by decide) ?_
      refine lv_istore (lv' := [(4, .int (0 : Int32)), (3, .int (-1 : Int32)), (2, .int r35), (0, .ref (a 0)), (1, .int x1)]) hx hb dX4_fewestLifts_42 hl (by decide) rfl (fun ls hl => ?_)
      obtain ⟨n, hw⟩ := hw
      exact B44 n _ _ _ _ _ hw H locs ls (lv_sub hl [3, 4, 2, 1, 0] rfl) hP hD hS
    · have hw := hw.1 c29
      refine lv_iconst (v := (0 : Int32)) hx hb dX4_fewestLifts_32 (by decide) ?_
      exact rI (wf := (ws_MD cs a)) (u := u26) hx hb hr hlocks hK hP hD hS hw dX4_fewestLifts_33
  have hl := lv_entry ([.ref (a 0), .int p1]) (n := 6) (Nat.le_of_ble_eq_true rfl)
  rw [lg_entry_eq]
  generalize (lg_sl ([.ref (a 0), .int p1]) ++ List.replicate (6 - (lg_sl ([.ref (a 0), .int p1])).length) Slot.unset).toArray = ls at hl ⊢
  have hl : lv_has ls 6 [(0, .ref (a 0)), (1, .int p1)] := hl
  unfold w_M_fewestLifts at hw
  refine lv_aload_n hx hb dX4_fewestLifts_0 rfl (lv_at hl 0 rfl) ?_
  refine lv_aload_n hx hb dX4_fewestLifts_1 rfl (lv_at hl 0 rfl) ?_
  refine lv_iload_n hx hb dX4_fewestLifts_2 rfl (lv_at hl 1 rfl) ?_
  refine kVi (As := [.int p1]) (rest := [.ref (a 0)]) ⟨hx, hb, hml, hown, hts⟩ (c_M_isSet l D cs a _ σ p1 hw) (cwV 1 hts gX4_fewestLifts_X4_isSet rfl rfl rfl (by decide +kernel) ⟨Nat.le_of_ble_eq_true rfl, Nat.le_of_ble_eq_true rfl⟩) (pt_self_MD cs a σ) hK hP hD hS hA (ci := 4) rfl rfl rfl rfl hl.1 rfl (Nat.le_of_ble_eq_true rfl) dX4_fewestLifts_3 ⟨Nat.zero_le _, Nat.zero_le _⟩ (fun r3 u3 H locs hw hP hD hS => ?_)
  have hP : va_P D vwCl (ws_MD cs a u3) H := hP
  have hD : va_D A (ws_MD cs a u3) := hD
  refine lv_if_ne (tgt := 13) hx hb dX4_fewestLifts_6 (by decide) (fun c6 => ?_) (fun c6 => ?_)
  · have hw := hw.2 c6
    refine lv_aload_n hx hb dX4_fewestLifts_13 rfl (lv_at hl 0 rfl) ?_
    refine va_get (D := D) (ci := 4) (v := .int (g_MD_crane u3)) (C := RX4) (T := TX4) (N := 23) hx hb hts hinX4 hown hK hP 0 rfl rfl 6 (by decide) hf22 (fun _ h9 => h9) rfl dX4_fewestLifts_14 ?_
    refine lv_iconst (v := (-1 : Int32)) hx hb dX4_fewestLifts_17 (by decide) ?_
    refine lv_icmp_eq (tgt := 25) hx hb dX4_fewestLifts_18 (by decide) (fun c18 => ?_) (fun c18 => ?_)
    · have hw := hw.1 c18
      refine lv_iconst (v := (0 : Int32)) hx hb dX4_fewestLifts_25 (by decide) ?_
      exact B26 _ _ _ hw _ _ ls (lv_sub hl [0, 1] rfl) hP hD hS
    · have hw := hw.2 c18
      refine lv_iconst (v := (2 : Int32)) hx hb dX4_fewestLifts_21 (by decide) ?_
      refine lv_goto (tgt := 26) hx hb dX4_fewestLifts_22 (by decide) ?_
      exact B26 _ _ _ hw _ _ ls (lv_sub hl [0, 1] rfl) hP hD hS
  · have hw := hw.1 c6
    refine lv_iconst (v := (1 : Int32)) hx hb dX4_fewestLifts_9 (by decide) ?_
    refine lv_goto (tgt := 26) hx hb dX4_fewestLifts_10 (by decide) ?_
    exact B26 _ _ _ hw _ _ ls (lv_sub hl [0, 1] rfl) hP hD hS
abbrev rm_M_isLetter : Room := { frames := 1, cells := 0, slots := 0, locals := 22 }
set_option maxHeartbeats 4000000 in
set_option maxRecDepth 100000 in
theorem c_M_isLetter (l : Launch) (D : va_G) (cs : CS) (a : Nat → Nat) (sz : Nat) (p0 : Int32) {Φ : Int32 → Unit → Prop} (hw : w_M_isLetter p0 Φ) : Met l yX4_isLetter wsX4_isLetter rm_M_isLetter (PcG [.int p0] D cs ([] : va_W) sz) (va_Qi Φ (BG D cs (va_A ([] : va_W) sz) sz (fun _ : Unit => ([] : va_W))) (va_A ([] : va_W) sz)) 0 0 (va_A ([] : va_W) sz) := by
  refine Met.ofW (cc := cX4_isLetter) (maxL := 1) (ret := (some .boolean)) (by decide) rfl ?_
  intro p e s m args below meth c s₁ B hml hv
  obtain ⟨rfl, hsz, hP, hK, hD0⟩ := hv
  have hx := B.exec
  have hb := B.bytes
  have hr := B.returns
  have hts := atoms_spec (ws := wsX4_isLetter) B.pre
  have hown : s.vm.findClass RX4 = some m.cls := findClass_of_methodNamed B.named
  have hlocks := B.notSynchronized
  subst hsz
  have hD := hD0.self (sz := s.heap.size)
  generalize hAe : va_A ([] : va_W) s.heap.size = A at hD ⊢
  have hA : ∀ q : Nat, s.heap.size ≤ q → A q := fun q h => by rw [← hAe]; exact Or.inr h
  have hS : va_S A s.heap s.heap [] := va_S.rf
  have hP : va_P D vwCl ([] : va_W) s.heap := hP
  have hl := lv_entry ([.int p0]) (n := 1) (Nat.le_of_ble_eq_true rfl)
  rw [lg_entry_eq]
  generalize (lg_sl ([.int p0]) ++ List.replicate (1 - (lg_sl ([.int p0])).length) Slot.unset).toArray = ls at hl ⊢
  have hl : lv_has ls 1 [(0, .int p0)] := hl
  unfold w_M_isLetter at hw
  refine lv_iload_n hx hb dX4_isLetter_0 rfl (lv_at hl 0 rfl) ?_
  refine lv_iconst (v := (0 : Int32)) hx hb dX4_isLetter_1 (by decide) ?_
  refine lv_bipush (v := (25 : Int32)) hx hb dX4_isLetter_2 (by decide) ?_
  refine kSi (As := [.int p0, .int (0 : Int32), .int (25 : Int32)]) (rest := []) ⟨hx, hb, hml, hown, hts⟩ (c_M_in l D cs a _ p0 (0 : Int32) (25 : Int32) hw) (va_cwS 3 hts gX4_isLetter_X4_in rfl rfl rfl (by decide +kernel) ⟨Nat.le_of_ble_eq_true rfl, Nat.le_of_ble_eq_true rfl⟩) (pt_un_UN cs a) hK hP hD hS hA rfl hl.1 rfl (Nat.le_of_ble_eq_true rfl) dX4_isLetter_4 ⟨Nat.zero_le _, Nat.zero_le _⟩ (fun r4 u4 H locs hw hP hD hS => ?_)
  have hP : va_P D vwCl ([] : va_W) H := hP
  have hD : va_D A ([] : va_W) := hD
  exact rZ (wf := (fun _ : Unit => ([] : va_W))) (u := ()) hx hb hr hlocks hK hP hD hS hw dX4_isLetter_7
