abbrev rm_M_dig : Room := { frames := 3, cells := 0, slots := 0, locals := 70 }
set_option maxHeartbeats 4000000 in
set_option maxRecDepth 100000 in
theorem c_M_dig (l : Launch) (D : va_G) (cs : CS) (a : Nat → Nat) (sz : Nat) (σ : MD) (p1 : Int32) {Φ : Int32 → MD → Prop} (hw : w_M_dig σ p1 Φ) : Met l yX4_dig wsX4_dig rm_M_dig (PcG [.ref (a 0), .int p1] D cs (ws_MD cs a σ) sz) (va_Qi Φ (BG D cs (va_A (ws_MD cs a σ) sz) sz (ws_MD cs a)) (va_A (ws_MD cs a σ) sz)) 0 0 (va_A (ws_MD cs a σ) sz) := by
  refine Met.ofW (cc := cX4_dig) (maxL := 4) (ret := (some .int)) (by decide) rfl ?_
  intro p e s m args below meth c s₁ B hml hv
  obtain ⟨rfl, hsz, hP, hK, hD0⟩ := hv
  have hx := B.exec
  have hb := B.bytes
  have hr := B.returns
  have hts := atoms_spec (ws := wsX4_dig) B.pre
  have hown : s.vm.findClass RX4 = some m.cls := findClass_of_methodNamed B.named
  have hlocks := B.notSynchronized
  subst hsz
  have hD := hD0.self (sz := s.heap.size)
  generalize hAe : va_A (ws_MD cs a σ) s.heap.size = A at hD ⊢
  have hA : ∀ q : Nat, s.heap.size ≤ q → A q := fun q h => by rw [← hAe]; exact Or.inr h
  have hS : va_S A s.heap s.heap [] := va_S.rf
  have hf109 : (Cond.fieldLink RX4 109 "CraneYardModel" "lifts" "I").before ([.ref (a 0), .int p1] : List Value).toArray s = true := hts _ (List.mem_of_getElem? (i := 6) rfl)
  have hf13 : (Cond.fieldLink RX4 13 "CraneYardModel" "heights" "[I").before ([.ref (a 0), .int p1] : List Value).toArray s = true := hts _ (List.mem_of_getElem? (i := 4) rfl)
  have hf22 : (Cond.fieldLink RX4 22 "CraneYardModel" "crane" "I").before ([.ref (a 0), .int p1] : List Value).toArray s = true := hts _ (List.mem_of_getElem? (i := 1) rfl)
  have hf26 : (Cond.fieldLink RX4 26 "CraneYardModel" "tried" "[I").before ([.ref (a 0), .int p1] : List Value).toArray s = true := hts _ (List.mem_of_getElem? (i := 3) rfl)
  have hf29 : (Cond.fieldLink RX4 29 "CraneYardModel" "triedHeights" "[I").before ([.ref (a 0), .int p1] : List Value).toArray s = true := hts _ (List.mem_of_getElem? (i := 5) rfl)
  have hf7 : (Cond.fieldLink RX4 7 "CraneYardModel" "yard" "[I").before ([.ref (a 0), .int p1] : List Value).toArray s = true := hts _ (List.mem_of_getElem? (i := 2) rfl)
  have hinX4 : ∀ w ∈ wsX40, w ∈ wsX4_dig := fun _ h => List.mem_cons_of_mem _ (List.mem_append_right _ h)
  have hP : va_P D vwCl (ws_MD cs a σ) s.heap := hP
  have B89 : ∀ (n : Nat) (x1 : Int32) (x2 : Int32) (x3 : Int32) (σ : MD), it4 (b_M_dig_89 Φ) n x1 x2 x3 σ → At p l e (headSpec wsX4_dig rm_M_dig).room s m ([.ref (a 0), .int p1] : List Value).toArray below meth c (MQ below (va_Qi Φ (BG D cs A s.heap.size (ws_MD cs a)) A) ([.ref (a 0), .int p1] : List Value).toArray s 0 0 A) D A 4 [(0, .ref (a 0)), (1, .int x1), (2, .int x2), (3, .int x3)] (ws_MD cs a σ) 89 [] := by
    intro n
    induction n with
    | zero => intro x1 x2 x3 σ hw; exact absurd hw id
    | succ n ih =>
      intro x1 x2 x3 σ hw H locs ls hl hP hD hS
      have hw : b_M_dig_89 Φ (it4 (b_M_dig_89 Φ) n) x1 x2 x3 σ := hw
      unfold b_M_dig_89 at hw
      refine lv_iload_n hx hb dX4_dig_89 rfl (lv_at hl 3 rfl) ?_
      refine lv_bipush (v := (6 : Int32)) hx hb dX4_dig_90 (by decide) ?_
      refine lv_icmp_ge (tgt := 113) hx hb dX4_dig_92 (by decide) (fun c92 => ?_) (fun c92 => ?_)
      · have hw := hw.1 c92
        refine lv_aload_n hx hb dX4_dig_113 rfl (lv_at hl 0 rfl) ?_
        refine lv_iload_n hx hb dX4_dig_114 rfl (lv_at hl 1 rfl) ?_
        refine va_put (D := D) (ci := 4) (v := .int x1) (ty := .int) (C := RX4) (T := TX4) (N := 23) hx hb hts hinX4 tyX4 tyX4_ok nmX4 hown hK hP hD hS 0 rfl rfl 6 (by decide) hf22 (fun _ h9 => h9) rfl (by decide +kernel) rfl rfl (Nat.le_of_ble_eq_true rfl) dX4_dig_115 (fun H locs hP hD hS => ?_)
        have hP : va_P D vwCl (ws_MD cs a (s_MD_crane σ x1)) H := hP
        have hD : va_D A (ws_MD cs a (s_MD_crane σ x1)) := hD
        obtain ⟨z1, ez1⟩ : ∃ z : MD, z = (s_MD_crane σ x1) := ⟨_, rfl⟩
        have hw := hw z1 ez1
        rw [← ez1] at hP hD
        refine lv_aload_n hx hb dX4_dig_118 rfl (lv_at hl 0 rfl) ?_
        refine lv_dup hx hb dX4_dig_119 rfl ?_
        refine va_get (D := D) (ci := 4) (v := .int (g_MD_lifts z1)) (C := RX4) (T := TX4) (N := 23) hx hb hts hinX4 hown hK hP 0 rfl rfl 7 (by decide) hf109 (fun _ h9 => h9) rfl dX4_dig_120 ?_
        refine lv_iload_n hx hb dX4_dig_123 rfl (lv_at hl 2 rfl) ?_
        refine lv_iadd hx hb dX4_dig_124 ?_
        refine va_put (D := D) (ci := 4) (v := .int ((g_MD_lifts z1) + x2)) (ty := .int) (C := RX4) (T := TX4) (N := 23) hx hb hts hinX4 tyX4 tyX4_ok nmX4 hown hK hP hD hS 0 rfl rfl 7 (by decide) hf109 (fun _ h9 => h9) rfl (by decide +kernel) rfl rfl (Nat.le_of_ble_eq_true rfl) dX4_dig_125 (fun H locs hP hD hS => ?_)
        have hP : va_P D vwCl (ws_MD cs a (s_MD_lifts z1 ((g_MD_lifts z1) + x2))) H := hP
        have hD : va_D A (ws_MD cs a (s_MD_lifts z1 ((g_MD_lifts z1) + x2))) := hD
        obtain ⟨z2, ez2⟩ : ∃ z : MD, z = (s_MD_lifts z1 ((g_MD_lifts z1) + x2)) := ⟨_, rfl⟩
        have hw := hw z2 ez2
        rw [← ez2] at hP hD
        refine lv_aload_n hx hb dX4_dig_128 rfl (lv_at hl 0 rfl) ?_
        refine kVv (As := []) (rest := []) ⟨hx, hb, hml, hown, hts⟩ (c_M_payWords l D cs a _ z2 hw) (cwV 0 hts gX4_dig_X4_payWords rfl rfl rfl (by decide +kernel) ⟨Nat.le_of_ble_eq_true rfl, Nat.le_of_ble_eq_true rfl⟩) (pt_self_MD cs a z2) hK hP hD hS hA (ci := 4) rfl rfl rfl rfl hl.1 rfl (Nat.le_of_ble_eq_true rfl) dX4_dig_129 ⟨Nat.zero_le _, Nat.zero_le _⟩ (fun u129 H locs hw hP hD hS => ?_)
        have hP : va_P D vwCl (ws_MD cs a u129) H := hP
        have hD : va_D A (ws_MD cs a u129) := hD
        refine lv_iload_n hx hb dX4_dig_132 rfl (lv_at hl 2 rfl) ?_
        exact rI (wf := (ws_MD cs a)) (u := u129) hx hb hr hlocks hK hP hD hS hw dX4_dig_133
      · have hw := hw.2 c92
        refine lv_aload_n hx hb dX4_dig_95 rfl (lv_at hl 0 rfl) ?_
        refine va_get (D := D) (ci := 4) (v := .ref (a 2)) (C := RX4) (T := TX4) (N := 23) hx hb hts hinX4 hown hK hP 0 rfl rfl 2 (by decide) hf13 (fun _ h9 => h9) rfl dX4_dig_96 ?_
        refine lv_iload_n hx hb dX4_dig_99 rfl (lv_at hl 3 rfl) ?_
        refine lv_aload_n hx hb dX4_dig_100 rfl (lv_at hl 0 rfl) ?_
        refine va_get (D := D) (ci := 4) (v := .ref (a 6)) (C := RX4) (T := TX4) (N := 23) hx hb hts hinX4 hown hK hP 0 rfl rfl 9 (by decide) hf29 (fun _ h9 => h9) rfl dX4_dig_101 ?_
        refine lv_iload_n hx hb dX4_dig_104 rfl (lv_at hl 3 rfl) ?_
        have hi105 := hw.1
        have hw := hw.2
        refine va_iald (f := (g_MD_triedHeights σ)) (n := 6) hx hb hK hP 6 0 rfl rfl hi105 dX4_dig_105 ?_
        refine lv_topi (fun y3 ey3 => ?_)
        have hw := hw y3 ey3
        have hi106 := hw.1
        have hw := hw.2
        refine va_iast (f := (g_MD_heights σ)) (n := 6) (x := y3) hx hb hK hP hD hS 2 0 rfl rfl hi106 dX4_dig_106 (fun H locs hP hD hS => ?_)
        have hP : va_P D vwCl (ws_MD cs a (s_MD_heights σ (upd (g_MD_heights σ) (x3).toNatClampNeg y3))) H := hP
        have hD : va_D A (ws_MD cs a (s_MD_heights σ (upd (g_MD_heights σ) (x3).toNatClampNeg y3))) := hD
        obtain ⟨z4, ez4⟩ : ∃ z : MD, z = (s_MD_heights σ (upd (g_MD_heights σ) (x3).toNatClampNeg y3)) := ⟨_, rfl⟩
        have hw := hw z4 ez4
        rw [← ez4] at hP hD
        refine lv_iinc (v := (x3 + (1 : Int32))) (lv' := [(3, .int (x3 + (1 : Int32))), (0, .ref (a 0)), (1, .int x1), (2, .int x2)]) hx hb dX4_dig_107 hl (k := 3) rfl rfl (by decide) rfl (fun ls hl => ?_)
        refine lv_goto (tgt := 89) hx hb dX4_dig_110 (by decide) ?_
        exact ih _ _ _ _ hw H locs ls (lv_sub hl [1, 2, 3, 0] rfl) hP hD hS
  have B63 : ∀ (n : Nat) (x1 : Int32) (x2 : Int32) (x3 : Int32) (σ : MD), it4 (b_M_dig_63 Φ) n x1 x2 x3 σ → At p l e (headSpec wsX4_dig rm_M_dig).room s m ([.ref (a 0), .int p1] : List Value).toArray below meth c (MQ below (va_Qi Φ (BG D cs A s.heap.size (ws_MD cs a)) A) ([.ref (a 0), .int p1] : List Value).toArray s 0 0 A) D A 4 [(0, .ref (a 0)), (1, .int x1), (2, .int x2), (3, .int x3)] (ws_MD cs a σ) 63 [] := by
    intro n
    induction n with
    | zero => intro x1 x2 x3 σ hw; exact absurd hw id
    | succ n ih =>
      intro x1 x2 x3 σ hw H locs ls hl hP hD hS
      have hw : b_M_dig_63 Φ (it4 (b_M_dig_63 Φ) n) x1 x2 x3 σ := hw
      unfold b_M_dig_63 at hw
      refine lv_iload_n hx hb dX4_dig_63 rfl (lv_at hl 3 rfl) ?_
      refine lv_bipush (v := (30 : Int32)) hx hb dX4_dig_64 (by decide) ?_
      refine lv_icmp_ge (tgt := 87) hx hb dX4_dig_66 (by decide) (fun c66 => ?_) (fun c66 => ?_)
      · have hw := hw.1 c66
        refine lv_iconst (v := (0 : Int32)) hx hb dX4_dig_87 (by decide) ?_
        refine lv_istore_n (lv' := [(3, .int (0 : Int32)), (0, .ref (a 0)), (1, .int x1), (2, .int x2)]) hx hb dX4_dig_88 rfl hl (by decide) rfl (fun ls hl => ?_)
        obtain ⟨n, hw⟩ := hw
        exact B89 n _ _ _ _ hw _ _ ls (lv_sub hl [1, 2, 3, 0] rfl) hP hD hS
      · have hw := hw.2 c66
        refine lv_aload_n hx hb dX4_dig_69 rfl (lv_at hl 0 rfl) ?_
        refine va_get (D := D) (ci := 4) (v := .ref (a 1)) (C := RX4) (T := TX4) (N := 23) hx hb hts hinX4 hown hK hP 0 rfl rfl 1 (by decide) hf7 (fun _ h9 => h9) rfl dX4_dig_70 ?_
        refine lv_iload_n hx hb dX4_dig_73 rfl (lv_at hl 3 rfl) ?_
        refine lv_aload_n hx hb dX4_dig_74 rfl (lv_at hl 0 rfl) ?_
        refine va_get (D := D) (ci := 4) (v := .ref (a 5)) (C := RX4) (T := TX4) (N := 23) hx hb hts hinX4 hown hK hP 0 rfl rfl 8 (by decide) hf26 (fun _ h9 => h9) rfl dX4_dig_75 ?_
        refine lv_iload_n hx hb dX4_dig_78 rfl (lv_at hl 3 rfl) ?_
        have hi79 := hw.1
        have hw := hw.2
        refine va_iald (f := (g_MD_tried σ)) (n := 30) hx hb hK hP 5 0 rfl rfl hi79 dX4_dig_79 ?_
        refine lv_topi (fun y1 ey1 => ?_)
        have hw := hw y1 ey1
        have hi80 := hw.1
        have hw := hw.2
        refine va_iast (f := (g_MD_yard σ)) (n := 30) (x := y1) hx hb hK hP hD hS 1 0 rfl rfl hi80 dX4_dig_80 (fun H locs hP hD hS => ?_)
        have hP : va_P D vwCl (ws_MD cs a (s_MD_yard σ (upd (g_MD_yard σ) (x3).toNatClampNeg y1))) H := hP
        have hD : va_D A (ws_MD cs a (s_MD_yard σ (upd (g_MD_yard σ) (x3).toNatClampNeg y1))) := hD
        obtain ⟨z2, ez2⟩ : ∃ z : MD, z = (s_MD_yard σ (upd (g_MD_yard σ) (x3).toNatClampNeg y1)) := ⟨_, rfl⟩
        have hw := hw z2 ez2
        rw [← ez2] at hP hD
        refine lv_iinc (v := (x3 + (1 : Int32))) (lv' := [(3, .int (x3 + (1 : Int32))), (0, .ref (a 0)), (1, .int x1), (2, .int x2)]) hx hb dX4_dig_81 hl (k := 3) rfl rfl (by decide) rfl (fun ls hl => ?_)
        refine lv_goto (tgt := 63) hx hb dX4_dig_84 (by decide) ?_
        exact ih _ _ _ _ hw H locs ls (lv_sub hl [1, 2, 3, 0] rfl) hP hD hS
  have B53 : ∀ (x1 : Int32) (x2 : Int32) (t1 : Int32) (σ : MD), b_M_dig_53 Φ x1 x2 t1 σ → At p l e (headSpec wsX4_dig rm_M_dig).room s m ([.ref (a 0), .int p1] : List Value).toArray below meth c (MQ below (va_Qi Φ (BG D cs A s.heap.size (ws_MD cs a)) A) ([.ref (a 0), .int p1] : List Value).toArray s 0 0 A) D A 4 [(0, .ref (a 0)), (1, .int x1), (2, .int x2)] (ws_MD cs a σ) 53 [.int t1, .ref (a 0)] := by
    intro x1 x2 t1 σ hw H locs ls hl hP hD hS
    unfold b_M_dig_53 at hw
    refine kVi (As := [.int t1]) (rest := []) ⟨hx, hb, hml, hown, hts⟩ (c_M_goesWell l D cs a _ σ t1 hw) (cwV 1 hts gX4_dig_X4_goesWell rfl rfl rfl (by decide +kernel) ⟨Nat.le_of_ble_eq_true rfl, Nat.le_of_ble_eq_true rfl⟩) (pt_self_MD cs a σ) hK hP hD hS hA (ci := 4) rfl rfl rfl rfl hl.1 rfl (Nat.le_of_ble_eq_true rfl) dX4_dig_53 ⟨Nat.zero_le _, Nat.zero_le _⟩ (fun r53 u53 H locs hw hP hD hS => ?_)
    have hP : va_P D vwCl (ws_MD cs a u53) H := hP
    have hD : va_D A (ws_MD cs a u53) := hD
    refine lv_if_ne (tgt := 61) hx hb dX4_dig_56 (by decide) (fun c56 => ?_) (fun c56 => ?_)
    · have hw := hw.2 c56
      refine lv_iconst (v := (0 : Int32)) hx hb dX4_dig_61 (by decide) ?_
      refine lv_istore_n (lv' := [(3, .int (0 : Int32)), (0, .ref (a 0)), (1, .int x1), (2, .int x2)]) hx hb dX4_dig_62 rfl hl (by decide) rfl (fun ls hl => ?_)
      obtain ⟨n, hw⟩ := hw
      exact B63 n _ _ _ _ hw _ _ ls (lv_sub hl [1, 2, 3, 0] rfl) hP hD hS
    · have hw := hw.1 c56
      refine lv_iconst (v := (0 : Int32)) hx hb dX4_dig_59 (by decide) ?_
      exact rI (wf := (ws_MD cs a)) (u := u53) hx hb hr hlocks hK hP hD hS hw dX4_dig_60
  have B29 : ∀ (x1 : Int32) (t0 : Int32) (σ : MD), b_M_dig_29 Φ x1 t0 σ → At p l e (headSpec wsX4_dig rm_M_dig).room s m ([.ref (a 0), .int p1] : List Value).toArray below meth c (MQ below (va_Qi Φ (BG D cs A s.heap.size (ws_MD cs a)) A) ([.ref (a 0), .int p1] : List Value).toArray s 0 0 A) D A 4 [(0, .ref (a 0)), (1, .int x1)] (ws_MD cs a σ) 29 [.int t0] := by
    intro x1 t0 σ hw H locs ls hl hP hD hS
    unfold b_M_dig_29 at hw
    refine lv_istore_n (lv' := [(2, .int t0), (0, .ref (a 0)), (1, .int x1)]) hx hb dX4_dig_29 rfl hl (by decide) rfl (fun ls hl => ?_)
    refine lv_aload_n hx hb dX4_dig_30 rfl (lv_at hl 1 rfl) ?_
    refine lv_aload_n hx hb dX4_dig_31 rfl (lv_at hl 1 rfl) ?_
    refine lv_iload_n hx hb dX4_dig_32 rfl (lv_at hl 2 rfl) ?_
    refine kVi (As := [.int x1]) (rest := [.ref (a 0)]) ⟨hx, hb, hml, hown, hts⟩ (c_M_isCrate l D cs a _ σ x1 hw) (cwV 1 hts gX4_dig_X4_isCrate rfl rfl rfl (by decide +kernel) ⟨Nat.le_of_ble_eq_true rfl, Nat.le_of_ble_eq_true rfl⟩) (pt_self_MD cs a σ) hK hP hD hS hA (ci := 4) rfl rfl rfl rfl hl.1 rfl (Nat.le_of_ble_eq_true rfl) dX4_dig_33 ⟨Nat.zero_le _, Nat.zero_le _⟩ (fun r33 u33 H locs hw hP hD hS => ?_)
    have hP : va_P D vwCl (ws_MD cs a u33) H := hP
    have hD : va_D A (ws_MD cs a u33) := hD
    refine lv_if_ne (tgt := 43) hx hb dX4_dig_36 (by decide) (fun c36 => ?_) (fun c36 => ?_)
    · have hw := hw.2 c36
      refine lv_iload_n hx hb dX4_dig_43 rfl (lv_at hl 0 rfl) ?_
      refine lv_iconst (v := (-1 : Int32)) hx hb dX4_dig_44 (by decide) ?_
      refine lv_icmp_ne (tgt := 52) hx hb dX4_dig_45 (by decide) (fun c45 => ?_) (fun c45 => ?_)
      · have hw := hw.2 c45
        refine lv_iconst (v := (0 : Int32)) hx hb dX4_dig_52 (by decide) ?_
        exact B53 _ _ _ _ hw _ _ ls (lv_sub hl [1, 2, 0] rfl) hP hD hS
      · have hw := hw.1 c45
        refine lv_iconst (v := (2 : Int32)) hx hb dX4_dig_48 (by decide) ?_
        refine lv_goto (tgt := 53) hx hb dX4_dig_49 (by decide) ?_
        exact B53 _ _ _ _ hw _ _ ls (lv_sub hl [1, 2, 0] rfl) hP hD hS
    · have hw := hw.1 c36
      refine lv_iconst (v := (1 : Int32)) hx hb dX4_dig_39 (by decide) ?_
      refine lv_goto (tgt := 53) hx hb dX4_dig_40 (by decide) ?_
      exact B53 _ _ _ _ hw _ _ ls (lv_sub hl [1, 2, 0] rfl) hP hD hS
  have B28 : ∀ (x1 : Int32) (σ : MD), b_M_dig_28 Φ x1 σ → At p l e (headSpec wsX4_dig rm_M_dig).room s m ([.ref (a 0), .int p1] : List Value).toArray below meth c (MQ below (va_Qi Φ (BG D cs A s.heap.size (ws_MD cs a)) A) ([.ref (a 0), .int p1] : List Value).toArray s 0 0 A) D A 4 [(0, .ref (a 0)), (1, .int x1)] (ws_MD cs a σ) 28 [] := by
    intro x1 σ hw H locs ls hl hP hD hS
    unfold b_M_dig_28 at hw
    refine lv_iconst (v := (-1 : Int32)) hx hb dX4_dig_28 (by decide) ?_
    exact B29 _ _ _ hw _ _ ls (lv_sub hl [0, 1] rfl) hP hD hS
  have hl := lv_entry ([.ref (a 0), .int p1]) (n := 4) (Nat.le_of_ble_eq_true rfl)
  rw [lg_entry_eq]
  generalize (lg_sl ([.ref (a 0), .int p1]) ++ List.replicate (4 - (lg_sl ([.ref (a 0), .int p1])).length) Slot.unset).toArray = ls at hl ⊢
  have hl : lv_has ls 4 [(0, .ref (a 0)), (1, .int p1)] := hl
  unfold w_M_dig at hw
  refine lv_aload_n hx hb dX4_dig_0 rfl (lv_at hl 0 rfl) ?_
  refine kVv (As := []) (rest := []) ⟨hx, hb, hml, hown, hts⟩ (c_M_copyYard l D cs a _ σ hw) (cwV 0 hts gX4_dig_X4_copyYard rfl rfl rfl (by decide +kernel) ⟨Nat.le_of_ble_eq_true rfl, Nat.le_of_ble_eq_true rfl⟩) (pt_self_MD cs a σ) hK hP hD hS hA (ci := 4) rfl rfl rfl rfl hl.1 rfl (Nat.le_of_ble_eq_true rfl) dX4_dig_1 ⟨Nat.zero_le _, Nat.zero_le _⟩ (fun u1 H locs hw hP hD hS => ?_)
  have hP : va_P D vwCl (ws_MD cs a u1) H := hP
  have hD : va_D A (ws_MD cs a u1) := hD
  refine lv_aload_n hx hb dX4_dig_4 rfl (lv_at hl 0 rfl) ?_
  refine lv_iload_n hx hb dX4_dig_5 rfl (lv_at hl 1 rfl) ?_
  refine kVi (As := [.int p1]) (rest := []) ⟨hx, hb, hml, hown, hts⟩ (c_M_isCrate l D cs a _ u1 p1 hw) (cwV 1 hts gX4_dig_X4_isCrate rfl rfl rfl (by decide +kernel) ⟨Nat.le_of_ble_eq_true rfl, Nat.le_of_ble_eq_true rfl⟩) (pt_self_MD cs a u1) hK hP hD hS hA (ci := 4) rfl rfl rfl rfl hl.1 rfl (Nat.le_of_ble_eq_true rfl) dX4_dig_6 ⟨Nat.zero_le _, Nat.zero_le _⟩ (fun r6 u6 H locs hw hP hD hS => ?_)
  have hP : va_P D vwCl (ws_MD cs a u6) H := hP
  have hD : va_D A (ws_MD cs a u6) := hD
  refine lv_if_eq (tgt := 28) hx hb dX4_dig_9 (by decide) (fun c9 => ?_) (fun c9 => ?_)
  · have hw := hw.1 c9
    exact B28 _ _ hw _ _ ls (lv_sub hl [0, 1] rfl) hP hD hS
  · have hw := hw.2 c9
    refine lv_aload_n hx hb dX4_dig_12 rfl (lv_at hl 0 rfl) ?_
    refine va_get (D := D) (ci := 4) (v := .int (g_MD_crane u6)) (C := RX4) (T := TX4) (N := 23) hx hb hts hinX4 hown hK hP 0 rfl rfl 6 (by decide) hf22 (fun _ h9 => h9) rfl dX4_dig_13 ?_
    refine lv_iconst (v := (-1 : Int32)) hx hb dX4_dig_16 (by decide) ?_
    refine lv_icmp_ne (tgt := 28) hx hb dX4_dig_17 (by decide) (fun c17 => ?_) (fun c17 => ?_)
    · have hw := hw.2 c17
      exact B28 _ _ hw _ _ ls (lv_sub hl [0, 1] rfl) hP hD hS
    · have hw := hw.1 c17
      refine lv_aload_n hx hb dX4_dig_20 rfl (lv_at hl 0 rfl) ?_
      refine lv_iload_n hx hb dX4_dig_21 rfl (lv_at hl 1 rfl) ?_
      refine kVi (As := [.int p1]) (rest := []) ⟨hx, hb, hml, hown, hts⟩ (c_M_digOut l D cs a _ u6 p1 hw) (cwV 1 hts gX4_dig_X4_digOut rfl rfl rfl (by decide +kernel) ⟨Nat.le_of_ble_eq_true rfl, Nat.le_of_ble_eq_true rfl⟩) (pt_self_MD cs a u6) hK hP hD hS hA (ci := 4) rfl rfl rfl rfl hl.1 rfl (Nat.le_of_ble_eq_true rfl) dX4_dig_22 ⟨Nat.zero_le _, Nat.zero_le _⟩ (fun r22 u22 H locs hw hP hD hS => ?_)
      have hP : va_P D vwCl (ws_MD cs a u22) H := hP
      have hD : va_D A (ws_MD cs a u22) := hD
      refine lv_goto (tgt := 29) hx hb dX4_dig_25 (by decide) ?_
      exact B29 _ _ _ hw H locs ls (lv_sub hl [0, 1] rfl) hP hD hS
abbrev rm_M_crane : Room := { frames := 0, cells := 0, slots := 0, locals := 0 }
set_option maxHeartbeats 4000000 in
set_option maxRecDepth 100000 in
theorem c_M_crane (l : Launch) (D : va_G) (cs : CS) (a : Nat → Nat) (sz : Nat) (σ : MD) {Φ : Int32 → MD → Prop} (hw : w_M_crane σ Φ) : Met l yX4_crane wsX4_crane rm_M_crane (PcG [.ref (a 0)] D cs (ws_MD cs a σ) sz) (va_Qi Φ (BG D cs (va_A (ws_MD cs a σ) sz) sz (ws_MD cs a)) (va_A (ws_MD cs a σ) sz)) 0 0 (va_A (ws_MD cs a σ) sz) := by
  refine Met.ofW (cc := cX4_crane) (maxL := 1) (ret := (some .int)) (by decide) rfl ?_
  intro p e s m args below meth c s₁ B hml hv
  obtain ⟨rfl, hsz, hP, hK, hD0⟩ := hv
  have hx := B.exec
  have hb := B.bytes
  have hr := B.returns
  have hts := atoms_spec (ws := wsX4_crane) B.pre
  have hown : s.vm.findClass RX4 = some m.cls := findClass_of_methodNamed B.named
  have hlocks := B.notSynchronized
  subst hsz
  have hD := hD0.self (sz := s.heap.size)
  generalize hAe : va_A (ws_MD cs a σ) s.heap.size = A at hD ⊢
  have hA : ∀ q : Nat, s.heap.size ≤ q → A q := fun q h => by rw [← hAe]; exact Or.inr h
  have hS : va_S A s.heap s.heap [] := va_S.rf
  have hf22 : (Cond.fieldLink RX4 22 "CraneYardModel" "crane" "I").before ([.ref (a 0)] : List Value).toArray s = true := hts _ (List.mem_of_getElem? (i := 2) rfl)
  have hf54 : (Cond.fieldLink RX4 54 "CraneYardModel" "thrown" "I").before ([.ref (a 0)] : List Value).toArray s = true := hts _ (List.mem_of_getElem? (i := 1) rfl)
  have hinX4 : ∀ w ∈ wsX40, w ∈ wsX4_crane := fun _ h => List.mem_cons_of_mem _ (List.mem_append_right _ h)
  have hP : va_P D vwCl (ws_MD cs a σ) s.heap := hP
  have hl := lv_entry ([.ref (a 0)]) (n := 1) (Nat.le_of_ble_eq_true rfl)
  rw [lg_entry_eq]
  generalize (lg_sl ([.ref (a 0)]) ++ List.replicate (1 - (lg_sl ([.ref (a 0)])).length) Slot.unset).toArray = ls at hl ⊢
  have hl : lv_has ls 1 [(0, .ref (a 0))] := hl
  unfold w_M_crane at hw
  refine lv_aload_n hx hb dX4_crane_0 rfl (lv_at hl 0 rfl) ?_
  refine lv_iconst (v := (0 : Int32)) hx hb dX4_crane_1 (by decide) ?_
  refine va_put (D := D) (ci := 4) (v := .int (0 : Int32)) (ty := .int) (C := RX4) (T := TX4) (N := 23) hx hb hts hinX4 tyX4 tyX4_ok nmX4 hown hK hP hD hS 0 rfl rfl 0 (by decide) hf54 (fun _ h9 => h9) rfl (by decide +kernel) rfl rfl (Nat.le_of_ble_eq_true rfl) dX4_crane_2 (fun H locs hP hD hS => ?_)
  have hP : va_P D vwCl (ws_MD cs a (s_MD_thrown σ (0 : Int32))) H := hP
  have hD : va_D A (ws_MD cs a (s_MD_thrown σ (0 : Int32))) := hD
  obtain ⟨z1, ez1⟩ : ∃ z : MD, z = (s_MD_thrown σ (0 : Int32)) := ⟨_, rfl⟩
  have hw := hw z1 ez1
  rw [← ez1] at hP hD
  refine lv_aload_n hx hb dX4_crane_5 rfl (lv_at hl 0 rfl) ?_
  refine va_get (D := D) (ci := 4) (v := .int (g_MD_crane z1)) (C := RX4) (T := TX4) (N := 23) hx hb hts hinX4 hown hK hP 0 rfl rfl 6 (by decide) hf22 (fun _ h9 => h9) rfl dX4_crane_6 ?_
  exact rI (wf := (ws_MD cs a)) (u := z1) hx hb hr hlocks hK hP hD hS hw dX4_crane_9
abbrev rm_M_height : Room := { frames := 2, cells := 0, slots := 0, locals := 42 }
set_option maxHeartbeats 4000000 in
set_option maxRecDepth 100000 in
theorem c_M_height (l : Launch) (D : va_G) (cs : CS) (a : Nat → Nat) (sz : Nat) (σ : MD) (p1 : Int32) {Φ : Int32 → MD → Prop} (hw : w_M_height σ p1 Φ) : Met l yX4_height wsX4_height rm_M_height (PcG [.ref (a 0), .int p1] D cs (ws_MD cs a σ) sz) (va_Qi Φ (BG D cs (va_A (ws_MD cs a σ) sz) sz (ws_MD cs a)) (va_A (ws_MD cs a σ) sz)) 0 0 (va_A (ws_MD cs a σ) sz) := by
  refine Met.ofW (cc := cX4_height) (maxL := 2) (ret := (some .int)) (by decide) rfl ?_
  intro p e s m args below meth c s₁ B hml hv
  obtain ⟨rfl, hsz, hP, hK, hD0⟩ := hv
  have hx := B.exec
  have hb := B.bytes
  have hr := B.returns
  have hts := atoms_spec (ws := wsX4_height) B.pre
  have hown : s.vm.findClass RX4 = some m.cls := findClass_of_methodNamed B.named
  have hlocks := B.notSynchronized
  subst hsz
  have hD := hD0.self (sz := s.heap.size)
  generalize hAe : va_A (ws_MD cs a σ) s.heap.size = A at hD ⊢
  have hA : ∀ q : Nat, s.heap.size ≤ q → A q := fun q h => by rw [← hAe]; exact Or.inr h
  have hS : va_S A s.heap s.heap [] := va_S.rf
  have hf13 : (Cond.fieldLink RX4 13 "CraneYardModel" "heights" "[I").before ([.ref (a 0), .int p1] : List Value).toArray s = true := hts _ (List.mem_of_getElem? (i := 1) rfl)
  have hinX4 : ∀ w ∈ wsX40, w ∈ wsX4_height := fun _ h => List.mem_cons_of_mem _ (List.mem_append_right _ h)
  have hP : va_P D vwCl (ws_MD cs a σ) s.heap := hP
  have B29 : ∀ (t0 : Int32) (σ : MD), b_M_height_29 Φ t0 σ → At p l e (headSpec wsX4_height rm_M_height).room s m ([.ref (a 0), .int p1] : List Value).toArray below meth c (MQ below (va_Qi Φ (BG D cs A s.heap.size (ws_MD cs a)) A) ([.ref (a 0), .int p1] : List Value).toArray s 0 0 A) D A 2 [] (ws_MD cs a σ) 29 [.int t0] := by
    intro t0 σ hw H locs ls hl hP hD hS
    unfold b_M_height_29 at hw
    exact rI (wf := (ws_MD cs a)) (u := σ) hx hb hr hlocks hK hP hD hS hw dX4_height_29
  have B13 : ∀ (x1 : Int32) (t1 : Int32) (σ : MD), b_M_height_13 Φ x1 t1 σ → At p l e (headSpec wsX4_height rm_M_height).room s m ([.ref (a 0), .int p1] : List Value).toArray below meth c (MQ below (va_Qi Φ (BG D cs A s.heap.size (ws_MD cs a)) A) ([.ref (a 0), .int p1] : List Value).toArray s 0 0 A) D A 2 [(0, .ref (a 0)), (1, .int x1)] (ws_MD cs a σ) 13 [.int t1, .ref (a 0)] := by
    intro x1 t1 σ hw H locs ls hl hP hD hS
    unfold b_M_height_13 at hw
    refine kVi (As := [.int t1]) (rest := []) ⟨hx, hb, hml, hown, hts⟩ (c_M_goesWell l D cs a _ σ t1 hw) (cwV 1 hts gX4_height_X4_goesWell rfl rfl rfl (by decide +kernel) ⟨Nat.le_of_ble_eq_true rfl, Nat.le_of_ble_eq_true rfl⟩) (pt_self_MD cs a σ) hK hP hD hS hA (ci := 4) rfl rfl rfl rfl hl.1 rfl (Nat.le_of_ble_eq_true rfl) dX4_height_13 ⟨Nat.zero_le _, Nat.zero_le _⟩ (fun r13 u13 H locs hw hP hD hS => ?_)
    have hP : va_P D vwCl (ws_MD cs a u13) H := hP
    have hD : va_D A (ws_MD cs a u13) := hD
    refine lv_if_eq (tgt := 28) hx hb dX4_height_16 (by decide) (fun c16 => ?_) (fun c16 => ?_)
    · have hw := hw.1 c16
      refine lv_iconst (v := (0 : Int32)) hx hb dX4_height_28 (by decide) ?_
      exact B29 _ _ hw _ _ ls (lv_sub hl [] rfl) hP hD hS
    · have hw := hw.2 c16
      refine lv_aload_n hx hb dX4_height_19 rfl (lv_at hl 0 rfl) ?_
      refine va_get (D := D) (ci := 4) (v := .ref (a 2)) (C := RX4) (T := TX4) (N := 23) hx hb hts hinX4 hown hK hP 0 rfl rfl 2 (by decide) hf13 (fun _ h9 => h9) rfl dX4_height_20 ?_
      refine lv_iload_n hx hb dX4_height_23 rfl (lv_at hl 1 rfl) ?_
      have hi24 := hw.1
      have hw := hw.2
      refine va_iald (f := (g_MD_heights u13)) (n := 6) hx hb hK hP 2 0 rfl rfl hi24 dX4_height_24 ?_
      refine lv_goto (tgt := 29) hx hb dX4_height_25 (by decide) ?_
      exact B29 _ _ hw _ _ ls (lv_sub hl [] rfl) hP hD hS
  have hl := lv_entry ([.ref (a 0), .int p1]) (n := 2) (Nat.le_of_ble_eq_true rfl)
  rw [lg_entry_eq]
  generalize (lg_sl ([.ref (a 0), .int p1]) ++ List.replicate (2 - (lg_sl ([.ref (a 0), .int p1])).length) Slot.unset).toArray = ls at hl ⊢
  have hl : lv_has ls 2 [(0, .ref (a 0)), (1, .int p1)] := hl
  unfold w_M_height at hw
  refine lv_aload_n hx hb dX4_height_0 rfl (lv_at hl 0 rfl) ?_
  refine lv_iload_n hx hb dX4_height_1 rfl (lv_at hl 1 rfl) ?_
  refine kSi (As := [.int p1]) (rest := [.ref (a 0)]) ⟨hx, hb, hml, hown, hts⟩ (c_M_isStack l D cs a _ p1 hw) (va_cwS 1 hts gX4_height_X4_isStack rfl rfl rfl (by decide +kernel) ⟨Nat.le_of_ble_eq_true rfl, Nat.le_of_ble_eq_true rfl⟩) (pt_un_MD cs a σ) hK hP hD hS hA rfl hl.1 rfl (Nat.le_of_ble_eq_true rfl) dX4_height_2 ⟨Nat.zero_le _, Nat.zero_le _⟩ (fun r2 u2 H locs hw hP hD hS => ?_)
  have hP : va_P D vwCl (ws_MD cs a σ) H := hP
  have hD : va_D A (ws_MD cs a σ) := hD
  refine lv_if_eq (tgt := 12) hx hb dX4_height_5 (by decide) (fun c5 => ?_) (fun c5 => ?_)
  · have hw := hw.1 c5
    refine lv_iconst (v := (1 : Int32)) hx hb dX4_height_12 (by decide) ?_
    exact B13 _ _ _ hw _ _ ls (lv_sub hl [0, 1] rfl) hP hD hS
  · have hw := hw.2 c5
    refine lv_iconst (v := (0 : Int32)) hx hb dX4_height_8 (by decide) ?_
    refine lv_goto (tgt := 13) hx hb dX4_height_9 (by decide) ?_
    exact B13 _ _ _ hw _ _ ls (lv_sub hl [0, 1] rfl) hP hD hS
abbrev rm_M_at : Room := { frames := 2, cells := 0, slots := 0, locals := 42 }
set_option maxHeartbeats 4000000 in
set_option maxRecDepth 100000 in
theorem c_M_at (l : Launch) (D : va_G) (cs : CS) (a : Nat → Nat) (sz : Nat) (σ : MD) (p1 : Int32) (p2 : Int32) {Φ : Int32 → MD → Prop} (hw : w_M_at σ p1 p2 Φ) : Met l yX4_at wsX4_at rm_M_at (PcG [.ref (a 0), .int p1, .int p2] D cs (ws_MD cs a σ) sz) (va_Qi Φ (BG D cs (va_A (ws_MD cs a σ) sz) sz (ws_MD cs a)) (va_A (ws_MD cs a σ) sz)) 0 0 (va_A (ws_MD cs a σ) sz) := by
  refine Met.ofW (cc := cX4_at) (maxL := 3) (ret := (some .int)) (by decide) rfl ?_
  intro p e s m args below meth c s₁ B hml hv
  obtain ⟨rfl, hsz, hP, hK, hD0⟩ := hv
  have hx := B.exec
  have hb := B.bytes
  have hr := B.returns
  have hts := atoms_spec (ws := wsX4_at) B.pre
  have hown : s.vm.findClass RX4 = some m.cls := findClass_of_methodNamed B.named
  have hlocks := B.notSynchronized
  subst hsz
  have hD := hD0.self (sz := s.heap.size)
  generalize hAe : va_A (ws_MD cs a σ) s.heap.size = A at hD ⊢
  have hA : ∀ q : Nat, s.heap.size ≤ q → A q := fun q h => by rw [← hAe]; exact Or.inr h
  have hS : va_S A s.heap s.heap [] := va_S.rf
  have hf13 : (Cond.fieldLink RX4 13 "CraneYardModel" "heights" "[I").before ([.ref (a 0), .int p1, .int p2] : List Value).toArray s = true := hts _ (List.mem_of_getElem? (i := 1) rfl)
  have hf7 : (Cond.fieldLink RX4 7 "CraneYardModel" "yard" "[I").before ([.ref (a 0), .int p1, .int p2] : List Value).toArray s = true := hts _ (List.mem_of_getElem? (i := 2) rfl)
  have hinX4 : ∀ w ∈ wsX40, w ∈ wsX4_at := fun _ h => List.mem_cons_of_mem _ (List.mem_append_right _ h)
  have hP : va_P D vwCl (ws_MD cs a σ) s.heap := hP
  have B54 : ∀ (t0 : Int32) (σ : MD), b_M_at_54 Φ t0 σ → At p l e (headSpec wsX4_at rm_M_at).room s m ([.ref (a 0), .int p1, .int p2] : List Value).toArray below meth c (MQ below (va_Qi Φ (BG D cs A s.heap.size (ws_MD cs a)) A) ([.ref (a 0), .int p1, .int p2] : List Value).toArray s 0 0 A) D A 3 [] (ws_MD cs a σ) 54 [.int t0] := by
    intro t0 σ hw H locs ls hl hP hD hS
    unfold b_M_at_54 at hw
    exact rI (wf := (ws_MD cs a)) (u := σ) hx hb hr hlocks hK hP hD hS hw dX4_at_54
  have B22 : ∀ (x1 : Int32) (x2 : Int32) (t1 : Int32) (σ : MD), b_M_at_22 Φ x1 x2 t1 σ → At p l e (headSpec wsX4_at rm_M_at).room s m ([.ref (a 0), .int p1, .int p2] : List Value).toArray below meth c (MQ below (va_Qi Φ (BG D cs A s.heap.size (ws_MD cs a)) A) ([.ref (a 0), .int p1, .int p2] : List Value).toArray s 0 0 A) D A 3 [(0, .ref (a 0)), (1, .int x1), (2, .int x2)] (ws_MD cs a σ) 22 [.int t1, .ref (a 0)] := by
    intro x1 x2 t1 σ hw H locs ls hl hP hD hS
    unfold b_M_at_22 at hw
    refine kVi (As := [.int t1]) (rest := []) ⟨hx, hb, hml, hown, hts⟩ (c_M_goesWell l D cs a _ σ t1 hw) (cwV 1 hts gX4_at_X4_goesWell rfl rfl rfl (by decide +kernel) ⟨Nat.le_of_ble_eq_true rfl, Nat.le_of_ble_eq_true rfl⟩) (pt_self_MD cs a σ) hK hP hD hS hA (ci := 4) rfl rfl rfl rfl hl.1 rfl (Nat.le_of_ble_eq_true rfl) dX4_at_22 ⟨Nat.zero_le _, Nat.zero_le _⟩ (fun r22 u22 H locs hw hP hD hS => ?_)
    have hP : va_P D vwCl (ws_MD cs a u22) H := hP
    have hD : va_D A (ws_MD cs a u22) := hD
    refine lv_if_ne (tgt := 30) hx hb dX4_at_25 (by decide) (fun c25 => ?_) (fun c25 => ?_)
    · have hw := hw.2 c25
      refine lv_iload_n hx hb dX4_at_30 rfl (lv_at hl 2 rfl) ?_
      refine lv_aload_n hx hb dX4_at_31 rfl (lv_at hl 0 rfl) ?_
      refine va_get (D := D) (ci := 4) (v := .ref (a 2)) (C := RX4) (T := TX4) (N := 23) hx hb hts hinX4 hown hK hP 0 rfl rfl 2 (by decide) hf13 (fun _ h9 => h9) rfl dX4_at_32 ?_
      refine lv_iload_n hx hb dX4_at_35 rfl (lv_at hl 1 rfl) ?_
      have hi36 := hw.1
      have hw := hw.2
      refine va_iald (f := (g_MD_heights u22)) (n := 6) hx hb hK hP 2 0 rfl rfl hi36 dX4_at_36 ?_
      refine lv_icmp_ge (tgt := 53) hx hb dX4_at_37 (by decide) (fun c37 => ?_) (fun c37 => ?_)
      · have hw := hw.1 c37
        refine lv_iconst (v := (-1 : Int32)) hx hb dX4_at_53 (by decide) ?_
        exact B54 _ _ hw _ _ ls (lv_sub hl [] rfl) hP hD hS
      · have hw := hw.2 c37
        refine lv_aload_n hx hb dX4_at_40 rfl (lv_at hl 0 rfl) ?_
        refine va_get (D := D) (ci := 4) (v := .ref (a 1)) (C := RX4) (T := TX4) (N := 23) hx hb hts hinX4 hown hK hP 0 rfl rfl 1 (by decide) hf7 (fun _ h9 => h9) rfl dX4_at_41 ?_
        refine lv_iconst (v := (5 : Int32)) hx hb dX4_at_44 (by decide) ?_
        refine lv_iload_n hx hb dX4_at_45 rfl (lv_at hl 1 rfl) ?_
        refine lv_imul hx hb dX4_at_46 ?_
        refine lv_iload_n hx hb dX4_at_47 rfl (lv_at hl 2 rfl) ?_
        refine lv_iadd hx hb dX4_at_48 ?_
        have hi49 := hw.1
        have hw := hw.2
        refine va_iald (f := (g_MD_yard u22)) (n := 30) hx hb hK hP 1 0 rfl rfl hi49 dX4_at_49 ?_
        refine lv_goto (tgt := 54) hx hb dX4_at_50 (by decide) ?_
        exact B54 _ _ hw _ _ ls (lv_sub hl [] rfl) hP hD hS
    · have hw := hw.1 c25
      refine lv_iconst (v := (0 : Int32)) hx hb dX4_at_28 (by decide) ?_
      exact rI (wf := (ws_MD cs a)) (u := u22) hx hb hr hlocks hK hP hD hS hw dX4_at_29
  have B21 : ∀ (x1 : Int32) (x2 : Int32) (σ : MD), b_M_at_21 Φ x1 x2 σ → At p l e (headSpec wsX4_at rm_M_at).room s m ([.ref (a 0), .int p1, .int p2] : List Value).toArray below meth c (MQ below (va_Qi Φ (BG D cs A s.heap.size (ws_MD cs a)) A) ([.ref (a 0), .int p1, .int p2] : List Value).toArray s 0 0 A) D A 3 [(0, .ref (a 0)), (1, .int x1), (2, .int x2)] (ws_MD cs a σ) 21 [.ref (a 0)] := by
    intro x1 x2 σ hw H locs ls hl hP hD hS
    unfold b_M_at_21 at hw
    refine lv_iconst (v := (1 : Int32)) hx hb dX4_at_21 (by decide) ?_
    exact B22 _ _ _ _ hw _ _ ls (lv_sub hl [0, 1, 2] rfl) hP hD hS
  have hl := lv_entry ([.ref (a 0), .int p1, .int p2]) (n := 3) (Nat.le_of_ble_eq_true rfl)
  rw [lg_entry_eq]
  generalize (lg_sl ([.ref (a 0), .int p1, .int p2]) ++ List.replicate (3 - (lg_sl ([.ref (a 0), .int p1, .int p2])).length) Slot.unset).toArray = ls at hl ⊢
  have hl : lv_has ls 3 [(0, .ref (a 0)), (1, .int p1), (2, .int p2)] := hl
  unfold w_M_at at hw
  refine lv_aload_n hx hb dX4_at_0 rfl (lv_at hl 0 rfl) ?_
  refine lv_iload_n hx hb dX4_at_1 rfl (lv_at hl 1 rfl) ?_
  refine kSi (As := [.int p1]) (rest := [.ref (a 0)]) ⟨hx, hb, hml, hown, hts⟩ (c_M_isStack l D cs a _ p1 hw) (va_cwS 1 hts gX4_at_X4_isStack rfl rfl rfl (by decide +kernel) ⟨Nat.le_of_ble_eq_true rfl, Nat.le_of_ble_eq_true rfl⟩) (pt_un_MD cs a σ) hK hP hD hS hA rfl hl.1 rfl (Nat.le_of_ble_eq_true rfl) dX4_at_2 ⟨Nat.zero_le _, Nat.zero_le _⟩ (fun r2 u2 H locs hw hP hD hS => ?_)
  have hP : va_P D vwCl (ws_MD cs a σ) H := hP
  have hD : va_D A (ws_MD cs a σ) := hD
  refine lv_if_eq (tgt := 21) hx hb dX4_at_5 (by decide) (fun c5 => ?_) (fun c5 => ?_)
  · have hw := hw.1 c5
    exact B21 _ _ _ hw _ _ ls (lv_sub hl [0, 1, 2] rfl) hP hD hS
  · have hw := hw.2 c5
    refine lv_iload_n hx hb dX4_at_8 rfl (lv_at hl 2 rfl) ?_
    refine lv_iconst (v := (0 : Int32)) hx hb dX4_at_9 (by decide) ?_
    refine lv_iconst (v := (4 : Int32)) hx hb dX4_at_10 (by decide) ?_
    refine kSi (As := [.int p2, .int (0 : Int32), .int (4 : Int32)]) (rest := [.ref (a 0)]) ⟨hx, hb, hml, hown, hts⟩ (c_M_in l D cs a _ p2 (0 : Int32) (4 : Int32) hw) (va_cwS 3 hts gX4_at_X4_in rfl rfl rfl (by decide +kernel) ⟨Nat.le_of_ble_eq_true rfl, Nat.le_of_ble_eq_true rfl⟩) (pt_un_MD cs a σ) hK hP hD hS hA rfl hl.1 rfl (Nat.le_of_ble_eq_true rfl) dX4_at_11 ⟨Nat.zero_le _, Nat.zero_le _⟩ (fun r11 u11 H locs hw hP hD hS => ?_)
    have hP : va_P D vwCl (ws_MD cs a σ) H := hP
    have hD : va_D A (ws_MD cs a σ) := hD
    refine lv_if_eq (tgt := 21) hx hb dX4_at_14 (by decide) (fun c14 => ?_) (fun c14 => ?_)
    · have hw := hw.1 c14
      exact B21 _ _ _ hw _ _ ls (lv_sub hl [0, 1, 2] rfl) hP hD hS
    · have hw := hw.2 c14
      refine lv_iconst (v := (0 : Int32)) hx hb dX4_at_17 (by decide) ?_
      refine lv_goto (tgt := 22) hx hb dX4_at_18 (by decide) ?_
      exact B22 _ _ _ _ hw _ _ ls (lv_sub hl [0, 1, 2] rfl) hP hD hS
