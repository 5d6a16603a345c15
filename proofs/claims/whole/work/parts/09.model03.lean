abbrev rm_M_payWords : Room := { frames := 2, cells := 0, slots := 0, locals := 46 }
set_option maxHeartbeats 4000000 in
set_option maxRecDepth 100000 in
theorem c_M_payWords (l : Launch) (D : va_G) (cs : CS) (a : Nat → Nat) (sz : Nat) (σ : MD) {Φ : MD → Prop} (hw : w_M_payWords σ Φ) : Met l yX4_payWords wsX4_payWords rm_M_payWords (PcG [.ref (a 0)] D cs (ws_MD cs a σ) sz) (va_Qv Φ (BG D cs (va_A (ws_MD cs a σ) sz) sz (ws_MD cs a)) (va_A (ws_MD cs a σ) sz)) 0 0 (va_A (ws_MD cs a σ) sz) := by
  refine Met.ofW (cc := cX4_payWords) (maxL := 4) (ret := none) (by decide) rfl ?_
  intro p e s m args below meth c s₁ B hml hv
  obtain ⟨rfl, hsz, hP, hK, hD0⟩ := hv
  have hx := B.exec
  have hb := B.bytes
  have hr := B.returns
  have hts := atoms_spec (ws := wsX4_payWords) B.pre
  have hown : s.vm.findClass RX4 = some m.cls := findClass_of_methodNamed B.named
  have hlocks := B.notSynchronized
  subst hsz
  have hD := hD0.self (sz := s.heap.size)
  generalize hAe : va_A (ws_MD cs a σ) s.heap.size = A at hD ⊢
  have hA : ∀ q : Nat, s.heap.size ≤ q → A q := fun q h => by rw [← hAe]; exact Or.inr h
  have hS : va_S A s.heap s.heap [] := va_S.rf
  have hf13 : (Cond.fieldLink RX4 13 "CraneYardModel" "heights" "[I").before ([.ref (a 0)] : List Value).toArray s = true := hts _ (List.mem_of_getElem? (i := 2) rfl)
  have hf35 : (Cond.fieldLink RX4 35 "CraneYardModel" "hasPaid" "[Z").before ([.ref (a 0)] : List Value).toArray s = true := hts _ (List.mem_of_getElem? (i := 3) rfl)
  have hf79 : (Cond.fieldLink RX4 79 "CraneYardModel" "many" "I").before ([.ref (a 0)] : List Value).toArray s = true := hts _ (List.mem_of_getElem? (i := 1) rfl)
  have hf86 : (Cond.fieldLink RX4 86 "CraneYardModel" "bonus" "I").before ([.ref (a 0)] : List Value).toArray s = true := hts _ (List.mem_of_getElem? (i := 4) rfl)
  have hinX4 : ∀ w ∈ wsX40, w ∈ wsX4_payWords := fun _ h => List.mem_cons_of_mem _ (List.mem_append_right _ h)
  have hP : va_P D vwCl (ws_MD cs a σ) s.heap := hP
  have B91 : ∀ (K2 : (Int32 → MD → Prop)) (hK2 : ∀ (x1 : Int32) (σ : MD), K2 x1 σ → At p l e (headSpec wsX4_payWords rm_M_payWords).room s m ([.ref (a 0)] : List Value).toArray below meth c (MQ below (va_Qv Φ (BG D cs A s.heap.size (ws_MD cs a)) A) ([.ref (a 0)] : List Value).toArray s 0 0 A) D A 4 [(0, .ref (a 0)), (1, .int x1)] (ws_MD cs a σ) 2 []) (x1 : Int32) (σ : MD), b_M_payWords_91 K2 Φ x1 σ → At p l e (headSpec wsX4_payWords rm_M_payWords).room s m ([.ref (a 0)] : List Value).toArray below meth c (MQ below (va_Qv Φ (BG D cs A s.heap.size (ws_MD cs a)) A) ([.ref (a 0)] : List Value).toArray s 0 0 A) D A 4 [(0, .ref (a 0)), (1, .int x1)] (ws_MD cs a σ) 91 [] := by
    intro K2 hK2 x1 σ hw H locs ls hl hP hD hS
    unfold b_M_payWords_91 at hw
    refine lv_iinc (v := (x1 + (1 : Int32))) (lv' := [(1, .int (x1 + (1 : Int32))), (0, .ref (a 0))]) hx hb dX4_payWords_91 hl (k := 1) rfl rfl (by decide) rfl (fun ls hl => ?_)
    refine lv_goto (tgt := 2) hx hb dX4_payWords_94 (by decide) ?_
    exact hK2 _ _ hw _ _ ls (lv_sub hl [1, 0] rfl) hP hD hS
  have B47 : ∀ (K2 : (Int32 → MD → Prop)) (hK2 : ∀ (x1 : Int32) (σ : MD), K2 x1 σ → At p l e (headSpec wsX4_payWords rm_M_payWords).room s m ([.ref (a 0)] : List Value).toArray below meth c (MQ below (va_Qv Φ (BG D cs A s.heap.size (ws_MD cs a)) A) ([.ref (a 0)] : List Value).toArray s 0 0 A) D A 4 [(0, .ref (a 0)), (1, .int x1)] (ws_MD cs a σ) 2 []) (K14 : (Int32 → Int32 → Int32 → MD → Prop)) (hK14 : ∀ (x1 : Int32) (x2 : Int32) (x3 : Int32) (σ : MD), K14 x1 x2 x3 σ → At p l e (headSpec wsX4_payWords rm_M_payWords).room s m ([.ref (a 0)] : List Value).toArray below meth c (MQ below (va_Qv Φ (BG D cs A s.heap.size (ws_MD cs a)) A) ([.ref (a 0)] : List Value).toArray s 0 0 A) D A 4 [(0, .ref (a 0)), (1, .int x1), (2, .int x2), (3, .int x3)] (ws_MD cs a σ) 14 []) (x1 : Int32) (x3 : Int32) (t0 : Int32) (σ : MD), b_M_payWords_47 K2 K14 Φ x1 x3 t0 σ → At p l e (headSpec wsX4_payWords rm_M_payWords).room s m ([.ref (a 0)] : List Value).toArray below meth c (MQ below (va_Qv Φ (BG D cs A s.heap.size (ws_MD cs a)) A) ([.ref (a 0)] : List Value).toArray s 0 0 A) D A 4 [(0, .ref (a 0)), (1, .int x1), (3, .int x3)] (ws_MD cs a σ) 47 [.int t0] := by
    intro K2 hK2 K14 hK14 x1 x3 t0 σ hw H locs ls hl hP hD hS
    unfold b_M_payWords_47 at hw
    refine lv_istore_n (lv' := [(2, .int t0), (0, .ref (a 0)), (1, .int x1), (3, .int x3)]) hx hb dX4_payWords_47 rfl hl (by decide) rfl (fun ls hl => ?_)
    refine lv_iinc (v := (x3 + (1 : Int32))) (lv' := [(3, .int (x3 + (1 : Int32))), (2, .int t0), (0, .ref (a 0)), (1, .int x1)]) hx hb dX4_payWords_48 hl (k := 3) rfl rfl (by decide) rfl (fun ls hl => ?_)
    refine lv_goto (tgt := 14) hx hb dX4_payWords_51 (by decide) ?_
    exact hK14 _ _ _ _ hw _ _ ls (lv_sub hl [2, 3, 1, 0] rfl) hP hD hS
  have B46 : ∀ (K2 : (Int32 → MD → Prop)) (hK2 : ∀ (x1 : Int32) (σ : MD), K2 x1 σ → At p l e (headSpec wsX4_payWords rm_M_payWords).room s m ([.ref (a 0)] : List Value).toArray below meth c (MQ below (va_Qv Φ (BG D cs A s.heap.size (ws_MD cs a)) A) ([.ref (a 0)] : List Value).toArray s 0 0 A) D A 4 [(0, .ref (a 0)), (1, .int x1)] (ws_MD cs a σ) 2 []) (K14 : (Int32 → Int32 → Int32 → MD → Prop)) (hK14 : ∀ (x1 : Int32) (x2 : Int32) (x3 : Int32) (σ : MD), K14 x1 x2 x3 σ → At p l e (headSpec wsX4_payWords rm_M_payWords).room s m ([.ref (a 0)] : List Value).toArray below meth c (MQ below (va_Qv Φ (BG D cs A s.heap.size (ws_MD cs a)) A) ([.ref (a 0)] : List Value).toArray s 0 0 A) D A 4 [(0, .ref (a 0)), (1, .int x1), (2, .int x2), (3, .int x3)] (ws_MD cs a σ) 14 []) (x1 : Int32) (x3 : Int32) (σ : MD), b_M_payWords_46 K2 K14 Φ x1 x3 σ → At p l e (headSpec wsX4_payWords rm_M_payWords).room s m ([.ref (a 0)] : List Value).toArray below meth c (MQ below (va_Qv Φ (BG D cs A s.heap.size (ws_MD cs a)) A) ([.ref (a 0)] : List Value).toArray s 0 0 A) D A 4 [(0, .ref (a 0)), (1, .int x1), (3, .int x3)] (ws_MD cs a σ) 46 [] := by
    intro K2 hK2 K14 hK14 x1 x3 σ hw H locs ls hl hP hD hS
    unfold b_M_payWords_46 at hw
    refine lv_iconst (v := (0 : Int32)) hx hb dX4_payWords_46 (by decide) ?_
    exact B47 _ hK2 _ hK14 _ _ _ _ hw _ _ ls (lv_sub hl [0, 1, 2] rfl) hP hD hS
  have B42 : ∀ (K2 : (Int32 → MD → Prop)) (hK2 : ∀ (x1 : Int32) (σ : MD), K2 x1 σ → At p l e (headSpec wsX4_payWords rm_M_payWords).room s m ([.ref (a 0)] : List Value).toArray below meth c (MQ below (va_Qv Φ (BG D cs A s.heap.size (ws_MD cs a)) A) ([.ref (a 0)] : List Value).toArray s 0 0 A) D A 4 [(0, .ref (a 0)), (1, .int x1)] (ws_MD cs a σ) 2 []) (K14 : (Int32 → Int32 → Int32 → MD → Prop)) (hK14 : ∀ (x1 : Int32) (x2 : Int32) (x3 : Int32) (σ : MD), K14 x1 x2 x3 σ → At p l e (headSpec wsX4_payWords rm_M_payWords).room s m ([.ref (a 0)] : List Value).toArray below meth c (MQ below (va_Qv Φ (BG D cs A s.heap.size (ws_MD cs a)) A) ([.ref (a 0)] : List Value).toArray s 0 0 A) D A 4 [(0, .ref (a 0)), (1, .int x1), (2, .int x2), (3, .int x3)] (ws_MD cs a σ) 14 []) (x1 : Int32) (x3 : Int32) (σ : MD), b_M_payWords_42 K2 K14 Φ x1 x3 σ → At p l e (headSpec wsX4_payWords rm_M_payWords).room s m ([.ref (a 0)] : List Value).toArray below meth c (MQ below (va_Qv Φ (BG D cs A s.heap.size (ws_MD cs a)) A) ([.ref (a 0)] : List Value).toArray s 0 0 A) D A 4 [(0, .ref (a 0)), (1, .int x1), (3, .int x3)] (ws_MD cs a σ) 42 [] := by
    intro K2 hK2 K14 hK14 x1 x3 σ hw H locs ls hl hP hD hS
    unfold b_M_payWords_42 at hw
    refine lv_iconst (v := (1 : Int32)) hx hb dX4_payWords_42 (by decide) ?_
    refine lv_goto (tgt := 47) hx hb dX4_payWords_43 (by decide) ?_
    exact B47 _ hK2 _ hK14 _ _ _ _ hw _ _ ls (lv_sub hl [0, 1, 2] rfl) hP hD hS
  have B14 : ∀ (K2 : (Int32 → MD → Prop)) (hK2 : ∀ (x1 : Int32) (σ : MD), K2 x1 σ → At p l e (headSpec wsX4_payWords rm_M_payWords).room s m ([.ref (a 0)] : List Value).toArray below meth c (MQ below (va_Qv Φ (BG D cs A s.heap.size (ws_MD cs a)) A) ([.ref (a 0)] : List Value).toArray s 0 0 A) D A 4 [(0, .ref (a 0)), (1, .int x1)] (ws_MD cs a σ) 2 []) (n : Nat) (x1 : Int32) (x2 : Int32) (x3 : Int32) (σ : MD), it4 (b_M_payWords_14 K2 Φ) n x1 x2 x3 σ → At p l e (headSpec wsX4_payWords rm_M_payWords).room s m ([.ref (a 0)] : List Value).toArray below meth c (MQ below (va_Qv Φ (BG D cs A s.heap.size (ws_MD cs a)) A) ([.ref (a 0)] : List Value).toArray s 0 0 A) D A 4 [(0, .ref (a 0)), (1, .int x1), (2, .int x2), (3, .int x3)] (ws_MD cs a σ) 14 [] := by
    intro K2 hK2 n
    induction n with
    | zero => intro x1 x2 x3 σ hw; exact absurd hw id
    | succ n ih =>
      intro x1 x2 x3 σ hw H locs ls hl hP hD hS
      have hw : b_M_payWords_14 K2 Φ (it4 (b_M_payWords_14 K2 Φ) n) x1 x2 x3 σ := hw
      unfold b_M_payWords_14 at hw
      refine lv_iload_n hx hb dX4_payWords_14 rfl (lv_at hl 3 rfl) ?_
      refine lv_bipush (v := (6 : Int32)) hx hb dX4_payWords_15 (by decide) ?_
      refine lv_icmp_ge (tgt := 54) hx hb dX4_payWords_17 (by decide) (fun c17 => ?_) (fun c17 => ?_)
      · have hw := hw.1 c17
        refine lv_iload_n hx hb dX4_payWords_54 rfl (lv_at hl 2 rfl) ?_
        refine lv_if_eq (tgt := 91) hx hb dX4_payWords_55 (by decide) (fun c55 => ?_) (fun c55 => ?_)
        · have hw := hw.1 c55
          exact B91 _ hK2 _ _ hw _ _ ls (lv_sub hl [0, 1] rfl) hP hD hS
        · have hw := hw.2 c55
          refine lv_aload_n hx hb dX4_payWords_58 rfl (lv_at hl 0 rfl) ?_
          refine va_get (D := D) (ci := 4) (v := .ref (a 8)) (C := RX4) (T := TX4) (N := 23) hx hb hts hinX4 hown hK hP 0 rfl rfl 11 (by decide) hf35 (fun _ h9 => h9) rfl dX4_payWords_59 ?_
          refine lv_iload_n hx hb dX4_payWords_62 rfl (lv_at hl 1 rfl) ?_
          have hi63 := hw.1
          have hw := hw.2
          refine va_zald (f := (g_MD_hasPaid σ)) (n := 8) hx hb hK hP 8 1 rfl rfl hi63 dX4_payWords_63 ?_
          refine lv_if_ne (tgt := 91) hx hb dX4_payWords_64 (by decide) (fun c64 => ?_) (fun c64 => ?_)
          · have hw := hw.2 c64
            exact B91 _ hK2 _ _ hw _ _ ls (lv_sub hl [0, 1] rfl) hP hD hS
          · have hw := hw.1 c64
            refine lv_aload_n hx hb dX4_payWords_67 rfl (lv_at hl 0 rfl) ?_
            refine va_get (D := D) (ci := 4) (v := .ref (a 8)) (C := RX4) (T := TX4) (N := 23) hx hb hts hinX4 hown hK hP 0 rfl rfl 11 (by decide) hf35 (fun _ h9 => h9) rfl dX4_payWords_68 ?_
            refine lv_iload_n hx hb dX4_payWords_71 rfl (lv_at hl 1 rfl) ?_
            refine lv_iconst (v := (1 : Int32)) hx hb dX4_payWords_72 (by decide) ?_
            have hi73 := hw.1
            have hw := hw.2
            refine va_zast (f := (g_MD_hasPaid σ)) (n := 8) (x := (1 : Int32)) hx hb hK hP hD hS 8 1 rfl rfl hi73 dX4_payWords_73 (fun H locs hP hD hS => ?_)
            have hP : va_P D vwCl (ws_MD cs a (s_MD_hasPaid σ (upd (g_MD_hasPaid σ) (x1).toNatClampNeg (1 : Int32)))) H := hP
            have hD : va_D A (ws_MD cs a (s_MD_hasPaid σ (upd (g_MD_hasPaid σ) (x1).toNatClampNeg (1 : Int32)))) := hD
            obtain ⟨z1, ez1⟩ : ∃ z : MD, z = (s_MD_hasPaid σ (upd (g_MD_hasPaid σ) (x1).toNatClampNeg (1 : Int32))) := ⟨_, rfl⟩
            have hw := hw z1 ez1
            rw [← ez1] at hP hD
            refine lv_aload_n hx hb dX4_payWords_74 rfl (lv_at hl 0 rfl) ?_
            refine lv_dup hx hb dX4_payWords_75 rfl ?_
            refine va_get (D := D) (ci := 4) (v := .int (g_MD_bonus z1)) (C := RX4) (T := TX4) (N := 23) hx hb hts hinX4 hown hK hP 0 rfl rfl 13 (by decide) hf86 (fun _ h9 => h9) rfl dX4_payWords_76 ?_
            refine lv_bipush (v := (100 : Int32)) hx hb dX4_payWords_79 (by decide) ?_
            refine lv_aload_n hx hb dX4_payWords_81 rfl (lv_at hl 0 rfl) ?_
            refine lv_iload_n hx hb dX4_payWords_82 rfl (lv_at hl 1 rfl) ?_
            refine kVi (As := [.int x1]) (rest := [.int (100 : Int32), .int (g_MD_bonus z1), .ref (a 0)]) ⟨hx, hb, hml, hown, hts⟩ (c_M_sizeOf l D cs a _ z1 x1 hw) (cwV 1 hts gX4_payWords_X4_sizeOf rfl rfl rfl (by decide +kernel) ⟨Nat.le_of_ble_eq_true rfl, Nat.le_of_ble_eq_true rfl⟩) (pt_self_MD cs a z1) hK hP hD hS hA (ci := 4) rfl rfl rfl rfl hl.1 rfl (Nat.le_of_ble_eq_true rfl) dX4_payWords_83 ⟨Nat.zero_le _, Nat.zero_le _⟩ (fun r83 u83 H locs hw hP hD hS => ?_)
            have hP : va_P D vwCl (ws_MD cs a u83) H := hP
            have hD : va_D A (ws_MD cs a u83) := hD
            refine lv_imul hx hb dX4_payWords_86 ?_
            refine lv_iadd hx hb dX4_payWords_87 ?_
            refine lv_topi (fun y2 ey2 => ?_)
            have hw := hw y2 ey2
            refine va_put (D := D) (ci := 4) (v := .int y2) (ty := .int) (C := RX4) (T := TX4) (N := 23) hx hb hts hinX4 tyX4 tyX4_ok nmX4 hown hK hP hD hS 0 rfl rfl 13 (by decide) hf86 (fun _ h9 => h9) rfl (by decide +kernel) rfl rfl (Nat.le_of_ble_eq_true rfl) dX4_payWords_88 (fun H locs hP hD hS => ?_)
            have hP : va_P D vwCl (ws_MD cs a (s_MD_bonus u83 y2)) H := hP
            have hD : va_D A (ws_MD cs a (s_MD_bonus u83 y2)) := hD
            obtain ⟨z3, ez3⟩ : ∃ z : MD, z = (s_MD_bonus u83 y2) := ⟨_, rfl⟩
            have hw := hw z3 ez3
            rw [← ez3] at hP hD
            exact B91 _ hK2 _ _ hw H locs ls (lv_sub hl [0, 1] rfl) hP hD hS
      · have hw := hw.2 c17
        refine lv_iload_n hx hb dX4_payWords_20 rfl (lv_at hl 2 rfl) ?_
        refine lv_if_ne (tgt := 42) hx hb dX4_payWords_21 (by decide) (fun c21 => ?_) (fun c21 => ?_)
        · have hw := hw.2 c21
          exact B42 _ hK2 _ ih _ _ _ hw _ _ ls (lv_sub hl [0, 1, 3] rfl) hP hD hS
        · have hw := hw.1 c21
          refine lv_aload_n hx hb dX4_payWords_24 rfl (lv_at hl 0 rfl) ?_
          refine va_get (D := D) (ci := 4) (v := .ref (a 2)) (C := RX4) (T := TX4) (N := 23) hx hb hts hinX4 hown hK hP 0 rfl rfl 2 (by decide) hf13 (fun _ h9 => h9) rfl dX4_payWords_25 ?_
          refine lv_iload_n hx hb dX4_payWords_28 rfl (lv_at hl 3 rfl) ?_
          have hi29 := hw.1
          have hw := hw.2
          refine va_iald (f := (g_MD_heights σ)) (n := 6) hx hb hK hP 2 0 rfl rfl hi29 dX4_payWords_29 ?_
          refine lv_if_le (tgt := 46) hx hb dX4_payWords_30 (by decide) (fun c30 => ?_) (fun c30 => ?_)
          · have hw := hw.1 c30
            exact B46 _ hK2 _ ih _ _ _ hw _ _ ls (lv_sub hl [0, 1, 3] rfl) hP hD hS
          · have hw := hw.2 c30
            refine lv_aload_n hx hb dX4_payWords_33 rfl (lv_at hl 0 rfl) ?_
            refine lv_iload_n hx hb dX4_payWords_34 rfl (lv_at hl 1 rfl) ?_
            refine lv_iload_n hx hb dX4_payWords_35 rfl (lv_at hl 3 rfl) ?_
            refine kVi (As := [.int x1, .int x3]) (rest := []) ⟨hx, hb, hml, hown, hts⟩ (c_M_isOnLids l D cs a _ σ x1 x3 hw) (cwV 2 hts gX4_payWords_X4_isOnLids rfl rfl rfl (by decide +kernel) ⟨Nat.le_of_ble_eq_true rfl, Nat.le_of_ble_eq_true rfl⟩) (pt_self_MD cs a σ) hK hP hD hS hA (ci := 4) rfl rfl rfl rfl hl.1 rfl (Nat.le_of_ble_eq_true rfl) dX4_payWords_36 ⟨Nat.zero_le _, Nat.zero_le _⟩ (fun r36 u36 H locs hw hP hD hS => ?_)
            have hP : va_P D vwCl (ws_MD cs a u36) H := hP
            have hD : va_D A (ws_MD cs a u36) := hD
            refine lv_if_eq (tgt := 46) hx hb dX4_payWords_39 (by decide) (fun c39 => ?_) (fun c39 => ?_)
            · have hw := hw.1 c39
              exact B46 _ hK2 _ ih _ _ _ hw _ _ ls (lv_sub hl [0, 1, 3] rfl) hP hD hS
            · have hw := hw.2 c39
              exact B42 _ hK2 _ ih _ _ _ hw _ _ ls (lv_sub hl [0, 1, 3] rfl) hP hD hS
  have B2 : ∀ (n : Nat) (x1 : Int32) (σ : MD), it2 (b_M_payWords_2 Φ) n x1 σ → At p l e (headSpec wsX4_payWords rm_M_payWords).room s m ([.ref (a 0)] : List Value).toArray below meth c (MQ below (va_Qv Φ (BG D cs A s.heap.size (ws_MD cs a)) A) ([.ref (a 0)] : List Value).toArray s 0 0 A) D A 4 [(0, .ref (a 0)), (1, .int x1)] (ws_MD cs a σ) 2 [] := by
    intro n
    induction n with
    | zero => intro x1 σ hw; exact absurd hw id
    | succ n ih =>
      intro x1 σ hw H locs ls hl hP hD hS
      have hw : b_M_payWords_2 Φ (it2 (b_M_payWords_2 Φ) n) x1 σ := hw
      unfold b_M_payWords_2 at hw
      refine lv_iload_n hx hb dX4_payWords_2 rfl (lv_at hl 1 rfl) ?_
      refine lv_aload_n hx hb dX4_payWords_3 rfl (lv_at hl 0 rfl) ?_
      refine va_get (D := D) (ci := 4) (v := .int (g_MD_many σ)) (C := RX4) (T := TX4) (N := 23) hx hb hts hinX4 hown hK hP 0 rfl rfl 12 (by decide) hf79 (fun _ h9 => h9) rfl dX4_payWords_4 ?_
      refine lv_icmp_ge (tgt := 97) hx hb dX4_payWords_7 (by decide) (fun c7 => ?_) (fun c7 => ?_)
      · have hw := hw.1 c7
        exact rV (wf := (ws_MD cs a)) (u := σ) hx hb hr hlocks hK hP hD hS hw dX4_payWords_97
      · have hw := hw.2 c7
        refine lv_iconst (v := (0 : Int32)) hx hb dX4_payWords_10 (by decide) ?_
        refine lv_istore_n (lv' := [(2, .int (0 : Int32)), (0, .ref (a 0)), (1, .int x1)]) hx hb dX4_payWords_11 rfl hl (by decide) rfl (fun ls hl => ?_)
        refine lv_iconst (v := (0 : Int32)) hx hb dX4_payWords_12 (by decide) ?_
        refine lv_istore_n (lv' := [(3, .int (0 : Int32)), (2, .int (0 : Int32)), (0, .ref (a 0)), (1, .int x1)]) hx hb dX4_payWords_13 rfl hl (by decide) rfl (fun ls hl => ?_)
        obtain ⟨n, hw⟩ := hw
        exact B14 _ ih n _ _ _ _ hw _ _ ls (lv_sub hl [2, 3, 1, 0] rfl) hP hD hS
  have hl := lv_entry ([.ref (a 0)]) (n := 4) (Nat.le_of_ble_eq_true rfl)
  rw [lg_entry_eq]
  generalize (lg_sl ([.ref (a 0)]) ++ List.replicate (4 - (lg_sl ([.ref (a 0)])).length) Slot.unset).toArray = ls at hl ⊢
  have hl : lv_has ls 4 [(0, .ref (a 0))] := hl
  unfold w_M_payWords at hw
  refine lv_iconst (v := (0 : Int32)) hx hb dX4_payWords_0 (by decide) ?_
  refine lv_istore_n (lv' := [(1, .int (0 : Int32)), (0, .ref (a 0))]) hx hb dX4_payWords_1 rfl hl (by decide) rfl (fun ls hl => ?_)
  obtain ⟨n, hw⟩ := hw
  exact B2 n _ _ hw _ _ ls (lv_sub hl [1, 0] rfl) hP hD hS
abbrev rm_M_arrive : Room := { frames := 3, cells := 0, slots := 0, locals := 69 }
set_option maxHeartbeats 4000000 in
set_option maxRecDepth 100000 in
theorem c_M_arrive (l : Launch) (D : va_G) (cs : CS) (a : Nat → Nat) (sz : Nat) (σ : MD) (p1 : Int32) (p2 : Int32) (p3 : Int32) {Φ : Int32 → MD → Prop} (hw : w_M_arrive σ p1 p2 p3 Φ) : Met l yX4_arrive wsX4_arrive rm_M_arrive (PcG [.ref (a 0), .int p1, .int p2, .int p3] D cs (ws_MD cs a σ) sz) (va_Qi Φ (BG D cs (va_A (ws_MD cs a σ) sz) sz (ws_MD cs a)) (va_A (ws_MD cs a σ) sz)) 0 0 (va_A (ws_MD cs a σ) sz) := by
  refine Met.ofW (cc := cX4_arrive) (maxL := 6) (ret := (some .int)) (by decide) rfl ?_
  intro p e s m args below meth c s₁ B hml hv
  obtain ⟨rfl, hsz, hP, hK, hD0⟩ := hv
  have hx := B.exec
  have hb := B.bytes
  have hr := B.returns
  have hts := atoms_spec (ws := wsX4_arrive) B.pre
  have hown : s.vm.findClass RX4 = some m.cls := findClass_of_methodNamed B.named
  have hlocks := B.notSynchronized
  subst hsz
  have hD := hD0.self (sz := s.heap.size)
  generalize hAe : va_A (ws_MD cs a σ) s.heap.size = A at hD ⊢
  have hA : ∀ q : Nat, s.heap.size ≤ q → A q := fun q h => by rw [← hAe]; exact Or.inr h
  have hS : va_S A s.heap s.heap [] := va_S.rf
  have hf16 : (Cond.fieldLink RX4 16 "CraneYardModel" "weights" "[I").before ([.ref (a 0), .int p1, .int p2, .int p3] : List Value).toArray s = true := hts _ (List.mem_of_getElem? (i := 2) rfl)
  have hf19 : (Cond.fieldLink RX4 19 "CraneYardModel" "letters" "[I").before ([.ref (a 0), .int p1, .int p2, .int p3] : List Value).toArray s = true := hts _ (List.mem_of_getElem? (i := 3) rfl)
  have hf61 : (Cond.fieldLink RX4 61 "CraneYardModel" "crates" "I").before ([.ref (a 0), .int p1, .int p2, .int p3] : List Value).toArray s = true := hts _ (List.mem_of_getElem? (i := 1) rfl)
  have hinX4 : ∀ w ∈ wsX40, w ∈ wsX4_arrive := fun _ h => List.mem_cons_of_mem _ (List.mem_append_right _ h)
  have hP : va_P D vwCl (ws_MD cs a σ) s.heap := hP
  have B84 : ∀ (x1 : Int32) (x2 : Int32) (x3 : Int32) (t1 : Int32) (σ : MD), b_M_arrive_84 Φ x1 x2 x3 t1 σ → At p l e (headSpec wsX4_arrive rm_M_arrive).room s m ([.ref (a 0), .int p1, .int p2, .int p3] : List Value).toArray below meth c (MQ below (va_Qi Φ (BG D cs A s.heap.size (ws_MD cs a)) A) ([.ref (a 0), .int p1, .int p2, .int p3] : List Value).toArray s 0 0 A) D A 6 [(0, .ref (a 0)), (1, .int x1), (2, .int x2), (3, .int x3)] (ws_MD cs a σ) 84 [.int t1, .ref (a 0)] := by
    intro x1 x2 x3 t1 σ hw H locs ls hl hP hD hS
    unfold b_M_arrive_84 at hw
    refine kVi (As := [.int t1]) (rest := []) ⟨hx, hb, hml, hown, hts⟩ (c_M_goesWell l D cs a _ σ t1 hw) (cwV 1 hts gX4_arrive_X4_goesWell rfl rfl rfl (by decide +kernel) ⟨Nat.le_of_ble_eq_true rfl, Nat.le_of_ble_eq_true rfl⟩) (pt_self_MD cs a σ) hK hP hD hS hA (ci := 4) rfl rfl rfl rfl hl.1 rfl (Nat.le_of_ble_eq_true rfl) dX4_arrive_84 ⟨Nat.zero_le _, Nat.zero_le _⟩ (fun r84 u84 H locs hw hP hD hS => ?_)
    have hP : va_P D vwCl (ws_MD cs a u84) H := hP
    have hD : va_D A (ws_MD cs a u84) := hD
    refine lv_if_ne (tgt := 92) hx hb dX4_arrive_87 (by decide) (fun c87 => ?_) (fun c87 => ?_)
    · have hw := hw.2 c87
      refine lv_aload_n hx hb dX4_arrive_92 rfl (lv_at hl 0 rfl) ?_
      refine va_get (D := D) (ci := 4) (v := .ref (a 3)) (C := RX4) (T := TX4) (N := 23) hx hb hts hinX4 hown hK hP 0 rfl rfl 3 (by decide) hf16 (fun _ h9 => h9) rfl dX4_arrive_93 ?_
      refine lv_aload_n hx hb dX4_arrive_96 rfl (lv_at hl 0 rfl) ?_
      refine va_get (D := D) (ci := 4) (v := .int (g_MD_crates u84)) (C := RX4) (T := TX4) (N := 23) hx hb hts hinX4 hown hK hP 0 rfl rfl 5 (by decide) hf61 (fun _ h9 => h9) rfl dX4_arrive_97 ?_
      refine lv_iload_n hx hb dX4_arrive_100 rfl (lv_at hl 1 rfl) ?_
      have hi101 := hw.1
      have hw := hw.2
      refine va_iast (f := (g_MD_weights u84)) (n := 30) (x := x1) hx hb hK hP hD hS 3 0 rfl rfl hi101 dX4_arrive_101 (fun H locs hP hD hS => ?_)
      have hP : va_P D vwCl (ws_MD cs a (s_MD_weights u84 (upd (g_MD_weights u84) ((g_MD_crates u84)).toNatClampNeg x1))) H := hP
      have hD : va_D A (ws_MD cs a (s_MD_weights u84 (upd (g_MD_weights u84) ((g_MD_crates u84)).toNatClampNeg x1))) := hD
      obtain ⟨z1, ez1⟩ : ∃ z : MD, z = (s_MD_weights u84 (upd (g_MD_weights u84) ((g_MD_crates u84)).toNatClampNeg x1)) := ⟨_, rfl⟩
      have hw := hw z1 ez1
      rw [← ez1] at hP hD
      refine lv_aload_n hx hb dX4_arrive_102 rfl (lv_at hl 0 rfl) ?_
      refine va_get (D := D) (ci := 4) (v := .ref (a 4)) (C := RX4) (T := TX4) (N := 23) hx hb hts hinX4 hown hK hP 0 rfl rfl 4 (by decide) hf19 (fun _ h9 => h9) rfl dX4_arrive_103 ?_
      refine lv_aload_n hx hb dX4_arrive_106 rfl (lv_at hl 0 rfl) ?_
      refine va_get (D := D) (ci := 4) (v := .int (g_MD_crates z1)) (C := RX4) (T := TX4) (N := 23) hx hb hts hinX4 hown hK hP 0 rfl rfl 5 (by decide) hf61 (fun _ h9 => h9) rfl dX4_arrive_107 ?_
      refine lv_iload_n hx hb dX4_arrive_110 rfl (lv_at hl 2 rfl) ?_
      have hi111 := hw.1
      have hw := hw.2
      refine va_iast (f := (g_MD_letters z1)) (n := 30) (x := x2) hx hb hK hP hD hS 4 0 rfl rfl hi111 dX4_arrive_111 (fun H locs hP hD hS => ?_)
      have hP : va_P D vwCl (ws_MD cs a (s_MD_letters z1 (upd (g_MD_letters z1) ((g_MD_crates z1)).toNatClampNeg x2))) H := hP
      have hD : va_D A (ws_MD cs a (s_MD_letters z1 (upd (g_MD_letters z1) ((g_MD_crates z1)).toNatClampNeg x2))) := hD
      obtain ⟨z2, ez2⟩ : ∃ z : MD, z = (s_MD_letters z1 (upd (g_MD_letters z1) ((g_MD_crates z1)).toNatClampNeg x2)) := ⟨_, rfl⟩
      have hw := hw z2 ez2
      rw [← ez2] at hP hD
      refine lv_aload_n hx hb dX4_arrive_112 rfl (lv_at hl 0 rfl) ?_
      refine lv_aload_n hx hb dX4_arrive_113 rfl (lv_at hl 0 rfl) ?_
      refine va_get (D := D) (ci := 4) (v := .int (g_MD_crates z2)) (C := RX4) (T := TX4) (N := 23) hx hb hts hinX4 hown hK hP 0 rfl rfl 5 (by decide) hf61 (fun _ h9 => h9) rfl dX4_arrive_114 ?_
      refine lv_iload_n hx hb dX4_arrive_117 rfl (lv_at hl 3 rfl) ?_
      refine kVv (As := [.int (g_MD_crates z2), .int x3]) (rest := []) ⟨hx, hb, hml, hown, hts⟩ (c_M_put l D cs a _ z2 (g_MD_crates z2) x3 hw) (cwV 2 hts gX4_arrive_X4_put rfl rfl rfl (by decide +kernel) ⟨Nat.le_of_ble_eq_true rfl, Nat.le_of_ble_eq_true rfl⟩) (pt_self_MD cs a z2) hK hP hD hS hA (ci := 4) rfl rfl rfl rfl hl.1 rfl (Nat.le_of_ble_eq_true rfl) dX4_arrive_118 ⟨Nat.zero_le _, Nat.zero_le _⟩ (fun u118 H locs hw hP hD hS => ?_)
      have hP : va_P D vwCl (ws_MD cs a u118) H := hP
      have hD : va_D A (ws_MD cs a u118) := hD
      refine lv_aload_n hx hb dX4_arrive_121 rfl (lv_at hl 0 rfl) ?_
      refine lv_dup hx hb dX4_arrive_122 rfl ?_
      refine va_get (D := D) (ci := 4) (v := .int (g_MD_crates u118)) (C := RX4) (T := TX4) (N := 23) hx hb hts hinX4 hown hK hP 0 rfl rfl 5 (by decide) hf61 (fun _ h9 => h9) rfl dX4_arrive_123 ?_
      refine lv_iconst (v := (1 : Int32)) hx hb dX4_arrive_126 (by decide) ?_
      refine lv_iadd hx hb dX4_arrive_127 ?_
      refine lv_topi (fun y3 ey3 => ?_)
      have hw := hw y3 ey3
      refine va_put (D := D) (ci := 4) (v := .int y3) (ty := .int) (C := RX4) (T := TX4) (N := 23) hx hb hts hinX4 tyX4 tyX4_ok nmX4 hown hK hP hD hS 0 rfl rfl 5 (by decide) hf61 (fun _ h9 => h9) rfl (by decide +kernel) rfl rfl (Nat.le_of_ble_eq_true rfl) dX4_arrive_128 (fun H locs hP hD hS => ?_)
      have hP : va_P D vwCl (ws_MD cs a (s_MD_crates u118 y3)) H := hP
      have hD : va_D A (ws_MD cs a (s_MD_crates u118 y3)) := hD
      obtain ⟨z4, ez4⟩ : ∃ z : MD, z = (s_MD_crates u118 y3) := ⟨_, rfl⟩
      have hw := hw z4 ez4
      rw [← ez4] at hP hD
      refine lv_aload_n hx hb dX4_arrive_131 rfl (lv_at hl 0 rfl) ?_
      refine kVv (As := []) (rest := []) ⟨hx, hb, hml, hown, hts⟩ (c_M_payWords l D cs a _ z4 hw) (cwV 0 hts gX4_arrive_X4_payWords rfl rfl rfl (by decide +kernel) ⟨Nat.le_of_ble_eq_true rfl, Nat.le_of_ble_eq_true rfl⟩) (pt_self_MD cs a z4) hK hP hD hS hA (ci := 4) rfl rfl rfl rfl hl.1 rfl (Nat.le_of_ble_eq_true rfl) dX4_arrive_132 ⟨Nat.zero_le _, Nat.zero_le _⟩ (fun u132 H locs hw hP hD hS => ?_)
      have hP : va_P D vwCl (ws_MD cs a u132) H := hP
      have hD : va_D A (ws_MD cs a u132) := hD
      refine lv_aload_n hx hb dX4_arrive_135 rfl (lv_at hl 0 rfl) ?_
      refine va_get (D := D) (ci := 4) (v := .int (g_MD_crates u132)) (C := RX4) (T := TX4) (N := 23) hx hb hts hinX4 hown hK hP 0 rfl rfl 5 (by decide) hf61 (fun _ h9 => h9) rfl dX4_arrive_136 ?_
      refine lv_iconst (v := (1 : Int32)) hx hb dX4_arrive_139 (by decide) ?_
      refine lv_isub hx hb dX4_arrive_140 ?_
      exact rI (wf := (ws_MD cs a)) (u := u132) hx hb hr hlocks hK hP hD hS hw dX4_arrive_141
    · have hw := hw.1 c87
      refine lv_iconst (v := (0 : Int32)) hx hb dX4_arrive_90 (by decide) ?_
      exact rI (wf := (ws_MD cs a)) (u := u84) hx hb hr hlocks hK hP hD hS hw dX4_arrive_91
  have B62 : ∀ (x1 : Int32) (x2 : Int32) (x3 : Int32) (x4 : Int32) (t0 : Int32) (σ : MD), b_M_arrive_62 Φ x1 x2 x3 x4 t0 σ → At p l e (headSpec wsX4_arrive rm_M_arrive).room s m ([.ref (a 0), .int p1, .int p2, .int p3] : List Value).toArray below meth c (MQ below (va_Qi Φ (BG D cs A s.heap.size (ws_MD cs a)) A) ([.ref (a 0), .int p1, .int p2, .int p3] : List Value).toArray s 0 0 A) D A 6 [(0, .ref (a 0)), (1, .int x1), (2, .int x2), (3, .int x3), (4, .int x4)] (ws_MD cs a σ) 62 [.int t0] := by
    intro x1 x2 x3 x4 t0 σ hw H locs ls hl hP hD hS
    unfold b_M_arrive_62 at hw
    refine lv_istore (lv' := [(5, .int t0), (0, .ref (a 0)), (1, .int x1), (2, .int x2), (3, .int x3), (4, .int x4)]) hx hb dX4_arrive_62 hl (by decide) rfl (fun ls hl => ?_)
    refine lv_aload_n hx hb dX4_arrive_64 rfl (lv_at hl 1 rfl) ?_
    refine lv_iload hx hb dX4_arrive_65 (lv_at hl 5 rfl) ?_
    refine lv_if_ne (tgt := 74) hx hb dX4_arrive_67 (by decide) (fun c67 => ?_) (fun c67 => ?_)
    · have hw := hw.2 c67
      refine lv_iload hx hb dX4_arrive_74 (lv_at hl 0 rfl) ?_
      refine lv_if_eq (tgt := 83) hx hb dX4_arrive_76 (by decide) (fun c76 => ?_) (fun c76 => ?_)
      · have hw := hw.1 c76
        refine lv_iconst (v := (2 : Int32)) hx hb dX4_arrive_83 (by decide) ?_
        exact B84 _ _ _ _ _ hw _ _ ls (lv_sub hl [1, 2, 3, 4] rfl) hP hD hS
      · have hw := hw.2 c76
        refine lv_iconst (v := (0 : Int32)) hx hb dX4_arrive_79 (by decide) ?_
        refine lv_goto (tgt := 84) hx hb dX4_arrive_80 (by decide) ?_
        exact B84 _ _ _ _ _ hw _ _ ls (lv_sub hl [1, 2, 3, 4] rfl) hP hD hS
    · have hw := hw.1 c67
      refine lv_iconst (v := (1 : Int32)) hx hb dX4_arrive_70 (by decide) ?_
      refine lv_goto (tgt := 84) hx hb dX4_arrive_71 (by decide) ?_
      exact B84 _ _ _ _ _ hw _ _ ls (lv_sub hl [1, 2, 3, 4] rfl) hP hD hS
  have B61 : ∀ (x1 : Int32) (x2 : Int32) (x3 : Int32) (x4 : Int32) (σ : MD), b_M_arrive_61 Φ x1 x2 x3 x4 σ → At p l e (headSpec wsX4_arrive rm_M_arrive).room s m ([.ref (a 0), .int p1, .int p2, .int p3] : List Value).toArray below meth c (MQ below (va_Qi Φ (BG D cs A s.heap.size (ws_MD cs a)) A) ([.ref (a 0), .int p1, .int p2, .int p3] : List Value).toArray s 0 0 A) D A 6 [(0, .ref (a 0)), (1, .int x1), (2, .int x2), (3, .int x3), (4, .int x4)] (ws_MD cs a σ) 61 [] := by
    intro x1 x2 x3 x4 σ hw H locs ls hl hP hD hS
    unfold b_M_arrive_61 at hw
    refine lv_iconst (v := (0 : Int32)) hx hb dX4_arrive_61 (by decide) ?_
    exact B62 _ _ _ _ _ _ hw _ _ ls (lv_sub hl [0, 1, 2, 3, 4] rfl) hP hD hS
  have B32 : ∀ (x1 : Int32) (x2 : Int32) (x3 : Int32) (t0 : Int32) (σ : MD), b_M_arrive_32 Φ x1 x2 x3 t0 σ → At p l e (headSpec wsX4_arrive rm_M_arrive).room s m ([.ref (a 0), .int p1, .int p2, .int p3] : List Value).toArray below meth c (MQ below (va_Qi Φ (BG D cs A s.heap.size (ws_MD cs a)) A) ([.ref (a 0), .int p1, .int p2, .int p3] : List Value).toArray s 0 0 A) D A 6 [(0, .ref (a 0)), (1, .int x1), (2, .int x2), (3, .int x3)] (ws_MD cs a σ) 32 [.int t0] := by
    intro x1 x2 x3 t0 σ hw H locs ls hl hP hD hS
    unfold b_M_arrive_32 at hw
    refine lv_istore (lv' := [(4, .int t0), (0, .ref (a 0)), (1, .int x1), (2, .int x2), (3, .int x3)]) hx hb dX4_arrive_32 hl (by decide) rfl (fun ls hl => ?_)
    refine lv_iload hx hb dX4_arrive_34 (lv_at hl 0 rfl) ?_
    refine lv_if_eq (tgt := 61) hx hb dX4_arrive_36 (by decide) (fun c36 => ?_) (fun c36 => ?_)
    · have hw := hw.1 c36
      exact B61 _ _ _ _ _ hw _ _ ls (lv_sub hl [1, 2, 3, 4, 0] rfl) hP hD hS
    · have hw := hw.2 c36
      refine lv_aload_n hx hb dX4_arrive_39 rfl (lv_at hl 1 rfl) ?_
      refine va_get (D := D) (ci := 4) (v := .int (g_MD_crates σ)) (C := RX4) (T := TX4) (N := 23) hx hb hts hinX4 hown hK hP 0 rfl rfl 5 (by decide) hf61 (fun _ h9 => h9) rfl dX4_arrive_40 ?_
      refine lv_bipush (v := (30 : Int32)) hx hb dX4_arrive_43 (by decide) ?_
      refine lv_icmp_ge (tgt := 61) hx hb dX4_arrive_45 (by decide) (fun c45 => ?_) (fun c45 => ?_)
      · have hw := hw.1 c45
        exact B61 _ _ _ _ _ hw _ _ ls (lv_sub hl [1, 2, 3, 4, 0] rfl) hP hD hS
      · have hw := hw.2 c45
        refine lv_aload_n hx hb dX4_arrive_48 rfl (lv_at hl 1 rfl) ?_
        refine lv_iload_n hx hb dX4_arrive_49 rfl (lv_at hl 2 rfl) ?_
        refine lv_iload_n hx hb dX4_arrive_50 rfl (lv_at hl 4 rfl) ?_
        refine kVi (As := [.int x1, .int x3]) (rest := []) ⟨hx, hb, hml, hown, hts⟩ (c_M_canPut l D cs a _ σ x1 x3 hw) (cwV 2 hts gX4_arrive_X4_canPut rfl rfl rfl (by decide +kernel) ⟨Nat.le_of_ble_eq_true rfl, Nat.le_of_ble_eq_true rfl⟩) (pt_self_MD cs a σ) hK hP hD hS hA (ci := 4) rfl rfl rfl rfl hl.1 rfl (Nat.le_of_ble_eq_true rfl) dX4_arrive_51 ⟨Nat.zero_le _, Nat.zero_le _⟩ (fun r51 u51 H locs hw hP hD hS => ?_)
        have hP : va_P D vwCl (ws_MD cs a u51) H := hP
        have hD : va_D A (ws_MD cs a u51) := hD
        refine lv_if_eq (tgt := 61) hx hb dX4_arrive_54 (by decide) (fun c54 => ?_) (fun c54 => ?_)
        · have hw := hw.1 c54
          exact B61 _ _ _ _ _ hw _ _ ls (lv_sub hl [1, 2, 3, 4, 0] rfl) hP hD hS
        · have hw := hw.2 c54
          refine lv_iconst (v := (1 : Int32)) hx hb dX4_arrive_57 (by decide) ?_
          refine lv_goto (tgt := 62) hx hb dX4_arrive_58 (by decide) ?_
          exact B62 _ _ _ _ _ _ hw _ _ ls (lv_sub hl [1, 2, 3, 4, 0] rfl) hP hD hS
  have B31 : ∀ (x1 : Int32) (x2 : Int32) (x3 : Int32) (σ : MD), b_M_arrive_31 Φ x1 x2 x3 σ → At p l e (headSpec wsX4_arrive rm_M_arrive).room s m ([.ref (a 0), .int p1, .int p2, .int p3] : List Value).toArray below meth c (MQ below (va_Qi Φ (BG D cs A s.heap.size (ws_MD cs a)) A) ([.ref (a 0), .int p1, .int p2, .int p3] : List Value).toArray s 0 0 A) D A 6 [(0, .ref (a 0)), (1, .int x1), (2, .int x2), (3, .int x3)] (ws_MD cs a σ) 31 [] := by
    intro x1 x2 x3 σ hw H locs ls hl hP hD hS
    unfold b_M_arrive_31 at hw
    refine lv_iconst (v := (0 : Int32)) hx hb dX4_arrive_31 (by decide) ?_
    exact B32 _ _ _ _ _ hw _ _ ls (lv_sub hl [0, 1, 2, 3] rfl) hP hD hS
  have hl := lv_entry ([.ref (a 0), .int p1, .int p2, .int p3]) (n := 6) (Nat.le_of_ble_eq_true rfl)
  rw [lg_entry_eq]
  generalize (lg_sl ([.ref (a 0), .int p1, .int p2, .int p3]) ++ List.replicate (6 - (lg_sl ([.ref (a 0), .int p1, .int p2, .int p3])).length) Slot.unset).toArray = ls at hl ⊢
  have hl : lv_has ls 6 [(0, .ref (a 0)), (1, .int p1), (2, .int p2), (3, .int p3)] := hl
  unfold w_M_arrive at hw
  refine lv_iload_n hx hb dX4_arrive_0 rfl (lv_at hl 1 rfl) ?_
  refine lv_iconst (v := (1 : Int32)) hx hb dX4_arrive_1 (by decide) ?_
  refine lv_bipush (v := (100 : Int32)) hx hb dX4_arrive_2 (by decide) ?_
  refine kSi (As := [.int p1, .int (1 : Int32), .int (100 : Int32)]) (rest := []) ⟨hx, hb, hml, hown, hts⟩ (c_M_in l D cs a _ p1 (1 : Int32) (100 : Int32) hw) (va_cwS 3 hts gX4_arrive_X4_in rfl rfl rfl (by decide +kernel) ⟨Nat.le_of_ble_eq_true rfl, Nat.le_of_ble_eq_true rfl⟩) (pt_un_MD cs a σ) hK hP hD hS hA rfl hl.1 rfl (Nat.le_of_ble_eq_true rfl) dX4_arrive_4 ⟨Nat.zero_le _, Nat.zero_le _⟩ (fun r4 u4 H locs hw hP hD hS => ?_)
  have hP : va_P D vwCl (ws_MD cs a σ) H := hP
  have hD : va_D A (ws_MD cs a σ) := hD
  refine lv_if_eq (tgt := 31) hx hb dX4_arrive_7 (by decide) (fun c7 => ?_) (fun c7 => ?_)
  · have hw := hw.1 c7
    exact B31 _ _ _ _ hw _ _ ls (lv_sub hl [0, 1, 2, 3] rfl) hP hD hS
  · have hw := hw.2 c7
    refine lv_iload_n hx hb dX4_arrive_10 rfl (lv_at hl 2 rfl) ?_
    refine lv_iconst (v := (0 : Int32)) hx hb dX4_arrive_11 (by decide) ?_
    refine lv_bipush (v := (25 : Int32)) hx hb dX4_arrive_12 (by decide) ?_
    refine kSi (As := [.int p2, .int (0 : Int32), .int (25 : Int32)]) (rest := []) ⟨hx, hb, hml, hown, hts⟩ (c_M_in l D cs a _ p2 (0 : Int32) (25 : Int32) hw) (va_cwS 3 hts gX4_arrive_X4_in rfl rfl rfl (by decide +kernel) ⟨Nat.le_of_ble_eq_true rfl, Nat.le_of_ble_eq_true rfl⟩) (pt_un_MD cs a σ) hK hP hD hS hA rfl hl.1 rfl (Nat.le_of_ble_eq_true rfl) dX4_arrive_14 ⟨Nat.zero_le _, Nat.zero_le _⟩ (fun r14 u14 H locs hw hP hD hS => ?_)
    have hP : va_P D vwCl (ws_MD cs a σ) H := hP
    have hD : va_D A (ws_MD cs a σ) := hD
    refine lv_if_eq (tgt := 31) hx hb dX4_arrive_17 (by decide) (fun c17 => ?_) (fun c17 => ?_)
    · have hw := hw.1 c17
      exact B31 _ _ _ _ hw _ _ ls (lv_sub hl [0, 1, 2, 3] rfl) hP hD hS
    · have hw := hw.2 c17
      refine lv_iload_n hx hb dX4_arrive_20 rfl (lv_at hl 3 rfl) ?_
      refine kSi (As := [.int p3]) (rest := []) ⟨hx, hb, hml, hown, hts⟩ (c_M_isStack l D cs a _ p3 hw) (va_cwS 1 hts gX4_arrive_X4_isStack rfl rfl rfl (by decide +kernel) ⟨Nat.le_of_ble_eq_true rfl, Nat.le_of_ble_eq_true rfl⟩) (pt_un_MD cs a σ) hK hP hD hS hA rfl hl.1 rfl (Nat.le_of_ble_eq_true rfl) dX4_arrive_21 ⟨Nat.zero_le _, Nat.zero_le _⟩ (fun r21 u21 H locs hw hP hD hS => ?_)
      have hP : va_P D vwCl (ws_MD cs a σ) H := hP
      have hD : va_D A (ws_MD cs a σ) := hD
      refine lv_if_eq (tgt := 31) hx hb dX4_arrive_24 (by decide) (fun c24 => ?_) (fun c24 => ?_)
      · have hw := hw.1 c24
        exact B31 _ _ _ _ hw _ _ ls (lv_sub hl [0, 1, 2, 3] rfl) hP hD hS
      · have hw := hw.2 c24
        refine lv_iconst (v := (1 : Int32)) hx hb dX4_arrive_27 (by decide) ?_
        refine lv_goto (tgt := 32) hx hb dX4_arrive_28 (by decide) ?_
        exact B32 _ _ _ _ _ hw _ _ ls (lv_sub hl [0, 1, 2, 3] rfl) hP hD hS
abbrev rm_M_lift : Room := { frames := 3, cells := 0, slots := 0, locals := 69 }
set_option maxHeartbeats 4000000 in
set_option maxRecDepth 100000 in
theorem c_M_lift (l : Launch) (D : va_G) (cs : CS) (a : Nat → Nat) (sz : Nat) (σ : MD) (p1 : Int32) {Φ : Int32 → MD → Prop} (hw : w_M_lift σ p1 Φ) : Met l yX4_lift wsX4_lift rm_M_lift (PcG [.ref (a 0), .int p1] D cs (ws_MD cs a σ) sz) (va_Qi Φ (BG D cs (va_A (ws_MD cs a σ) sz) sz (ws_MD cs a)) (va_A (ws_MD cs a σ) sz)) 0 0 (va_A (ws_MD cs a σ) sz) := by
  refine Met.ofW (cc := cX4_lift) (maxL := 3) (ret := (some .int)) (by decide) rfl ?_
  intro p e s m args below meth c s₁ B hml hv
  obtain ⟨rfl, hsz, hP, hK, hD0⟩ := hv
  have hx := B.exec
  have hb := B.bytes
  have hr := B.returns
  have hts := atoms_spec (ws := wsX4_lift) B.pre
  have hown : s.vm.findClass RX4 = some m.cls := findClass_of_methodNamed B.named
  have hlocks := B.notSynchronized
  subst hsz
  have hD := hD0.self (sz := s.heap.size)
  generalize hAe : va_A (ws_MD cs a σ) s.heap.size = A at hD ⊢
  have hA : ∀ q : Nat, s.heap.size ≤ q → A q := fun q h => by rw [← hAe]; exact Or.inr h
  have hS : va_S A s.heap s.heap [] := va_S.rf
  have hf109 : (Cond.fieldLink RX4 109 "CraneYardModel" "lifts" "I").before ([.ref (a 0), .int p1] : List Value).toArray s = true := hts _ (List.mem_of_getElem? (i := 3) rfl)
  have hf13 : (Cond.fieldLink RX4 13 "CraneYardModel" "heights" "[I").before ([.ref (a 0), .int p1] : List Value).toArray s = true := hts _ (List.mem_of_getElem? (i := 1) rfl)
  have hf22 : (Cond.fieldLink RX4 22 "CraneYardModel" "crane" "I").before ([.ref (a 0), .int p1] : List Value).toArray s = true := hts _ (List.mem_of_getElem? (i := 2) rfl)
  have hinX4 : ∀ w ∈ wsX40, w ∈ wsX4_lift := fun _ h => List.mem_cons_of_mem _ (List.mem_append_right _ h)
  have hP : va_P D vwCl (ws_MD cs a σ) s.heap := hP
  have B36 : ∀ (x1 : Int32) (t1 : Int32) (σ : MD), b_M_lift_36 Φ x1 t1 σ → At p l e (headSpec wsX4_lift rm_M_lift).room s m ([.ref (a 0), .int p1] : List Value).toArray below meth c (MQ below (va_Qi Φ (BG D cs A s.heap.size (ws_MD cs a)) A) ([.ref (a 0), .int p1] : List Value).toArray s 0 0 A) D A 3 [(0, .ref (a 0)), (1, .int x1)] (ws_MD cs a σ) 36 [.int t1, .ref (a 0)] := by
    intro x1 t1 σ hw H locs ls hl hP hD hS
    unfold b_M_lift_36 at hw
    refine kVi (As := [.int t1]) (rest := []) ⟨hx, hb, hml, hown, hts⟩ (c_M_goesWell l D cs a _ σ t1 hw) (cwV 1 hts gX4_lift_X4_goesWell rfl rfl rfl (by decide +kernel) ⟨Nat.le_of_ble_eq_true rfl, Nat.le_of_ble_eq_true rfl⟩) (pt_self_MD cs a σ) hK hP hD hS hA (ci := 4) rfl rfl rfl rfl hl.1 rfl (Nat.le_of_ble_eq_true rfl) dX4_lift_36 ⟨Nat.zero_le _, Nat.zero_le _⟩ (fun r36 u36 H locs hw hP hD hS => ?_)
    have hP : va_P D vwCl (ws_MD cs a u36) H := hP
    have hD : va_D A (ws_MD cs a u36) := hD
    refine lv_if_ne (tgt := 44) hx hb dX4_lift_39 (by decide) (fun c39 => ?_) (fun c39 => ?_)
    · have hw := hw.2 c39
      refine lv_aload_n hx hb dX4_lift_44 rfl (lv_at hl 0 rfl) ?_
      refine lv_aload_n hx hb dX4_lift_45 rfl (lv_at hl 0 rfl) ?_
      refine lv_iload_n hx hb dX4_lift_46 rfl (lv_at hl 1 rfl) ?_
      refine kVi (As := [.int x1]) (rest := [.ref (a 0)]) ⟨hx, hb, hml, hown, hts⟩ (c_M_topOf l D cs a _ u36 x1 hw) (cwV 1 hts gX4_lift_X4_topOf rfl rfl rfl (by decide +kernel) ⟨Nat.le_of_ble_eq_true rfl, Nat.le_of_ble_eq_true rfl⟩) (pt_self_MD cs a u36) hK hP hD hS hA (ci := 4) rfl rfl rfl rfl hl.1 rfl (Nat.le_of_ble_eq_true rfl) dX4_lift_47 ⟨Nat.zero_le _, Nat.zero_le _⟩ (fun r47 u47 H locs hw hP hD hS => ?_)
      have hP : va_P D vwCl (ws_MD cs a u47) H := hP
      have hD : va_D A (ws_MD cs a u47) := hD
      refine va_put (D := D) (ci := 4) (v := .int r47) (ty := .int) (C := RX4) (T := TX4) (N := 23) hx hb hts hinX4 tyX4 tyX4_ok nmX4 hown hK hP hD hS 0 rfl rfl 6 (by decide) hf22 (fun _ h9 => h9) rfl (by decide +kernel) rfl rfl (Nat.le_of_ble_eq_true rfl) dX4_lift_50 (fun H locs hP hD hS => ?_)
      have hP : va_P D vwCl (ws_MD cs a (s_MD_crane u47 r47)) H := hP
      have hD : va_D A (ws_MD cs a (s_MD_crane u47 r47)) := hD
      obtain ⟨z1, ez1⟩ : ∃ z : MD, z = (s_MD_crane u47 r47) := ⟨_, rfl⟩
      have hw := hw z1 ez1
      rw [← ez1] at hP hD
      refine lv_aload_n hx hb dX4_lift_53 rfl (lv_at hl 0 rfl) ?_
      refine va_get (D := D) (ci := 4) (v := .ref (a 2)) (C := RX4) (T := TX4) (N := 23) hx hb hts hinX4 hown hK hP 0 rfl rfl 2 (by decide) hf13 (fun _ h9 => h9) rfl dX4_lift_54 ?_
      refine lv_iload_n hx hb dX4_lift_57 rfl (lv_at hl 1 rfl) ?_
      refine lv_dup2_11 hx hb dX4_lift_58 rfl rfl ?_
      have hi59 := hw.1
      have hw := hw.2
      refine va_iald (f := (g_MD_heights z1)) (n := 6) hx hb hK hP 2 0 rfl rfl hi59 dX4_lift_59 ?_
      refine lv_iconst (v := (1 : Int32)) hx hb dX4_lift_60 (by decide) ?_
      refine lv_isub hx hb dX4_lift_61 ?_
      refine lv_topi (fun y2 ey2 => ?_)
      have hw := hw y2 ey2
      have hi62 := hw.1
      have hw := hw.2
      refine va_iast (f := (g_MD_heights z1)) (n := 6) (x := y2) hx hb hK hP hD hS 2 0 rfl rfl hi62 dX4_lift_62 (fun H locs hP hD hS => ?_)
      have hP : va_P D vwCl (ws_MD cs a (s_MD_heights z1 (upd (g_MD_heights z1) (x1).toNatClampNeg y2))) H := hP
      have hD : va_D A (ws_MD cs a (s_MD_heights z1 (upd (g_MD_heights z1) (x1).toNatClampNeg y2))) := hD
      obtain ⟨z3, ez3⟩ : ∃ z : MD, z = (s_MD_heights z1 (upd (g_MD_heights z1) (x1).toNatClampNeg y2)) := ⟨_, rfl⟩
      have hw := hw z3 ez3
      rw [← ez3] at hP hD
      refine lv_aload_n hx hb dX4_lift_63 rfl (lv_at hl 0 rfl) ?_
      refine lv_dup hx hb dX4_lift_64 rfl ?_
      refine va_get (D := D) (ci := 4) (v := .int (g_MD_lifts z3)) (C := RX4) (T := TX4) (N := 23) hx hb hts hinX4 hown hK hP 0 rfl rfl 7 (by decide) hf109 (fun _ h9 => h9) rfl dX4_lift_65 ?_
      refine lv_iconst (v := (1 : Int32)) hx hb dX4_lift_68 (by decide) ?_
      refine lv_iadd hx hb dX4_lift_69 ?_
      refine lv_topi (fun y4 ey4 => ?_)
      have hw := hw y4 ey4
      refine va_put (D := D) (ci := 4) (v := .int y4) (ty := .int) (C := RX4) (T := TX4) (N := 23) hx hb hts hinX4 tyX4 tyX4_ok nmX4 hown hK hP hD hS 0 rfl rfl 7 (by decide) hf109 (fun _ h9 => h9) rfl (by decide +kernel) rfl rfl (Nat.le_of_ble_eq_true rfl) dX4_lift_70 (fun H locs hP hD hS => ?_)
      have hP : va_P D vwCl (ws_MD cs a (s_MD_lifts z3 y4)) H := hP
      have hD : va_D A (ws_MD cs a (s_MD_lifts z3 y4)) := hD
      obtain ⟨z5, ez5⟩ : ∃ z : MD, z = (s_MD_lifts z3 y4) := ⟨_, rfl⟩
      have hw := hw z5 ez5
      rw [← ez5] at hP hD
      refine lv_aload_n hx hb dX4_lift_73 rfl (lv_at hl 0 rfl) ?_
      refine kVv (As := []) (rest := []) ⟨hx, hb, hml, hown, hts⟩ (c_M_payWords l D cs a _ z5 hw) (cwV 0 hts gX4_lift_X4_payWords rfl rfl rfl (by decide +kernel) ⟨Nat.le_of_ble_eq_true rfl, Nat.le_of_ble_eq_true rfl⟩) (pt_self_MD cs a z5) hK hP hD hS hA (ci := 4) rfl rfl rfl rfl hl.1 rfl (Nat.le_of_ble_eq_true rfl) dX4_lift_74 ⟨Nat.zero_le _, Nat.zero_le _⟩ (fun u74 H locs hw hP hD hS => ?_)
      have hP : va_P D vwCl (ws_MD cs a u74) H := hP
      have hD : va_D A (ws_MD cs a u74) := hD
      refine lv_aload_n hx hb dX4_lift_77 rfl (lv_at hl 0 rfl) ?_
      refine va_get (D := D) (ci := 4) (v := .int (g_MD_crane u74)) (C := RX4) (T := TX4) (N := 23) hx hb hts hinX4 hown hK hP 0 rfl rfl 6 (by decide) hf22 (fun _ h9 => h9) rfl dX4_lift_78 ?_
      exact rI (wf := (ws_MD cs a)) (u := u74) hx hb hr hlocks hK hP hD hS hw dX4_lift_81
    · have hw := hw.1 c39
      refine lv_iconst (v := (0 : Int32)) hx hb dX4_lift_42 (by decide) ?_
      exact rI (wf := (ws_MD cs a)) (u := u36) hx hb hr hlocks hK hP hD hS hw dX4_lift_43
  have B31 : ∀ (x1 : Int32) (σ : MD), b_M_lift_31 Φ x1 σ → At p l e (headSpec wsX4_lift rm_M_lift).room s m ([.ref (a 0), .int p1] : List Value).toArray below meth c (MQ below (va_Qi Φ (BG D cs A s.heap.size (ws_MD cs a)) A) ([.ref (a 0), .int p1] : List Value).toArray s 0 0 A) D A 3 [(0, .ref (a 0)), (1, .int x1)] (ws_MD cs a σ) 31 [.ref (a 0)] := by
    intro x1 σ hw H locs ls hl hP hD hS
    unfold b_M_lift_31 at hw
    refine lv_iconst (v := (2 : Int32)) hx hb dX4_lift_31 (by decide) ?_
    refine lv_goto (tgt := 36) hx hb dX4_lift_32 (by decide) ?_
    exact B36 _ _ _ hw _ _ ls (lv_sub hl [0, 1] rfl) hP hD hS
  have hl := lv_entry ([.ref (a 0), .int p1]) (n := 3) (Nat.le_of_ble_eq_true rfl)
  rw [lg_entry_eq]
  generalize (lg_sl ([.ref (a 0), .int p1]) ++ List.replicate (3 - (lg_sl ([.ref (a 0), .int p1])).length) Slot.unset).toArray = ls at hl ⊢
  have hl : lv_has ls 3 [(0, .ref (a 0)), (1, .int p1)] := hl
  unfold w_M_lift at hw
  refine lv_iload_n hx hb dX4_lift_0 rfl (lv_at hl 1 rfl) ?_
  refine kSi (As := [.int p1]) (rest := []) ⟨hx, hb, hml, hown, hts⟩ (c_M_isStack l D cs a _ p1 hw) (va_cwS 1 hts gX4_lift_X4_isStack rfl rfl rfl (by decide +kernel) ⟨Nat.le_of_ble_eq_true rfl, Nat.le_of_ble_eq_true rfl⟩) (pt_un_MD cs a σ) hK hP hD hS hA rfl hl.1 rfl (Nat.le_of_ble_eq_true rfl) dX4_lift_1 ⟨Nat.zero_le _, Nat.zero_le _⟩ (fun r1 u1 H locs hw hP hD hS => ?_)
  have hP : va_P D vwCl (ws_MD cs a σ) H := hP
  have hD : va_D A (ws_MD cs a σ) := hD
  refine lv_istore_n (lv' := [(2, .int r1), (0, .ref (a 0)), (1, .int p1)]) hx hb dX4_lift_4 rfl hl (by decide) rfl (fun ls hl => ?_)
  refine lv_aload_n hx hb dX4_lift_5 rfl (lv_at hl 1 rfl) ?_
  refine lv_iload_n hx hb dX4_lift_6 rfl (lv_at hl 0 rfl) ?_
  refine lv_if_ne (tgt := 14) hx hb dX4_lift_7 (by decide) (fun c7 => ?_) (fun c7 => ?_)
  · have hw := hw.2 c7
    refine lv_aload_n hx hb dX4_lift_14 rfl (lv_at hl 1 rfl) ?_
    refine va_get (D := D) (ci := 4) (v := .ref (a 2)) (C := RX4) (T := TX4) (N := 23) hx hb hts hinX4 hown hK hP 0 rfl rfl 2 (by decide) hf13 (fun _ h9 => h9) rfl dX4_lift_15 ?_
    refine lv_iload_n hx hb dX4_lift_18 rfl (lv_at hl 2 rfl) ?_
    have hi19 := hw.1
    have hw := hw.2
    refine va_iald (f := (g_MD_heights σ)) (n := 6) hx hb hK hP 2 0 rfl rfl hi19 dX4_lift_19 ?_
    refine lv_if_eq (tgt := 31) hx hb dX4_lift_20 (by decide) (fun c20 => ?_) (fun c20 => ?_)
    · have hw := hw.1 c20
      exact B31 _ _ hw _ _ ls (lv_sub hl [1, 2] rfl) hP hD hS
    · have hw := hw.2 c20
      refine lv_aload_n hx hb dX4_lift_23 rfl (lv_at hl 1 rfl) ?_
      refine va_get (D := D) (ci := 4) (v := .int (g_MD_crane σ)) (C := RX4) (T := TX4) (N := 23) hx hb hts hinX4 hown hK hP 0 rfl rfl 6 (by decide) hf22 (fun _ h9 => h9) rfl dX4_lift_24 ?_
      refine lv_iconst (v := (-1 : Int32)) hx hb dX4_lift_27 (by decide) ?_
      refine lv_icmp_eq (tgt := 35) hx hb dX4_lift_28 (by decide) (fun c28 => ?_) (fun c28 => ?_)
      · have hw := hw.1 c28
        refine lv_iconst (v := (0 : Int32)) hx hb dX4_lift_35 (by decide) ?_
        exact B36 _ _ _ hw _ _ ls (lv_sub hl [1, 2] rfl) hP hD hS
      · have hw := hw.2 c28
        exact B31 _ _ hw _ _ ls (lv_sub hl [1, 2] rfl) hP hD hS
  · have hw := hw.1 c7
    refine lv_iconst (v := (1 : Int32)) hx hb dX4_lift_10 (by decide) ?_
    refine lv_goto (tgt := 36) hx hb dX4_lift_11 (by decide) ?_
    exact B36 _ _ _ hw _ _ ls (lv_sub hl [1, 2] rfl) hP hD hS
abbrev rm_M_drop : Room := { frames := 3, cells := 0, slots := 0, locals := 69 }
set_option maxHeartbeats 4000000 in
set_option maxRecDepth 100000 in
theorem c_M_drop (l : Launch) (D : va_G) (cs : CS) (a : Nat → Nat) (sz : Nat) (σ : MD) (p1 : Int32) {Φ : Int32 → MD → Prop} (hw : w_M_drop σ p1 Φ) : Met l yX4_drop wsX4_drop rm_M_drop (PcG [.ref (a 0), .int p1] D cs (ws_MD cs a σ) sz) (va_Qi Φ (BG D cs (va_A (ws_MD cs a σ) sz) sz (ws_MD cs a)) (va_A (ws_MD cs a σ) sz)) 0 0 (va_A (ws_MD cs a σ) sz) := by
  refine Met.ofW (cc := cX4_drop) (maxL := 4) (ret := (some .int)) (by decide) rfl ?_
  intro p e s m args below meth c s₁ B hml hv
  obtain ⟨rfl, hsz, hP, hK, hD0⟩ := hv
  have hx := B.exec
  have hb := B.bytes
  have hr := B.returns
  have hts := atoms_spec (ws := wsX4_drop) B.pre
  have hown : s.vm.findClass RX4 = some m.cls := findClass_of_methodNamed B.named
  have hlocks := B.notSynchronized
  subst hsz
  have hD := hD0.self (sz := s.heap.size)
  generalize hAe : va_A (ws_MD cs a σ) s.heap.size = A at hD ⊢
  have hA : ∀ q : Nat, s.heap.size ≤ q → A q := fun q h => by rw [← hAe]; exact Or.inr h
  have hS : va_S A s.heap s.heap [] := va_S.rf
  have hf13 : (Cond.fieldLink RX4 13 "CraneYardModel" "heights" "[I").before ([.ref (a 0), .int p1] : List Value).toArray s = true := hts _ (List.mem_of_getElem? (i := 3) rfl)
  have hf16 : (Cond.fieldLink RX4 16 "CraneYardModel" "weights" "[I").before ([.ref (a 0), .int p1] : List Value).toArray s = true := hts _ (List.mem_of_getElem? (i := 2) rfl)
  have hf22 : (Cond.fieldLink RX4 22 "CraneYardModel" "crane" "I").before ([.ref (a 0), .int p1] : List Value).toArray s = true := hts _ (List.mem_of_getElem? (i := 1) rfl)
  have hinX4 : ∀ w ∈ wsX40, w ∈ wsX4_drop := fun _ h => List.mem_cons_of_mem _ (List.mem_append_right _ h)
  have hP : va_P D vwCl (ws_MD cs a σ) s.heap := hP
  have B58 : ∀ (x1 : Int32) (t1 : Int32) (σ : MD), b_M_drop_58 Φ x1 t1 σ → At p l e (headSpec wsX4_drop rm_M_drop).room s m ([.ref (a 0), .int p1] : List Value).toArray below meth c (MQ below (va_Qi Φ (BG D cs A s.heap.size (ws_MD cs a)) A) ([.ref (a 0), .int p1] : List Value).toArray s 0 0 A) D A 4 [(0, .ref (a 0)), (1, .int x1)] (ws_MD cs a σ) 58 [.int t1, .ref (a 0)] := by
    intro x1 t1 σ hw H locs ls hl hP hD hS
    unfold b_M_drop_58 at hw
    refine kVi (As := [.int t1]) (rest := []) ⟨hx, hb, hml, hown, hts⟩ (c_M_goesWell l D cs a _ σ t1 hw) (cwV 1 hts gX4_drop_X4_goesWell rfl rfl rfl (by decide +kernel) ⟨Nat.le_of_ble_eq_true rfl, Nat.le_of_ble_eq_true rfl⟩) (pt_self_MD cs a σ) hK hP hD hS hA (ci := 4) rfl rfl rfl rfl hl.1 rfl (Nat.le_of_ble_eq_true rfl) dX4_drop_58 ⟨Nat.zero_le _, Nat.zero_le _⟩ (fun r58 u58 H locs hw hP hD hS => ?_)
    have hP : va_P D vwCl (ws_MD cs a u58) H := hP
    have hD : va_D A (ws_MD cs a u58) := hD
    refine lv_if_ne (tgt := 66) hx hb dX4_drop_61 (by decide) (fun c61 => ?_) (fun c61 => ?_)
    · have hw := hw.2 c61
      refine lv_aload_n hx hb dX4_drop_66 rfl (lv_at hl 0 rfl) ?_
      refine lv_aload_n hx hb dX4_drop_67 rfl (lv_at hl 0 rfl) ?_
      refine va_get (D := D) (ci := 4) (v := .int (g_MD_crane u58)) (C := RX4) (T := TX4) (N := 23) hx hb hts hinX4 hown hK hP 0 rfl rfl 6 (by decide) hf22 (fun _ h9 => h9) rfl dX4_drop_68 ?_
      refine lv_iload_n hx hb dX4_drop_71 rfl (lv_at hl 1 rfl) ?_
      refine kVv (As := [.int (g_MD_crane u58), .int x1]) (rest := []) ⟨hx, hb, hml, hown, hts⟩ (c_M_put l D cs a _ u58 (g_MD_crane u58) x1 hw) (cwV 2 hts gX4_drop_X4_put rfl rfl rfl (by decide +kernel) ⟨Nat.le_of_ble_eq_true rfl, Nat.le_of_ble_eq_true rfl⟩) (pt_self_MD cs a u58) hK hP hD hS hA (ci := 4) rfl rfl rfl rfl hl.1 rfl (Nat.le_of_ble_eq_true rfl) dX4_drop_72 ⟨Nat.zero_le _, Nat.zero_le _⟩ (fun u72 H locs hw hP hD hS => ?_)
      have hP : va_P D vwCl (ws_MD cs a u72) H := hP
      have hD : va_D A (ws_MD cs a u72) := hD
      refine lv_aload_n hx hb dX4_drop_75 rfl (lv_at hl 0 rfl) ?_
      refine lv_iconst (v := (-1 : Int32)) hx hb dX4_drop_76 (by decide) ?_
      refine va_put (D := D) (ci := 4) (v := .int (-1 : Int32)) (ty := .int) (C := RX4) (T := TX4) (N := 23) hx hb hts hinX4 tyX4 tyX4_ok nmX4 hown hK hP hD hS 0 rfl rfl 6 (by decide) hf22 (fun _ h9 => h9) rfl (by decide +kernel) rfl rfl (Nat.le_of_ble_eq_true rfl) dX4_drop_77 (fun H locs hP hD hS => ?_)
      have hP : va_P D vwCl (ws_MD cs a (s_MD_crane u72 (-1 : Int32))) H := hP
      have hD : va_D A (ws_MD cs a (s_MD_crane u72 (-1 : Int32))) := hD
      obtain ⟨z1, ez1⟩ : ∃ z : MD, z = (s_MD_crane u72 (-1 : Int32)) := ⟨_, rfl⟩
      have hw := hw z1 ez1
      rw [← ez1] at hP hD
      refine lv_aload_n hx hb dX4_drop_80 rfl (lv_at hl 0 rfl) ?_
      refine kVv (As := []) (rest := []) ⟨hx, hb, hml, hown, hts⟩ (c_M_payWords l D cs a _ z1 hw) (cwV 0 hts gX4_drop_X4_payWords rfl rfl rfl (by decide +kernel) ⟨Nat.le_of_ble_eq_true rfl, Nat.le_of_ble_eq_true rfl⟩) (pt_self_MD cs a z1) hK hP hD hS hA (ci := 4) rfl rfl rfl rfl hl.1 rfl (Nat.le_of_ble_eq_true rfl) dX4_drop_81 ⟨Nat.zero_le _, Nat.zero_le _⟩ (fun u81 H locs hw hP hD hS => ?_)
      have hP : va_P D vwCl (ws_MD cs a u81) H := hP
      have hD : va_D A (ws_MD cs a u81) := hD
      refine lv_aload_n hx hb dX4_drop_84 rfl (lv_at hl 0 rfl) ?_
      refine va_get (D := D) (ci := 4) (v := .ref (a 2)) (C := RX4) (T := TX4) (N := 23) hx hb hts hinX4 hown hK hP 0 rfl rfl 2 (by decide) hf13 (fun _ h9 => h9) rfl dX4_drop_85 ?_
      refine lv_iload_n hx hb dX4_drop_88 rfl (lv_at hl 1 rfl) ?_
      have hi89 := hw.1
      have hw := hw.2
      refine va_iald (f := (g_MD_heights u81)) (n := 6) hx hb hK hP 2 0 rfl rfl hi89 dX4_drop_89 ?_
      exact rI (wf := (ws_MD cs a)) (u := u81) hx hb hr hlocks hK hP hD hS hw dX4_drop_90
    · have hw := hw.1 c61
      refine lv_iconst (v := (0 : Int32)) hx hb dX4_drop_64 (by decide) ?_
      exact rI (wf := (ws_MD cs a)) (u := u58) hx hb hr hlocks hK hP hD hS hw dX4_drop_65
  have B39 : ∀ (x1 : Int32) (x2 : Int32) (t0 : Int32) (σ : MD), b_M_drop_39 Φ x1 x2 t0 σ → At p l e (headSpec wsX4_drop rm_M_drop).room s m ([.ref (a 0), .int p1] : List Value).toArray below meth c (MQ below (va_Qi Φ (BG D cs A s.heap.size (ws_MD cs a)) A) ([.ref (a 0), .int p1] : List Value).toArray s 0 0 A) D A 4 [(0, .ref (a 0)), (1, .int x1), (2, .int x2)] (ws_MD cs a σ) 39 [.int t0] := by
    intro x1 x2 t0 σ hw H locs ls hl hP hD hS
    unfold b_M_drop_39 at hw
    refine lv_istore_n (lv' := [(3, .int t0), (0, .ref (a 0)), (1, .int x1), (2, .int x2)]) hx hb dX4_drop_39 rfl hl (by decide) rfl (fun ls hl => ?_)
    refine lv_aload_n hx hb dX4_drop_40 rfl (lv_at hl 1 rfl) ?_
    refine lv_iload_n hx hb dX4_drop_41 rfl (lv_at hl 3 rfl) ?_
    refine lv_if_ne (tgt := 49) hx hb dX4_drop_42 (by decide) (fun c42 => ?_) (fun c42 => ?_)
    · have hw := hw.2 c42
      refine lv_iload_n hx hb dX4_drop_49 rfl (lv_at hl 0 rfl) ?_
      refine lv_if_eq (tgt := 57) hx hb dX4_drop_50 (by decide) (fun c50 => ?_) (fun c50 => ?_)
      · have hw := hw.1 c50
        refine lv_iconst (v := (2 : Int32)) hx hb dX4_drop_57 (by decide) ?_
        exact B58 _ _ _ hw _ _ ls (lv_sub hl [1, 2] rfl) hP hD hS
      · have hw := hw.2 c50
        refine lv_iconst (v := (0 : Int32)) hx hb dX4_drop_53 (by decide) ?_
        refine lv_goto (tgt := 58) hx hb dX4_drop_54 (by decide) ?_
        exact B58 _ _ _ hw _ _ ls (lv_sub hl [1, 2] rfl) hP hD hS
    · have hw := hw.1 c42
      refine lv_iconst (v := (1 : Int32)) hx hb dX4_drop_45 (by decide) ?_
      refine lv_goto (tgt := 58) hx hb dX4_drop_46 (by decide) ?_
      exact B58 _ _ _ hw _ _ ls (lv_sub hl [1, 2] rfl) hP hD hS
  have B38 : ∀ (x1 : Int32) (x2 : Int32) (σ : MD), b_M_drop_38 Φ x1 x2 σ → At p l e (headSpec wsX4_drop rm_M_drop).room s m ([.ref (a 0), .int p1] : List Value).toArray below meth c (MQ below (va_Qi Φ (BG D cs A s.heap.size (ws_MD cs a)) A) ([.ref (a 0), .int p1] : List Value).toArray s 0 0 A) D A 4 [(0, .ref (a 0)), (1, .int x1), (2, .int x2)] (ws_MD cs a σ) 38 [] := by
    intro x1 x2 σ hw H locs ls hl hP hD hS
    unfold b_M_drop_38 at hw
    refine lv_iconst (v := (0 : Int32)) hx hb dX4_drop_38 (by decide) ?_
    exact B39 _ _ _ _ hw _ _ ls (lv_sub hl [0, 1, 2] rfl) hP hD hS
  have hl := lv_entry ([.ref (a 0), .int p1]) (n := 4) (Nat.le_of_ble_eq_true rfl)
  rw [lg_entry_eq]
  generalize (lg_sl ([.ref (a 0), .int p1]) ++ List.replicate (4 - (lg_sl ([.ref (a 0), .int p1])).length) Slot.unset).toArray = ls at hl ⊢
  have hl : lv_has ls 4 [(0, .ref (a 0)), (1, .int p1)] := hl
  unfold w_M_drop at hw
  refine lv_iload_n hx hb dX4_drop_0 rfl (lv_at hl 1 rfl) ?_
  refine kSi (As := [.int p1]) (rest := []) ⟨hx, hb, hml, hown, hts⟩ (c_M_isStack l D cs a _ p1 hw) (va_cwS 1 hts gX4_drop_X4_isStack rfl rfl rfl (by decide +kernel) ⟨Nat.le_of_ble_eq_true rfl, Nat.le_of_ble_eq_true rfl⟩) (pt_un_MD cs a σ) hK hP hD hS hA rfl hl.1 rfl (Nat.le_of_ble_eq_true rfl) dX4_drop_1 ⟨Nat.zero_le _, Nat.zero_le _⟩ (fun r1 u1 H locs hw hP hD hS => ?_)
  have hP : va_P D vwCl (ws_MD cs a σ) H := hP
  have hD : va_D A (ws_MD cs a σ) := hD
  refine lv_istore_n (lv' := [(2, .int r1), (0, .ref (a 0)), (1, .int p1)]) hx hb dX4_drop_4 rfl hl (by decide) rfl (fun ls hl => ?_)
  refine lv_iload_n hx hb dX4_drop_5 rfl (lv_at hl 0 rfl) ?_
  refine lv_if_eq (tgt := 38) hx hb dX4_drop_6 (by decide) (fun c6 => ?_) (fun c6 => ?_)
  · have hw := hw.1 c6
    exact B38 _ _ _ hw _ _ ls (lv_sub hl [1, 2, 0] rfl) hP hD hS
  · have hw := hw.2 c6
    refine lv_aload_n hx hb dX4_drop_9 rfl (lv_at hl 1 rfl) ?_
    refine va_get (D := D) (ci := 4) (v := .int (g_MD_crane σ)) (C := RX4) (T := TX4) (N := 23) hx hb hts hinX4 hown hK hP 0 rfl rfl 6 (by decide) hf22 (fun _ h9 => h9) rfl dX4_drop_10 ?_
    refine lv_iconst (v := (-1 : Int32)) hx hb dX4_drop_13 (by decide) ?_
    refine lv_icmp_eq (tgt := 38) hx hb dX4_drop_14 (by decide) (fun c14 => ?_) (fun c14 => ?_)
    · have hw := hw.1 c14
      exact B38 _ _ _ hw _ _ ls (lv_sub hl [1, 2, 0] rfl) hP hD hS
    · have hw := hw.2 c14
      refine lv_aload_n hx hb dX4_drop_17 rfl (lv_at hl 1 rfl) ?_
      refine lv_aload_n hx hb dX4_drop_18 rfl (lv_at hl 1 rfl) ?_
      refine va_get (D := D) (ci := 4) (v := .ref (a 3)) (C := RX4) (T := TX4) (N := 23) hx hb hts hinX4 hown hK hP 0 rfl rfl 3 (by decide) hf16 (fun _ h9 => h9) rfl dX4_drop_19 ?_
      refine lv_aload_n hx hb dX4_drop_22 rfl (lv_at hl 1 rfl) ?_
      refine va_get (D := D) (ci := 4) (v := .int (g_MD_crane σ)) (C := RX4) (T := TX4) (N := 23) hx hb hts hinX4 hown hK hP 0 rfl rfl 6 (by decide) hf22 (fun _ h9 => h9) rfl dX4_drop_23 ?_
      have hi26 := hw.1
      have hw := hw.2
      refine va_iald (f := (g_MD_weights σ)) (n := 30) hx hb hK hP 3 0 rfl rfl hi26 dX4_drop_26 ?_
      refine lv_iload_n hx hb dX4_drop_27 rfl (lv_at hl 2 rfl) ?_
      refine kVi (As := [.int ((g_MD_weights σ) ((g_MD_crane σ)).toNatClampNeg), .int p1]) (rest := []) ⟨hx, hb, hml, hown, hts⟩ (c_M_canPut l D cs a _ σ ((g_MD_weights σ) ((g_MD_crane σ)).toNatClampNeg) p1 hw) (cwV 2 hts gX4_drop_X4_canPut rfl rfl rfl (by decide +kernel) ⟨Nat.le_of_ble_eq_true rfl, Nat.le_of_ble_eq_true rfl⟩) (pt_self_MD cs a σ) hK hP hD hS hA (ci := 4) rfl rfl rfl rfl hl.1 rfl (Nat.le_of_ble_eq_true rfl) dX4_drop_28 ⟨Nat.zero_le _, Nat.zero_le _⟩ (fun r28 u28 H locs hw hP hD hS => ?_)
      have hP : va_P D vwCl (ws_MD cs a u28) H := hP
      have hD : va_D A (ws_MD cs a u28) := hD
      refine lv_if_eq (tgt := 38) hx hb dX4_drop_31 (by decide) (fun c31 => ?_) (fun c31 => ?_)
      · have hw := hw.1 c31
        exact B38 _ _ _ hw _ _ ls (lv_sub hl [1, 2, 0] rfl) hP hD hS
      · have hw := hw.2 c31
        refine lv_iconst (v := (1 : Int32)) hx hb dX4_drop_34 (by decide) ?_
        refine lv_goto (tgt := 39) hx hb dX4_drop_35 (by decide) ?_
        exact B39 _ _ _ _ hw _ _ ls (lv_sub hl [1, 2, 0] rfl) hP hD hS
