abbrev rm_M_tell : Room := { frames := 3, cells := 0, slots := 0, locals := 69 }
set_option maxHeartbeats 4000000 in
set_option maxRecDepth 100000 in
theorem c_M_tell (l : Launch) (D : va_G) (cs : CS) (a : Nat → Nat) (sz : Nat) (σ : MD) (p1 : Int32) (p2 : Int32) (p3 : Int32) (p4 : Int32) {Φ : Int32 → MD → Prop} (hw : w_M_tell σ p1 p2 p3 p4 Φ) : Met l yX4_tell wsX4_tell rm_M_tell (PcG [.ref (a 0), .int p1, .int p2, .int p3, .int p4] D cs (ws_MD cs a σ) sz) (va_Qi Φ (BG D cs (va_A (ws_MD cs a σ) sz) sz (ws_MD cs a)) (va_A (ws_MD cs a σ) sz)) 0 0 (va_A (ws_MD cs a σ) sz) := by
  refine Met.ofW (cc := cX4_tell) (maxL := 6) (ret := (some .int)) (by decide) rfl ?_
  intro p e s m args below meth c s₁ B hml hv
  obtain ⟨rfl, hsz, hP, hK, hD0⟩ := hv
  have hx := B.exec
  have hb := B.bytes
  have hr := B.returns
  have hts := atoms_spec (ws := wsX4_tell) B.pre
  have hown : s.vm.findClass RX4 = some m.cls := findClass_of_methodNamed B.named
  have hlocks := B.notSynchronized
  subst hsz
  have hD := hD0.self (sz := s.heap.size)
  generalize hAe : va_A (ws_MD cs a σ) s.heap.size = A at hD ⊢
  have hA : ∀ q : Nat, s.heap.size ≤ q → A q := fun q h => by rw [← hAe]; exact Or.inr h
  have hS : va_S A s.heap s.heap [] := va_S.rf
  have hf32 : (Cond.fieldLink RX4 32 "CraneYardModel" "words" "[I").before ([.ref (a 0), .int p1, .int p2, .int p3, .int p4] : List Value).toArray s = true := hts _ (List.mem_of_getElem? (i := 2) rfl)
  have hf79 : (Cond.fieldLink RX4 79 "CraneYardModel" "many" "I").before ([.ref (a 0), .int p1, .int p2, .int p3, .int p4] : List Value).toArray s = true := hts _ (List.mem_of_getElem? (i := 1) rfl)
  have hinX4 : ∀ w ∈ wsX40, w ∈ wsX4_tell := fun _ h => List.mem_cons_of_mem _ (List.mem_append_right _ h)
  have hP : va_P D vwCl (ws_MD cs a σ) s.heap := hP
  have B80 : ∀ (x1 : Int32) (x2 : Int32) (x3 : Int32) (x4 : Int32) (t1 : Int32) (σ : MD), b_M_tell_80 Φ x1 x2 x3 x4 t1 σ → At p l e (headSpec wsX4_tell rm_M_tell).room s m ([.ref (a 0), .int p1, .int p2, .int p3, .int p4] : List Value).toArray below meth c (MQ below (va_Qi Φ (BG D cs A s.heap.size (ws_MD cs a)) A) ([.ref (a 0), .int p1, .int p2, .int p3, .int p4] : List Value).toArray s 0 0 A) D A 6 [(0, .ref (a 0)), (1, .int x1), (2, .int x2), (3, .int x3), (4, .int x4)] (ws_MD cs a σ) 80 [.int t1, .ref (a 0)] := by
    intro x1 x2 x3 x4 t1 σ hw H locs ls hl hP hD hS
    unfold b_M_tell_80 at hw
    refine kVi (As := [.int t1]) (rest := []) ⟨hx, hb, hml, hown, hts⟩ (c_M_goesWell l D cs a _ σ t1 hw) (cwV 1 hts gX4_tell_X4_goesWell rfl rfl rfl (by decide +kernel) ⟨Nat.le_of_ble_eq_true rfl, Nat.le_of_ble_eq_true rfl⟩) (pt_self_MD cs a σ) hK hP hD hS hA (ci := 4) rfl rfl rfl rfl hl.1 rfl (Nat.le_of_ble_eq_true rfl) dX4_tell_80 ⟨Nat.zero_le _, Nat.zero_le _⟩ (fun r80 u80 H locs hw hP hD hS => ?_)
    have hP : va_P D vwCl (ws_MD cs a u80) H := hP
    have hD : va_D A (ws_MD cs a u80) := hD
    refine lv_if_ne (tgt := 88) hx hb dX4_tell_83 (by decide) (fun c83 => ?_) (fun c83 => ?_)
    · have hw := hw.2 c83
      refine lv_aload_n hx hb dX4_tell_88 rfl (lv_at hl 0 rfl) ?_
      refine va_get (D := D) (ci := 4) (v := .ref (a 7)) (C := RX4) (T := TX4) (N := 23) hx hb hts hinX4 hown hK hP 0 rfl rfl 10 (by decide) hf32 (fun _ h9 => h9) rfl dX4_tell_89 ?_
      refine lv_iconst (v := (4 : Int32)) hx hb dX4_tell_92 (by decide) ?_
      refine lv_aload_n hx hb dX4_tell_93 rfl (lv_at hl 0 rfl) ?_
      refine va_get (D := D) (ci := 4) (v := .int (g_MD_many u80)) (C := RX4) (T := TX4) (N := 23) hx hb hts hinX4 hown hK hP 0 rfl rfl 12 (by decide) hf79 (fun _ h9 => h9) rfl dX4_tell_94 ?_
      refine lv_imul hx hb dX4_tell_97 ?_
      refine lv_iload_n hx hb dX4_tell_98 rfl (lv_at hl 1 rfl) ?_
      have hi99 := hw.1
      have hw := hw.2
      refine va_iast (f := (g_MD_words u80)) (n := 32) (x := x1) hx hb hK hP hD hS 7 0 rfl rfl hi99 dX4_tell_99 (fun H locs hP hD hS => ?_)
      have hP : va_P D vwCl (ws_MD cs a (s_MD_words u80 (upd (g_MD_words u80) (((4 : Int32) * (g_MD_many u80))).toNatClampNeg x1))) H := hP
      have hD : va_D A (ws_MD cs a (s_MD_words u80 (upd (g_MD_words u80) (((4 : Int32) * (g_MD_many u80))).toNatClampNeg x1))) := hD
      obtain ⟨z1, ez1⟩ : ∃ z : MD, z = (s_MD_words u80 (upd (g_MD_words u80) (((4 : Int32) * (g_MD_many u80))).toNatClampNeg x1)) := ⟨_, rfl⟩
      have hw := hw z1 ez1
      rw [← ez1] at hP hD
      refine lv_aload_n hx hb dX4_tell_100 rfl (lv_at hl 0 rfl) ?_
      refine va_get (D := D) (ci := 4) (v := .ref (a 7)) (C := RX4) (T := TX4) (N := 23) hx hb hts hinX4 hown hK hP 0 rfl rfl 10 (by decide) hf32 (fun _ h9 => h9) rfl dX4_tell_101 ?_
      refine lv_iconst (v := (4 : Int32)) hx hb dX4_tell_104 (by decide) ?_
      refine lv_aload_n hx hb dX4_tell_105 rfl (lv_at hl 0 rfl) ?_
      refine va_get (D := D) (ci := 4) (v := .int (g_MD_many z1)) (C := RX4) (T := TX4) (N := 23) hx hb hts hinX4 hown hK hP 0 rfl rfl 12 (by decide) hf79 (fun _ h9 => h9) rfl dX4_tell_106 ?_
      refine lv_imul hx hb dX4_tell_109 ?_
      refine lv_iconst (v := (1 : Int32)) hx hb dX4_tell_110 (by decide) ?_
      refine lv_iadd hx hb dX4_tell_111 ?_
      refine lv_iload_n hx hb dX4_tell_112 rfl (lv_at hl 2 rfl) ?_
      have hi113 := hw.1
      have hw := hw.2
      refine va_iast (f := (g_MD_words z1)) (n := 32) (x := x2) hx hb hK hP hD hS 7 0 rfl rfl hi113 dX4_tell_113 (fun H locs hP hD hS => ?_)
      have hP : va_P D vwCl (ws_MD cs a (s_MD_words z1 (upd (g_MD_words z1) ((((4 : Int32) * (g_MD_many z1)) + (1 : Int32))).toNatClampNeg x2))) H := hP
      have hD : va_D A (ws_MD cs a (s_MD_words z1 (upd (g_MD_words z1) ((((4 : Int32) * (g_MD_many z1)) + (1 : Int32))).toNatClampNeg x2))) := hD
      obtain ⟨z2, ez2⟩ : ∃ z : MD, z = (s_MD_words z1 (upd (g_MD_words z1) ((((4 : Int32) * (g_MD_many z1)) + (1 : Int32))).toNatClampNeg x2)) := ⟨_, rfl⟩
      have hw := hw z2 ez2
      rw [← ez2] at hP hD
      refine lv_aload_n hx hb dX4_tell_114 rfl (lv_at hl 0 rfl) ?_
      refine va_get (D := D) (ci := 4) (v := .ref (a 7)) (C := RX4) (T := TX4) (N := 23) hx hb hts hinX4 hown hK hP 0 rfl rfl 10 (by decide) hf32 (fun _ h9 => h9) rfl dX4_tell_115 ?_
      refine lv_iconst (v := (4 : Int32)) hx hb dX4_tell_118 (by decide) ?_
      refine lv_aload_n hx hb dX4_tell_119 rfl (lv_at hl 0 rfl) ?_
      refine va_get (D := D) (ci := 4) (v := .int (g_MD_many z2)) (C := RX4) (T := TX4) (N := 23) hx hb hts hinX4 hown hK hP 0 rfl rfl 12 (by decide) hf79 (fun _ h9 => h9) rfl dX4_tell_120 ?_
      refine lv_imul hx hb dX4_tell_123 ?_
      refine lv_iconst (v := (2 : Int32)) hx hb dX4_tell_124 (by decide) ?_
      refine lv_iadd hx hb dX4_tell_125 ?_
      refine lv_iload_n hx hb dX4_tell_126 rfl (lv_at hl 3 rfl) ?_
      have hi127 := hw.1
      have hw := hw.2
      refine va_iast (f := (g_MD_words z2)) (n := 32) (x := x3) hx hb hK hP hD hS 7 0 rfl rfl hi127 dX4_tell_127 (fun H locs hP hD hS => ?_)
      have hP : va_P D vwCl (ws_MD cs a (s_MD_words z2 (upd (g_MD_words z2) ((((4 : Int32) * (g_MD_many z2)) + (2 : Int32))).toNatClampNeg x3))) H := hP
      have hD : va_D A (ws_MD cs a (s_MD_words z2 (upd (g_MD_words z2) ((((4 : Int32) * (g_MD_many z2)) + (2 : Int32))).toNatClampNeg x3))) := hD
      obtain ⟨z3, ez3⟩ : ∃ z : MD, z = (s_MD_words z2 (upd (g_MD_words z2) ((((4 : Int32) * (g_MD_many z2)) + (2 : Int32))).toNatClampNeg x3)) := ⟨_, rfl⟩
      have hw := hw z3 ez3
      rw [← ez3] at hP hD
      refine lv_aload_n hx hb dX4_tell_128 rfl (lv_at hl 0 rfl) ?_
      refine va_get (D := D) (ci := 4) (v := .ref (a 7)) (C := RX4) (T := TX4) (N := 23) hx hb hts hinX4 hown hK hP 0 rfl rfl 10 (by decide) hf32 (fun _ h9 => h9) rfl dX4_tell_129 ?_
      refine lv_iconst (v := (4 : Int32)) hx hb dX4_tell_132 (by decide) ?_
      refine lv_aload_n hx hb dX4_tell_133 rfl (lv_at hl 0 rfl) ?_
      refine va_get (D := D) (ci := 4) (v := .int (g_MD_many z3)) (C := RX4) (T := TX4) (N := 23) hx hb hts hinX4 hown hK hP 0 rfl rfl 12 (by decide) hf79 (fun _ h9 => h9) rfl dX4_tell_134 ?_
      refine lv_imul hx hb dX4_tell_137 ?_
      refine lv_iconst (v := (3 : Int32)) hx hb dX4_tell_138 (by decide) ?_
      refine lv_iadd hx hb dX4_tell_139 ?_
      refine lv_iload hx hb dX4_tell_140 (lv_at hl 4 rfl) ?_
      have hi142 := hw.1
      have hw := hw.2
      refine va_iast (f := (g_MD_words z3)) (n := 32) (x := x4) hx hb hK hP hD hS 7 0 rfl rfl hi142 dX4_tell_142 (fun H locs hP hD hS => ?_)
      have hP : va_P D vwCl (ws_MD cs a (s_MD_words z3 (upd (g_MD_words z3) ((((4 : Int32) * (g_MD_many z3)) + (3 : Int32))).toNatClampNeg x4))) H := hP
      have hD : va_D A (ws_MD cs a (s_MD_words z3 (upd (g_MD_words z3) ((((4 : Int32) * (g_MD_many z3)) + (3 : Int32))).toNatClampNeg x4))) := hD
      obtain ⟨z4, ez4⟩ : ∃ z : MD, z = (s_MD_words z3 (upd (g_MD_words z3) ((((4 : Int32) * (g_MD_many z3)) + (3 : Int32))).toNatClampNeg x4)) := ⟨_, rfl⟩
      have hw := hw z4 ez4
      rw [← ez4] at hP hD
      refine lv_aload_n hx hb dX4_tell_143 rfl (lv_at hl 0 rfl) ?_
      refine lv_dup hx hb dX4_tell_144 rfl ?_
      refine va_get (D := D) (ci := 4) (v := .int (g_MD_many z4)) (C := RX4) (T := TX4) (N := 23) hx hb hts hinX4 hown hK hP 0 rfl rfl 12 (by decide) hf79 (fun _ h9 => h9) rfl dX4_tell_145 ?_
      refine lv_iconst (v := (1 : Int32)) hx hb dX4_tell_148 (by decide) ?_
      refine lv_iadd hx hb dX4_tell_149 ?_
      refine lv_topi (fun y5 ey5 => ?_)
      have hw := hw y5 ey5
      refine va_put (D := D) (ci := 4) (v := .int y5) (ty := .int) (C := RX4) (T := TX4) (N := 23) hx hb hts hinX4 tyX4 tyX4_ok nmX4 hown hK hP hD hS 0 rfl rfl 12 (by decide) hf79 (fun _ h9 => h9) rfl (by decide +kernel) rfl rfl (Nat.le_of_ble_eq_true rfl) dX4_tell_150 (fun H locs hP hD hS => ?_)
      have hP : va_P D vwCl (ws_MD cs a (s_MD_many z4 y5)) H := hP
      have hD : va_D A (ws_MD cs a (s_MD_many z4 y5)) := hD
      obtain ⟨z6, ez6⟩ : ∃ z : MD, z = (s_MD_many z4 y5) := ⟨_, rfl⟩
      have hw := hw z6 ez6
      rw [← ez6] at hP hD
      refine lv_aload_n hx hb dX4_tell_153 rfl (lv_at hl 0 rfl) ?_
      refine kVv (As := []) (rest := []) ⟨hx, hb, hml, hown, hts⟩ (c_M_payWords l D cs a _ z6 hw) (cwV 0 hts gX4_tell_X4_payWords rfl rfl rfl (by decide +kernel) ⟨Nat.le_of_ble_eq_true rfl, Nat.le_of_ble_eq_true rfl⟩) (pt_self_MD cs a z6) hK hP hD hS hA (ci := 4) rfl rfl rfl rfl hl.1 rfl (Nat.le_of_ble_eq_true rfl) dX4_tell_154 ⟨Nat.zero_le _, Nat.zero_le _⟩ (fun u154 H locs hw hP hD hS => ?_)
      have hP : va_P D vwCl (ws_MD cs a u154) H := hP
      have hD : va_D A (ws_MD cs a u154) := hD
      refine lv_aload_n hx hb dX4_tell_157 rfl (lv_at hl 0 rfl) ?_
      refine va_get (D := D) (ci := 4) (v := .int (g_MD_many u154)) (C := RX4) (T := TX4) (N := 23) hx hb hts hinX4 hown hK hP 0 rfl rfl 12 (by decide) hf79 (fun _ h9 => h9) rfl dX4_tell_158 ?_
      refine lv_iconst (v := (1 : Int32)) hx hb dX4_tell_161 (by decide) ?_
      refine lv_isub hx hb dX4_tell_162 ?_
      exact rI (wf := (ws_MD cs a)) (u := u154) hx hb hr hlocks hK hP hD hS hw dX4_tell_163
    · have hw := hw.1 c83
      refine lv_iconst (v := (0 : Int32)) hx hb dX4_tell_86 (by decide) ?_
      exact rI (wf := (ws_MD cs a)) (u := u80) hx hb hr hlocks hK hP hD hS hw dX4_tell_87
  have B54 : ∀ (x1 : Int32) (x2 : Int32) (x3 : Int32) (x4 : Int32) (t0 : Int32) (σ : MD), b_M_tell_54 Φ x1 x2 x3 x4 t0 σ → At p l e (headSpec wsX4_tell rm_M_tell).room s m ([.ref (a 0), .int p1, .int p2, .int p3, .int p4] : List Value).toArray below meth c (MQ below (va_Qi Φ (BG D cs A s.heap.size (ws_MD cs a)) A) ([.ref (a 0), .int p1, .int p2, .int p3, .int p4] : List Value).toArray s 0 0 A) D A 6 [(0, .ref (a 0)), (1, .int x1), (2, .int x2), (3, .int x3), (4, .int x4)] (ws_MD cs a σ) 54 [.int t0] := by
    intro x1 x2 x3 x4 t0 σ hw H locs ls hl hP hD hS
    unfold b_M_tell_54 at hw
    refine lv_istore (lv' := [(5, .int t0), (0, .ref (a 0)), (1, .int x1), (2, .int x2), (3, .int x3), (4, .int x4)]) hx hb dX4_tell_54 hl (by decide) rfl (fun ls hl => ?_)
    refine lv_aload_n hx hb dX4_tell_56 rfl (lv_at hl 1 rfl) ?_
    refine lv_iload hx hb dX4_tell_57 (lv_at hl 0 rfl) ?_
    refine lv_if_ne (tgt := 66) hx hb dX4_tell_59 (by decide) (fun c59 => ?_) (fun c59 => ?_)
    · have hw := hw.2 c59
      refine lv_aload_n hx hb dX4_tell_66 rfl (lv_at hl 1 rfl) ?_
      refine va_get (D := D) (ci := 4) (v := .int (g_MD_many σ)) (C := RX4) (T := TX4) (N := 23) hx hb hts hinX4 hown hK hP 0 rfl rfl 12 (by decide) hf79 (fun _ h9 => h9) rfl dX4_tell_67 ?_
      refine lv_bipush (v := (8 : Int32)) hx hb dX4_tell_70 (by decide) ?_
      refine lv_icmp_ne (tgt := 79) hx hb dX4_tell_72 (by decide) (fun c72 => ?_) (fun c72 => ?_)
      · have hw := hw.2 c72
        refine lv_iconst (v := (0 : Int32)) hx hb dX4_tell_79 (by decide) ?_
        exact B80 _ _ _ _ _ _ hw _ _ ls (lv_sub hl [1, 2, 3, 4, 5] rfl) hP hD hS
      · have hw := hw.1 c72
        refine lv_iconst (v := (2 : Int32)) hx hb dX4_tell_75 (by decide) ?_
        refine lv_goto (tgt := 80) hx hb dX4_tell_76 (by decide) ?_
        exact B80 _ _ _ _ _ _ hw _ _ ls (lv_sub hl [1, 2, 3, 4, 5] rfl) hP hD hS
    · have hw := hw.1 c59
      refine lv_iconst (v := (1 : Int32)) hx hb dX4_tell_62 (by decide) ?_
      refine lv_goto (tgt := 80) hx hb dX4_tell_63 (by decide) ?_
      exact B80 _ _ _ _ _ _ hw _ _ ls (lv_sub hl [1, 2, 3, 4, 5] rfl) hP hD hS
  have B53 : ∀ (x1 : Int32) (x2 : Int32) (x3 : Int32) (x4 : Int32) (σ : MD), b_M_tell_53 Φ x1 x2 x3 x4 σ → At p l e (headSpec wsX4_tell rm_M_tell).room s m ([.ref (a 0), .int p1, .int p2, .int p3, .int p4] : List Value).toArray below meth c (MQ below (va_Qi Φ (BG D cs A s.heap.size (ws_MD cs a)) A) ([.ref (a 0), .int p1, .int p2, .int p3, .int p4] : List Value).toArray s 0 0 A) D A 6 [(0, .ref (a 0)), (1, .int x1), (2, .int x2), (3, .int x3), (4, .int x4)] (ws_MD cs a σ) 53 [] := by
    intro x1 x2 x3 x4 σ hw H locs ls hl hP hD hS
    unfold b_M_tell_53 at hw
    refine lv_iconst (v := (0 : Int32)) hx hb dX4_tell_53 (by decide) ?_
    exact B54 _ _ _ _ _ _ hw _ _ ls (lv_sub hl [0, 1, 2, 3, 4] rfl) hP hD hS
  have B49 : ∀ (x1 : Int32) (x2 : Int32) (x3 : Int32) (x4 : Int32) (σ : MD), b_M_tell_49 Φ x1 x2 x3 x4 σ → At p l e (headSpec wsX4_tell rm_M_tell).room s m ([.ref (a 0), .int p1, .int p2, .int p3, .int p4] : List Value).toArray below meth c (MQ below (va_Qi Φ (BG D cs A s.heap.size (ws_MD cs a)) A) ([.ref (a 0), .int p1, .int p2, .int p3, .int p4] : List Value).toArray s 0 0 A) D A 6 [(0, .ref (a 0)), (1, .int x1), (2, .int x2), (3, .int x3), (4, .int x4)] (ws_MD cs a σ) 49 [] := by
    intro x1 x2 x3 x4 σ hw H locs ls hl hP hD hS
    unfold b_M_tell_49 at hw
    refine lv_iconst (v := (1 : Int32)) hx hb dX4_tell_49 (by decide) ?_
    refine lv_goto (tgt := 54) hx hb dX4_tell_50 (by decide) ?_
    exact B54 _ _ _ _ _ _ hw _ _ ls (lv_sub hl [0, 1, 2, 3, 4] rfl) hP hD hS
  have hl := lv_entry ([.ref (a 0), .int p1, .int p2, .int p3, .int p4]) (n := 6) (Nat.le_of_ble_eq_true rfl)
  rw [lg_entry_eq]
  generalize (lg_sl ([.ref (a 0), .int p1, .int p2, .int p3, .int p4]) ++ List.replicate (6 - (lg_sl ([.ref (a 0), .int p1, .int p2, .int p3, .int p4])).length) Slot.unset).toArray = ls at hl ⊢
  have hl : lv_has ls 6 [(0, .ref (a 0)), (1, .int p1), (2, .int p2), (3, .int p3), (4, .int p4)] := hl
  unfold w_M_tell at hw
  refine lv_iload_n hx hb dX4_tell_0 rfl (lv_at hl 1 rfl) ?_
  refine kSi (As := [.int p1]) (rest := []) ⟨hx, hb, hml, hown, hts⟩ (c_M_isLetter l D cs a _ p1 hw) (va_cwS 1 hts gX4_tell_X4_isLetter rfl rfl rfl (by decide +kernel) ⟨Nat.le_of_ble_eq_true rfl, Nat.le_of_ble_eq_true rfl⟩) (pt_un_MD cs a σ) hK hP hD hS hA rfl hl.1 rfl (Nat.le_of_ble_eq_true rfl) dX4_tell_1 ⟨Nat.zero_le _, Nat.zero_le _⟩ (fun r1 u1 H locs hw hP hD hS => ?_)
  have hP : va_P D vwCl (ws_MD cs a σ) H := hP
  have hD : va_D A (ws_MD cs a σ) := hD
  refine lv_if_eq (tgt := 53) hx hb dX4_tell_4 (by decide) (fun c4 => ?_) (fun c4 => ?_)
  · have hw := hw.1 c4
    exact B53 _ _ _ _ _ hw _ _ ls (lv_sub hl [0, 1, 2, 3, 4] rfl) hP hD hS
  · have hw := hw.2 c4
    refine lv_iload_n hx hb dX4_tell_7 rfl (lv_at hl 2 rfl) ?_
    refine kSi (As := [.int p2]) (rest := []) ⟨hx, hb, hml, hown, hts⟩ (c_M_isLetter l D cs a _ p2 hw) (va_cwS 1 hts gX4_tell_X4_isLetter rfl rfl rfl (by decide +kernel) ⟨Nat.le_of_ble_eq_true rfl, Nat.le_of_ble_eq_true rfl⟩) (pt_un_MD cs a σ) hK hP hD hS hA rfl hl.1 rfl (Nat.le_of_ble_eq_true rfl) dX4_tell_8 ⟨Nat.zero_le _, Nat.zero_le _⟩ (fun r8 u8 H locs hw hP hD hS => ?_)
    have hP : va_P D vwCl (ws_MD cs a σ) H := hP
    have hD : va_D A (ws_MD cs a σ) := hD
    refine lv_if_eq (tgt := 53) hx hb dX4_tell_11 (by decide) (fun c11 => ?_) (fun c11 => ?_)
    · have hw := hw.1 c11
      exact B53 _ _ _ _ _ hw _ _ ls (lv_sub hl [0, 1, 2, 3, 4] rfl) hP hD hS
    · have hw := hw.2 c11
      refine lv_iload_n hx hb dX4_tell_14 rfl (lv_at hl 3 rfl) ?_
      refine lv_iconst (v := (-1 : Int32)) hx hb dX4_tell_15 (by decide) ?_
      refine lv_icmp_ne (tgt := 28) hx hb dX4_tell_16 (by decide) (fun c16 => ?_) (fun c16 => ?_)
      · have hw := hw.2 c16
        refine lv_iload_n hx hb dX4_tell_28 rfl (lv_at hl 3 rfl) ?_
        refine kSi (As := [.int p3]) (rest := []) ⟨hx, hb, hml, hown, hts⟩ (c_M_isLetter l D cs a _ p3 hw) (va_cwS 1 hts gX4_tell_X4_isLetter rfl rfl rfl (by decide +kernel) ⟨Nat.le_of_ble_eq_true rfl, Nat.le_of_ble_eq_true rfl⟩) (pt_un_MD cs a σ) hK hP hD hS hA rfl hl.1 rfl (Nat.le_of_ble_eq_true rfl) dX4_tell_29 ⟨Nat.zero_le _, Nat.zero_le _⟩ (fun r29 u29 H locs hw hP hD hS => ?_)
        have hP : va_P D vwCl (ws_MD cs a σ) H := hP
        have hD : va_D A (ws_MD cs a σ) := hD
        refine lv_if_eq (tgt := 53) hx hb dX4_tell_32 (by decide) (fun c32 => ?_) (fun c32 => ?_)
        · have hw := hw.1 c32
          exact B53 _ _ _ _ _ hw _ _ ls (lv_sub hl [0, 1, 2, 3, 4] rfl) hP hD hS
        · have hw := hw.2 c32
          refine lv_iload hx hb dX4_tell_35 (lv_at hl 4 rfl) ?_
          refine lv_iconst (v := (-1 : Int32)) hx hb dX4_tell_37 (by decide) ?_
          refine lv_icmp_eq (tgt := 49) hx hb dX4_tell_38 (by decide) (fun c38 => ?_) (fun c38 => ?_)
          · have hw := hw.1 c38
            exact B49 _ _ _ _ _ hw _ _ ls (lv_sub hl [0, 1, 2, 3, 4] rfl) hP hD hS
          · have hw := hw.2 c38
            refine lv_iload hx hb dX4_tell_41 (lv_at hl 4 rfl) ?_
            refine kSi (As := [.int p4]) (rest := []) ⟨hx, hb, hml, hown, hts⟩ (c_M_isLetter l D cs a _ p4 hw) (va_cwS 1 hts gX4_tell_X4_isLetter rfl rfl rfl (by decide +kernel) ⟨Nat.le_of_ble_eq_true rfl, Nat.le_of_ble_eq_true rfl⟩) (pt_un_MD cs a σ) hK hP hD hS hA rfl hl.1 rfl (Nat.le_of_ble_eq_true rfl) dX4_tell_43 ⟨Nat.zero_le _, Nat.zero_le _⟩ (fun r43 u43 H locs hw hP hD hS => ?_)
            have hP : va_P D vwCl (ws_MD cs a σ) H := hP
            have hD : va_D A (ws_MD cs a σ) := hD
            refine lv_if_eq (tgt := 53) hx hb dX4_tell_46 (by decide) (fun c46 => ?_) (fun c46 => ?_)
            · have hw := hw.1 c46
              exact B53 _ _ _ _ _ hw _ _ ls (lv_sub hl [0, 1, 2, 3, 4] rfl) hP hD hS
            · have hw := hw.2 c46
              exact B49 _ _ _ _ _ hw _ _ ls (lv_sub hl [0, 1, 2, 3, 4] rfl) hP hD hS
      · have hw := hw.1 c16
        refine lv_iload hx hb dX4_tell_19 (lv_at hl 4 rfl) ?_
        refine lv_iconst (v := (-1 : Int32)) hx hb dX4_tell_21 (by decide) ?_
        refine lv_icmp_ne (tgt := 53) hx hb dX4_tell_22 (by decide) (fun c22 => ?_) (fun c22 => ?_)
        · have hw := hw.2 c22
          exact B53 _ _ _ _ _ hw _ _ ls (lv_sub hl [0, 1, 2, 3, 4] rfl) hP hD hS
        · have hw := hw.1 c22
          refine lv_goto (tgt := 49) hx hb dX4_tell_25 (by decide) ?_
          exact B49 _ _ _ _ _ hw _ _ ls (lv_sub hl [0, 1, 2, 3, 4] rfl) hP hD hS
abbrev rm_M_hasPaid : Room := { frames := 1, cells := 0, slots := 0, locals := 22 }
set_option maxHeartbeats 4000000 in
set_option maxRecDepth 100000 in
theorem c_M_hasPaid (l : Launch) (D : va_G) (cs : CS) (a : Nat → Nat) (sz : Nat) (σ : MD) (p1 : Int32) {Φ : Int32 → MD → Prop} (hw : w_M_hasPaid σ p1 Φ) : Met l yX4_hasPaid wsX4_hasPaid rm_M_hasPaid (PcG [.ref (a 0), .int p1] D cs (ws_MD cs a σ) sz) (va_Qi Φ (BG D cs (va_A (ws_MD cs a σ) sz) sz (ws_MD cs a)) (va_A (ws_MD cs a σ) sz)) 0 0 (va_A (ws_MD cs a σ) sz) := by
  refine Met.ofW (cc := cX4_hasPaid) (maxL := 2) (ret := (some .boolean)) (by decide) rfl ?_
  intro p e s m args below meth c s₁ B hml hv
  obtain ⟨rfl, hsz, hP, hK, hD0⟩ := hv
  have hx := B.exec
  have hb := B.bytes
  have hr := B.returns
  have hts := atoms_spec (ws := wsX4_hasPaid) B.pre
  have hown : s.vm.findClass RX4 = some m.cls := findClass_of_methodNamed B.named
  have hlocks := B.notSynchronized
  subst hsz
  have hD := hD0.self (sz := s.heap.size)
  generalize hAe : va_A (ws_MD cs a σ) s.heap.size = A at hD ⊢
  have hA : ∀ q : Nat, s.heap.size ≤ q → A q := fun q h => by rw [← hAe]; exact Or.inr h
  have hS : va_S A s.heap s.heap [] := va_S.rf
  have hf35 : (Cond.fieldLink RX4 35 "CraneYardModel" "hasPaid" "[Z").before ([.ref (a 0), .int p1] : List Value).toArray s = true := hts _ (List.mem_of_getElem? (i := 2) rfl)
  have hf79 : (Cond.fieldLink RX4 79 "CraneYardModel" "many" "I").before ([.ref (a 0), .int p1] : List Value).toArray s = true := hts _ (List.mem_of_getElem? (i := 1) rfl)
  have hinX4 : ∀ w ∈ wsX40, w ∈ wsX4_hasPaid := fun _ h => List.mem_cons_of_mem _ (List.mem_append_right _ h)
  have hP : va_P D vwCl (ws_MD cs a σ) s.heap := hP
  have B40 : ∀ (t0 : Int32) (σ : MD), b_M_hasPaid_40 Φ t0 σ → At p l e (headSpec wsX4_hasPaid rm_M_hasPaid).room s m ([.ref (a 0), .int p1] : List Value).toArray below meth c (MQ below (va_Qi Φ (BG D cs A s.heap.size (ws_MD cs a)) A) ([.ref (a 0), .int p1] : List Value).toArray s 0 0 A) D A 2 [] (ws_MD cs a σ) 40 [.int t0] := by
    intro t0 σ hw H locs ls hl hP hD hS
    unfold b_M_hasPaid_40 at hw
    exact rZ (wf := (ws_MD cs a)) (u := σ) hx hb hr hlocks hK hP hD hS hw dX4_hasPaid_40
  have B39 : ∀ (σ : MD), b_M_hasPaid_39 Φ σ → At p l e (headSpec wsX4_hasPaid rm_M_hasPaid).room s m ([.ref (a 0), .int p1] : List Value).toArray below meth c (MQ below (va_Qi Φ (BG D cs A s.heap.size (ws_MD cs a)) A) ([.ref (a 0), .int p1] : List Value).toArray s 0 0 A) D A 2 [] (ws_MD cs a σ) 39 [] := by
    intro σ hw H locs ls hl hP hD hS
    unfold b_M_hasPaid_39 at hw
    refine lv_iconst (v := (0 : Int32)) hx hb dX4_hasPaid_39 (by decide) ?_
    exact B40 _ _ hw _ _ ls (lv_sub hl [] rfl) hP hD hS
  have B20 : ∀ (x1 : Int32) (t1 : Int32) (σ : MD), b_M_hasPaid_20 Φ x1 t1 σ → At p l e (headSpec wsX4_hasPaid rm_M_hasPaid).room s m ([.ref (a 0), .int p1] : List Value).toArray below meth c (MQ below (va_Qi Φ (BG D cs A s.heap.size (ws_MD cs a)) A) ([.ref (a 0), .int p1] : List Value).toArray s 0 0 A) D A 2 [(0, .ref (a 0)), (1, .int x1)] (ws_MD cs a σ) 20 [.int t1, .ref (a 0)] := by
    intro x1 t1 σ hw H locs ls hl hP hD hS
    unfold b_M_hasPaid_20 at hw
    refine kVi (As := [.int t1]) (rest := []) ⟨hx, hb, hml, hown, hts⟩ (c_M_goesWell l D cs a _ σ t1 hw) (cwV 1 hts gX4_hasPaid_X4_goesWell rfl rfl rfl (by decide +kernel) ⟨Nat.le_of_ble_eq_true rfl, Nat.le_of_ble_eq_true rfl⟩) (pt_self_MD cs a σ) hK hP hD hS hA (ci := 4) rfl rfl rfl rfl hl.1 rfl (Nat.le_of_ble_eq_true rfl) dX4_hasPaid_20 ⟨Nat.zero_le _, Nat.zero_le _⟩ (fun r20 u20 H locs hw hP hD hS => ?_)
    have hP : va_P D vwCl (ws_MD cs a u20) H := hP
    have hD : va_D A (ws_MD cs a u20) := hD
    refine lv_if_eq (tgt := 39) hx hb dX4_hasPaid_23 (by decide) (fun c23 => ?_) (fun c23 => ?_)
    · have hw := hw.1 c23
      exact B39 _ hw _ _ ls (lv_sub hl [] rfl) hP hD hS
    · have hw := hw.2 c23
      refine lv_aload_n hx hb dX4_hasPaid_26 rfl (lv_at hl 0 rfl) ?_
      refine va_get (D := D) (ci := 4) (v := .ref (a 8)) (C := RX4) (T := TX4) (N := 23) hx hb hts hinX4 hown hK hP 0 rfl rfl 11 (by decide) hf35 (fun _ h9 => h9) rfl dX4_hasPaid_27 ?_
      refine lv_iload_n hx hb dX4_hasPaid_30 rfl (lv_at hl 1 rfl) ?_
      have hi31 := hw.1
      have hw := hw.2
      refine va_zald (f := (g_MD_hasPaid u20)) (n := 8) hx hb hK hP 8 1 rfl rfl hi31 dX4_hasPaid_31 ?_
      refine lv_if_eq (tgt := 39) hx hb dX4_hasPaid_32 (by decide) (fun c32 => ?_) (fun c32 => ?_)
      · have hw := hw.1 c32
        exact B39 _ hw _ _ ls (lv_sub hl [] rfl) hP hD hS
      · have hw := hw.2 c32
        refine lv_iconst (v := (1 : Int32)) hx hb dX4_hasPaid_35 (by decide) ?_
        refine lv_goto (tgt := 40) hx hb dX4_hasPaid_36 (by decide) ?_
        exact B40 _ _ hw _ _ ls (lv_sub hl [] rfl) hP hD hS
  have hl := lv_entry ([.ref (a 0), .int p1]) (n := 2) (Nat.le_of_ble_eq_true rfl)
  rw [lg_entry_eq]
  generalize (lg_sl ([.ref (a 0), .int p1]) ++ List.replicate (2 - (lg_sl ([.ref (a 0), .int p1])).length) Slot.unset).toArray = ls at hl ⊢
  have hl : lv_has ls 2 [(0, .ref (a 0)), (1, .int p1)] := hl
  unfold w_M_hasPaid at hw
  refine lv_aload_n hx hb dX4_hasPaid_0 rfl (lv_at hl 0 rfl) ?_
  refine lv_iload_n hx hb dX4_hasPaid_1 rfl (lv_at hl 1 rfl) ?_
  refine lv_iconst (v := (0 : Int32)) hx hb dX4_hasPaid_2 (by decide) ?_
  refine lv_aload_n hx hb dX4_hasPaid_3 rfl (lv_at hl 0 rfl) ?_
  refine va_get (D := D) (ci := 4) (v := .int (g_MD_many σ)) (C := RX4) (T := TX4) (N := 23) hx hb hts hinX4 hown hK hP 0 rfl rfl 12 (by decide) hf79 (fun _ h9 => h9) rfl dX4_hasPaid_4 ?_
  refine lv_iconst (v := (1 : Int32)) hx hb dX4_hasPaid_7 (by decide) ?_
  refine lv_isub hx hb dX4_hasPaid_8 ?_
  refine kSi (As := [.int p1, .int (0 : Int32), .int ((g_MD_many σ) - (1 : Int32))]) (rest := [.ref (a 0)]) ⟨hx, hb, hml, hown, hts⟩ (c_M_in l D cs a _ p1 (0 : Int32) ((g_MD_many σ) - (1 : Int32)) hw) (va_cwS 3 hts gX4_hasPaid_X4_in rfl rfl rfl (by decide +kernel) ⟨Nat.le_of_ble_eq_true rfl, Nat.le_of_ble_eq_true rfl⟩) (pt_un_MD cs a σ) hK hP hD hS hA rfl hl.1 rfl (Nat.le_of_ble_eq_true rfl) dX4_hasPaid_9 ⟨Nat.zero_le _, Nat.zero_le _⟩ (fun r9 u9 H locs hw hP hD hS => ?_)
  have hP : va_P D vwCl (ws_MD cs a σ) H := hP
  have hD : va_D A (ws_MD cs a σ) := hD
  refine lv_if_eq (tgt := 19) hx hb dX4_hasPaid_12 (by decide) (fun c12 => ?_) (fun c12 => ?_)
  · have hw := hw.1 c12
    refine lv_iconst (v := (1 : Int32)) hx hb dX4_hasPaid_19 (by decide) ?_
    exact B20 _ _ _ hw _ _ ls (lv_sub hl [0, 1] rfl) hP hD hS
  · have hw := hw.2 c12
    refine lv_iconst (v := (0 : Int32)) hx hb dX4_hasPaid_15 (by decide) ?_
    refine lv_goto (tgt := 20) hx hb dX4_hasPaid_16 (by decide) ?_
    exact B20 _ _ _ hw _ _ ls (lv_sub hl [0, 1] rfl) hP hD hS
abbrev rm_M_bonus : Room := { frames := 0, cells := 0, slots := 0, locals := 0 }
set_option maxHeartbeats 4000000 in
set_option maxRecDepth 100000 in
theorem c_M_bonus (l : Launch) (D : va_G) (cs : CS) (a : Nat → Nat) (sz : Nat) (σ : MD) {Φ : Int32 → MD → Prop} (hw : w_M_bonus σ Φ) : Met l yX4_bonus wsX4_bonus rm_M_bonus (PcG [.ref (a 0)] D cs (ws_MD cs a σ) sz) (va_Qi Φ (BG D cs (va_A (ws_MD cs a σ) sz) sz (ws_MD cs a)) (va_A (ws_MD cs a σ) sz)) 0 0 (va_A (ws_MD cs a σ) sz) := by
  refine Met.ofW (cc := cX4_bonus) (maxL := 1) (ret := (some .int)) (by decide) rfl ?_
  intro p e s m args below meth c s₁ B hml hv
  obtain ⟨rfl, hsz, hP, hK, hD0⟩ := hv
  have hx := B.exec
  have hb := B.bytes
  have hr := B.returns
  have hts := atoms_spec (ws := wsX4_bonus) B.pre
  have hown : s.vm.findClass RX4 = some m.cls := findClass_of_methodNamed B.named
  have hlocks := B.notSynchronized
  subst hsz
  have hD := hD0.self (sz := s.heap.size)
  generalize hAe : va_A (ws_MD cs a σ) s.heap.size = A at hD ⊢
  have hA : ∀ q : Nat, s.heap.size ≤ q → A q := fun q h => by rw [← hAe]; exact Or.inr h
  have hS : va_S A s.heap s.heap [] := va_S.rf
  have hf54 : (Cond.fieldLink RX4 54 "CraneYardModel" "thrown" "I").before ([.ref (a 0)] : List Value).toArray s = true := hts _ (List.mem_of_getElem? (i := 1) rfl)
  have hf86 : (Cond.fieldLink RX4 86 "CraneYardModel" "bonus" "I").before ([.ref (a 0)] : List Value).toArray s = true := hts _ (List.mem_of_getElem? (i := 2) rfl)
  have hinX4 : ∀ w ∈ wsX40, w ∈ wsX4_bonus := fun _ h => List.mem_cons_of_mem _ (List.mem_append_right _ h)
  have hP : va_P D vwCl (ws_MD cs a σ) s.heap := hP
  have hl := lv_entry ([.ref (a 0)]) (n := 1) (Nat.le_of_ble_eq_true rfl)
  rw [lg_entry_eq]
  generalize (lg_sl ([.ref (a 0)]) ++ List.replicate (1 - (lg_sl ([.ref (a 0)])).length) Slot.unset).toArray = ls at hl ⊢
  have hl : lv_has ls 1 [(0, .ref (a 0))] := hl
  unfold w_M_bonus at hw
  refine lv_aload_n hx hb dX4_bonus_0 rfl (lv_at hl 0 rfl) ?_
  refine lv_iconst (v := (0 : Int32)) hx hb dX4_bonus_1 (by decide) ?_
  refine va_put (D := D) (ci := 4) (v := .int (0 : Int32)) (ty := .int) (C := RX4) (T := TX4) (N := 23) hx hb hts hinX4 tyX4 tyX4_ok nmX4 hown hK hP hD hS 0 rfl rfl 0 (by decide) hf54 (fun _ h9 => h9) rfl (by decide +kernel) rfl rfl (Nat.le_of_ble_eq_true rfl) dX4_bonus_2 (fun H locs hP hD hS => ?_)
  have hP : va_P D vwCl (ws_MD cs a (s_MD_thrown σ (0 : Int32))) H := hP
  have hD : va_D A (ws_MD cs a (s_MD_thrown σ (0 : Int32))) := hD
  obtain ⟨z1, ez1⟩ : ∃ z : MD, z = (s_MD_thrown σ (0 : Int32)) := ⟨_, rfl⟩
  have hw := hw z1 ez1
  rw [← ez1] at hP hD
  refine lv_aload_n hx hb dX4_bonus_5 rfl (lv_at hl 0 rfl) ?_
  refine va_get (D := D) (ci := 4) (v := .int (g_MD_bonus z1)) (C := RX4) (T := TX4) (N := 23) hx hb hts hinX4 hown hK hP 0 rfl rfl 13 (by decide) hf86 (fun _ h9 => h9) rfl dX4_bonus_6 ?_
  exact rI (wf := (ws_MD cs a)) (u := z1) hx hb hr hlocks hK hP hD hS hw dX4_bonus_9
abbrev rm_M_haulOf : Room := { frames := 0, cells := 0, slots := 0, locals := 0 }
set_option maxHeartbeats 4000000 in
set_option maxRecDepth 100000 in
theorem c_M_haulOf (l : Launch) (D : va_G) (cs : CS) (a : Nat → Nat) (sz : Nat) (σ : MD) (p1 : Int32) {Φ : Int32 → MD → Prop} (hw : w_M_haulOf σ p1 Φ) : Met l yX4_haulOf wsX4_haulOf rm_M_haulOf (PcG [.ref (a 0), .int p1] D cs (ws_MD cs a σ) sz) (va_Qi Φ (BG D cs (va_A (ws_MD cs a σ) sz) sz (ws_MD cs a)) (va_A (ws_MD cs a σ) sz)) 0 0 (va_A (ws_MD cs a σ) sz) := by
  refine Met.ofW (cc := cX4_haulOf) (maxL := 3) (ret := (some .int)) (by decide) rfl ?_
  intro p e s m args below meth c s₁ B hml hv
  obtain ⟨rfl, hsz, hP, hK, hD0⟩ := hv
  have hx := B.exec
  have hb := B.bytes
  have hr := B.returns
  have hts := atoms_spec (ws := wsX4_haulOf) B.pre
  have hown : s.vm.findClass RX4 = some m.cls := findClass_of_methodNamed B.named
  have hlocks := B.notSynchronized
  subst hsz
  have hD := hD0.self (sz := s.heap.size)
  generalize hAe : va_A (ws_MD cs a σ) s.heap.size = A at hD ⊢
  have hA : ∀ q : Nat, s.heap.size ≤ q → A q := fun q h => by rw [← hAe]; exact Or.inr h
  have hS : va_S A s.heap s.heap [] := va_S.rf
  have hf39 : (Cond.fieldLink RX4 39 "CraneYardModel" "loads" "[I").before ([.ref (a 0), .int p1] : List Value).toArray s = true := hts _ (List.mem_of_getElem? (i := 2) rfl)
  have hf45 : (Cond.fieldLink RX4 45 "CraneYardModel" "states" "[I").before ([.ref (a 0), .int p1] : List Value).toArray s = true := hts _ (List.mem_of_getElem? (i := 3) rfl)
  have hf64 : (Cond.fieldLink RX4 64 "CraneYardModel" "hauls" "I").before ([.ref (a 0), .int p1] : List Value).toArray s = true := hts _ (List.mem_of_getElem? (i := 1) rfl)
  have hinX4 : ∀ w ∈ wsX40, w ∈ wsX4_haulOf := fun _ h => List.mem_cons_of_mem _ (List.mem_append_right _ h)
  have hP : va_P D vwCl (ws_MD cs a σ) s.heap := hP
  have B32 : ∀ (K2 : (Int32 → Int32 → MD → Prop)) (hK2 : ∀ (x1 : Int32) (x2 : Int32) (σ : MD), K2 x1 x2 σ → At p l e (headSpec wsX4_haulOf rm_M_haulOf).room s m ([.ref (a 0), .int p1] : List Value).toArray below meth c (MQ below (va_Qi Φ (BG D cs A s.heap.size (ws_MD cs a)) A) ([.ref (a 0), .int p1] : List Value).toArray s 0 0 A) D A 3 [(0, .ref (a 0)), (1, .int x1), (2, .int x2)] (ws_MD cs a σ) 2 []) (x1 : Int32) (x2 : Int32) (σ : MD), b_M_haulOf_32 K2 Φ x1 x2 σ → At p l e (headSpec wsX4_haulOf rm_M_haulOf).room s m ([.ref (a 0), .int p1] : List Value).toArray below meth c (MQ below (va_Qi Φ (BG D cs A s.heap.size (ws_MD cs a)) A) ([.ref (a 0), .int p1] : List Value).toArray s 0 0 A) D A 3 [(0, .ref (a 0)), (1, .int x1), (2, .int x2)] (ws_MD cs a σ) 32 [] := by
    intro K2 hK2 x1 x2 σ hw H locs ls hl hP hD hS
    unfold b_M_haulOf_32 at hw
    refine lv_iinc (v := (x2 + (1 : Int32))) (lv' := [(2, .int (x2 + (1 : Int32))), (0, .ref (a 0)), (1, .int x1)]) hx hb dX4_haulOf_32 hl (k := 2) rfl rfl (by decide) rfl (fun ls hl => ?_)
    refine lv_goto (tgt := 2) hx hb dX4_haulOf_35 (by decide) ?_
    exact hK2 _ _ _ hw _ _ ls (lv_sub hl [1, 2, 0] rfl) hP hD hS
  have B2 : ∀ (n : Nat) (x1 : Int32) (x2 : Int32) (σ : MD), it3 (b_M_haulOf_2 Φ) n x1 x2 σ → At p l e (headSpec wsX4_haulOf rm_M_haulOf).room s m ([.ref (a 0), .int p1] : List Value).toArray below meth c (MQ below (va_Qi Φ (BG D cs A s.heap.size (ws_MD cs a)) A) ([.ref (a 0), .int p1] : List Value).toArray s 0 0 A) D A 3 [(0, .ref (a 0)), (1, .int x1), (2, .int x2)] (ws_MD cs a σ) 2 [] := by
    intro n
    induction n with
    | zero => intro x1 x2 σ hw; exact absurd hw id
    | succ n ih =>
      intro x1 x2 σ hw H locs ls hl hP hD hS
      have hw : b_M_haulOf_2 Φ (it3 (b_M_haulOf_2 Φ) n) x1 x2 σ := hw
      unfold b_M_haulOf_2 at hw
      refine lv_iload_n hx hb dX4_haulOf_2 rfl (lv_at hl 2 rfl) ?_
      refine lv_aload_n hx hb dX4_haulOf_3 rfl (lv_at hl 0 rfl) ?_
      refine va_get (D := D) (ci := 4) (v := .int (g_MD_hauls σ)) (C := RX4) (T := TX4) (N := 23) hx hb hts hinX4 hown hK hP 0 rfl rfl 19 (by decide) hf64 (fun _ h9 => h9) rfl dX4_haulOf_4 ?_
      refine lv_icmp_ge (tgt := 38) hx hb dX4_haulOf_7 (by decide) (fun c7 => ?_) (fun c7 => ?_)
      · have hw := hw.1 c7
        refine lv_iconst (v := (-1 : Int32)) hx hb dX4_haulOf_38 (by decide) ?_
        exact rI (wf := (ws_MD cs a)) (u := σ) hx hb hr hlocks hK hP hD hS hw dX4_haulOf_39
      · have hw := hw.2 c7
        refine lv_aload_n hx hb dX4_haulOf_10 rfl (lv_at hl 0 rfl) ?_
        refine va_get (D := D) (ci := 4) (v := .ref (a 9)) (C := RX4) (T := TX4) (N := 23) hx hb hts hinX4 hown hK hP 0 rfl rfl 14 (by decide) hf39 (fun _ h9 => h9) rfl dX4_haulOf_11 ?_
        refine lv_iload_n hx hb dX4_haulOf_14 rfl (lv_at hl 2 rfl) ?_
        have hi15 := hw.1
        have hw := hw.2
        refine va_iald (f := (g_MD_loads σ)) (n := 20) hx hb hK hP 9 0 rfl rfl hi15 dX4_haulOf_15 ?_
        refine lv_iload_n hx hb dX4_haulOf_16 rfl (lv_at hl 1 rfl) ?_
        refine lv_icmp_ne (tgt := 32) hx hb dX4_haulOf_17 (by decide) (fun c17 => ?_) (fun c17 => ?_)
        · have hw := hw.2 c17
          exact B32 _ ih _ _ _ hw _ _ ls (lv_sub hl [0, 1, 2] rfl) hP hD hS
        · have hw := hw.1 c17
          refine lv_aload_n hx hb dX4_haulOf_20 rfl (lv_at hl 0 rfl) ?_
          refine va_get (D := D) (ci := 4) (v := .ref (a 11)) (C := RX4) (T := TX4) (N := 23) hx hb hts hinX4 hown hK hP 0 rfl rfl 16 (by decide) hf45 (fun _ h9 => h9) rfl dX4_haulOf_21 ?_
          refine lv_iload_n hx hb dX4_haulOf_24 rfl (lv_at hl 2 rfl) ?_
          have hi25 := hw.1
          have hw := hw.2
          refine va_iald (f := (g_MD_states σ)) (n := 20) hx hb hK hP 11 0 rfl rfl hi25 dX4_haulOf_25 ?_
          refine lv_iconst (v := (1 : Int32)) hx hb dX4_haulOf_26 (by decide) ?_
          refine lv_icmp_gt (tgt := 32) hx hb dX4_haulOf_27 (by decide) (fun c27 => ?_) (fun c27 => ?_)
          · have hw := hw.1 c27
            exact B32 _ ih _ _ _ hw _ _ ls (lv_sub hl [0, 1, 2] rfl) hP hD hS
          · have hw := hw.2 c27
            refine lv_iload_n hx hb dX4_haulOf_30 rfl (lv_at hl 2 rfl) ?_
            exact rI (wf := (ws_MD cs a)) (u := σ) hx hb hr hlocks hK hP hD hS hw dX4_haulOf_31
  have hl := lv_entry ([.ref (a 0), .int p1]) (n := 3) (Nat.le_of_ble_eq_true rfl)
  rw [lg_entry_eq]
  generalize (lg_sl ([.ref (a 0), .int p1]) ++ List.replicate (3 - (lg_sl ([.ref (a 0), .int p1])).length) Slot.unset).toArray = ls at hl ⊢
  have hl : lv_has ls 3 [(0, .ref (a 0)), (1, .int p1)] := hl
  unfold w_M_haulOf at hw
  refine lv_iconst (v := (0 : Int32)) hx hb dX4_haulOf_0 (by decide) ?_
  refine lv_istore_n (lv' := [(2, .int (0 : Int32)), (0, .ref (a 0)), (1, .int p1)]) hx hb dX4_haulOf_1 rfl hl (by decide) rfl (fun ls hl => ?_)
  obtain ⟨n, hw⟩ := hw
  exact B2 n _ _ _ hw _ _ ls (lv_sub hl [1, 2, 0] rfl) hP hD hS
