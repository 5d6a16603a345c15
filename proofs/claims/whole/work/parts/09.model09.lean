abbrev rm_M_offer : Room := { frames := 2, cells := 0, slots := 0, locals := 43 }
set_option maxHeartbeats 4000000 in
set_option maxRecDepth 100000 in
theorem c_M_offer (l : Launch) (D : va_G) (cs : CS) (a : Nat → Nat) (sz : Nat) (σ : MD) (p1 : Int32) (p2 : Int32) {Φ : Int32 → MD → Prop} (hw : w_M_offer σ p1 p2 Φ) : Met l yX4_offer wsX4_offer rm_M_offer (PcG [.ref (a 0), .int p1, .int p2] D cs (ws_MD cs a σ) sz) (va_Qi Φ (BG D cs (va_A (ws_MD cs a σ) sz) sz (ws_MD cs a)) (va_A (ws_MD cs a σ) sz)) 0 0 (va_A (ws_MD cs a σ) sz) := by
  refine Met.ofW (cc := cX4_offer) (maxL := 5) (ret := (some .int)) (by decide) rfl ?_
  intro p e s m args below meth c s₁ B hml hv
  obtain ⟨rfl, hsz, hP, hK, hD0⟩ := hv
  have hx := B.exec
  have hb := B.bytes
  have hr := B.returns
  have hts := atoms_spec (ws := wsX4_offer) B.pre
  have hown : s.vm.findClass RX4 = some m.cls := findClass_of_methodNamed B.named
  have hlocks := B.notSynchronized
  subst hsz
  have hD := hD0.self (sz := s.heap.size)
  generalize hAe : va_A (ws_MD cs a σ) s.heap.size = A at hD ⊢
  have hA : ∀ q : Nat, s.heap.size ≤ q → A q := fun q h => by rw [← hAe]; exact Or.inr h
  have hS : va_S A s.heap s.heap [] := va_S.rf
  have hf148 : (Cond.fieldLink RX4 148 "CraneYardModel" "today" "I").before ([.ref (a 0), .int p1, .int p2] : List Value).toArray s = true := hts _ (List.mem_of_getElem? (i := 2) rfl)
  have hf39 : (Cond.fieldLink RX4 39 "CraneYardModel" "loads" "[I").before ([.ref (a 0), .int p1, .int p2] : List Value).toArray s = true := hts _ (List.mem_of_getElem? (i := 3) rfl)
  have hf42 : (Cond.fieldLink RX4 42 "CraneYardModel" "lastDays" "[I").before ([.ref (a 0), .int p1, .int p2] : List Value).toArray s = true := hts _ (List.mem_of_getElem? (i := 4) rfl)
  have hf45 : (Cond.fieldLink RX4 45 "CraneYardModel" "states" "[I").before ([.ref (a 0), .int p1, .int p2] : List Value).toArray s = true := hts _ (List.mem_of_getElem? (i := 5) rfl)
  have hf64 : (Cond.fieldLink RX4 64 "CraneYardModel" "hauls" "I").before ([.ref (a 0), .int p1, .int p2] : List Value).toArray s = true := hts _ (List.mem_of_getElem? (i := 1) rfl)
  have hinX4 : ∀ w ∈ wsX40, w ∈ wsX4_offer := fun _ h => List.mem_cons_of_mem _ (List.mem_append_right _ h)
  have hP : va_P D vwCl (ws_MD cs a σ) s.heap := hP
  have B89 : ∀ (x1 : Int32) (x2 : Int32) (t1 : Int32) (σ : MD), b_M_offer_89 Φ x1 x2 t1 σ → At p l e (headSpec wsX4_offer rm_M_offer).room s m ([.ref (a 0), .int p1, .int p2] : List Value).toArray below meth c (MQ below (va_Qi Φ (BG D cs A s.heap.size (ws_MD cs a)) A) ([.ref (a 0), .int p1, .int p2] : List Value).toArray s 0 0 A) D A 5 [(0, .ref (a 0)), (1, .int x1), (2, .int x2)] (ws_MD cs a σ) 89 [.int t1, .ref (a 0)] := by
    intro x1 x2 t1 σ hw H locs ls hl hP hD hS
    unfold b_M_offer_89 at hw
    refine kVi (As := [.int t1]) (rest := []) ⟨hx, hb, hml, hown, hts⟩ (c_M_goesWell l D cs a _ σ t1 hw) (cwV 1 hts gX4_offer_X4_goesWell rfl rfl rfl (by decide +kernel) ⟨Nat.le_of_ble_eq_true rfl, Nat.le_of_ble_eq_true rfl⟩) (pt_self_MD cs a σ) hK hP hD hS hA (ci := 4) rfl rfl rfl rfl hl.1 rfl (Nat.le_of_ble_eq_true rfl) dX4_offer_89 ⟨Nat.zero_le _, Nat.zero_le _⟩ (fun r89 u89 H locs hw hP hD hS => ?_)
    have hP : va_P D vwCl (ws_MD cs a u89) H := hP
    have hD : va_D A (ws_MD cs a u89) := hD
    refine lv_if_ne (tgt := 97) hx hb dX4_offer_92 (by decide) (fun c92 => ?_) (fun c92 => ?_)
    · have hw := hw.2 c92
      refine lv_aload_n hx hb dX4_offer_97 rfl (lv_at hl 0 rfl) ?_
      refine va_get (D := D) (ci := 4) (v := .ref (a 9)) (C := RX4) (T := TX4) (N := 23) hx hb hts hinX4 hown hK hP 0 rfl rfl 14 (by decide) hf39 (fun _ h9 => h9) rfl dX4_offer_98 ?_
      refine lv_aload_n hx hb dX4_offer_101 rfl (lv_at hl 0 rfl) ?_
      refine va_get (D := D) (ci := 4) (v := .int (g_MD_hauls u89)) (C := RX4) (T := TX4) (N := 23) hx hb hts hinX4 hown hK hP 0 rfl rfl 19 (by decide) hf64 (fun _ h9 => h9) rfl dX4_offer_102 ?_
      refine lv_iload_n hx hb dX4_offer_105 rfl (lv_at hl 1 rfl) ?_
      have hi106 := hw.1
      have hw := hw.2
      refine va_iast (f := (g_MD_loads u89)) (n := 20) (x := x1) hx hb hK hP hD hS 9 0 rfl rfl hi106 dX4_offer_106 (fun H locs hP hD hS => ?_)
      have hP : va_P D vwCl (ws_MD cs a (s_MD_loads u89 (upd (g_MD_loads u89) ((g_MD_hauls u89)).toNatClampNeg x1))) H := hP
      have hD : va_D A (ws_MD cs a (s_MD_loads u89 (upd (g_MD_loads u89) ((g_MD_hauls u89)).toNatClampNeg x1))) := hD
      obtain ⟨z1, ez1⟩ : ∃ z : MD, z = (s_MD_loads u89 (upd (g_MD_loads u89) ((g_MD_hauls u89)).toNatClampNeg x1)) := ⟨_, rfl⟩
      have hw := hw z1 ez1
      rw [← ez1] at hP hD
      refine lv_aload_n hx hb dX4_offer_107 rfl (lv_at hl 0 rfl) ?_
      refine va_get (D := D) (ci := 4) (v := .ref (a 10)) (C := RX4) (T := TX4) (N := 23) hx hb hts hinX4 hown hK hP 0 rfl rfl 15 (by decide) hf42 (fun _ h9 => h9) rfl dX4_offer_108 ?_
      refine lv_aload_n hx hb dX4_offer_111 rfl (lv_at hl 0 rfl) ?_
      refine va_get (D := D) (ci := 4) (v := .int (g_MD_hauls z1)) (C := RX4) (T := TX4) (N := 23) hx hb hts hinX4 hown hK hP 0 rfl rfl 19 (by decide) hf64 (fun _ h9 => h9) rfl dX4_offer_112 ?_
      refine lv_iload_n hx hb dX4_offer_115 rfl (lv_at hl 2 rfl) ?_
      have hi116 := hw.1
      have hw := hw.2
      refine va_iast (f := (g_MD_lastDays z1)) (n := 20) (x := x2) hx hb hK hP hD hS 10 0 rfl rfl hi116 dX4_offer_116 (fun H locs hP hD hS => ?_)
      have hP : va_P D vwCl (ws_MD cs a (s_MD_lastDays z1 (upd (g_MD_lastDays z1) ((g_MD_hauls z1)).toNatClampNeg x2))) H := hP
      have hD : va_D A (ws_MD cs a (s_MD_lastDays z1 (upd (g_MD_lastDays z1) ((g_MD_hauls z1)).toNatClampNeg x2))) := hD
      obtain ⟨z2, ez2⟩ : ∃ z : MD, z = (s_MD_lastDays z1 (upd (g_MD_lastDays z1) ((g_MD_hauls z1)).toNatClampNeg x2)) := ⟨_, rfl⟩
      have hw := hw z2 ez2
      rw [← ez2] at hP hD
      refine lv_aload_n hx hb dX4_offer_117 rfl (lv_at hl 0 rfl) ?_
      refine va_get (D := D) (ci := 4) (v := .ref (a 11)) (C := RX4) (T := TX4) (N := 23) hx hb hts hinX4 hown hK hP 0 rfl rfl 16 (by decide) hf45 (fun _ h9 => h9) rfl dX4_offer_118 ?_
      refine lv_aload_n hx hb dX4_offer_121 rfl (lv_at hl 0 rfl) ?_
      refine va_get (D := D) (ci := 4) (v := .int (g_MD_hauls z2)) (C := RX4) (T := TX4) (N := 23) hx hb hts hinX4 hown hK hP 0 rfl rfl 19 (by decide) hf64 (fun _ h9 => h9) rfl dX4_offer_122 ?_
      refine lv_iconst (v := (0 : Int32)) hx hb dX4_offer_125 (by decide) ?_
      have hi126 := hw.1
      have hw := hw.2
      refine va_iast (f := (g_MD_states z2)) (n := 20) (x := (0 : Int32)) hx hb hK hP hD hS 11 0 rfl rfl hi126 dX4_offer_126 (fun H locs hP hD hS => ?_)
      have hP : va_P D vwCl (ws_MD cs a (s_MD_states z2 (upd (g_MD_states z2) ((g_MD_hauls z2)).toNatClampNeg (0 : Int32)))) H := hP
      have hD : va_D A (ws_MD cs a (s_MD_states z2 (upd (g_MD_states z2) ((g_MD_hauls z2)).toNatClampNeg (0 : Int32)))) := hD
      obtain ⟨z3, ez3⟩ : ∃ z : MD, z = (s_MD_states z2 (upd (g_MD_states z2) ((g_MD_hauls z2)).toNatClampNeg (0 : Int32))) := ⟨_, rfl⟩
      have hw := hw z3 ez3
      rw [← ez3] at hP hD
      refine lv_aload_n hx hb dX4_offer_127 rfl (lv_at hl 0 rfl) ?_
      refine lv_dup hx hb dX4_offer_128 rfl ?_
      refine va_get (D := D) (ci := 4) (v := .int (g_MD_hauls z3)) (C := RX4) (T := TX4) (N := 23) hx hb hts hinX4 hown hK hP 0 rfl rfl 19 (by decide) hf64 (fun _ h9 => h9) rfl dX4_offer_129 ?_
      refine lv_iconst (v := (1 : Int32)) hx hb dX4_offer_132 (by decide) ?_
      refine lv_iadd hx hb dX4_offer_133 ?_
      refine lv_topi (fun y4 ey4 => ?_)
      have hw := hw y4 ey4
      refine va_put (D := D) (ci := 4) (v := .int y4) (ty := .int) (C := RX4) (T := TX4) (N := 23) hx hb hts hinX4 tyX4 tyX4_ok nmX4 hown hK hP hD hS 0 rfl rfl 19 (by decide) hf64 (fun _ h9 => h9) rfl (by decide +kernel) rfl rfl (Nat.le_of_ble_eq_true rfl) dX4_offer_134 (fun H locs hP hD hS => ?_)
      have hP : va_P D vwCl (ws_MD cs a (s_MD_hauls z3 y4)) H := hP
      have hD : va_D A (ws_MD cs a (s_MD_hauls z3 y4)) := hD
      obtain ⟨z5, ez5⟩ : ∃ z : MD, z = (s_MD_hauls z3 y4) := ⟨_, rfl⟩
      have hw := hw z5 ez5
      rw [← ez5] at hP hD
      refine lv_aload_n hx hb dX4_offer_137 rfl (lv_at hl 0 rfl) ?_
      refine va_get (D := D) (ci := 4) (v := .int (g_MD_hauls z5)) (C := RX4) (T := TX4) (N := 23) hx hb hts hinX4 hown hK hP 0 rfl rfl 19 (by decide) hf64 (fun _ h9 => h9) rfl dX4_offer_138 ?_
      refine lv_iconst (v := (1 : Int32)) hx hb dX4_offer_141 (by decide) ?_
      refine lv_isub hx hb dX4_offer_142 ?_
      exact rI (wf := (ws_MD cs a)) (u := z5) hx hb hr hlocks hK hP hD hS hw dX4_offer_143
    · have hw := hw.1 c92
      refine lv_iconst (v := (0 : Int32)) hx hb dX4_offer_95 (by decide) ?_
      exact rI (wf := (ws_MD cs a)) (u := u89) hx hb hr hlocks hK hP hD hS hw dX4_offer_96
  have B46 : ∀ (x1 : Int32) (x2 : Int32) (x3 : Int32) (t0 : Int32) (σ : MD), b_M_offer_46 Φ x1 x2 x3 t0 σ → At p l e (headSpec wsX4_offer rm_M_offer).room s m ([.ref (a 0), .int p1, .int p2] : List Value).toArray below meth c (MQ below (va_Qi Φ (BG D cs A s.heap.size (ws_MD cs a)) A) ([.ref (a 0), .int p1, .int p2] : List Value).toArray s 0 0 A) D A 5 [(0, .ref (a 0)), (1, .int x1), (2, .int x2), (3, .int x3)] (ws_MD cs a σ) 46 [.int t0] := by
    intro x1 x2 x3 t0 σ hw H locs ls hl hP hD hS
    unfold b_M_offer_46 at hw
    refine lv_istore (lv' := [(4, .int t0), (0, .ref (a 0)), (1, .int x1), (2, .int x2), (3, .int x3)]) hx hb dX4_offer_46 hl (by decide) rfl (fun ls hl => ?_)
    refine lv_aload_n hx hb dX4_offer_48 rfl (lv_at hl 1 rfl) ?_
    refine lv_iload_n hx hb dX4_offer_49 rfl (lv_at hl 4 rfl) ?_
    refine lv_if_ne (tgt := 57) hx hb dX4_offer_50 (by decide) (fun c50 => ?_) (fun c50 => ?_)
    · have hw := hw.2 c50
      refine lv_iload_n hx hb dX4_offer_57 rfl (lv_at hl 3 rfl) ?_
      refine lv_aload_n hx hb dX4_offer_58 rfl (lv_at hl 1 rfl) ?_
      refine va_get (D := D) (ci := 4) (v := .int (g_MD_today σ)) (C := RX4) (T := TX4) (N := 23) hx hb hts hinX4 hown hK hP 0 rfl rfl 20 (by decide) hf148 (fun _ h9 => h9) rfl dX4_offer_59 ?_
      refine lv_aload_n hx hb dX4_offer_62 rfl (lv_at hl 1 rfl) ?_
      refine va_get (D := D) (ci := 4) (v := .int (g_MD_today σ)) (C := RX4) (T := TX4) (N := 23) hx hb hts hinX4 hown hK hP 0 rfl rfl 20 (by decide) hf148 (fun _ h9 => h9) rfl dX4_offer_63 ?_
      refine lv_bipush (v := (100 : Int32)) hx hb dX4_offer_66 (by decide) ?_
      refine lv_iadd hx hb dX4_offer_68 ?_
      refine kSi (As := [.int x2, .int (g_MD_today σ), .int ((g_MD_today σ) + (100 : Int32))]) (rest := [.ref (a 0)]) ⟨hx, hb, hml, hown, hts⟩ (c_M_in l D cs a _ x2 (g_MD_today σ) ((g_MD_today σ) + (100 : Int32)) hw) (va_cwS 3 hts gX4_offer_X4_in rfl rfl rfl (by decide +kernel) ⟨Nat.le_of_ble_eq_true rfl, Nat.le_of_ble_eq_true rfl⟩) (pt_un_MD cs a σ) hK hP hD hS hA rfl hl.1 rfl (Nat.le_of_ble_eq_true rfl) dX4_offer_69 ⟨Nat.zero_le _, Nat.zero_le _⟩ (fun r69 u69 H locs hw hP hD hS => ?_)
      have hP : va_P D vwCl (ws_MD cs a σ) H := hP
      have hD : va_D A (ws_MD cs a σ) := hD
      refine lv_if_ne (tgt := 79) hx hb dX4_offer_72 (by decide) (fun c72 => ?_) (fun c72 => ?_)
      · have hw := hw.2 c72
        refine lv_iload hx hb dX4_offer_79 (lv_at hl 0 rfl) ?_
        refine lv_if_eq (tgt := 88) hx hb dX4_offer_81 (by decide) (fun c81 => ?_) (fun c81 => ?_)
        · have hw := hw.1 c81
          refine lv_iconst (v := (3 : Int32)) hx hb dX4_offer_88 (by decide) ?_
          exact B89 _ _ _ _ hw _ _ ls (lv_sub hl [1, 2, 3] rfl) hP hD hS
        · have hw := hw.2 c81
          refine lv_iconst (v := (0 : Int32)) hx hb dX4_offer_84 (by decide) ?_
          refine lv_goto (tgt := 89) hx hb dX4_offer_85 (by decide) ?_
          exact B89 _ _ _ _ hw _ _ ls (lv_sub hl [1, 2, 3] rfl) hP hD hS
      · have hw := hw.1 c72
        refine lv_iconst (v := (2 : Int32)) hx hb dX4_offer_75 (by decide) ?_
        refine lv_goto (tgt := 89) hx hb dX4_offer_76 (by decide) ?_
        exact B89 _ _ _ _ hw _ _ ls (lv_sub hl [1, 2, 3] rfl) hP hD hS
    · have hw := hw.1 c50
      refine lv_iconst (v := (1 : Int32)) hx hb dX4_offer_53 (by decide) ?_
      refine lv_goto (tgt := 89) hx hb dX4_offer_54 (by decide) ?_
      exact B89 _ _ _ _ hw _ _ ls (lv_sub hl [1, 2, 3] rfl) hP hD hS
  have B45 : ∀ (x1 : Int32) (x2 : Int32) (x3 : Int32) (σ : MD), b_M_offer_45 Φ x1 x2 x3 σ → At p l e (headSpec wsX4_offer rm_M_offer).room s m ([.ref (a 0), .int p1, .int p2] : List Value).toArray below meth c (MQ below (va_Qi Φ (BG D cs A s.heap.size (ws_MD cs a)) A) ([.ref (a 0), .int p1, .int p2] : List Value).toArray s 0 0 A) D A 5 [(0, .ref (a 0)), (1, .int x1), (2, .int x2), (3, .int x3)] (ws_MD cs a σ) 45 [] := by
    intro x1 x2 x3 σ hw H locs ls hl hP hD hS
    unfold b_M_offer_45 at hw
    refine lv_iconst (v := (0 : Int32)) hx hb dX4_offer_45 (by decide) ?_
    exact B46 _ _ _ _ _ hw _ _ ls (lv_sub hl [0, 1, 2, 3] rfl) hP hD hS
  have hl := lv_entry ([.ref (a 0), .int p1, .int p2]) (n := 5) (Nat.le_of_ble_eq_true rfl)
  rw [lg_entry_eq]
  generalize (lg_sl ([.ref (a 0), .int p1, .int p2]) ++ List.replicate (5 - (lg_sl ([.ref (a 0), .int p1, .int p2])).length) Slot.unset).toArray = ls at hl ⊢
  have hl : lv_has ls 5 [(0, .ref (a 0)), (1, .int p1), (2, .int p2)] := hl
  unfold w_M_offer at hw
  refine lv_aload_n hx hb dX4_offer_0 rfl (lv_at hl 0 rfl) ?_
  refine lv_iload_n hx hb dX4_offer_1 rfl (lv_at hl 1 rfl) ?_
  refine kVi (As := [.int p1]) (rest := []) ⟨hx, hb, hml, hown, hts⟩ (c_M_isCrate l D cs a _ σ p1 hw) (cwV 1 hts gX4_offer_X4_isCrate rfl rfl rfl (by decide +kernel) ⟨Nat.le_of_ble_eq_true rfl, Nat.le_of_ble_eq_true rfl⟩) (pt_self_MD cs a σ) hK hP hD hS hA (ci := 4) rfl rfl rfl rfl hl.1 rfl (Nat.le_of_ble_eq_true rfl) dX4_offer_2 ⟨Nat.zero_le _, Nat.zero_le _⟩ (fun r2 u2 H locs hw hP hD hS => ?_)
  have hP : va_P D vwCl (ws_MD cs a u2) H := hP
  have hD : va_D A (ws_MD cs a u2) := hD
  refine lv_istore_n (lv' := [(3, .int r2), (0, .ref (a 0)), (1, .int p1), (2, .int p2)]) hx hb dX4_offer_5 rfl hl (by decide) rfl (fun ls hl => ?_)
  refine lv_aload_n hx hb dX4_offer_6 rfl (lv_at hl 1 rfl) ?_
  refine kVv (As := []) (rest := []) ⟨hx, hb, hml, hown, hts⟩ (c_M_copyYard l D cs a _ u2 hw) (cwV 0 hts gX4_offer_X4_copyYard rfl rfl rfl (by decide +kernel) ⟨Nat.le_of_ble_eq_true rfl, Nat.le_of_ble_eq_true rfl⟩) (pt_self_MD cs a u2) hK hP hD hS hA (ci := 4) rfl rfl rfl rfl hl.1 rfl (Nat.le_of_ble_eq_true rfl) dX4_offer_7 ⟨Nat.zero_le _, Nat.zero_le _⟩ (fun u7 H locs hw hP hD hS => ?_)
  have hP : va_P D vwCl (ws_MD cs a u7) H := hP
  have hD : va_D A (ws_MD cs a u7) := hD
  refine lv_iload_n hx hb dX4_offer_10 rfl (lv_at hl 0 rfl) ?_
  refine lv_if_eq (tgt := 45) hx hb dX4_offer_11 (by decide) (fun c11 => ?_) (fun c11 => ?_)
  · have hw := hw.1 c11
    exact B45 _ _ _ _ hw _ _ ls (lv_sub hl [1, 2, 3, 0] rfl) hP hD hS
  · have hw := hw.2 c11
    refine lv_aload_n hx hb dX4_offer_14 rfl (lv_at hl 1 rfl) ?_
    refine lv_iload_n hx hb dX4_offer_15 rfl (lv_at hl 2 rfl) ?_
    refine kVi (As := [.int p1]) (rest := []) ⟨hx, hb, hml, hown, hts⟩ (c_M_find l D cs a _ u7 p1 hw) (cwV 1 hts gX4_offer_X4_find rfl rfl rfl (by decide +kernel) ⟨Nat.le_of_ble_eq_true rfl, Nat.le_of_ble_eq_true rfl⟩) (pt_self_MD cs a u7) hK hP hD hS hA (ci := 4) rfl rfl rfl rfl hl.1 rfl (Nat.le_of_ble_eq_true rfl) dX4_offer_16 ⟨Nat.zero_le _, Nat.zero_le _⟩ (fun r16 u16 H locs hw hP hD hS => ?_)
    have hP : va_P D vwCl (ws_MD cs a u16) H := hP
    have hD : va_D A (ws_MD cs a u16) := hD
    refine lv_iconst (v := (-1 : Int32)) hx hb dX4_offer_19 (by decide) ?_
    refine lv_icmp_eq (tgt := 45) hx hb dX4_offer_20 (by decide) (fun c20 => ?_) (fun c20 => ?_)
    · have hw := hw.1 c20
      exact B45 _ _ _ _ hw _ _ ls (lv_sub hl [1, 2, 3, 0] rfl) hP hD hS
    · have hw := hw.2 c20
      refine lv_aload_n hx hb dX4_offer_23 rfl (lv_at hl 1 rfl) ?_
      refine lv_iload_n hx hb dX4_offer_24 rfl (lv_at hl 2 rfl) ?_
      refine kVi (As := [.int p1]) (rest := []) ⟨hx, hb, hml, hown, hts⟩ (c_M_haulOf l D cs a _ u16 p1 hw) (cwV 1 hts gX4_offer_X4_haulOf rfl rfl rfl (by decide +kernel) ⟨Nat.le_of_ble_eq_true rfl, Nat.le_of_ble_eq_true rfl⟩) (pt_self_MD cs a u16) hK hP hD hS hA (ci := 4) rfl rfl rfl rfl hl.1 rfl (Nat.le_of_ble_eq_true rfl) dX4_offer_25 ⟨Nat.zero_le _, Nat.zero_le _⟩ (fun r25 u25 H locs hw hP hD hS => ?_)
      have hP : va_P D vwCl (ws_MD cs a u25) H := hP
      have hD : va_D A (ws_MD cs a u25) := hD
      refine lv_iconst (v := (-1 : Int32)) hx hb dX4_offer_28 (by decide) ?_
      refine lv_icmp_ne (tgt := 45) hx hb dX4_offer_29 (by decide) (fun c29 => ?_) (fun c29 => ?_)
      · have hw := hw.2 c29
        exact B45 _ _ _ _ hw _ _ ls (lv_sub hl [1, 2, 3, 0] rfl) hP hD hS
      · have hw := hw.1 c29
        refine lv_aload_n hx hb dX4_offer_32 rfl (lv_at hl 1 rfl) ?_
        refine va_get (D := D) (ci := 4) (v := .int (g_MD_hauls u25)) (C := RX4) (T := TX4) (N := 23) hx hb hts hinX4 hown hK hP 0 rfl rfl 19 (by decide) hf64 (fun _ h9 => h9) rfl dX4_offer_33 ?_
        refine lv_bipush (v := (20 : Int32)) hx hb dX4_offer_36 (by decide) ?_
        refine lv_icmp_ge (tgt := 45) hx hb dX4_offer_38 (by decide) (fun c38 => ?_) (fun c38 => ?_)
        · have hw := hw.1 c38
          exact B45 _ _ _ _ hw _ _ ls (lv_sub hl [1, 2, 3, 0] rfl) hP hD hS
        · have hw := hw.2 c38
          refine lv_iconst (v := (1 : Int32)) hx hb dX4_offer_41 (by decide) ?_
          refine lv_goto (tgt := 46) hx hb dX4_offer_42 (by decide) ?_
          exact B46 _ _ _ _ _ hw _ _ ls (lv_sub hl [1, 2, 3, 0] rfl) hP hD hS
abbrev rm_M_bid : Room := { frames := 2, cells := 0, slots := 0, locals := 43 }
set_option maxHeartbeats 4000000 in
set_option maxRecDepth 100000 in
theorem c_M_bid (l : Launch) (D : va_G) (cs : CS) (a : Nat → Nat) (sz : Nat) (σ : MD) (p1 : Int32) (p2 : Int32) (p3 : Int32) {Φ : MD → Prop} (hw : w_M_bid σ p1 p2 p3 Φ) : Met l yX4_bid wsX4_bid rm_M_bid (PcG [.ref (a 0), .int p1, .int p2, .int p3] D cs (ws_MD cs a σ) sz) (va_Qv Φ (BG D cs (va_A (ws_MD cs a σ) sz) sz (ws_MD cs a)) (va_A (ws_MD cs a σ) sz)) 0 0 (va_A (ws_MD cs a σ) sz) := by
  refine Met.ofW (cc := cX4_bid) (maxL := 7) (ret := none) (by decide) rfl ?_
  intro p e s m args below meth c s₁ B hml hv
  obtain ⟨rfl, hsz, hP, hK, hD0⟩ := hv
  have hx := B.exec
  have hb := B.bytes
  have hr := B.returns
  have hts := atoms_spec (ws := wsX4_bid) B.pre
  have hown : s.vm.findClass RX4 = some m.cls := findClass_of_methodNamed B.named
  have hlocks := B.notSynchronized
  subst hsz
  have hD := hD0.self (sz := s.heap.size)
  generalize hAe : va_A (ws_MD cs a σ) s.heap.size = A at hD ⊢
  have hA : ∀ q : Nat, s.heap.size ≤ q → A q := fun q h => by rw [← hAe]; exact Or.inr h
  have hS : va_S A s.heap s.heap [] := va_S.rf
  have hf45 : (Cond.fieldLink RX4 45 "CraneYardModel" "states" "[I").before ([.ref (a 0), .int p1, .int p2, .int p3] : List Value).toArray s = true := hts _ (List.mem_of_getElem? (i := 1) rfl)
  have hf51 : (Cond.fieldLink RX4 51 "CraneYardModel" "bids" "[I").before ([.ref (a 0), .int p1, .int p2, .int p3] : List Value).toArray s = true := hts _ (List.mem_of_getElem? (i := 2) rfl)
  have hinX4 : ∀ w ∈ wsX40, w ∈ wsX4_bid := fun _ h => List.mem_cons_of_mem _ (List.mem_append_right _ h)
  have hP : va_P D vwCl (ws_MD cs a σ) s.heap := hP
  have B119 : ∀ (σ : MD), b_M_bid_119 Φ σ → At p l e (headSpec wsX4_bid rm_M_bid).room s m ([.ref (a 0), .int p1, .int p2, .int p3] : List Value).toArray below meth c (MQ below (va_Qv Φ (BG D cs A s.heap.size (ws_MD cs a)) A) ([.ref (a 0), .int p1, .int p2, .int p3] : List Value).toArray s 0 0 A) D A 7 [] (ws_MD cs a σ) 119 [] := by
    intro σ hw H locs ls hl hP hD hS
    unfold b_M_bid_119 at hw
    exact rV (wf := (ws_MD cs a)) (u := σ) hx hb hr hlocks hK hP hD hS hw dX4_bid_119
  have B102 : ∀ (x1 : Int32) (x2 : Int32) (x3 : Int32) (t1 : Int32) (σ : MD), b_M_bid_102 Φ x1 x2 x3 t1 σ → At p l e (headSpec wsX4_bid rm_M_bid).room s m ([.ref (a 0), .int p1, .int p2, .int p3] : List Value).toArray below meth c (MQ below (va_Qv Φ (BG D cs A s.heap.size (ws_MD cs a)) A) ([.ref (a 0), .int p1, .int p2, .int p3] : List Value).toArray s 0 0 A) D A 7 [(0, .ref (a 0)), (1, .int x1), (2, .int x2), (3, .int x3)] (ws_MD cs a σ) 102 [.int t1, .ref (a 0)] := by
    intro x1 x2 x3 t1 σ hw H locs ls hl hP hD hS
    unfold b_M_bid_102 at hw
    refine kVi (As := [.int t1]) (rest := []) ⟨hx, hb, hml, hown, hts⟩ (c_M_goesWell l D cs a _ σ t1 hw) (cwV 1 hts gX4_bid_X4_goesWell rfl rfl rfl (by decide +kernel) ⟨Nat.le_of_ble_eq_true rfl, Nat.le_of_ble_eq_true rfl⟩) (pt_self_MD cs a σ) hK hP hD hS hA (ci := 4) rfl rfl rfl rfl hl.1 rfl (Nat.le_of_ble_eq_true rfl) dX4_bid_102 ⟨Nat.zero_le _, Nat.zero_le _⟩ (fun r102 u102 H locs hw hP hD hS => ?_)
    have hP : va_P D vwCl (ws_MD cs a u102) H := hP
    have hD : va_D A (ws_MD cs a u102) := hD
    refine lv_if_eq (tgt := 119) hx hb dX4_bid_105 (by decide) (fun c105 => ?_) (fun c105 => ?_)
    · have hw := hw.1 c105
      exact B119 _ hw _ _ ls (lv_sub hl [] rfl) hP hD hS
    · have hw := hw.2 c105
      refine lv_aload_n hx hb dX4_bid_108 rfl (lv_at hl 0 rfl) ?_
      refine va_get (D := D) (ci := 4) (v := .ref (a 13)) (C := RX4) (T := TX4) (N := 23) hx hb hts hinX4 hown hK hP 0 rfl rfl 18 (by decide) hf51 (fun _ h9 => h9) rfl dX4_bid_109 ?_
      refine lv_iconst (v := (4 : Int32)) hx hb dX4_bid_112 (by decide) ?_
      refine lv_iload_n hx hb dX4_bid_113 rfl (lv_at hl 1 rfl) ?_
      refine lv_imul hx hb dX4_bid_114 ?_
      refine lv_iload_n hx hb dX4_bid_115 rfl (lv_at hl 2 rfl) ?_
      refine lv_iadd hx hb dX4_bid_116 ?_
      refine lv_iload_n hx hb dX4_bid_117 rfl (lv_at hl 3 rfl) ?_
      have hi118 := hw.1
      have hw := hw.2
      refine va_iast (f := (g_MD_bids u102)) (n := 80) (x := x3) hx hb hK hP hD hS 13 0 rfl rfl hi118 dX4_bid_118 (fun H locs hP hD hS => ?_)
      have hP : va_P D vwCl (ws_MD cs a (s_MD_bids u102 (upd (g_MD_bids u102) ((((4 : Int32) * x1) + x2)).toNatClampNeg x3))) H := hP
      have hD : va_D A (ws_MD cs a (s_MD_bids u102 (upd (g_MD_bids u102) ((((4 : Int32) * x1) + x2)).toNatClampNeg x3))) := hD
      obtain ⟨z1, ez1⟩ : ∃ z : MD, z = (s_MD_bids u102 (upd (g_MD_bids u102) ((((4 : Int32) * x1) + x2)).toNatClampNeg x3)) := ⟨_, rfl⟩
      have hw := hw z1 ez1
      rw [← ez1] at hP hD
      exact B119 _ hw H locs ls (lv_sub hl [] rfl) hP hD hS
  have B71 : ∀ (x1 : Int32) (x2 : Int32) (x3 : Int32) (x4 : Int32) (x5 : Int32) (t0 : Int32) (σ : MD), b_M_bid_71 Φ x1 x2 x3 x4 x5 t0 σ → At p l e (headSpec wsX4_bid rm_M_bid).room s m ([.ref (a 0), .int p1, .int p2, .int p3] : List Value).toArray below meth c (MQ below (va_Qv Φ (BG D cs A s.heap.size (ws_MD cs a)) A) ([.ref (a 0), .int p1, .int p2, .int p3] : List Value).toArray s 0 0 A) D A 7 [(0, .ref (a 0)), (1, .int x1), (2, .int x2), (3, .int x3), (4, .int x4), (5, .int x5)] (ws_MD cs a σ) 71 [.int t0] := by
    intro x1 x2 x3 x4 x5 t0 σ hw H locs ls hl hP hD hS
    unfold b_M_bid_71 at hw
    refine lv_istore (lv' := [(6, .int t0), (0, .ref (a 0)), (1, .int x1), (2, .int x2), (3, .int x3), (4, .int x4), (5, .int x5)]) hx hb dX4_bid_71 hl (by decide) rfl (fun ls hl => ?_)
    refine lv_aload_n hx hb dX4_bid_73 rfl (lv_at hl 1 rfl) ?_
    refine lv_iload hx hb dX4_bid_74 (lv_at hl 5 rfl) ?_
    refine lv_if_ne (tgt := 83) hx hb dX4_bid_76 (by decide) (fun c76 => ?_) (fun c76 => ?_)
    · have hw := hw.2 c76
      refine lv_iload hx hb dX4_bid_83 (lv_at hl 6 rfl) ?_
      refine lv_if_ne (tgt := 92) hx hb dX4_bid_85 (by decide) (fun c85 => ?_) (fun c85 => ?_)
      · have hw := hw.2 c85
        refine lv_iload hx hb dX4_bid_92 (lv_at hl 0 rfl) ?_
        refine lv_if_eq (tgt := 101) hx hb dX4_bid_94 (by decide) (fun c94 => ?_) (fun c94 => ?_)
        · have hw := hw.1 c94
          refine lv_iconst (v := (3 : Int32)) hx hb dX4_bid_101 (by decide) ?_
          exact B102 _ _ _ _ _ hw _ _ ls (lv_sub hl [1, 2, 3, 4] rfl) hP hD hS
        · have hw := hw.2 c94
          refine lv_iconst (v := (0 : Int32)) hx hb dX4_bid_97 (by decide) ?_
          refine lv_goto (tgt := 102) hx hb dX4_bid_98 (by decide) ?_
          exact B102 _ _ _ _ _ hw _ _ ls (lv_sub hl [1, 2, 3, 4] rfl) hP hD hS
      · have hw := hw.1 c85
        refine lv_iconst (v := (2 : Int32)) hx hb dX4_bid_88 (by decide) ?_
        refine lv_goto (tgt := 102) hx hb dX4_bid_89 (by decide) ?_
        exact B102 _ _ _ _ _ hw _ _ ls (lv_sub hl [1, 2, 3, 4] rfl) hP hD hS
    · have hw := hw.1 c76
      refine lv_iconst (v := (1 : Int32)) hx hb dX4_bid_79 (by decide) ?_
      refine lv_goto (tgt := 102) hx hb dX4_bid_80 (by decide) ?_
      exact B102 _ _ _ _ _ hw _ _ ls (lv_sub hl [1, 2, 3, 4] rfl) hP hD hS
  have B70 : ∀ (x1 : Int32) (x2 : Int32) (x3 : Int32) (x4 : Int32) (x5 : Int32) (σ : MD), b_M_bid_70 Φ x1 x2 x3 x4 x5 σ → At p l e (headSpec wsX4_bid rm_M_bid).room s m ([.ref (a 0), .int p1, .int p2, .int p3] : List Value).toArray below meth c (MQ below (va_Qv Φ (BG D cs A s.heap.size (ws_MD cs a)) A) ([.ref (a 0), .int p1, .int p2, .int p3] : List Value).toArray s 0 0 A) D A 7 [(0, .ref (a 0)), (1, .int x1), (2, .int x2), (3, .int x3), (4, .int x4), (5, .int x5)] (ws_MD cs a σ) 70 [] := by
    intro x1 x2 x3 x4 x5 σ hw H locs ls hl hP hD hS
    unfold b_M_bid_70 at hw
    refine lv_iconst (v := (0 : Int32)) hx hb dX4_bid_70 (by decide) ?_
    exact B71 _ _ _ _ _ _ _ hw _ _ ls (lv_sub hl [0, 1, 2, 3, 4, 5] rfl) hP hD hS
  have B32 : ∀ (x1 : Int32) (x2 : Int32) (x3 : Int32) (x4 : Int32) (t0 : Int32) (σ : MD), b_M_bid_32 Φ x1 x2 x3 x4 t0 σ → At p l e (headSpec wsX4_bid rm_M_bid).room s m ([.ref (a 0), .int p1, .int p2, .int p3] : List Value).toArray below meth c (MQ below (va_Qv Φ (BG D cs A s.heap.size (ws_MD cs a)) A) ([.ref (a 0), .int p1, .int p2, .int p3] : List Value).toArray s 0 0 A) D A 7 [(0, .ref (a 0)), (1, .int x1), (2, .int x2), (3, .int x3), (4, .int x4)] (ws_MD cs a σ) 32 [.int t0] := by
    intro x1 x2 x3 x4 t0 σ hw H locs ls hl hP hD hS
    unfold b_M_bid_32 at hw
    refine lv_istore (lv' := [(5, .int t0), (0, .ref (a 0)), (1, .int x1), (2, .int x2), (3, .int x3), (4, .int x4)]) hx hb dX4_bid_32 hl (by decide) rfl (fun ls hl => ?_)
    refine lv_iload hx hb dX4_bid_34 (lv_at hl 5 rfl) ?_
    refine lv_if_eq (tgt := 70) hx hb dX4_bid_36 (by decide) (fun c36 => ?_) (fun c36 => ?_)
    · have hw := hw.1 c36
      exact B70 _ _ _ _ _ _ hw _ _ ls (lv_sub hl [1, 2, 3, 4, 5, 0] rfl) hP hD hS
    · have hw := hw.2 c36
      refine lv_iload hx hb dX4_bid_39 (lv_at hl 0 rfl) ?_
      refine lv_if_eq (tgt := 70) hx hb dX4_bid_41 (by decide) (fun c41 => ?_) (fun c41 => ?_)
      · have hw := hw.1 c41
        exact B70 _ _ _ _ _ _ hw _ _ ls (lv_sub hl [1, 2, 3, 4, 5, 0] rfl) hP hD hS
      · have hw := hw.2 c41
        refine lv_aload_n hx hb dX4_bid_44 rfl (lv_at hl 1 rfl) ?_
        refine va_get (D := D) (ci := 4) (v := .ref (a 11)) (C := RX4) (T := TX4) (N := 23) hx hb hts hinX4 hown hK hP 0 rfl rfl 16 (by decide) hf45 (fun _ h9 => h9) rfl dX4_bid_45 ?_
        refine lv_iload_n hx hb dX4_bid_48 rfl (lv_at hl 2 rfl) ?_
        have hi49 := hw.1
        have hw := hw.2
        refine va_iald (f := (g_MD_states σ)) (n := 20) hx hb hK hP 11 0 rfl rfl hi49 dX4_bid_49 ?_
        refine lv_if_ne (tgt := 70) hx hb dX4_bid_50 (by decide) (fun c50 => ?_) (fun c50 => ?_)
        · have hw := hw.2 c50
          exact B70 _ _ _ _ _ _ hw _ _ ls (lv_sub hl [1, 2, 3, 4, 5, 0] rfl) hP hD hS
        · have hw := hw.1 c50
          refine lv_aload_n hx hb dX4_bid_53 rfl (lv_at hl 1 rfl) ?_
          refine va_get (D := D) (ci := 4) (v := .ref (a 13)) (C := RX4) (T := TX4) (N := 23) hx hb hts hinX4 hown hK hP 0 rfl rfl 18 (by decide) hf51 (fun _ h9 => h9) rfl dX4_bid_54 ?_
          refine lv_iconst (v := (4 : Int32)) hx hb dX4_bid_57 (by decide) ?_
          refine lv_iload_n hx hb dX4_bid_58 rfl (lv_at hl 2 rfl) ?_
          refine lv_imul hx hb dX4_bid_59 ?_
          refine lv_iload_n hx hb dX4_bid_60 rfl (lv_at hl 3 rfl) ?_
          refine lv_iadd hx hb dX4_bid_61 ?_
          have hi62 := hw.1
          have hw := hw.2
          refine va_iald (f := (g_MD_bids σ)) (n := 80) hx hb hK hP 13 0 rfl rfl hi62 dX4_bid_62 ?_
          refine lv_if_ne (tgt := 70) hx hb dX4_bid_63 (by decide) (fun c63 => ?_) (fun c63 => ?_)
          · have hw := hw.2 c63
            exact B70 _ _ _ _ _ _ hw _ _ ls (lv_sub hl [1, 2, 3, 4, 5, 0] rfl) hP hD hS
          · have hw := hw.1 c63
            refine lv_iconst (v := (1 : Int32)) hx hb dX4_bid_66 (by decide) ?_
            refine lv_goto (tgt := 71) hx hb dX4_bid_67 (by decide) ?_
            exact B71 _ _ _ _ _ _ _ hw _ _ ls (lv_sub hl [1, 2, 3, 4, 5, 0] rfl) hP hD hS
  have B31 : ∀ (x1 : Int32) (x2 : Int32) (x3 : Int32) (x4 : Int32) (σ : MD), b_M_bid_31 Φ x1 x2 x3 x4 σ → At p l e (headSpec wsX4_bid rm_M_bid).room s m ([.ref (a 0), .int p1, .int p2, .int p3] : List Value).toArray below meth c (MQ below (va_Qv Φ (BG D cs A s.heap.size (ws_MD cs a)) A) ([.ref (a 0), .int p1, .int p2, .int p3] : List Value).toArray s 0 0 A) D A 7 [(0, .ref (a 0)), (1, .int x1), (2, .int x2), (3, .int x3), (4, .int x4)] (ws_MD cs a σ) 31 [] := by
    intro x1 x2 x3 x4 σ hw H locs ls hl hP hD hS
    unfold b_M_bid_31 at hw
    refine lv_iconst (v := (0 : Int32)) hx hb dX4_bid_31 (by decide) ?_
    exact B32 _ _ _ _ _ _ hw _ _ ls (lv_sub hl [0, 1, 2, 3, 4] rfl) hP hD hS
  have hl := lv_entry ([.ref (a 0), .int p1, .int p2, .int p3]) (n := 7) (Nat.le_of_ble_eq_true rfl)
  rw [lg_entry_eq]
  generalize (lg_sl ([.ref (a 0), .int p1, .int p2, .int p3]) ++ List.replicate (7 - (lg_sl ([.ref (a 0), .int p1, .int p2, .int p3])).length) Slot.unset).toArray = ls at hl ⊢
  have hl : lv_has ls 7 [(0, .ref (a 0)), (1, .int p1), (2, .int p2), (3, .int p3)] := hl
  unfold w_M_bid at hw
  refine lv_aload_n hx hb dX4_bid_0 rfl (lv_at hl 0 rfl) ?_
  refine lv_iload_n hx hb dX4_bid_1 rfl (lv_at hl 1 rfl) ?_
  refine kVi (As := [.int p1]) (rest := []) ⟨hx, hb, hml, hown, hts⟩ (c_M_isHaul l D cs a _ σ p1 hw) (cwV 1 hts gX4_bid_X4_isHaul rfl rfl rfl (by decide +kernel) ⟨Nat.le_of_ble_eq_true rfl, Nat.le_of_ble_eq_true rfl⟩) (pt_self_MD cs a σ) hK hP hD hS hA (ci := 4) rfl rfl rfl rfl hl.1 rfl (Nat.le_of_ble_eq_true rfl) dX4_bid_2 ⟨Nat.zero_le _, Nat.zero_le _⟩ (fun r2 u2 H locs hw hP hD hS => ?_)
  have hP : va_P D vwCl (ws_MD cs a u2) H := hP
  have hD : va_D A (ws_MD cs a u2) := hD
  refine lv_istore (lv' := [(4, .int r2), (0, .ref (a 0)), (1, .int p1), (2, .int p2), (3, .int p3)]) hx hb dX4_bid_5 hl (by decide) rfl (fun ls hl => ?_)
  refine lv_iload_n hx hb dX4_bid_7 rfl (lv_at hl 3 rfl) ?_
  refine lv_iconst (v := (0 : Int32)) hx hb dX4_bid_8 (by decide) ?_
  refine lv_iconst (v := (3 : Int32)) hx hb dX4_bid_9 (by decide) ?_
  refine kSi (As := [.int p2, .int (0 : Int32), .int (3 : Int32)]) (rest := []) ⟨hx, hb, hml, hown, hts⟩ (c_M_in l D cs a _ p2 (0 : Int32) (3 : Int32) hw) (va_cwS 3 hts gX4_bid_X4_in rfl rfl rfl (by decide +kernel) ⟨Nat.le_of_ble_eq_true rfl, Nat.le_of_ble_eq_true rfl⟩) (pt_un_MD cs a u2) hK hP hD hS hA rfl hl.1 rfl (Nat.le_of_ble_eq_true rfl) dX4_bid_10 ⟨Nat.zero_le _, Nat.zero_le _⟩ (fun r10 u10 H locs hw hP hD hS => ?_)
  have hP : va_P D vwCl (ws_MD cs a u2) H := hP
  have hD : va_D A (ws_MD cs a u2) := hD
  refine lv_if_eq (tgt := 31) hx hb dX4_bid_13 (by decide) (fun c13 => ?_) (fun c13 => ?_)
  · have hw := hw.1 c13
    exact B31 _ _ _ _ _ hw _ _ ls (lv_sub hl [1, 2, 3, 4, 0] rfl) hP hD hS
  · have hw := hw.2 c13
    refine lv_iload_n hx hb dX4_bid_16 rfl (lv_at hl 4 rfl) ?_
    refine lv_iconst (v := (1 : Int32)) hx hb dX4_bid_17 (by decide) ?_
    refine lv_sipush (v := (1000 : Int32)) hx hb dX4_bid_18 (by decide) ?_
    refine kSi (As := [.int p3, .int (1 : Int32), .int (1000 : Int32)]) (rest := []) ⟨hx, hb, hml, hown, hts⟩ (c_M_in l D cs a _ p3 (1 : Int32) (1000 : Int32) hw) (va_cwS 3 hts gX4_bid_X4_in rfl rfl rfl (by decide +kernel) ⟨Nat.le_of_ble_eq_true rfl, Nat.le_of_ble_eq_true rfl⟩) (pt_un_MD cs a u2) hK hP hD hS hA rfl hl.1 rfl (Nat.le_of_ble_eq_true rfl) dX4_bid_21 ⟨Nat.zero_le _, Nat.zero_le _⟩ (fun r21 u21 H locs hw hP hD hS => ?_)
    have hP : va_P D vwCl (ws_MD cs a u2) H := hP
    have hD : va_D A (ws_MD cs a u2) := hD
    refine lv_if_eq (tgt := 31) hx hb dX4_bid_24 (by decide) (fun c24 => ?_) (fun c24 => ?_)
    · have hw := hw.1 c24
      exact B31 _ _ _ _ _ hw _ _ ls (lv_sub hl [1, 2, 3, 4, 0] rfl) hP hD hS
    · have hw := hw.2 c24
      refine lv_iconst (v := (1 : Int32)) hx hb dX4_bid_27 (by decide) ?_
      refine lv_goto (tgt := 32) hx hb dX4_bid_28 (by decide) ?_
      exact B32 _ _ _ _ _ _ hw _ _ ls (lv_sub hl [1, 2, 3, 4, 0] rfl) hP hD hS
abbrev rm_M_cheapest : Room := { frames := 0, cells := 0, slots := 0, locals := 0 }
set_option maxHeartbeats 4000000 in
set_option maxRecDepth 100000 in
theorem c_M_cheapest (l : Launch) (D : va_G) (cs : CS) (a : Nat → Nat) (sz : Nat) (σ : MD) (p1 : Int32) {Φ : Int32 → MD → Prop} (hw : w_M_cheapest σ p1 Φ) : Met l yX4_cheapest wsX4_cheapest rm_M_cheapest (PcG [.ref (a 0), .int p1] D cs (ws_MD cs a σ) sz) (va_Qi Φ (BG D cs (va_A (ws_MD cs a σ) sz) sz (ws_MD cs a)) (va_A (ws_MD cs a σ) sz)) 0 0 (va_A (ws_MD cs a σ) sz) := by
  refine Met.ofW (cc := cX4_cheapest) (maxL := 5) (ret := (some .int)) (by decide) rfl ?_
  intro p e s m args below meth c s₁ B hml hv
  obtain ⟨rfl, hsz, hP, hK, hD0⟩ := hv
  have hx := B.exec
  have hb := B.bytes
  have hr := B.returns
  have hts := atoms_spec (ws := wsX4_cheapest) B.pre
  have hown : s.vm.findClass RX4 = some m.cls := findClass_of_methodNamed B.named
  have hlocks := B.notSynchronized
  subst hsz
  have hD := hD0.self (sz := s.heap.size)
  generalize hAe : va_A (ws_MD cs a σ) s.heap.size = A at hD ⊢
  have hA : ∀ q : Nat, s.heap.size ≤ q → A q := fun q h => by rw [← hAe]; exact Or.inr h
  have hS : va_S A s.heap s.heap [] := va_S.rf
  have hf51 : (Cond.fieldLink RX4 51 "CraneYardModel" "bids" "[I").before ([.ref (a 0), .int p1] : List Value).toArray s = true := hts _ (List.mem_of_getElem? (i := 1) rfl)
  have hinX4 : ∀ w ∈ wsX40, w ∈ wsX4_cheapest := fun _ h => List.mem_cons_of_mem _ (List.mem_append_right _ h)
  have hP : va_P D vwCl (ws_MD cs a σ) s.heap := hP
  have B51 : ∀ (K4 : (Int32 → Int32 → Int32 → MD → Prop)) (hK4 : ∀ (x1 : Int32) (x2 : Int32) (x3 : Int32) (σ : MD), K4 x1 x2 x3 σ → At p l e (headSpec wsX4_cheapest rm_M_cheapest).room s m ([.ref (a 0), .int p1] : List Value).toArray below meth c (MQ below (va_Qi Φ (BG D cs A s.heap.size (ws_MD cs a)) A) ([.ref (a 0), .int p1] : List Value).toArray s 0 0 A) D A 5 [(0, .ref (a 0)), (1, .int x1), (2, .int x2), (3, .int x3)] (ws_MD cs a σ) 4 []) (x1 : Int32) (x3 : Int32) (t0 : Int32) (σ : MD), b_M_cheapest_51 K4 Φ x1 x3 t0 σ → At p l e (headSpec wsX4_cheapest rm_M_cheapest).room s m ([.ref (a 0), .int p1] : List Value).toArray below meth c (MQ below (va_Qi Φ (BG D cs A s.heap.size (ws_MD cs a)) A) ([.ref (a 0), .int p1] : List Value).toArray s 0 0 A) D A 5 [(0, .ref (a 0)), (1, .int x1), (3, .int x3)] (ws_MD cs a σ) 51 [.int t0] := by
    intro K4 hK4 x1 x3 t0 σ hw H locs ls hl hP hD hS
    unfold b_M_cheapest_51 at hw
    refine lv_istore_n (lv' := [(2, .int t0), (0, .ref (a 0)), (1, .int x1), (3, .int x3)]) hx hb dX4_cheapest_51 rfl hl (by decide) rfl (fun ls hl => ?_)
    refine lv_iinc (v := (x3 + (1 : Int32))) (lv' := [(3, .int (x3 + (1 : Int32))), (2, .int t0), (0, .ref (a 0)), (1, .int x1)]) hx hb dX4_cheapest_52 hl (k := 3) rfl rfl (by decide) rfl (fun ls hl => ?_)
    refine lv_goto (tgt := 4) hx hb dX4_cheapest_55 (by decide) ?_
    exact hK4 _ _ _ _ hw _ _ ls (lv_sub hl [2, 3, 1, 0] rfl) hP hD hS
  have B50 : ∀ (K4 : (Int32 → Int32 → Int32 → MD → Prop)) (hK4 : ∀ (x1 : Int32) (x2 : Int32) (x3 : Int32) (σ : MD), K4 x1 x2 x3 σ → At p l e (headSpec wsX4_cheapest rm_M_cheapest).room s m ([.ref (a 0), .int p1] : List Value).toArray below meth c (MQ below (va_Qi Φ (BG D cs A s.heap.size (ws_MD cs a)) A) ([.ref (a 0), .int p1] : List Value).toArray s 0 0 A) D A 5 [(0, .ref (a 0)), (1, .int x1), (2, .int x2), (3, .int x3)] (ws_MD cs a σ) 4 []) (x1 : Int32) (x2 : Int32) (x3 : Int32) (σ : MD), b_M_cheapest_50 K4 Φ x1 x2 x3 σ → At p l e (headSpec wsX4_cheapest rm_M_cheapest).room s m ([.ref (a 0), .int p1] : List Value).toArray below meth c (MQ below (va_Qi Φ (BG D cs A s.heap.size (ws_MD cs a)) A) ([.ref (a 0), .int p1] : List Value).toArray s 0 0 A) D A 5 [(0, .ref (a 0)), (1, .int x1), (2, .int x2), (3, .int x3)] (ws_MD cs a σ) 50 [] := by
    intro K4 hK4 x1 x2 x3 σ hw H locs ls hl hP hD hS
    unfold b_M_cheapest_50 at hw
    refine lv_iload_n hx hb dX4_cheapest_50 rfl (lv_at hl 2 rfl) ?_
    exact B51 _ hK4 _ _ _ _ hw _ _ ls (lv_sub hl [0, 1, 3] rfl) hP hD hS
  have B46 : ∀ (K4 : (Int32 → Int32 → Int32 → MD → Prop)) (hK4 : ∀ (x1 : Int32) (x2 : Int32) (x3 : Int32) (σ : MD), K4 x1 x2 x3 σ → At p l e (headSpec wsX4_cheapest rm_M_cheapest).room s m ([.ref (a 0), .int p1] : List Value).toArray below meth c (MQ below (va_Qi Φ (BG D cs A s.heap.size (ws_MD cs a)) A) ([.ref (a 0), .int p1] : List Value).toArray s 0 0 A) D A 5 [(0, .ref (a 0)), (1, .int x1), (2, .int x2), (3, .int x3)] (ws_MD cs a σ) 4 []) (x1 : Int32) (x3 : Int32) (σ : MD), b_M_cheapest_46 K4 Φ x1 x3 σ → At p l e (headSpec wsX4_cheapest rm_M_cheapest).room s m ([.ref (a 0), .int p1] : List Value).toArray below meth c (MQ below (va_Qi Φ (BG D cs A s.heap.size (ws_MD cs a)) A) ([.ref (a 0), .int p1] : List Value).toArray s 0 0 A) D A 5 [(0, .ref (a 0)), (1, .int x1), (3, .int x3)] (ws_MD cs a σ) 46 [] := by
    intro K4 hK4 x1 x3 σ hw H locs ls hl hP hD hS
    unfold b_M_cheapest_46 at hw
    refine lv_iload_n hx hb dX4_cheapest_46 rfl (lv_at hl 2 rfl) ?_
    refine lv_goto (tgt := 51) hx hb dX4_cheapest_47 (by decide) ?_
    exact B51 _ hK4 _ _ _ _ hw _ _ ls (lv_sub hl [0, 1, 2] rfl) hP hD hS
  have B4 : ∀ (n : Nat) (x1 : Int32) (x2 : Int32) (x3 : Int32) (σ : MD), it4 (b_M_cheapest_4 Φ) n x1 x2 x3 σ → At p l e (headSpec wsX4_cheapest rm_M_cheapest).room s m ([.ref (a 0), .int p1] : List Value).toArray below meth c (MQ below (va_Qi Φ (BG D cs A s.heap.size (ws_MD cs a)) A) ([.ref (a 0), .int p1] : List Value).toArray s 0 0 A) D A 5 [(0, .ref (a 0)), (1, .int x1), (2, .int x2), (3, .int x3)] (ws_MD cs a σ) 4 [] := by
    intro n
    induction n with
    | zero => intro x1 x2 x3 σ hw; exact absurd hw id
    | succ n ih =>
      intro x1 x2 x3 σ hw H locs ls hl hP hD hS
      have hw : b_M_cheapest_4 Φ (it4 (b_M_cheapest_4 Φ) n) x1 x2 x3 σ := hw
      unfold b_M_cheapest_4 at hw
      refine lv_iload_n hx hb dX4_cheapest_4 rfl (lv_at hl 3 rfl) ?_
      refine lv_iconst (v := (4 : Int32)) hx hb dX4_cheapest_5 (by decide) ?_
      refine lv_icmp_ge (tgt := 58) hx hb dX4_cheapest_6 (by decide) (fun c6 => ?_) (fun c6 => ?_)
      · have hw := hw.1 c6
        refine lv_iload_n hx hb dX4_cheapest_58 rfl (lv_at hl 2 rfl) ?_
        exact rI (wf := (ws_MD cs a)) (u := σ) hx hb hr hlocks hK hP hD hS hw dX4_cheapest_59
      · have hw := hw.2 c6
        refine lv_aload_n hx hb dX4_cheapest_9 rfl (lv_at hl 0 rfl) ?_
        refine va_get (D := D) (ci := 4) (v := .ref (a 13)) (C := RX4) (T := TX4) (N := 23) hx hb hts hinX4 hown hK hP 0 rfl rfl 18 (by decide) hf51 (fun _ h9 => h9) rfl dX4_cheapest_10 ?_
        refine lv_iconst (v := (4 : Int32)) hx hb dX4_cheapest_13 (by decide) ?_
        refine lv_iload_n hx hb dX4_cheapest_14 rfl (lv_at hl 1 rfl) ?_
        refine lv_imul hx hb dX4_cheapest_15 ?_
        refine lv_iload_n hx hb dX4_cheapest_16 rfl (lv_at hl 3 rfl) ?_
        refine lv_iadd hx hb dX4_cheapest_17 ?_
        have hi18 := hw.1
        have hw := hw.2
        refine va_iald (f := (g_MD_bids σ)) (n := 80) hx hb hK hP 13 0 rfl rfl hi18 dX4_cheapest_18 ?_
        refine lv_topi (fun y1 ey1 => ?_)
        have hw := hw y1 ey1
        refine lv_istore (lv' := [(4, .int y1), (0, .ref (a 0)), (1, .int x1), (2, .int x2), (3, .int x3)]) hx hb dX4_cheapest_19 hl (by decide) rfl (fun ls hl => ?_)
        refine lv_iload hx hb dX4_cheapest_21 (lv_at hl 0 rfl) ?_
        refine lv_if_le (tgt := 50) hx hb dX4_cheapest_23 (by decide) (fun c23 => ?_) (fun c23 => ?_)
        · have hw := hw.1 c23
          exact B50 _ ih _ _ _ _ hw _ _ ls (lv_sub hl [1, 2, 3, 4] rfl) hP hD hS
        · have hw := hw.2 c23
          refine lv_iload_n hx hb dX4_cheapest_26 rfl (lv_at hl 3 rfl) ?_
          refine lv_iconst (v := (-1 : Int32)) hx hb dX4_cheapest_27 (by decide) ?_
          refine lv_icmp_eq (tgt := 46) hx hb dX4_cheapest_28 (by decide) (fun c28 => ?_) (fun c28 => ?_)
          · have hw := hw.1 c28
            exact B46 _ ih _ _ _ hw _ _ ls (lv_sub hl [1, 2, 4] rfl) hP hD hS
          · have hw := hw.2 c28
            refine lv_iload hx hb dX4_cheapest_31 (lv_at hl 0 rfl) ?_
            refine lv_aload_n hx hb dX4_cheapest_33 rfl (lv_at hl 1 rfl) ?_
            refine va_get (D := D) (ci := 4) (v := .ref (a 13)) (C := RX4) (T := TX4) (N := 23) hx hb hts hinX4 hown hK hP 0 rfl rfl 18 (by decide) hf51 (fun _ h9 => h9) rfl dX4_cheapest_34 ?_
            refine lv_iconst (v := (4 : Int32)) hx hb dX4_cheapest_37 (by decide) ?_
            refine lv_iload_n hx hb dX4_cheapest_38 rfl (lv_at hl 2 rfl) ?_
            refine lv_imul hx hb dX4_cheapest_39 ?_
            refine lv_iload_n hx hb dX4_cheapest_40 rfl (lv_at hl 3 rfl) ?_
            refine lv_iadd hx hb dX4_cheapest_41 ?_
            have hi42 := hw.1
            have hw := hw.2
            refine va_iald (f := (g_MD_bids σ)) (n := 80) hx hb hK hP 13 0 rfl rfl hi42 dX4_cheapest_42 ?_
            refine lv_icmp_ge (tgt := 50) hx hb dX4_cheapest_43 (by decide) (fun c43 => ?_) (fun c43 => ?_)
            · have hw := hw.1 c43
              exact B50 _ ih _ _ _ _ hw _ _ ls (lv_sub hl [1, 2, 3, 4] rfl) hP hD hS
            · have hw := hw.2 c43
              exact B46 _ ih _ _ _ hw _ _ ls (lv_sub hl [1, 2, 4] rfl) hP hD hS
  have hl := lv_entry ([.ref (a 0), .int p1]) (n := 5) (Nat.le_of_ble_eq_true rfl)
  rw [lg_entry_eq]
  generalize (lg_sl ([.ref (a 0), .int p1]) ++ List.replicate (5 - (lg_sl ([.ref (a 0), .int p1])).length) Slot.unset).toArray = ls at hl ⊢
  have hl : lv_has ls 5 [(0, .ref (a 0)), (1, .int p1)] := hl
  unfold w_M_cheapest at hw
  refine lv_iconst (v := (-1 : Int32)) hx hb dX4_cheapest_0 (by decide) ?_
  refine lv_istore_n (lv' := [(2, .int (-1 : Int32)), (0, .ref (a 0)), (1, .int p1)]) hx hb dX4_cheapest_1 rfl hl (by decide) rfl (fun ls hl => ?_)
  refine lv_iconst (v := (0 : Int32)) hx hb dX4_cheapest_2 (by decide) ?_
  refine lv_istore_n (lv' := [(3, .int (0 : Int32)), (2, .int (-1 : Int32)), (0, .ref (a 0)), (1, .int p1)]) hx hb dX4_cheapest_3 rfl hl (by decide) rfl (fun ls hl => ?_)
  obtain ⟨n, hw⟩ := hw
  exact B4 n _ _ _ _ hw _ _ ls (lv_sub hl [2, 3, 1, 0] rfl) hP hD hS
abbrev rm_M_give : Room := { frames := 2, cells := 0, slots := 0, locals := 43 }
set_option maxHeartbeats 4000000 in
set_option maxRecDepth 100000 in
theorem c_M_give (l : Launch) (D : va_G) (cs : CS) (a : Nat → Nat) (sz : Nat) (σ : MD) (p1 : Int32) {Φ : Int32 → MD → Prop} (hw : w_M_give σ p1 Φ) : Met l yX4_give wsX4_give rm_M_give (PcG [.ref (a 0), .int p1] D cs (ws_MD cs a σ) sz) (va_Qi Φ (BG D cs (va_A (ws_MD cs a σ) sz) sz (ws_MD cs a)) (va_A (ws_MD cs a σ) sz)) 0 0 (va_A (ws_MD cs a σ) sz) := by
  refine Met.ofW (cc := cX4_give) (maxL := 4) (ret := (some .int)) (by decide) rfl ?_
  intro p e s m args below meth c s₁ B hml hv
  obtain ⟨rfl, hsz, hP, hK, hD0⟩ := hv
  have hx := B.exec
  have hb := B.bytes
  have hr := B.returns
  have hts := atoms_spec (ws := wsX4_give) B.pre
  have hown : s.vm.findClass RX4 = some m.cls := findClass_of_methodNamed B.named
  have hlocks := B.notSynchronized
  subst hsz
  have hD := hD0.self (sz := s.heap.size)
  generalize hAe : va_A (ws_MD cs a σ) s.heap.size = A at hD ⊢
  have hA : ∀ q : Nat, s.heap.size ≤ q → A q := fun q h => by rw [← hAe]; exact Or.inr h
  have hS : va_S A s.heap s.heap [] := va_S.rf
  have hf45 : (Cond.fieldLink RX4 45 "CraneYardModel" "states" "[I").before ([.ref (a 0), .int p1] : List Value).toArray s = true := hts _ (List.mem_of_getElem? (i := 1) rfl)
  have hf48 : (Cond.fieldLink RX4 48 "CraneYardModel" "prices" "[I").before ([.ref (a 0), .int p1] : List Value).toArray s = true := hts _ (List.mem_of_getElem? (i := 2) rfl)
  have hf51 : (Cond.fieldLink RX4 51 "CraneYardModel" "bids" "[I").before ([.ref (a 0), .int p1] : List Value).toArray s = true := hts _ (List.mem_of_getElem? (i := 3) rfl)
  have hinX4 : ∀ w ∈ wsX40, w ∈ wsX4_give := fun _ h => List.mem_cons_of_mem _ (List.mem_append_right _ h)
  have hP : va_P D vwCl (ws_MD cs a σ) s.heap := hP
  have B48 : ∀ (x1 : Int32) (x3 : Int32) (t1 : Int32) (σ : MD), b_M_give_48 Φ x1 x3 t1 σ → At p l e (headSpec wsX4_give rm_M_give).room s m ([.ref (a 0), .int p1] : List Value).toArray below meth c (MQ below (va_Qi Φ (BG D cs A s.heap.size (ws_MD cs a)) A) ([.ref (a 0), .int p1] : List Value).toArray s 0 0 A) D A 4 [(0, .ref (a 0)), (1, .int x1), (3, .int x3)] (ws_MD cs a σ) 48 [.int t1, .ref (a 0)] := by
    intro x1 x3 t1 σ hw H locs ls hl hP hD hS
    unfold b_M_give_48 at hw
    refine kVi (As := [.int t1]) (rest := []) ⟨hx, hb, hml, hown, hts⟩ (c_M_goesWell l D cs a _ σ t1 hw) (cwV 1 hts gX4_give_X4_goesWell rfl rfl rfl (by decide +kernel) ⟨Nat.le_of_ble_eq_true rfl, Nat.le_of_ble_eq_true rfl⟩) (pt_self_MD cs a σ) hK hP hD hS hA (ci := 4) rfl rfl rfl rfl hl.1 rfl (Nat.le_of_ble_eq_true rfl) dX4_give_48 ⟨Nat.zero_le _, Nat.zero_le _⟩ (fun r48 u48 H locs hw hP hD hS => ?_)
    have hP : va_P D vwCl (ws_MD cs a u48) H := hP
    have hD : va_D A (ws_MD cs a u48) := hD
    refine lv_if_ne (tgt := 56) hx hb dX4_give_51 (by decide) (fun c51 => ?_) (fun c51 => ?_)
    · have hw := hw.2 c51
      refine lv_aload_n hx hb dX4_give_56 rfl (lv_at hl 0 rfl) ?_
      refine va_get (D := D) (ci := 4) (v := .ref (a 11)) (C := RX4) (T := TX4) (N := 23) hx hb hts hinX4 hown hK hP 0 rfl rfl 16 (by decide) hf45 (fun _ h9 => h9) rfl dX4_give_57 ?_
      refine lv_iload_n hx hb dX4_give_60 rfl (lv_at hl 1 rfl) ?_
      refine lv_iconst (v := (1 : Int32)) hx hb dX4_give_61 (by decide) ?_
      have hi62 := hw.1
      have hw := hw.2
      refine va_iast (f := (g_MD_states u48)) (n := 20) (x := (1 : Int32)) hx hb hK hP hD hS 11 0 rfl rfl hi62 dX4_give_62 (fun H locs hP hD hS => ?_)
      have hP : va_P D vwCl (ws_MD cs a (s_MD_states u48 (upd (g_MD_states u48) (x1).toNatClampNeg (1 : Int32)))) H := hP
      have hD : va_D A (ws_MD cs a (s_MD_states u48 (upd (g_MD_states u48) (x1).toNatClampNeg (1 : Int32)))) := hD
      obtain ⟨z1, ez1⟩ : ∃ z : MD, z = (s_MD_states u48 (upd (g_MD_states u48) (x1).toNatClampNeg (1 : Int32))) := ⟨_, rfl⟩
      have hw := hw z1 ez1
      rw [← ez1] at hP hD
      refine lv_aload_n hx hb dX4_give_63 rfl (lv_at hl 0 rfl) ?_
      refine va_get (D := D) (ci := 4) (v := .ref (a 12)) (C := RX4) (T := TX4) (N := 23) hx hb hts hinX4 hown hK hP 0 rfl rfl 17 (by decide) hf48 (fun _ h9 => h9) rfl dX4_give_64 ?_
      refine lv_iload_n hx hb dX4_give_67 rfl (lv_at hl 1 rfl) ?_
      refine lv_aload_n hx hb dX4_give_68 rfl (lv_at hl 0 rfl) ?_
      refine va_get (D := D) (ci := 4) (v := .ref (a 13)) (C := RX4) (T := TX4) (N := 23) hx hb hts hinX4 hown hK hP 0 rfl rfl 18 (by decide) hf51 (fun _ h9 => h9) rfl dX4_give_69 ?_
      refine lv_iconst (v := (4 : Int32)) hx hb dX4_give_72 (by decide) ?_
      refine lv_iload_n hx hb dX4_give_73 rfl (lv_at hl 1 rfl) ?_
      refine lv_imul hx hb dX4_give_74 ?_
      refine lv_iload_n hx hb dX4_give_75 rfl (lv_at hl 2 rfl) ?_
      refine lv_iadd hx hb dX4_give_76 ?_
      have hi77 := hw.1
      have hw := hw.2
      refine va_iald (f := (g_MD_bids z1)) (n := 80) hx hb hK hP 13 0 rfl rfl hi77 dX4_give_77 ?_
      refine lv_topi (fun y2 ey2 => ?_)
      have hw := hw y2 ey2
      have hi78 := hw.1
      have hw := hw.2
      refine va_iast (f := (g_MD_prices z1)) (n := 20) (x := y2) hx hb hK hP hD hS 12 0 rfl rfl hi78 dX4_give_78 (fun H locs hP hD hS => ?_)
      have hP : va_P D vwCl (ws_MD cs a (s_MD_prices z1 (upd (g_MD_prices z1) (x1).toNatClampNeg y2))) H := hP
      have hD : va_D A (ws_MD cs a (s_MD_prices z1 (upd (g_MD_prices z1) (x1).toNatClampNeg y2))) := hD
      obtain ⟨z3, ez3⟩ : ∃ z : MD, z = (s_MD_prices z1 (upd (g_MD_prices z1) (x1).toNatClampNeg y2)) := ⟨_, rfl⟩
      have hw := hw z3 ez3
      rw [← ez3] at hP hD
      refine lv_iload_n hx hb dX4_give_79 rfl (lv_at hl 2 rfl) ?_
      exact rI (wf := (ws_MD cs a)) (u := z3) hx hb hr hlocks hK hP hD hS hw dX4_give_80
    · have hw := hw.1 c51
      refine lv_iconst (v := (0 : Int32)) hx hb dX4_give_54 (by decide) ?_
      exact rI (wf := (ws_MD cs a)) (u := u48) hx hb hr hlocks hK hP hD hS hw dX4_give_55
  have B28 : ∀ (x1 : Int32) (x2 : Int32) (t0 : Int32) (σ : MD), b_M_give_28 Φ x1 x2 t0 σ → At p l e (headSpec wsX4_give rm_M_give).room s m ([.ref (a 0), .int p1] : List Value).toArray below meth c (MQ below (va_Qi Φ (BG D cs A s.heap.size (ws_MD cs a)) A) ([.ref (a 0), .int p1] : List Value).toArray s 0 0 A) D A 4 [(0, .ref (a 0)), (1, .int x1), (2, .int x2)] (ws_MD cs a σ) 28 [.int t0] := by
    intro x1 x2 t0 σ hw H locs ls hl hP hD hS
    unfold b_M_give_28 at hw
    refine lv_istore_n (lv' := [(3, .int t0), (0, .ref (a 0)), (1, .int x1), (2, .int x2)]) hx hb dX4_give_28 rfl hl (by decide) rfl (fun ls hl => ?_)
    refine lv_aload_n hx hb dX4_give_29 rfl (lv_at hl 1 rfl) ?_
    refine lv_iload_n hx hb dX4_give_30 rfl (lv_at hl 3 rfl) ?_
    refine lv_if_ne (tgt := 38) hx hb dX4_give_31 (by decide) (fun c31 => ?_) (fun c31 => ?_)
    · have hw := hw.2 c31
      refine lv_iload_n hx hb dX4_give_38 rfl (lv_at hl 0 rfl) ?_
      refine lv_iconst (v := (-1 : Int32)) hx hb dX4_give_39 (by decide) ?_
      refine lv_icmp_ne (tgt := 47) hx hb dX4_give_40 (by decide) (fun c40 => ?_) (fun c40 => ?_)
      · have hw := hw.2 c40
        refine lv_iconst (v := (0 : Int32)) hx hb dX4_give_47 (by decide) ?_
        exact B48 _ _ _ _ hw _ _ ls (lv_sub hl [1, 2, 0] rfl) hP hD hS
      · have hw := hw.1 c40
        refine lv_iconst (v := (2 : Int32)) hx hb dX4_give_43 (by decide) ?_
        refine lv_goto (tgt := 48) hx hb dX4_give_44 (by decide) ?_
        exact B48 _ _ _ _ hw _ _ ls (lv_sub hl [1, 2, 0] rfl) hP hD hS
    · have hw := hw.1 c31
      refine lv_iconst (v := (1 : Int32)) hx hb dX4_give_34 (by decide) ?_
      refine lv_goto (tgt := 48) hx hb dX4_give_35 (by decide) ?_
      exact B48 _ _ _ _ hw _ _ ls (lv_sub hl [1, 2, 0] rfl) hP hD hS
  have B27 : ∀ (x1 : Int32) (x2 : Int32) (σ : MD), b_M_give_27 Φ x1 x2 σ → At p l e (headSpec wsX4_give rm_M_give).room s m ([.ref (a 0), .int p1] : List Value).toArray below meth c (MQ below (va_Qi Φ (BG D cs A s.heap.size (ws_MD cs a)) A) ([.ref (a 0), .int p1] : List Value).toArray s 0 0 A) D A 4 [(0, .ref (a 0)), (1, .int x1), (2, .int x2)] (ws_MD cs a σ) 27 [] := by
    intro x1 x2 σ hw H locs ls hl hP hD hS
    unfold b_M_give_27 at hw
    refine lv_iconst (v := (-1 : Int32)) hx hb dX4_give_27 (by decide) ?_
    exact B28 _ _ _ _ hw _ _ ls (lv_sub hl [0, 1, 2] rfl) hP hD hS
  have hl := lv_entry ([.ref (a 0), .int p1]) (n := 4) (Nat.le_of_ble_eq_true rfl)
  rw [lg_entry_eq]
  generalize (lg_sl ([.ref (a 0), .int p1]) ++ List.replicate (4 - (lg_sl ([.ref (a 0), .int p1])).length) Slot.unset).toArray = ls at hl ⊢
  have hl : lv_has ls 4 [(0, .ref (a 0)), (1, .int p1)] := hl
  unfold w_M_give at hw
  refine lv_aload_n hx hb dX4_give_0 rfl (lv_at hl 0 rfl) ?_
  refine lv_iload_n hx hb dX4_give_1 rfl (lv_at hl 1 rfl) ?_
  refine kVi (As := [.int p1]) (rest := []) ⟨hx, hb, hml, hown, hts⟩ (c_M_isHaul l D cs a _ σ p1 hw) (cwV 1 hts gX4_give_X4_isHaul rfl rfl rfl (by decide +kernel) ⟨Nat.le_of_ble_eq_true rfl, Nat.le_of_ble_eq_true rfl⟩) (pt_self_MD cs a σ) hK hP hD hS hA (ci := 4) rfl rfl rfl rfl hl.1 rfl (Nat.le_of_ble_eq_true rfl) dX4_give_2 ⟨Nat.zero_le _, Nat.zero_le _⟩ (fun r2 u2 H locs hw hP hD hS => ?_)
  have hP : va_P D vwCl (ws_MD cs a u2) H := hP
  have hD : va_D A (ws_MD cs a u2) := hD
  refine lv_istore_n (lv' := [(2, .int r2), (0, .ref (a 0)), (1, .int p1)]) hx hb dX4_give_5 rfl hl (by decide) rfl (fun ls hl => ?_)
  refine lv_iload_n hx hb dX4_give_6 rfl (lv_at hl 0 rfl) ?_
  refine lv_if_eq (tgt := 27) hx hb dX4_give_7 (by decide) (fun c7 => ?_) (fun c7 => ?_)
  · have hw := hw.1 c7
    exact B27 _ _ _ hw _ _ ls (lv_sub hl [1, 2, 0] rfl) hP hD hS
  · have hw := hw.2 c7
    refine lv_aload_n hx hb dX4_give_10 rfl (lv_at hl 1 rfl) ?_
    refine va_get (D := D) (ci := 4) (v := .ref (a 11)) (C := RX4) (T := TX4) (N := 23) hx hb hts hinX4 hown hK hP 0 rfl rfl 16 (by decide) hf45 (fun _ h9 => h9) rfl dX4_give_11 ?_
    refine lv_iload_n hx hb dX4_give_14 rfl (lv_at hl 2 rfl) ?_
    have hi15 := hw.1
    have hw := hw.2
    refine va_iald (f := (g_MD_states u2)) (n := 20) hx hb hK hP 11 0 rfl rfl hi15 dX4_give_15 ?_
    refine lv_if_ne (tgt := 27) hx hb dX4_give_16 (by decide) (fun c16 => ?_) (fun c16 => ?_)
    · have hw := hw.2 c16
      exact B27 _ _ _ hw _ _ ls (lv_sub hl [1, 2, 0] rfl) hP hD hS
    · have hw := hw.1 c16
      refine lv_aload_n hx hb dX4_give_19 rfl (lv_at hl 1 rfl) ?_
      refine lv_iload_n hx hb dX4_give_20 rfl (lv_at hl 2 rfl) ?_
      refine kVi (As := [.int p1]) (rest := []) ⟨hx, hb, hml, hown, hts⟩ (c_M_cheapest l D cs a _ u2 p1 hw) (cwV 1 hts gX4_give_X4_cheapest rfl rfl rfl (by decide +kernel) ⟨Nat.le_of_ble_eq_true rfl, Nat.le_of_ble_eq_true rfl⟩) (pt_self_MD cs a u2) hK hP hD hS hA (ci := 4) rfl rfl rfl rfl hl.1 rfl (Nat.le_of_ble_eq_true rfl) dX4_give_21 ⟨Nat.zero_le _, Nat.zero_le _⟩ (fun r21 u21 H locs hw hP hD hS => ?_)
      have hP : va_P D vwCl (ws_MD cs a u21) H := hP
      have hD : va_D A (ws_MD cs a u21) := hD
      refine lv_goto (tgt := 28) hx hb dX4_give_24 (by decide) ?_
      exact B28 _ _ _ _ hw H locs ls (lv_sub hl [1, 2, 0] rfl) hP hD hS
