set_option linter.unusedVariables false
abbrev rm_L_areAlike : Room := { frames := 8, cells := 0, slots := 0, locals := 134 }
set_option maxHeartbeats 4000000 in
set_option maxRecDepth 100000 in
theorem c_L_areAlike (l : Launch) (D : va_G) (cs : CS) (a : Nat → Nat) (sz : Nat) (σ : CC) {Φ : Int32 → CC → Prop} (hw : w_L_areAlike σ Φ) : Met l yL_areAlike wsL_areAlike rm_L_areAlike (PcG [.ref (a 0), .ref (a 21)] D cs (ws_CC cs a σ) sz) (va_Qi Φ (BG D cs (va_A (ws_CC cs a σ) sz) sz (ws_CC cs a)) (va_A (ws_CC cs a σ) sz)) 0 0 (va_A (ws_CC cs a σ) sz) := by
  refine Met.ofW (cc := cL_areAlike) (maxL := 5) (ret := (some .boolean)) (by decide) rfl ?_
  intro p e s m args below meth c s₁ B hml hv
  obtain ⟨rfl, hsz, hP, hK, hD0⟩ := hv
  have hx := B.exec
  have hb := B.bytes
  have hr := B.returns
  have hts := atoms_spec (ws := wsL_areAlike) B.pre
  have hown : s.vm.findClass RL = some m.cls := findClass_of_methodNamed B.named
  have hlocks := B.notSynchronized
  subst hsz
  have hD := hD0.self (sz := s.heap.size)
  generalize hAe : va_A (ws_CC cs a σ) s.heap.size = A at hD ⊢
  have hA : ∀ q : Nat, s.heap.size ≤ q → A q := fun q h => by rw [← hAe]; exact Or.inr h
  have hS : va_S A s.heap s.heap [] := va_S.rf
  have hP : va_P D vwCl (ws_CC cs a σ) s.heap := hP
  have B140 : ∀ (x2 : Int32) (σ : CC), b_L_areAlike_140 Φ x2 σ → At p l e (headSpec wsL_areAlike rm_L_areAlike).room s m ([.ref (a 0), .ref (a 21)] : List Value).toArray below meth c (MQ below (va_Qi Φ (BG D cs A s.heap.size (ws_CC cs a)) A) ([.ref (a 0), .ref (a 21)] : List Value).toArray s 0 0 A) D A 5 [(2, .int x2)] (ws_CC cs a σ) 140 [] := by
    intro x2 σ hw H locs ls hl hP hD hS
    unfold b_L_areAlike_140 at hw
    refine lv_iload_n hx hb dL_areAlike_140 rfl (lv_at hl 0 rfl) ?_
    exact rZ (wf := (ws_CC cs a)) (u := σ) hx hb hr hlocks hK hP hD hS hw dL_areAlike_141
  have B127 : ∀ (K63 : (Int32 → Int32 → CC → Prop)) (hK63 : ∀ (x2 : Int32) (x3 : Int32) (σ : CC), K63 x2 x3 σ → At p l e (headSpec wsL_areAlike rm_L_areAlike).room s m ([.ref (a 0), .ref (a 21)] : List Value).toArray below meth c (MQ below (va_Qi Φ (BG D cs A s.heap.size (ws_CC cs a)) A) ([.ref (a 0), .ref (a 21)] : List Value).toArray s 0 0 A) D A 5 [(0, .ref (a 0)), (1, .ref (a 21)), (2, .int x2), (3, .int x3)] (ws_CC cs a σ) 63 []) (K95 : (Int32 → Int32 → Int32 → CC → Prop)) (hK95 : ∀ (x2 : Int32) (x3 : Int32) (x4 : Int32) (σ : CC), K95 x2 x3 x4 σ → At p l e (headSpec wsL_areAlike rm_L_areAlike).room s m ([.ref (a 0), .ref (a 21)] : List Value).toArray below meth c (MQ below (va_Qi Φ (BG D cs A s.heap.size (ws_CC cs a)) A) ([.ref (a 0), .ref (a 21)] : List Value).toArray s 0 0 A) D A 5 [(0, .ref (a 0)), (1, .ref (a 21)), (2, .int x2), (3, .int x3), (4, .int x4)] (ws_CC cs a σ) 95 []) (x3 : Int32) (x4 : Int32) (t0 : Int32) (σ : CC), b_L_areAlike_127 K63 K95 Φ x3 x4 t0 σ → At p l e (headSpec wsL_areAlike rm_L_areAlike).room s m ([.ref (a 0), .ref (a 21)] : List Value).toArray below meth c (MQ below (va_Qi Φ (BG D cs A s.heap.size (ws_CC cs a)) A) ([.ref (a 0), .ref (a 21)] : List Value).toArray s 0 0 A) D A 5 [(0, .ref (a 0)), (1, .ref (a 21)), (3, .int x3), (4, .int x4)] (ws_CC cs a σ) 127 [.int t0] := by
    intro K63 hK63 K95 hK95 x3 x4 t0 σ hw H locs ls hl hP hD hS
    unfold b_L_areAlike_127 at hw
    refine lv_istore_n (lv' := [(2, .int t0), (0, .ref (a 0)), (1, .ref (a 21)), (3, .int x3), (4, .int x4)]) hx hb dL_areAlike_127 rfl hl (by decide) rfl (fun ls hl => ?_)
    refine lv_iinc (v := (x4 + (1 : Int32))) (lv' := [(4, .int (x4 + (1 : Int32))), (2, .int t0), (0, .ref (a 0)), (1, .ref (a 21)), (3, .int x3)]) hx hb dL_areAlike_128 hl (k := 4) rfl rfl (by decide) rfl (fun ls hl => ?_)
    refine lv_goto (tgt := 95) hx hb dL_areAlike_131 (by decide) ?_
    exact hK95 _ _ _ _ hw _ _ ls (lv_sub hl [2, 3, 1, 4, 0] rfl) hP hD hS
  have B126 : ∀ (K63 : (Int32 → Int32 → CC → Prop)) (hK63 : ∀ (x2 : Int32) (x3 : Int32) (σ : CC), K63 x2 x3 σ → At p l e (headSpec wsL_areAlike rm_L_areAlike).room s m ([.ref (a 0), .ref (a 21)] : List Value).toArray below meth c (MQ below (va_Qi Φ (BG D cs A s.heap.size (ws_CC cs a)) A) ([.ref (a 0), .ref (a 21)] : List Value).toArray s 0 0 A) D A 5 [(0, .ref (a 0)), (1, .ref (a 21)), (2, .int x2), (3, .int x3)] (ws_CC cs a σ) 63 []) (K95 : (Int32 → Int32 → Int32 → CC → Prop)) (hK95 : ∀ (x2 : Int32) (x3 : Int32) (x4 : Int32) (σ : CC), K95 x2 x3 x4 σ → At p l e (headSpec wsL_areAlike rm_L_areAlike).room s m ([.ref (a 0), .ref (a 21)] : List Value).toArray below meth c (MQ below (va_Qi Φ (BG D cs A s.heap.size (ws_CC cs a)) A) ([.ref (a 0), .ref (a 21)] : List Value).toArray s 0 0 A) D A 5 [(0, .ref (a 0)), (1, .ref (a 21)), (2, .int x2), (3, .int x3), (4, .int x4)] (ws_CC cs a σ) 95 []) (x3 : Int32) (x4 : Int32) (σ : CC), b_L_areAlike_126 K63 K95 Φ x3 x4 σ → At p l e (headSpec wsL_areAlike rm_L_areAlike).room s m ([.ref (a 0), .ref (a 21)] : List Value).toArray below meth c (MQ below (va_Qi Φ (BG D cs A s.heap.size (ws_CC cs a)) A) ([.ref (a 0), .ref (a 21)] : List Value).toArray s 0 0 A) D A 5 [(0, .ref (a 0)), (1, .ref (a 21)), (3, .int x3), (4, .int x4)] (ws_CC cs a σ) 126 [] := by
    intro K63 hK63 K95 hK95 x3 x4 σ hw H locs ls hl hP hD hS
    unfold b_L_areAlike_126 at hw
    refine lv_iconst (v := (0 : Int32)) hx hb dL_areAlike_126 (by decide) ?_
    exact B127 _ hK63 _ hK95 _ _ _ _ hw _ _ ls (lv_sub hl [0, 1, 2, 3] rfl) hP hD hS
  have B95 : ∀ (K63 : (Int32 → Int32 → CC → Prop)) (hK63 : ∀ (x2 : Int32) (x3 : Int32) (σ : CC), K63 x2 x3 σ → At p l e (headSpec wsL_areAlike rm_L_areAlike).room s m ([.ref (a 0), .ref (a 21)] : List Value).toArray below meth c (MQ below (va_Qi Φ (BG D cs A s.heap.size (ws_CC cs a)) A) ([.ref (a 0), .ref (a 21)] : List Value).toArray s 0 0 A) D A 5 [(0, .ref (a 0)), (1, .ref (a 21)), (2, .int x2), (3, .int x3)] (ws_CC cs a σ) 63 []) (n : Nat) (x2 : Int32) (x3 : Int32) (x4 : Int32) (σ : CC), it4 (b_L_areAlike_95 K63 Φ) n x2 x3 x4 σ → At p l e (headSpec wsL_areAlike rm_L_areAlike).room s m ([.ref (a 0), .ref (a 21)] : List Value).toArray below meth c (MQ below (va_Qi Φ (BG D cs A s.heap.size (ws_CC cs a)) A) ([.ref (a 0), .ref (a 21)] : List Value).toArray s 0 0 A) D A 5 [(0, .ref (a 0)), (1, .ref (a 21)), (2, .int x2), (3, .int x3), (4, .int x4)] (ws_CC cs a σ) 95 [] := by
    intro K63 hK63 n
    induction n with
    | zero => intro x2 x3 x4 σ hw; exact absurd hw id
    | succ n ih =>
      intro x2 x3 x4 σ hw H locs ls hl hP hD hS
      have hw : b_L_areAlike_95 K63 Φ (it4 (b_L_areAlike_95 K63 Φ) n) x2 x3 x4 σ := hw
      unfold b_L_areAlike_95 at hw
      refine lv_iload hx hb dL_areAlike_95 (lv_at hl 4 rfl) ?_
      refine lv_iconst (v := (5 : Int32)) hx hb dL_areAlike_97 (by decide) ?_
      refine lv_icmp_ge (tgt := 134) hx hb dL_areAlike_98 (by decide) (fun c98 => ?_) (fun c98 => ?_)
      · have hw := hw.1 c98
        refine lv_iinc (v := (x3 + (1 : Int32))) (lv' := [(3, .int (x3 + (1 : Int32))), (0, .ref (a 0)), (1, .ref (a 21)), (2, .int x2), (4, .int x4)]) hx hb dL_areAlike_134 hl (k := 3) rfl rfl (by decide) rfl (fun ls hl => ?_)
        refine lv_goto (tgt := 63) hx hb dL_areAlike_137 (by decide) ?_
        exact hK63 _ _ _ hw _ _ ls (lv_sub hl [1, 2, 3, 0] rfl) hP hD hS
      · have hw := hw.2 c98
        refine lv_iload_n hx hb dL_areAlike_101 rfl (lv_at hl 2 rfl) ?_
        refine lv_if_eq (tgt := 126) hx hb dL_areAlike_102 (by decide) (fun c102 => ?_) (fun c102 => ?_)
        · have hw := hw.1 c102
          exact B126 _ hK63 _ ih _ _ _ hw _ _ ls (lv_sub hl [0, 1, 3, 4] rfl) hP hD hS
        · have hw := hw.2 c102
          refine lv_aload_n hx hb dL_areAlike_105 rfl (lv_at hl 0 rfl) ?_
          refine lv_iload_n hx hb dL_areAlike_106 rfl (lv_at hl 3 rfl) ?_
          refine lv_iload hx hb dL_areAlike_107 (lv_at hl 4 rfl) ?_
          refine kVi (As := [.int x3, .int x4]) (rest := []) ⟨hx, hb, hml, hown, hts⟩ (c0_C_at l D cs a _ (g_CC_o σ) x3 x4 hw) (cwV 2 hts gL_areAlike_X3_at rfl rfl rfl (by decide +kernel) ⟨Nat.le_of_ble_eq_true rfl, Nat.le_of_ble_eq_true rfl⟩) (pt_CC_o cs a σ) hK hP hD hS hA (ci := 3) rfl rfl rfl rfl hl.1 rfl (Nat.le_of_ble_eq_true rfl) dL_areAlike_109 ⟨Nat.zero_le _, Nat.zero_le _⟩ (fun r109 u109 H locs hw hP hD hS => ?_)
          have hP : va_P D vwCl (ws_CC cs a (s_CC_o σ u109)) H := hP
          have hD : va_D A (ws_CC cs a (s_CC_o σ u109)) := hD
          refine lv_aload_n hx hb dL_areAlike_112 rfl (lv_at hl 1 rfl) ?_
          refine lv_iload_n hx hb dL_areAlike_113 rfl (lv_at hl 3 rfl) ?_
          refine lv_iload hx hb dL_areAlike_114 (lv_at hl 4 rfl) ?_
          refine kVi (As := [.int x3, .int x4]) (rest := [.int r109]) ⟨hx, hb, hml, hown, hts⟩ (c0_C_at l D cs (sh a 21) _ (g_CC_p (s_CC_o σ u109)) x3 x4 hw) (cwV 2 hts gL_areAlike_X3_at rfl rfl rfl (by decide +kernel) ⟨Nat.le_of_ble_eq_true rfl, Nat.le_of_ble_eq_true rfl⟩) (pt_CC_p cs a (s_CC_o σ u109)) hK hP hD hS hA (ci := 3) rfl rfl rfl rfl hl.1 rfl (Nat.le_of_ble_eq_true rfl) dL_areAlike_116 ⟨Nat.zero_le _, Nat.zero_le _⟩ (fun r116 u116 H locs hw hP hD hS => ?_)
          have hP : va_P D vwCl (ws_CC cs a (s_CC_p (s_CC_o σ u109) u116)) H := hP
          have hD : va_D A (ws_CC cs a (s_CC_p (s_CC_o σ u109) u116)) := hD
          refine lv_icmp_ne (tgt := 126) hx hb dL_areAlike_119 (by decide) (fun c119 => ?_) (fun c119 => ?_)
          · have hw := hw.2 c119
            exact B126 _ hK63 _ ih _ _ _ hw _ _ ls (lv_sub hl [0, 1, 3, 4] rfl) hP hD hS
          · have hw := hw.1 c119
            refine lv_iconst (v := (1 : Int32)) hx hb dL_areAlike_122 (by decide) ?_
            refine lv_goto (tgt := 127) hx hb dL_areAlike_123 (by decide) ?_
            exact B127 _ hK63 _ ih _ _ _ _ hw _ _ ls (lv_sub hl [0, 1, 3, 4] rfl) hP hD hS
  have B91 : ∀ (K63 : (Int32 → Int32 → CC → Prop)) (hK63 : ∀ (x2 : Int32) (x3 : Int32) (σ : CC), K63 x2 x3 σ → At p l e (headSpec wsL_areAlike rm_L_areAlike).room s m ([.ref (a 0), .ref (a 21)] : List Value).toArray below meth c (MQ below (va_Qi Φ (BG D cs A s.heap.size (ws_CC cs a)) A) ([.ref (a 0), .ref (a 21)] : List Value).toArray s 0 0 A) D A 5 [(0, .ref (a 0)), (1, .ref (a 21)), (2, .int x2), (3, .int x3)] (ws_CC cs a σ) 63 []) (x3 : Int32) (t0 : Int32) (σ : CC), b_L_areAlike_91 K63 Φ x3 t0 σ → At p l e (headSpec wsL_areAlike rm_L_areAlike).room s m ([.ref (a 0), .ref (a 21)] : List Value).toArray below meth c (MQ below (va_Qi Φ (BG D cs A s.heap.size (ws_CC cs a)) A) ([.ref (a 0), .ref (a 21)] : List Value).toArray s 0 0 A) D A 5 [(0, .ref (a 0)), (1, .ref (a 21)), (3, .int x3)] (ws_CC cs a σ) 91 [.int t0] := by
    intro K63 hK63 x3 t0 σ hw H locs ls hl hP hD hS
    unfold b_L_areAlike_91 at hw
    refine lv_istore_n (lv' := [(2, .int t0), (0, .ref (a 0)), (1, .ref (a 21)), (3, .int x3)]) hx hb dL_areAlike_91 rfl hl (by decide) rfl (fun ls hl => ?_)
    refine lv_iconst (v := (0 : Int32)) hx hb dL_areAlike_92 (by decide) ?_
    refine lv_istore (lv' := [(4, .int (0 : Int32)), (2, .int t0), (0, .ref (a 0)), (1, .ref (a 21)), (3, .int x3)]) hx hb dL_areAlike_93 hl (by decide) rfl (fun ls hl => ?_)
    obtain ⟨n, hw⟩ := hw
    exact B95 _ hK63 n _ _ _ _ hw _ _ ls (lv_sub hl [2, 3, 1, 4, 0] rfl) hP hD hS
  have B63 : ∀ (n : Nat) (x2 : Int32) (x3 : Int32) (σ : CC), it3 (b_L_areAlike_63 Φ) n x2 x3 σ → At p l e (headSpec wsL_areAlike rm_L_areAlike).room s m ([.ref (a 0), .ref (a 21)] : List Value).toArray below meth c (MQ below (va_Qi Φ (BG D cs A s.heap.size (ws_CC cs a)) A) ([.ref (a 0), .ref (a 21)] : List Value).toArray s 0 0 A) D A 5 [(0, .ref (a 0)), (1, .ref (a 21)), (2, .int x2), (3, .int x3)] (ws_CC cs a σ) 63 [] := by
    intro n
    induction n with
    | zero => intro x2 x3 σ hw; exact absurd hw id
    | succ n ih =>
      intro x2 x3 σ hw H locs ls hl hP hD hS
      have hw : b_L_areAlike_63 Φ (it3 (b_L_areAlike_63 Φ) n) x2 x3 σ := hw
      unfold b_L_areAlike_63 at hw
      refine lv_iload_n hx hb dL_areAlike_63 rfl (lv_at hl 3 rfl) ?_
      refine lv_bipush (v := (6 : Int32)) hx hb dL_areAlike_64 (by decide) ?_
      refine lv_icmp_ge (tgt := 140) hx hb dL_areAlike_66 (by decide) (fun c66 => ?_) (fun c66 => ?_)
      · have hw := hw.1 c66
        exact B140 _ _ hw _ _ ls (lv_sub hl [2] rfl) hP hD hS
      · have hw := hw.2 c66
        refine lv_iload_n hx hb dL_areAlike_69 rfl (lv_at hl 2 rfl) ?_
        refine lv_if_eq (tgt := 140) hx hb dL_areAlike_70 (by decide) (fun c70 => ?_) (fun c70 => ?_)
        · have hw := hw.1 c70
          exact B140 _ _ hw _ _ ls (lv_sub hl [2] rfl) hP hD hS
        · have hw := hw.2 c70
          refine lv_aload_n hx hb dL_areAlike_73 rfl (lv_at hl 0 rfl) ?_
          refine lv_iload_n hx hb dL_areAlike_74 rfl (lv_at hl 3 rfl) ?_
          refine kVi (As := [.int x3]) (rest := []) ⟨hx, hb, hml, hown, hts⟩ (c0_C_height l D cs a _ (g_CC_o σ) x3 hw) (cwV 1 hts gL_areAlike_X3_height rfl rfl rfl (by decide +kernel) ⟨Nat.le_of_ble_eq_true rfl, Nat.le_of_ble_eq_true rfl⟩) (pt_CC_o cs a σ) hK hP hD hS hA (ci := 3) rfl rfl rfl rfl hl.1 rfl (Nat.le_of_ble_eq_true rfl) dL_areAlike_75 ⟨Nat.zero_le _, Nat.zero_le _⟩ (fun r75 u75 H locs hw hP hD hS => ?_)
          have hP : va_P D vwCl (ws_CC cs a (s_CC_o σ u75)) H := hP
          have hD : va_D A (ws_CC cs a (s_CC_o σ u75)) := hD
          refine lv_aload_n hx hb dL_areAlike_78 rfl (lv_at hl 1 rfl) ?_
          refine lv_iload_n hx hb dL_areAlike_79 rfl (lv_at hl 3 rfl) ?_
          refine kVi (As := [.int x3]) (rest := [.int r75]) ⟨hx, hb, hml, hown, hts⟩ (c0_C_height l D cs (sh a 21) _ (g_CC_p (s_CC_o σ u75)) x3 hw) (cwV 1 hts gL_areAlike_X3_height rfl rfl rfl (by decide +kernel) ⟨Nat.le_of_ble_eq_true rfl, Nat.le_of_ble_eq_true rfl⟩) (pt_CC_p cs a (s_CC_o σ u75)) hK hP hD hS hA (ci := 3) rfl rfl rfl rfl hl.1 rfl (Nat.le_of_ble_eq_true rfl) dL_areAlike_80 ⟨Nat.zero_le _, Nat.zero_le _⟩ (fun r80 u80 H locs hw hP hD hS => ?_)
          have hP : va_P D vwCl (ws_CC cs a (s_CC_p (s_CC_o σ u75) u80)) H := hP
          have hD : va_D A (ws_CC cs a (s_CC_p (s_CC_o σ u75) u80)) := hD
          refine lv_icmp_ne (tgt := 90) hx hb dL_areAlike_83 (by decide) (fun c83 => ?_) (fun c83 => ?_)
          · have hw := hw.2 c83
            refine lv_iconst (v := (0 : Int32)) hx hb dL_areAlike_90 (by decide) ?_
            exact B91 _ ih _ _ _ hw _ _ ls (lv_sub hl [0, 1, 3] rfl) hP hD hS
          · have hw := hw.1 c83
            refine lv_iconst (v := (1 : Int32)) hx hb dL_areAlike_86 (by decide) ?_
            refine lv_goto (tgt := 91) hx hb dL_areAlike_87 (by decide) ?_
            exact B91 _ ih _ _ _ hw _ _ ls (lv_sub hl [0, 1, 3] rfl) hP hD hS
  have B60 : ∀ (t0 : Int32) (σ : CC), b_L_areAlike_60 Φ t0 σ → At p l e (headSpec wsL_areAlike rm_L_areAlike).room s m ([.ref (a 0), .ref (a 21)] : List Value).toArray below meth c (MQ below (va_Qi Φ (BG D cs A s.heap.size (ws_CC cs a)) A) ([.ref (a 0), .ref (a 21)] : List Value).toArray s 0 0 A) D A 5 [(0, .ref (a 0)), (1, .ref (a 21))] (ws_CC cs a σ) 60 [.int t0] := by
    intro t0 σ hw H locs ls hl hP hD hS
    unfold b_L_areAlike_60 at hw
    refine lv_istore_n (lv' := [(2, .int t0), (0, .ref (a 0)), (1, .ref (a 21))]) hx hb dL_areAlike_60 rfl hl (by decide) rfl (fun ls hl => ?_)
    refine lv_iconst (v := (0 : Int32)) hx hb dL_areAlike_61 (by decide) ?_
    refine lv_istore_n (lv' := [(3, .int (0 : Int32)), (2, .int t0), (0, .ref (a 0)), (1, .ref (a 21))]) hx hb dL_areAlike_62 rfl hl (by decide) rfl (fun ls hl => ?_)
    obtain ⟨n, hw⟩ := hw
    exact B63 n _ _ _ hw _ _ ls (lv_sub hl [2, 3, 1, 0] rfl) hP hD hS
  have B59 : ∀ (σ : CC), b_L_areAlike_59 Φ σ → At p l e (headSpec wsL_areAlike rm_L_areAlike).room s m ([.ref (a 0), .ref (a 21)] : List Value).toArray below meth c (MQ below (va_Qi Φ (BG D cs A s.heap.size (ws_CC cs a)) A) ([.ref (a 0), .ref (a 21)] : List Value).toArray s 0 0 A) D A 5 [(0, .ref (a 0)), (1, .ref (a 21))] (ws_CC cs a σ) 59 [] := by
    intro σ hw H locs ls hl hP hD hS
    unfold b_L_areAlike_59 at hw
    refine lv_iconst (v := (0 : Int32)) hx hb dL_areAlike_59 (by decide) ?_
    exact B60 _ _ hw _ _ ls (lv_sub hl [0, 1] rfl) hP hD hS
  have hl := lv_entry ([.ref (a 0), .ref (a 21)]) (n := 5) (Nat.le_of_ble_eq_true rfl)
  rw [lg_entry_eq]
  generalize (lg_sl ([.ref (a 0), .ref (a 21)]) ++ List.replicate (5 - (lg_sl ([.ref (a 0), .ref (a 21)])).length) Slot.unset).toArray = ls at hl ⊢
  have hl : lv_has ls 5 [(0, .ref (a 0)), (1, .ref (a 21))] := hl
  unfold w_L_areAlike at hw
  refine lv_aload_n hx hb dL_areAlike_0 rfl (lv_at hl 0 rfl) ?_
  refine kVi (As := []) (rest := []) ⟨hx, hb, hml, hown, hts⟩ (c_C_crane l D cs a _ (g_CC_o σ) hw) (cwV 0 hts gL_areAlike_X3_crane rfl rfl rfl (by decide +kernel) ⟨Nat.le_of_ble_eq_true rfl, Nat.le_of_ble_eq_true rfl⟩) (pt_CC_o cs a σ) hK hP hD hS hA (ci := 3) rfl rfl rfl rfl hl.1 rfl (Nat.le_of_ble_eq_true rfl) dL_areAlike_1 ⟨Nat.zero_le _, Nat.zero_le _⟩ (fun r1 u1 H locs hw hP hD hS => ?_)
  have hP : va_P D vwCl (ws_CC cs a (s_CC_o σ u1)) H := hP
  have hD : va_D A (ws_CC cs a (s_CC_o σ u1)) := hD
  refine lv_aload_n hx hb dL_areAlike_4 rfl (lv_at hl 1 rfl) ?_
  refine kVi (As := []) (rest := [.int r1]) ⟨hx, hb, hml, hown, hts⟩ (c_C_crane l D cs (sh a 21) _ (g_CC_p (s_CC_o σ u1)) hw) (cwV 0 hts gL_areAlike_X3_crane rfl rfl rfl (by decide +kernel) ⟨Nat.le_of_ble_eq_true rfl, Nat.le_of_ble_eq_true rfl⟩) (pt_CC_p cs a (s_CC_o σ u1)) hK hP hD hS hA (ci := 3) rfl rfl rfl rfl hl.1 rfl (Nat.le_of_ble_eq_true rfl) dL_areAlike_5 ⟨Nat.zero_le _, Nat.zero_le _⟩ (fun r5 u5 H locs hw hP hD hS => ?_)
  have hP : va_P D vwCl (ws_CC cs a (s_CC_p (s_CC_o σ u1) u5)) H := hP
  have hD : va_D A (ws_CC cs a (s_CC_p (s_CC_o σ u1) u5)) := hD
  refine lv_icmp_ne (tgt := 59) hx hb dL_areAlike_8 (by decide) (fun c8 => ?_) (fun c8 => ?_)
  · have hw := hw.2 c8
    exact B59 _ hw _ _ ls (lv_sub hl [0, 1] rfl) hP hD hS
  · have hw := hw.1 c8
    refine lv_aload_n hx hb dL_areAlike_11 rfl (lv_at hl 0 rfl) ?_
    refine kVi (As := []) (rest := []) ⟨hx, hb, hml, hown, hts⟩ (c_C_lifts l D cs a _ (g_CC_o (s_CC_p (s_CC_o σ u1) u5)) hw) (cwV 0 hts gL_areAlike_X3_lifts rfl rfl rfl (by decide +kernel) ⟨Nat.le_of_ble_eq_true rfl, Nat.le_of_ble_eq_true rfl⟩) (pt_CC_o cs a (s_CC_p (s_CC_o σ u1) u5)) hK hP hD hS hA (ci := 3) rfl rfl rfl rfl hl.1 rfl (Nat.le_of_ble_eq_true rfl) dL_areAlike_12 ⟨Nat.zero_le _, Nat.zero_le _⟩ (fun r12 u12 H locs hw hP hD hS => ?_)
    have hP : va_P D vwCl (ws_CC cs a (s_CC_o (s_CC_p (s_CC_o σ u1) u5) u12)) H := hP
    have hD : va_D A (ws_CC cs a (s_CC_o (s_CC_p (s_CC_o σ u1) u5) u12)) := hD
    refine lv_aload_n hx hb dL_areAlike_15 rfl (lv_at hl 1 rfl) ?_
    refine kVi (As := []) (rest := [.int r12]) ⟨hx, hb, hml, hown, hts⟩ (c_C_lifts l D cs (sh a 21) _ (g_CC_p (s_CC_o (s_CC_p (s_CC_o σ u1) u5) u12)) hw) (cwV 0 hts gL_areAlike_X3_lifts rfl rfl rfl (by decide +kernel) ⟨Nat.le_of_ble_eq_true rfl, Nat.le_of_ble_eq_true rfl⟩) (pt_CC_p cs a (s_CC_o (s_CC_p (s_CC_o σ u1) u5) u12)) hK hP hD hS hA (ci := 3) rfl rfl rfl rfl hl.1 rfl (Nat.le_of_ble_eq_true rfl) dL_areAlike_16 ⟨Nat.zero_le _, Nat.zero_le _⟩ (fun r16 u16 H locs hw hP hD hS => ?_)
    have hP : va_P D vwCl (ws_CC cs a (s_CC_p (s_CC_o (s_CC_p (s_CC_o σ u1) u5) u12) u16)) H := hP
    have hD : va_D A (ws_CC cs a (s_CC_p (s_CC_o (s_CC_p (s_CC_o σ u1) u5) u12) u16)) := hD
    refine lv_icmp_ne (tgt := 59) hx hb dL_areAlike_19 (by decide) (fun c19 => ?_) (fun c19 => ?_)
    · have hw := hw.2 c19
      exact B59 _ hw _ _ ls (lv_sub hl [0, 1] rfl) hP hD hS
    · have hw := hw.1 c19
      refine lv_aload_n hx hb dL_areAlike_22 rfl (lv_at hl 0 rfl) ?_
      refine kVi (As := []) (rest := []) ⟨hx, hb, hml, hown, hts⟩ (c_C_bonus l D cs a _ (g_CC_o (s_CC_p (s_CC_o (s_CC_p (s_CC_o σ u1) u5) u12) u16)) hw) (cwV 0 hts gL_areAlike_X3_bonus rfl rfl rfl (by decide +kernel) ⟨Nat.le_of_ble_eq_true rfl, Nat.le_of_ble_eq_true rfl⟩) (pt_CC_o cs a (s_CC_p (s_CC_o (s_CC_p (s_CC_o σ u1) u5) u12) u16)) hK hP hD hS hA (ci := 3) rfl rfl rfl rfl hl.1 rfl (Nat.le_of_ble_eq_true rfl) dL_areAlike_23 ⟨Nat.zero_le _, Nat.zero_le _⟩ (fun r23 u23 H locs hw hP hD hS => ?_)
      have hP : va_P D vwCl (ws_CC cs a (s_CC_o (s_CC_p (s_CC_o (s_CC_p (s_CC_o σ u1) u5) u12) u16) u23)) H := hP
      have hD : va_D A (ws_CC cs a (s_CC_o (s_CC_p (s_CC_o (s_CC_p (s_CC_o σ u1) u5) u12) u16) u23)) := hD
      refine lv_aload_n hx hb dL_areAlike_26 rfl (lv_at hl 1 rfl) ?_
      refine kVi (As := []) (rest := [.int r23]) ⟨hx, hb, hml, hown, hts⟩ (c_C_bonus l D cs (sh a 21) _ (g_CC_p (s_CC_o (s_CC_p (s_CC_o (s_CC_p (s_CC_o σ u1) u5) u12) u16) u23)) hw) (cwV 0 hts gL_areAlike_X3_bonus rfl rfl rfl (by decide +kernel) ⟨Nat.le_of_ble_eq_true rfl, Nat.le_of_ble_eq_true rfl⟩) (pt_CC_p cs a (s_CC_o (s_CC_p (s_CC_o (s_CC_p (s_CC_o σ u1) u5) u12) u16) u23)) hK hP hD hS hA (ci := 3) rfl rfl rfl rfl hl.1 rfl (Nat.le_of_ble_eq_true rfl) dL_areAlike_27 ⟨Nat.zero_le _, Nat.zero_le _⟩ (fun r27 u27 H locs hw hP hD hS => ?_)
      have hP : va_P D vwCl (ws_CC cs a (s_CC_p (s_CC_o (s_CC_p (s_CC_o (s_CC_p (s_CC_o σ u1) u5) u12) u16) u23) u27)) H := hP
      have hD : va_D A (ws_CC cs a (s_CC_p (s_CC_o (s_CC_p (s_CC_o (s_CC_p (s_CC_o σ u1) u5) u12) u16) u23) u27)) := hD
      refine lv_icmp_ne (tgt := 59) hx hb dL_areAlike_30 (by decide) (fun c30 => ?_) (fun c30 => ?_)
      · have hw := hw.2 c30
        exact B59 _ hw _ _ ls (lv_sub hl [0, 1] rfl) hP hD hS
      · have hw := hw.1 c30
        refine lv_aload_n hx hb dL_areAlike_33 rfl (lv_at hl 0 rfl) ?_
        refine kVi (As := []) (rest := []) ⟨hx, hb, hml, hown, hts⟩ (c_C_today l D cs a _ (g_CC_o (s_CC_p (s_CC_o (s_CC_p (s_CC_o (s_CC_p (s_CC_o σ u1) u5) u12) u16) u23) u27)) hw) (cwV 0 hts gL_areAlike_X3_today rfl rfl rfl (by decide +kernel) ⟨Nat.le_of_ble_eq_true rfl, Nat.le_of_ble_eq_true rfl⟩) (pt_CC_o cs a (s_CC_p (s_CC_o (s_CC_p (s_CC_o (s_CC_p (s_CC_o σ u1) u5) u12) u16) u23) u27)) hK hP hD hS hA (ci := 3) rfl rfl rfl rfl hl.1 rfl (Nat.le_of_ble_eq_true rfl) dL_areAlike_34 ⟨Nat.zero_le _, Nat.zero_le _⟩ (fun r34 u34 H locs hw hP hD hS => ?_)
        have hP : va_P D vwCl (ws_CC cs a (s_CC_o (s_CC_p (s_CC_o (s_CC_p (s_CC_o (s_CC_p (s_CC_o σ u1) u5) u12) u16) u23) u27) u34)) H := hP
        have hD : va_D A (ws_CC cs a (s_CC_o (s_CC_p (s_CC_o (s_CC_p (s_CC_o (s_CC_p (s_CC_o σ u1) u5) u12) u16) u23) u27) u34)) := hD
        refine lv_aload_n hx hb dL_areAlike_37 rfl (lv_at hl 1 rfl) ?_
        refine kVi (As := []) (rest := [.int r34]) ⟨hx, hb, hml, hown, hts⟩ (c_C_today l D cs (sh a 21) _ (g_CC_p (s_CC_o (s_CC_p (s_CC_o (s_CC_p (s_CC_o (s_CC_p (s_CC_o σ u1) u5) u12) u16) u23) u27) u34)) hw) (cwV 0 hts gL_areAlike_X3_today rfl rfl rfl (by decide +kernel) ⟨Nat.le_of_ble_eq_true rfl, Nat.le_of_ble_eq_true rfl⟩) (pt_CC_p cs a (s_CC_o (s_CC_p (s_CC_o (s_CC_p (s_CC_o (s_CC_p (s_CC_o σ u1) u5) u12) u16) u23) u27) u34)) hK hP hD hS hA (ci := 3) rfl rfl rfl rfl hl.1 rfl (Nat.le_of_ble_eq_true rfl) dL_areAlike_38 ⟨Nat.zero_le _, Nat.zero_le _⟩ (fun r38 u38 H locs hw hP hD hS => ?_)
        have hP : va_P D vwCl (ws_CC cs a (s_CC_p (s_CC_o (s_CC_p (s_CC_o (s_CC_p (s_CC_o (s_CC_p (s_CC_o σ u1) u5) u12) u16) u23) u27) u34) u38)) H := hP
        have hD : va_D A (ws_CC cs a (s_CC_p (s_CC_o (s_CC_p (s_CC_o (s_CC_p (s_CC_o (s_CC_p (s_CC_o σ u1) u5) u12) u16) u23) u27) u34) u38)) := hD
        refine lv_icmp_ne (tgt := 59) hx hb dL_areAlike_41 (by decide) (fun c41 => ?_) (fun c41 => ?_)
        · have hw := hw.2 c41
          exact B59 _ hw _ _ ls (lv_sub hl [0, 1] rfl) hP hD hS
        · have hw := hw.1 c41
          refine lv_aload_n hx hb dL_areAlike_44 rfl (lv_at hl 0 rfl) ?_
          refine kVi (As := []) (rest := []) ⟨hx, hb, hml, hown, hts⟩ (c_C_balance l D cs a _ (g_CC_o (s_CC_p (s_CC_o (s_CC_p (s_CC_o (s_CC_p (s_CC_o (s_CC_p (s_CC_o σ u1) u5) u12) u16) u23) u27) u34) u38)) hw) (cwV 0 hts gL_areAlike_X3_balance rfl rfl rfl (by decide +kernel) ⟨Nat.le_of_ble_eq_true rfl, Nat.le_of_ble_eq_true rfl⟩) (pt_CC_o cs a (s_CC_p (s_CC_o (s_CC_p (s_CC_o (s_CC_p (s_CC_o (s_CC_p (s_CC_o σ u1) u5) u12) u16) u23) u27) u34) u38)) hK hP hD hS hA (ci := 3) rfl rfl rfl rfl hl.1 rfl (Nat.le_of_ble_eq_true rfl) dL_areAlike_45 ⟨Nat.zero_le _, Nat.zero_le _⟩ (fun r45 u45 H locs hw hP hD hS => ?_)
          have hP : va_P D vwCl (ws_CC cs a (s_CC_o (s_CC_p (s_CC_o (s_CC_p (s_CC_o (s_CC_p (s_CC_o (s_CC_p (s_CC_o σ u1) u5) u12) u16) u23) u27) u34) u38) u45)) H := hP
          have hD : va_D A (ws_CC cs a (s_CC_o (s_CC_p (s_CC_o (s_CC_p (s_CC_o (s_CC_p (s_CC_o (s_CC_p (s_CC_o σ u1) u5) u12) u16) u23) u27) u34) u38) u45)) := hD
          refine lv_aload_n hx hb dL_areAlike_48 rfl (lv_at hl 1 rfl) ?_
          refine kVi (As := []) (rest := [.int r45]) ⟨hx, hb, hml, hown, hts⟩ (c_C_balance l D cs (sh a 21) _ (g_CC_p (s_CC_o (s_CC_p (s_CC_o (s_CC_p (s_CC_o (s_CC_p (s_CC_o (s_CC_p (s_CC_o σ u1) u5) u12) u16) u23) u27) u34) u38) u45)) hw) (cwV 0 hts gL_areAlike_X3_balance rfl rfl rfl (by decide +kernel) ⟨Nat.le_of_ble_eq_true rfl, Nat.le_of_ble_eq_true rfl⟩) (pt_CC_p cs a (s_CC_o (s_CC_p (s_CC_o (s_CC_p (s_CC_o (s_CC_p (s_CC_o (s_CC_p (s_CC_o σ u1) u5) u12) u16) u23) u27) u34) u38) u45)) hK hP hD hS hA (ci := 3) rfl rfl rfl rfl hl.1 rfl (Nat.le_of_ble_eq_true rfl) dL_areAlike_49 ⟨Nat.zero_le _, Nat.zero_le _⟩ (fun r49 u49 H locs hw hP hD hS => ?_)
          have hP : va_P D vwCl (ws_CC cs a (s_CC_p (s_CC_o (s_CC_p (s_CC_o (s_CC_p (s_CC_o (s_CC_p (s_CC_o (s_CC_p (s_CC_o σ u1) u5) u12) u16) u23) u27) u34) u38) u45) u49)) H := hP
          have hD : va_D A (ws_CC cs a (s_CC_p (s_CC_o (s_CC_p (s_CC_o (s_CC_p (s_CC_o (s_CC_p (s_CC_o (s_CC_p (s_CC_o σ u1) u5) u12) u16) u23) u27) u34) u38) u45) u49)) := hD
          refine lv_icmp_ne (tgt := 59) hx hb dL_areAlike_52 (by decide) (fun c52 => ?_) (fun c52 => ?_)
          · have hw := hw.2 c52
            exact B59 _ hw _ _ ls (lv_sub hl [0, 1] rfl) hP hD hS
          · have hw := hw.1 c52
            refine lv_iconst (v := (1 : Int32)) hx hb dL_areAlike_55 (by decide) ?_
            refine lv_goto (tgt := 60) hx hb dL_areAlike_56 (by decide) ?_
            exact B60 _ _ hw _ _ ls (lv_sub hl [0, 1] rfl) hP hD hS
abbrev rm_L_isYardSo : Room := { frames := 9, cells := 0, slots := 0, locals := 156 }
set_option maxHeartbeats 4000000 in
set_option maxRecDepth 100000 in
theorem c_L_isYardSo (l : Launch) (D : va_G) (cs : CS) (a : Nat → Nat) (sz : Nat) (σ : CY) {Φ : Int32 → CY → Prop} (hw : w_L_isYardSo σ Φ) : Met l yL_isYardSo wsL_isYardSo rm_L_isYardSo (PcG [.ref (a 0)] D cs (ws_CY cs a σ) sz) (va_Qi Φ (BG D cs (va_A (ws_CY cs a σ) sz) sz (ws_CY cs a)) (va_A (ws_CY cs a σ) sz)) 0 0 (va_A (ws_CY cs a σ) sz) := by
  refine Met.ofW (cc := cL_isYardSo) (maxL := 8) (ret := (some .boolean)) (by decide) rfl ?_
  intro p e s m args below meth c s₁ B hml hv
  obtain ⟨rfl, hsz, hP, hK, hD0⟩ := hv
  have hx := B.exec
  have hb := B.bytes
  have hr := B.returns
  have hts := atoms_spec (ws := wsL_isYardSo) B.pre
  have hown : s.vm.findClass RL = some m.cls := findClass_of_methodNamed B.named
  have hlocks := B.notSynchronized
  subst hsz
  have hD := hD0.self (sz := s.heap.size)
  generalize hAe : va_A (ws_CY cs a σ) s.heap.size = A at hD ⊢
  have hA : ∀ q : Nat, s.heap.size ≤ q → A q := fun q h => by rw [← hAe]; exact Or.inr h
  have hS : va_S A s.heap s.heap [] := va_S.rf
  have hP : va_P D vwCl (ws_CY cs a σ) s.heap := hP
  have B185 : ∀ (t0 : Int32) (σ : CY), b_L_isYardSo_185 Φ t0 σ → At p l e (headSpec wsL_isYardSo rm_L_isYardSo).room s m ([.ref (a 0)] : List Value).toArray below meth c (MQ below (va_Qi Φ (BG D cs A s.heap.size (ws_CY cs a)) A) ([.ref (a 0)] : List Value).toArray s 0 0 A) D A 8 [] (ws_CY cs a σ) 185 [.int t0] := by
    intro t0 σ hw H locs ls hl hP hD hS
    unfold b_L_isYardSo_185 at hw
    exact rZ (wf := (ws_CY cs a)) (u := σ) hx hb hr hlocks hK hP hD hS hw dL_isYardSo_185
  have B184 : ∀ (σ : CY), b_L_isYardSo_184 Φ σ → At p l e (headSpec wsL_isYardSo rm_L_isYardSo).room s m ([.ref (a 0)] : List Value).toArray below meth c (MQ below (va_Qi Φ (BG D cs A s.heap.size (ws_CY cs a)) A) ([.ref (a 0)] : List Value).toArray s 0 0 A) D A 8 [] (ws_CY cs a σ) 184 [] := by
    intro σ hw H locs ls hl hP hD hS
    unfold b_L_isYardSo_184 at hw
    refine lv_iconst (v := (0 : Int32)) hx hb dL_isYardSo_184 (by decide) ?_
    exact B185 _ _ hw _ _ ls (lv_sub hl [] rfl) hP hD hS
  have B159 : ∀ (σ : CY), b_L_isYardSo_159 Φ σ → At p l e (headSpec wsL_isYardSo rm_L_isYardSo).room s m ([.ref (a 0)] : List Value).toArray below meth c (MQ below (va_Qi Φ (BG D cs A s.heap.size (ws_CY cs a)) A) ([.ref (a 0)] : List Value).toArray s 0 0 A) D A 8 [(0, .ref (a 0))] (ws_CY cs a σ) 159 [] := by
    intro σ hw H locs ls hl hP hD hS
    unfold b_L_isYardSo_159 at hw
    refine lv_aload_n hx hb dL_isYardSo_159 rfl (lv_at hl 0 rfl) ?_
    refine kVi (As := []) (rest := []) ⟨hx, hb, hml, hown, hts⟩ (c_C_bonus l D cs a _ σ hw) (cwV 0 hts gL_isYardSo_X3_bonus rfl rfl rfl (by decide +kernel) ⟨Nat.le_of_ble_eq_true rfl, Nat.le_of_ble_eq_true rfl⟩) (pt_self_CY cs a σ) hK hP hD hS hA (ci := 3) rfl rfl rfl rfl hl.1 rfl (Nat.le_of_ble_eq_true rfl) dL_isYardSo_160 ⟨Nat.zero_le _, Nat.zero_le _⟩ (fun r160 u160 H locs hw hP hD hS => ?_)
    have hP : va_P D vwCl (ws_CY cs a u160) H := hP
    have hD : va_D A (ws_CY cs a u160) := hD
    refine lv_bipush (v := (100 : Int32)) hx hb dL_isYardSo_163 (by decide) ?_
    refine lv_irem hx hb dL_isYardSo_165 (by decide) ?_
    refine lv_if_ne (tgt := 184) hx hb dL_isYardSo_166 (by decide) (fun c166 => ?_) (fun c166 => ?_)
    · have hw := hw.2 c166
      exact B184 _ hw _ _ ls (lv_sub hl [] rfl) hP hD hS
    · have hw := hw.1 c166
      refine lv_aload_n hx hb dL_isYardSo_169 rfl (lv_at hl 0 rfl) ?_
      refine kVi (As := []) (rest := []) ⟨hx, hb, hml, hown, hts⟩ (c_C_balance l D cs a _ u160 hw) (cwV 0 hts gL_isYardSo_X3_balance rfl rfl rfl (by decide +kernel) ⟨Nat.le_of_ble_eq_true rfl, Nat.le_of_ble_eq_true rfl⟩) (pt_self_CY cs a u160) hK hP hD hS hA (ci := 3) rfl rfl rfl rfl hl.1 rfl (Nat.le_of_ble_eq_true rfl) dL_isYardSo_170 ⟨Nat.zero_le _, Nat.zero_le _⟩ (fun r170 u170 H locs hw hP hD hS => ?_)
      have hP : va_P D vwCl (ws_CY cs a u170) H := hP
      have hD : va_D A (ws_CY cs a u170) := hD
      refine lv_aload_n hx hb dL_isYardSo_173 rfl (lv_at hl 0 rfl) ?_
      refine kVi (As := []) (rest := [.int r170]) ⟨hx, hb, hml, hown, hts⟩ (c_C_bonus l D cs a _ u170 hw) (cwV 0 hts gL_isYardSo_X3_bonus rfl rfl rfl (by decide +kernel) ⟨Nat.le_of_ble_eq_true rfl, Nat.le_of_ble_eq_true rfl⟩) (pt_self_CY cs a u170) hK hP hD hS hA (ci := 3) rfl rfl rfl rfl hl.1 rfl (Nat.le_of_ble_eq_true rfl) dL_isYardSo_174 ⟨Nat.zero_le _, Nat.zero_le _⟩ (fun r174 u174 H locs hw hP hD hS => ?_)
      have hP : va_P D vwCl (ws_CY cs a u174) H := hP
      have hD : va_D A (ws_CY cs a u174) := hD
      refine lv_icmp_gt (tgt := 184) hx hb dL_isYardSo_177 (by decide) (fun c177 => ?_) (fun c177 => ?_)
      · have hw := hw.1 c177
        exact B184 _ hw _ _ ls (lv_sub hl [] rfl) hP hD hS
      · have hw := hw.2 c177
        refine lv_iconst (v := (1 : Int32)) hx hb dL_isYardSo_180 (by decide) ?_
        refine lv_goto (tgt := 185) hx hb dL_isYardSo_181 (by decide) ?_
        exact B185 _ _ hw _ _ ls (lv_sub hl [] rfl) hP hD hS
  have B120 : ∀ (K6 : (Int32 → Int32 → Int32 → CY → Prop)) (hK6 : ∀ (x1 : Int32) (x2 : Int32) (x3 : Int32) (σ : CY), K6 x1 x2 x3 σ → At p l e (headSpec wsL_isYardSo rm_L_isYardSo).room s m ([.ref (a 0)] : List Value).toArray below meth c (MQ below (va_Qi Φ (BG D cs A s.heap.size (ws_CY cs a)) A) ([.ref (a 0)] : List Value).toArray s 0 0 A) D A 8 [(0, .ref (a 0)), (1, .int x1), (2, .int x2), (3, .int x3)] (ws_CY cs a σ) 6 []) (K22 : (Int32 → Int32 → Int32 → Int32 → Int32 → CY → Prop)) (hK22 : ∀ (x1 : Int32) (x2 : Int32) (x3 : Int32) (x4 : Int32) (x5 : Int32) (σ : CY), K22 x1 x2 x3 x4 x5 σ → At p l e (headSpec wsL_isYardSo rm_L_isYardSo).room s m ([.ref (a 0)] : List Value).toArray below meth c (MQ below (va_Qi Φ (BG D cs A s.heap.size (ws_CY cs a)) A) ([.ref (a 0)] : List Value).toArray s 0 0 A) D A 8 [(0, .ref (a 0)), (1, .int x1), (2, .int x2), (3, .int x3), (4, .int x4), (5, .int x5)] (ws_CY cs a σ) 22 []) (x1 : Int32) (x3 : Int32) (x4 : Int32) (x5 : Int32) (t0 : Int32) (t1 : Int32) (σ : CY), b_L_isYardSo_120 K6 K22 Φ x1 x3 x4 x5 t0 t1 σ → At p l e (headSpec wsL_isYardSo rm_L_isYardSo).room s m ([.ref (a 0)] : List Value).toArray below meth c (MQ below (va_Qi Φ (BG D cs A s.heap.size (ws_CY cs a)) A) ([.ref (a 0)] : List Value).toArray s 0 0 A) D A 8 [(0, .ref (a 0)), (1, .int x1), (3, .int x3), (4, .int x4), (5, .int x5)] (ws_CY cs a σ) 120 [.int t1, .int t0] := by
    intro K6 hK6 K22 hK22 x1 x3 x4 x5 t0 t1 σ hw H locs ls hl hP hD hS
    unfold b_L_isYardSo_120 at hw
    refine lv_iadd hx hb dL_isYardSo_120 ?_
    refine lv_istore_n (lv' := [(2, .int (t0 + t1)), (0, .ref (a 0)), (1, .int x1), (3, .int x3), (4, .int x4), (5, .int x5)]) hx hb dL_isYardSo_121 rfl hl (by decide) rfl (fun ls hl => ?_)
    refine lv_iinc (v := (x5 + (1 : Int32))) (lv' := [(5, .int (x5 + (1 : Int32))), (2, .int (t0 + t1)), (0, .ref (a 0)), (1, .int x1), (3, .int x3), (4, .int x4)]) hx hb dL_isYardSo_122 hl (k := 5) rfl rfl (by decide) rfl (fun ls hl => ?_)
    refine lv_goto (tgt := 22) hx hb dL_isYardSo_125 (by decide) ?_
    exact hK22 _ _ _ _ _ _ hw _ _ ls (lv_sub hl [2, 3, 1, 4, 5, 0] rfl) hP hD hS
  have B107 : ∀ (K6 : (Int32 → Int32 → Int32 → CY → Prop)) (hK6 : ∀ (x1 : Int32) (x2 : Int32) (x3 : Int32) (σ : CY), K6 x1 x2 x3 σ → At p l e (headSpec wsL_isYardSo rm_L_isYardSo).room s m ([.ref (a 0)] : List Value).toArray below meth c (MQ below (va_Qi Φ (BG D cs A s.heap.size (ws_CY cs a)) A) ([.ref (a 0)] : List Value).toArray s 0 0 A) D A 8 [(0, .ref (a 0)), (1, .int x1), (2, .int x2), (3, .int x3)] (ws_CY cs a σ) 6 []) (K22 : (Int32 → Int32 → Int32 → Int32 → Int32 → CY → Prop)) (hK22 : ∀ (x1 : Int32) (x2 : Int32) (x3 : Int32) (x4 : Int32) (x5 : Int32) (σ : CY), K22 x1 x2 x3 x4 x5 σ → At p l e (headSpec wsL_isYardSo rm_L_isYardSo).room s m ([.ref (a 0)] : List Value).toArray below meth c (MQ below (va_Qi Φ (BG D cs A s.heap.size (ws_CY cs a)) A) ([.ref (a 0)] : List Value).toArray s 0 0 A) D A 8 [(0, .ref (a 0)), (1, .int x1), (2, .int x2), (3, .int x3), (4, .int x4), (5, .int x5)] (ws_CY cs a σ) 22 []) (x2 : Int32) (x3 : Int32) (x4 : Int32) (x5 : Int32) (x7 : Int32) (t0 : Int32) (t1 : Int32) (σ : CY), b_L_isYardSo_107 K6 K22 Φ x2 x3 x4 x5 x7 t0 t1 σ → At p l e (headSpec wsL_isYardSo rm_L_isYardSo).room s m ([.ref (a 0)] : List Value).toArray below meth c (MQ below (va_Qi Φ (BG D cs A s.heap.size (ws_CY cs a)) A) ([.ref (a 0)] : List Value).toArray s 0 0 A) D A 8 [(0, .ref (a 0)), (2, .int x2), (3, .int x3), (4, .int x4), (5, .int x5), (7, .int x7)] (ws_CY cs a σ) 107 [.int t1, .int t0] := by
    intro K6 hK6 K22 hK22 x2 x3 x4 x5 x7 t0 t1 σ hw H locs ls hl hP hD hS
    unfold b_L_isYardSo_107 at hw
    refine lv_ior hx hb dL_isYardSo_107 ?_
    refine lv_istore_n (lv' := [(1, .int (t0 ||| t1)), (0, .ref (a 0)), (2, .int x2), (3, .int x3), (4, .int x4), (5, .int x5), (7, .int x7)]) hx hb dL_isYardSo_108 rfl hl (by decide) rfl (fun ls hl => ?_)
    refine lv_iload_n hx hb dL_isYardSo_109 rfl (lv_at hl 2 rfl) ?_
    refine lv_iload hx hb dL_isYardSo_110 (lv_at hl 6 rfl) ?_
    refine lv_if_eq (tgt := 119) hx hb dL_isYardSo_112 (by decide) (fun c112 => ?_) (fun c112 => ?_)
    · have hw := hw.1 c112
      refine lv_iconst (v := (0 : Int32)) hx hb dL_isYardSo_119 (by decide) ?_
      exact B120 _ hK6 _ hK22 _ _ _ _ _ _ _ hw _ _ ls (lv_sub hl [1, 0, 3, 4, 5] rfl) hP hD hS
    · have hw := hw.2 c112
      refine lv_iconst (v := (1 : Int32)) hx hb dL_isYardSo_115 (by decide) ?_
      refine lv_goto (tgt := 120) hx hb dL_isYardSo_116 (by decide) ?_
      exact B120 _ hK6 _ hK22 _ _ _ _ _ _ _ hw _ _ ls (lv_sub hl [1, 0, 3, 4, 5] rfl) hP hD hS
  have B93 : ∀ (K6 : (Int32 → Int32 → Int32 → CY → Prop)) (hK6 : ∀ (x1 : Int32) (x2 : Int32) (x3 : Int32) (σ : CY), K6 x1 x2 x3 σ → At p l e (headSpec wsL_isYardSo rm_L_isYardSo).room s m ([.ref (a 0)] : List Value).toArray below meth c (MQ below (va_Qi Φ (BG D cs A s.heap.size (ws_CY cs a)) A) ([.ref (a 0)] : List Value).toArray s 0 0 A) D A 8 [(0, .ref (a 0)), (1, .int x1), (2, .int x2), (3, .int x3)] (ws_CY cs a σ) 6 []) (K22 : (Int32 → Int32 → Int32 → Int32 → Int32 → CY → Prop)) (hK22 : ∀ (x1 : Int32) (x2 : Int32) (x3 : Int32) (x4 : Int32) (x5 : Int32) (σ : CY), K22 x1 x2 x3 x4 x5 σ → At p l e (headSpec wsL_isYardSo rm_L_isYardSo).room s m ([.ref (a 0)] : List Value).toArray below meth c (MQ below (va_Qi Φ (BG D cs A s.heap.size (ws_CY cs a)) A) ([.ref (a 0)] : List Value).toArray s 0 0 A) D A 8 [(0, .ref (a 0)), (1, .int x1), (2, .int x2), (3, .int x3), (4, .int x4), (5, .int x5)] (ws_CY cs a σ) 22 []) (x1 : Int32) (x2 : Int32) (x3 : Int32) (x4 : Int32) (x5 : Int32) (x6 : Int32) (x7 : Int32) (σ : CY), b_L_isYardSo_93 K6 K22 Φ x1 x2 x3 x4 x5 x6 x7 σ → At p l e (headSpec wsL_isYardSo rm_L_isYardSo).room s m ([.ref (a 0)] : List Value).toArray below meth c (MQ below (va_Qi Φ (BG D cs A s.heap.size (ws_CY cs a)) A) ([.ref (a 0)] : List Value).toArray s 0 0 A) D A 8 [(0, .ref (a 0)), (1, .int x1), (2, .int x2), (3, .int x3), (4, .int x4), (5, .int x5), (6, .int x6), (7, .int x7)] (ws_CY cs a σ) 93 [] := by
    intro K6 hK6 K22 hK22 x1 x2 x3 x4 x5 x6 x7 σ hw H locs ls hl hP hD hS
    unfold b_L_isYardSo_93 at hw
    refine lv_iload_n hx hb dL_isYardSo_93 rfl (lv_at hl 1 rfl) ?_
    refine lv_iload hx hb dL_isYardSo_94 (lv_at hl 7 rfl) ?_
    refine lv_if_eq (tgt := 106) hx hb dL_isYardSo_96 (by decide) (fun c96 => ?_) (fun c96 => ?_)
    · have hw := hw.1 c96
      refine lv_iconst (v := (0 : Int32)) hx hb dL_isYardSo_106 (by decide) ?_
      exact B107 _ hK6 _ hK22 _ _ _ _ _ _ _ _ hw _ _ ls (lv_sub hl [0, 2, 3, 4, 5, 7] rfl) hP hD hS
    · have hw := hw.2 c96
      refine lv_iconst (v := (1 : Int32)) hx hb dL_isYardSo_99 (by decide) ?_
      refine lv_iload hx hb dL_isYardSo_100 (lv_at hl 6 rfl) ?_
      refine lv_ishl hx hb dL_isYardSo_102 ?_
      refine lv_goto (tgt := 107) hx hb dL_isYardSo_103 (by decide) ?_
      exact B107 _ hK6 _ hK22 _ _ _ _ _ _ _ _ hw _ _ ls (lv_sub hl [0, 2, 3, 4, 5, 7] rfl) hP hD hS
  have B91 : ∀ (K6 : (Int32 → Int32 → Int32 → CY → Prop)) (hK6 : ∀ (x1 : Int32) (x2 : Int32) (x3 : Int32) (σ : CY), K6 x1 x2 x3 σ → At p l e (headSpec wsL_isYardSo rm_L_isYardSo).room s m ([.ref (a 0)] : List Value).toArray below meth c (MQ below (va_Qi Φ (BG D cs A s.heap.size (ws_CY cs a)) A) ([.ref (a 0)] : List Value).toArray s 0 0 A) D A 8 [(0, .ref (a 0)), (1, .int x1), (2, .int x2), (3, .int x3)] (ws_CY cs a σ) 6 []) (K22 : (Int32 → Int32 → Int32 → Int32 → Int32 → CY → Prop)) (hK22 : ∀ (x1 : Int32) (x2 : Int32) (x3 : Int32) (x4 : Int32) (x5 : Int32) (σ : CY), K22 x1 x2 x3 x4 x5 σ → At p l e (headSpec wsL_isYardSo rm_L_isYardSo).room s m ([.ref (a 0)] : List Value).toArray below meth c (MQ below (va_Qi Φ (BG D cs A s.heap.size (ws_CY cs a)) A) ([.ref (a 0)] : List Value).toArray s 0 0 A) D A 8 [(0, .ref (a 0)), (1, .int x1), (2, .int x2), (3, .int x3), (4, .int x4), (5, .int x5)] (ws_CY cs a σ) 22 []) (σ : CY), b_L_isYardSo_91 K6 K22 Φ σ → At p l e (headSpec wsL_isYardSo rm_L_isYardSo).room s m ([.ref (a 0)] : List Value).toArray below meth c (MQ below (va_Qi Φ (BG D cs A s.heap.size (ws_CY cs a)) A) ([.ref (a 0)] : List Value).toArray s 0 0 A) D A 8 [] (ws_CY cs a σ) 91 [] := by
    intro K6 hK6 K22 hK22 σ hw H locs ls hl hP hD hS
    unfold b_L_isYardSo_91 at hw
    refine lv_iconst (v := (0 : Int32)) hx hb dL_isYardSo_91 (by decide) ?_
    exact rZ (wf := (ws_CY cs a)) (u := σ) hx hb hr hlocks hK hP hD hS hw dL_isYardSo_92
  have B61 : ∀ (K6 : (Int32 → Int32 → Int32 → CY → Prop)) (hK6 : ∀ (x1 : Int32) (x2 : Int32) (x3 : Int32) (σ : CY), K6 x1 x2 x3 σ → At p l e (headSpec wsL_isYardSo rm_L_isYardSo).room s m ([.ref (a 0)] : List Value).toArray below meth c (MQ below (va_Qi Φ (BG D cs A s.heap.size (ws_CY cs a)) A) ([.ref (a 0)] : List Value).toArray s 0 0 A) D A 8 [(0, .ref (a 0)), (1, .int x1), (2, .int x2), (3, .int x3)] (ws_CY cs a σ) 6 []) (K22 : (Int32 → Int32 → Int32 → Int32 → Int32 → CY → Prop)) (hK22 : ∀ (x1 : Int32) (x2 : Int32) (x3 : Int32) (x4 : Int32) (x5 : Int32) (σ : CY), K22 x1 x2 x3 x4 x5 σ → At p l e (headSpec wsL_isYardSo rm_L_isYardSo).room s m ([.ref (a 0)] : List Value).toArray below meth c (MQ below (va_Qi Φ (BG D cs A s.heap.size (ws_CY cs a)) A) ([.ref (a 0)] : List Value).toArray s 0 0 A) D A 8 [(0, .ref (a 0)), (1, .int x1), (2, .int x2), (3, .int x3), (4, .int x4), (5, .int x5)] (ws_CY cs a σ) 22 []) (x1 : Int32) (x2 : Int32) (x3 : Int32) (x4 : Int32) (x5 : Int32) (x6 : Int32) (x7 : Int32) (t0 : Int32) (σ : CY), b_L_isYardSo_61 K6 K22 Φ x1 x2 x3 x4 x5 x6 x7 t0 σ → At p l e (headSpec wsL_isYardSo rm_L_isYardSo).room s m ([.ref (a 0)] : List Value).toArray below meth c (MQ below (va_Qi Φ (BG D cs A s.heap.size (ws_CY cs a)) A) ([.ref (a 0)] : List Value).toArray s 0 0 A) D A 8 [(0, .ref (a 0)), (1, .int x1), (2, .int x2), (3, .int x3), (4, .int x4), (5, .int x5), (6, .int x6), (7, .int x7)] (ws_CY cs a σ) 61 [.int t0] := by
    intro K6 hK6 K22 hK22 x1 x2 x3 x4 x5 x6 x7 t0 σ hw H locs ls hl hP hD hS
    unfold b_L_isYardSo_61 at hw
    refine lv_iload hx hb dL_isYardSo_61 (lv_at hl 7 rfl) ?_
    refine lv_icmp_ne (tgt := 91) hx hb dL_isYardSo_63 (by decide) (fun c63 => ?_) (fun c63 => ?_)
    · have hw := hw.2 c63
      exact B91 _ hK6 _ hK22 _ hw _ _ ls (lv_sub hl [] rfl) hP hD hS
    · have hw := hw.1 c63
      refine lv_iload hx hb dL_isYardSo_66 (lv_at hl 7 rfl) ?_
      refine lv_if_eq (tgt := 93) hx hb dL_isYardSo_68 (by decide) (fun c68 => ?_) (fun c68 => ?_)
      · have hw := hw.1 c68
        exact B93 _ hK6 _ hK22 _ _ _ _ _ _ _ _ hw _ _ ls (lv_sub hl [0, 1, 2, 3, 4, 5, 6, 7] rfl) hP hD hS
      · have hw := hw.2 c68
        refine lv_iload_n hx hb dL_isYardSo_71 rfl (lv_at hl 1 rfl) ?_
        refine lv_iload hx hb dL_isYardSo_72 (lv_at hl 6 rfl) ?_
        refine lv_ishr hx hb dL_isYardSo_74 ?_
        refine lv_iconst (v := (1 : Int32)) hx hb dL_isYardSo_75 (by decide) ?_
        refine lv_iand hx hb dL_isYardSo_76 ?_
        refine lv_iconst (v := (1 : Int32)) hx hb dL_isYardSo_77 (by decide) ?_
        refine lv_icmp_eq (tgt := 91) hx hb dL_isYardSo_78 (by decide) (fun c78 => ?_) (fun c78 => ?_)
        · have hw := hw.1 c78
          exact B91 _ hK6 _ hK22 _ hw _ _ ls (lv_sub hl [] rfl) hP hD hS
        · have hw := hw.2 c78
          refine lv_aload_n hx hb dL_isYardSo_81 rfl (lv_at hl 0 rfl) ?_
          refine lv_iload hx hb dL_isYardSo_82 (lv_at hl 6 rfl) ?_
          refine k0Li (As := [.ref (a 0), .int x6]) (rest := []) ⟨hx, hb, hml, hown, hts⟩ (c0_L_stackOf l D cs a _ σ x6 hw) (vx_cwSW 2 hts gL_isYardSo_L_stackOf rfl rfl rfl (by decide +kernel) ⟨Nat.le_of_ble_eq_true rfl, Nat.le_of_ble_eq_true rfl⟩) (pt_self_CY cs a σ) hK hP hD hS hA rfl hl.1 rfl (Nat.le_of_ble_eq_true rfl) dL_isYardSo_84 ⟨Nat.zero_le _, Nat.zero_le _⟩ (fun r84 u84 H locs hw hP hD hS => ?_)
          have hP : va_P D vwCl (ws_CY cs a u84) H := hP
          have hD : va_D A (ws_CY cs a u84) := hD
          refine lv_iload_n hx hb dL_isYardSo_87 rfl (lv_at hl 3 rfl) ?_
          refine lv_icmp_eq (tgt := 93) hx hb dL_isYardSo_88 (by decide) (fun c88 => ?_) (fun c88 => ?_)
          · have hw := hw.1 c88
            exact B93 _ hK6 _ hK22 _ _ _ _ _ _ _ _ hw _ _ ls (lv_sub hl [0, 1, 2, 3, 4, 5, 6, 7] rfl) hP hD hS
          · have hw := hw.2 c88
            exact B91 _ hK6 _ hK22 _ hw _ _ ls (lv_sub hl [] rfl) hP hD hS
  have B49 : ∀ (K6 : (Int32 → Int32 → Int32 → CY → Prop)) (hK6 : ∀ (x1 : Int32) (x2 : Int32) (x3 : Int32) (σ : CY), K6 x1 x2 x3 σ → At p l e (headSpec wsL_isYardSo rm_L_isYardSo).room s m ([.ref (a 0)] : List Value).toArray below meth c (MQ below (va_Qi Φ (BG D cs A s.heap.size (ws_CY cs a)) A) ([.ref (a 0)] : List Value).toArray s 0 0 A) D A 8 [(0, .ref (a 0)), (1, .int x1), (2, .int x2), (3, .int x3)] (ws_CY cs a σ) 6 []) (K22 : (Int32 → Int32 → Int32 → Int32 → Int32 → CY → Prop)) (hK22 : ∀ (x1 : Int32) (x2 : Int32) (x3 : Int32) (x4 : Int32) (x5 : Int32) (σ : CY), K22 x1 x2 x3 x4 x5 σ → At p l e (headSpec wsL_isYardSo rm_L_isYardSo).room s m ([.ref (a 0)] : List Value).toArray below meth c (MQ below (va_Qi Φ (BG D cs A s.heap.size (ws_CY cs a)) A) ([.ref (a 0)] : List Value).toArray s 0 0 A) D A 8 [(0, .ref (a 0)), (1, .int x1), (2, .int x2), (3, .int x3), (4, .int x4), (5, .int x5)] (ws_CY cs a σ) 22 []) (x1 : Int32) (x2 : Int32) (x3 : Int32) (x4 : Int32) (x5 : Int32) (x6 : Int32) (t0 : Int32) (σ : CY), b_L_isYardSo_49 K6 K22 Φ x1 x2 x3 x4 x5 x6 t0 σ → At p l e (headSpec wsL_isYardSo rm_L_isYardSo).room s m ([.ref (a 0)] : List Value).toArray below meth c (MQ below (va_Qi Φ (BG D cs A s.heap.size (ws_CY cs a)) A) ([.ref (a 0)] : List Value).toArray s 0 0 A) D A 8 [(0, .ref (a 0)), (1, .int x1), (2, .int x2), (3, .int x3), (4, .int x4), (5, .int x5), (6, .int x6)] (ws_CY cs a σ) 49 [.int t0] := by
    intro K6 hK6 K22 hK22 x1 x2 x3 x4 x5 x6 t0 σ hw H locs ls hl hP hD hS
    unfold b_L_isYardSo_49 at hw
    refine lv_istore (lv' := [(7, .int t0), (0, .ref (a 0)), (1, .int x1), (2, .int x2), (3, .int x3), (4, .int x4), (5, .int x5), (6, .int x6)]) hx hb dL_isYardSo_49 hl (by decide) rfl (fun ls hl => ?_)
    refine lv_iload hx hb dL_isYardSo_51 (lv_at hl 7 rfl) ?_
    refine lv_if_lt (tgt := 60) hx hb dL_isYardSo_53 (by decide) (fun c53 => ?_) (fun c53 => ?_)
    · have hw := hw.1 c53
      refine lv_iconst (v := (0 : Int32)) hx hb dL_isYardSo_60 (by decide) ?_
      exact B61 _ hK6 _ hK22 _ _ _ _ _ _ _ _ _ hw _ _ ls (lv_sub hl [1, 2, 3, 4, 5, 6, 7, 0] rfl) hP hD hS
    · have hw := hw.2 c53
      refine lv_iconst (v := (1 : Int32)) hx hb dL_isYardSo_56 (by decide) ?_
      refine lv_goto (tgt := 61) hx hb dL_isYardSo_57 (by decide) ?_
      exact B61 _ hK6 _ hK22 _ _ _ _ _ _ _ _ _ hw _ _ ls (lv_sub hl [1, 2, 3, 4, 5, 6, 7, 0] rfl) hP hD hS
  have B22 : ∀ (K6 : (Int32 → Int32 → Int32 → CY → Prop)) (hK6 : ∀ (x1 : Int32) (x2 : Int32) (x3 : Int32) (σ : CY), K6 x1 x2 x3 σ → At p l e (headSpec wsL_isYardSo rm_L_isYardSo).room s m ([.ref (a 0)] : List Value).toArray below meth c (MQ below (va_Qi Φ (BG D cs A s.heap.size (ws_CY cs a)) A) ([.ref (a 0)] : List Value).toArray s 0 0 A) D A 8 [(0, .ref (a 0)), (1, .int x1), (2, .int x2), (3, .int x3)] (ws_CY cs a σ) 6 []) (n : Nat) (x1 : Int32) (x2 : Int32) (x3 : Int32) (x4 : Int32) (x5 : Int32) (σ : CY), it6 (b_L_isYardSo_22 K6 Φ) n x1 x2 x3 x4 x5 σ → At p l e (headSpec wsL_isYardSo rm_L_isYardSo).room s m ([.ref (a 0)] : List Value).toArray below meth c (MQ below (va_Qi Φ (BG D cs A s.heap.size (ws_CY cs a)) A) ([.ref (a 0)] : List Value).toArray s 0 0 A) D A 8 [(0, .ref (a 0)), (1, .int x1), (2, .int x2), (3, .int x3), (4, .int x4), (5, .int x5)] (ws_CY cs a σ) 22 [] := by
    intro K6 hK6 n
    induction n with
    | zero => intro x1 x2 x3 x4 x5 σ hw; exact absurd hw id
    | succ n ih =>
      intro x1 x2 x3 x4 x5 σ hw H locs ls hl hP hD hS
      have hw : b_L_isYardSo_22 K6 Φ (it6 (b_L_isYardSo_22 K6 Φ) n) x1 x2 x3 x4 x5 σ := hw
      unfold b_L_isYardSo_22 at hw
      refine lv_iload hx hb dL_isYardSo_22 (lv_at hl 5 rfl) ?_
      refine lv_iconst (v := (5 : Int32)) hx hb dL_isYardSo_24 (by decide) ?_
      refine lv_icmp_ge (tgt := 128) hx hb dL_isYardSo_25 (by decide) (fun c25 => ?_) (fun c25 => ?_)
      · have hw := hw.1 c25
        refine lv_iinc (v := (x3 + (1 : Int32))) (lv' := [(3, .int (x3 + (1 : Int32))), (0, .ref (a 0)), (1, .int x1), (2, .int x2), (4, .int x4), (5, .int x5)]) hx hb dL_isYardSo_128 hl (k := 3) rfl rfl (by decide) rfl (fun ls hl => ?_)
        refine lv_goto (tgt := 6) hx hb dL_isYardSo_131 (by decide) ?_
        exact hK6 _ _ _ _ hw _ _ ls (lv_sub hl [1, 2, 3, 0] rfl) hP hD hS
      · have hw := hw.2 c25
        refine lv_aload_n hx hb dL_isYardSo_28 rfl (lv_at hl 0 rfl) ?_
        refine lv_iload_n hx hb dL_isYardSo_29 rfl (lv_at hl 3 rfl) ?_
        refine lv_iload hx hb dL_isYardSo_30 (lv_at hl 5 rfl) ?_
        refine kVi (As := [.int x3, .int x5]) (rest := []) ⟨hx, hb, hml, hown, hts⟩ (c0_C_at l D cs a _ σ x3 x5 hw) (cwV 2 hts gL_isYardSo_X3_at rfl rfl rfl (by decide +kernel) ⟨Nat.le_of_ble_eq_true rfl, Nat.le_of_ble_eq_true rfl⟩) (pt_self_CY cs a σ) hK hP hD hS hA (ci := 3) rfl rfl rfl rfl hl.1 rfl (Nat.le_of_ble_eq_true rfl) dL_isYardSo_32 ⟨Nat.zero_le _, Nat.zero_le _⟩ (fun r32 u32 H locs hw hP hD hS => ?_)
        have hP : va_P D vwCl (ws_CY cs a u32) H := hP
        have hD : va_D A (ws_CY cs a u32) := hD
        refine lv_istore (lv' := [(6, .int r32), (0, .ref (a 0)), (1, .int x1), (2, .int x2), (3, .int x3), (4, .int x4), (5, .int x5)]) hx hb dL_isYardSo_35 hl (by decide) rfl (fun ls hl => ?_)
        refine lv_iload hx hb dL_isYardSo_37 (lv_at hl 6 rfl) ?_
        refine lv_iload hx hb dL_isYardSo_39 (lv_at hl 5 rfl) ?_
        refine lv_icmp_ge (tgt := 48) hx hb dL_isYardSo_41 (by decide) (fun c41 => ?_) (fun c41 => ?_)
        · have hw := hw.1 c41
          refine lv_iconst (v := (0 : Int32)) hx hb dL_isYardSo_48 (by decide) ?_
          exact B49 _ hK6 _ ih _ _ _ _ _ _ _ _ hw _ _ ls (lv_sub hl [1, 2, 3, 4, 5, 6, 0] rfl) hP hD hS
        · have hw := hw.2 c41
          refine lv_iconst (v := (1 : Int32)) hx hb dL_isYardSo_44 (by decide) ?_
          refine lv_goto (tgt := 49) hx hb dL_isYardSo_45 (by decide) ?_
          exact B49 _ hK6 _ ih _ _ _ _ _ _ _ _ hw _ _ ls (lv_sub hl [1, 2, 3, 4, 5, 6, 0] rfl) hP hD hS
  have B6 : ∀ (n : Nat) (x1 : Int32) (x2 : Int32) (x3 : Int32) (σ : CY), it4 (b_L_isYardSo_6 Φ) n x1 x2 x3 σ → At p l e (headSpec wsL_isYardSo rm_L_isYardSo).room s m ([.ref (a 0)] : List Value).toArray below meth c (MQ below (va_Qi Φ (BG D cs A s.heap.size (ws_CY cs a)) A) ([.ref (a 0)] : List Value).toArray s 0 0 A) D A 8 [(0, .ref (a 0)), (1, .int x1), (2, .int x2), (3, .int x3)] (ws_CY cs a σ) 6 [] := by
    intro n
    induction n with
    | zero => intro x1 x2 x3 σ hw; exact absurd hw id
    | succ n ih =>
      intro x1 x2 x3 σ hw H locs ls hl hP hD hS
      have hw : b_L_isYardSo_6 Φ (it4 (b_L_isYardSo_6 Φ) n) x1 x2 x3 σ := hw
      unfold b_L_isYardSo_6 at hw
      refine lv_iload_n hx hb dL_isYardSo_6 rfl (lv_at hl 3 rfl) ?_
      refine lv_bipush (v := (6 : Int32)) hx hb dL_isYardSo_7 (by decide) ?_
      refine lv_icmp_ge (tgt := 134) hx hb dL_isYardSo_9 (by decide) (fun c9 => ?_) (fun c9 => ?_)
      · have hw := hw.1 c9
        refine lv_aload_n hx hb dL_isYardSo_134 rfl (lv_at hl 0 rfl) ?_
        refine kVi (As := []) (rest := []) ⟨hx, hb, hml, hown, hts⟩ (c_C_crane l D cs a _ σ hw) (cwV 0 hts gL_isYardSo_X3_crane rfl rfl rfl (by decide +kernel) ⟨Nat.le_of_ble_eq_true rfl, Nat.le_of_ble_eq_true rfl⟩) (pt_self_CY cs a σ) hK hP hD hS hA (ci := 3) rfl rfl rfl rfl hl.1 rfl (Nat.le_of_ble_eq_true rfl) dL_isYardSo_135 ⟨Nat.zero_le _, Nat.zero_le _⟩ (fun r135 u135 H locs hw hP hD hS => ?_)
        have hP : va_P D vwCl (ws_CY cs a u135) H := hP
        have hD : va_D A (ws_CY cs a u135) := hD
        refine lv_istore_n (lv' := [(3, .int r135), (0, .ref (a 0)), (1, .int x1), (2, .int x2)]) hx hb dL_isYardSo_138 rfl hl (by decide) rfl (fun ls hl => ?_)
        refine lv_iload_n hx hb dL_isYardSo_139 rfl (lv_at hl 3 rfl) ?_
        refine lv_bipush (v := (30 : Int32)) hx hb dL_isYardSo_140 (by decide) ?_
        refine lv_icmp_gt (tgt := 184) hx hb dL_isYardSo_142 (by decide) (fun c142 => ?_) (fun c142 => ?_)
        · have hw := hw.1 c142
          exact B184 _ hw _ _ ls (lv_sub hl [] rfl) hP hD hS
        · have hw := hw.2 c142
          refine lv_iload_n hx hb dL_isYardSo_145 rfl (lv_at hl 0 rfl) ?_
          refine lv_iconst (v := (-1 : Int32)) hx hb dL_isYardSo_146 (by decide) ?_
          refine lv_icmp_eq (tgt := 159) hx hb dL_isYardSo_147 (by decide) (fun c147 => ?_) (fun c147 => ?_)
          · have hw := hw.1 c147
            exact B159 _ hw _ _ ls (lv_sub hl [1] rfl) hP hD hS
          · have hw := hw.2 c147
            refine lv_aload_n hx hb dL_isYardSo_150 rfl (lv_at hl 1 rfl) ?_
            refine lv_iload_n hx hb dL_isYardSo_151 rfl (lv_at hl 0 rfl) ?_
            refine k0Li (As := [.ref (a 0), .int r135]) (rest := []) ⟨hx, hb, hml, hown, hts⟩ (c0_L_stackOf l D cs a _ u135 r135 hw) (vx_cwSW 2 hts gL_isYardSo_L_stackOf rfl rfl rfl (by decide +kernel) ⟨Nat.le_of_ble_eq_true rfl, Nat.le_of_ble_eq_true rfl⟩) (pt_self_CY cs a u135) hK hP hD hS hA rfl hl.1 rfl (Nat.le_of_ble_eq_true rfl) dL_isYardSo_152 ⟨Nat.zero_le _, Nat.zero_le _⟩ (fun r152 u152 H locs hw hP hD hS => ?_)
            have hP : va_P D vwCl (ws_CY cs a u152) H := hP
            have hD : va_D A (ws_CY cs a u152) := hD
            refine lv_iconst (v := (-1 : Int32)) hx hb dL_isYardSo_155 (by decide) ?_
            refine lv_icmp_ne (tgt := 184) hx hb dL_isYardSo_156 (by decide) (fun c156 => ?_) (fun c156 => ?_)
            · have hw := hw.2 c156
              exact B184 _ hw _ _ ls (lv_sub hl [] rfl) hP hD hS
            · have hw := hw.1 c156
              exact B159 _ hw _ _ ls (lv_sub hl [1] rfl) hP hD hS
      · have hw := hw.2 c9
        refine lv_aload_n hx hb dL_isYardSo_12 rfl (lv_at hl 0 rfl) ?_
        refine lv_iload_n hx hb dL_isYardSo_13 rfl (lv_at hl 3 rfl) ?_
        refine kVi (As := [.int x3]) (rest := []) ⟨hx, hb, hml, hown, hts⟩ (c0_C_height l D cs a _ σ x3 hw) (cwV 1 hts gL_isYardSo_X3_height rfl rfl rfl (by decide +kernel) ⟨Nat.le_of_ble_eq_true rfl, Nat.le_of_ble_eq_true rfl⟩) (pt_self_CY cs a σ) hK hP hD hS hA (ci := 3) rfl rfl rfl rfl hl.1 rfl (Nat.le_of_ble_eq_true rfl) dL_isYardSo_14 ⟨Nat.zero_le _, Nat.zero_le _⟩ (fun r14 u14 H locs hw hP hD hS => ?_)
        have hP : va_P D vwCl (ws_CY cs a u14) H := hP
        have hD : va_D A (ws_CY cs a u14) := hD
        refine lv_istore (lv' := [(4, .int r14), (0, .ref (a 0)), (1, .int x1), (2, .int x2), (3, .int x3)]) hx hb dL_isYardSo_17 hl (by decide) rfl (fun ls hl => ?_)
        refine lv_iconst (v := (0 : Int32)) hx hb dL_isYardSo_19 (by decide) ?_
        refine lv_istore (lv' := [(5, .int (0 : Int32)), (4, .int r14), (0, .ref (a 0)), (1, .int x1), (2, .int x2), (3, .int x3)]) hx hb dL_isYardSo_20 hl (by decide) rfl (fun ls hl => ?_)
        obtain ⟨n, hw⟩ := hw
        exact B22 _ ih n _ _ _ _ _ _ hw H locs ls (lv_sub hl [2, 3, 4, 5, 1, 0] rfl) hP hD hS
  have hl := lv_entry ([.ref (a 0)]) (n := 8) (Nat.le_of_ble_eq_true rfl)
  rw [lg_entry_eq]
  generalize (lg_sl ([.ref (a 0)]) ++ List.replicate (8 - (lg_sl ([.ref (a 0)])).length) Slot.unset).toArray = ls at hl ⊢
  have hl : lv_has ls 8 [(0, .ref (a 0))] := hl
  unfold w_L_isYardSo at hw
  refine lv_iconst (v := (0 : Int32)) hx hb dL_isYardSo_0 (by decide) ?_
  refine lv_istore_n (lv' := [(1, .int (0 : Int32)), (0, .ref (a 0))]) hx hb dL_isYardSo_1 rfl hl (by decide) rfl (fun ls hl => ?_)
  refine lv_iconst (v := (0 : Int32)) hx hb dL_isYardSo_2 (by decide) ?_
  refine lv_istore_n (lv' := [(2, .int (0 : Int32)), (1, .int (0 : Int32)), (0, .ref (a 0))]) hx hb dL_isYardSo_3 rfl hl (by decide) rfl (fun ls hl => ?_)
  refine lv_iconst (v := (0 : Int32)) hx hb dL_isYardSo_4 (by decide) ?_
  refine lv_istore_n (lv' := [(3, .int (0 : Int32)), (2, .int (0 : Int32)), (1, .int (0 : Int32)), (0, .ref (a 0))]) hx hb dL_isYardSo_5 rfl hl (by decide) rfl (fun ls hl => ?_)
  obtain ⟨n, hw⟩ := hw
  exact B6 n _ _ _ _ hw _ _ ls (lv_sub hl [3, 2, 1, 0] rfl) hP hD hS
