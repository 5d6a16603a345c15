abbrev rm_M_put : Room := { frames := 0, cells := 0, slots := 0, locals := 0 }
set_option maxHeartbeats 4000000 in
set_option maxRecDepth 100000 in
theorem c_M_put (l : Launch) (D : va_G) (cs : CS) (a : Nat → Nat) (sz : Nat) (σ : MD) (p1 : Int32) (p2 : Int32) {Φ : MD → Prop} (hw : w_M_put σ p1 p2 Φ) : Met l yX4_put wsX4_put rm_M_put (PcG [.ref (a 0), .int p1, .int p2] D cs (ws_MD cs a σ) sz) (va_Qv Φ (BG D cs (va_A (ws_MD cs a σ) sz) sz (ws_MD cs a)) (va_A (ws_MD cs a σ) sz)) 0 0 (va_A (ws_MD cs a σ) sz) := by
  refine Met.ofW (cc := cX4_put) (maxL := 3) (ret := none) (by decide) rfl ?_
  intro p e s m args below meth c s₁ B hml hv
  obtain ⟨rfl, hsz, hP, hK, hD0⟩ := hv
  have hx := B.exec
  have hb := B.bytes
  have hr := B.returns
  have hts := atoms_spec (ws := wsX4_put) B.pre
  have hown : s.vm.findClass RX4 = some m.cls := findClass_of_methodNamed B.named
  have hlocks := B.notSynchronized
  subst hsz
  have hD := hD0.self (sz := s.heap.size)
  generalize hAe : va_A (ws_MD cs a σ) s.heap.size = A at hD ⊢
  have hA : ∀ q : Nat, s.heap.size ≤ q → A q := fun q h => by rw [← hAe]; exact Or.inr h
  have hS : va_S A s.heap s.heap [] := va_S.rf
  have hf13 : (Cond.fieldLink RX4 13 "CraneYardModel" "heights" "[I").before ([.ref (a 0), .int p1, .int p2] : List Value).toArray s = true := hts _ (List.mem_of_getElem? (i := 2) rfl)
  have hf7 : (Cond.fieldLink RX4 7 "CraneYardModel" "yard" "[I").before ([.ref (a 0), .int p1, .int p2] : List Value).toArray s = true := hts _ (List.mem_of_getElem? (i := 1) rfl)
  have hinX4 : ∀ w ∈ wsX40, w ∈ wsX4_put := fun _ h => List.mem_cons_of_mem _ (List.mem_append_right _ h)
  have hP : va_P D vwCl (ws_MD cs a σ) s.heap := hP
  have hl := lv_entry ([.ref (a 0), .int p1, .int p2]) (n := 3) (Nat.le_of_ble_eq_true rfl)
  rw [lg_entry_eq]
  generalize (lg_sl ([.ref (a 0), .int p1, .int p2]) ++ List.replicate (3 - (lg_sl ([.ref (a 0), .int p1, .int p2])).length) Slot.unset).toArray = ls at hl ⊢
  have hl : lv_has ls 3 [(0, .ref (a 0)), (1, .int p1), (2, .int p2)] := hl
  unfold w_M_put at hw
  refine lv_aload_n hx hb dX4_put_0 rfl (lv_at hl 0 rfl) ?_
  refine va_get (D := D) (ci := 4) (v := .ref (a 1)) (C := RX4) (T := TX4) (N := 23) hx hb hts hinX4 hown hK hP 0 rfl rfl 1 (by decide) hf7 (fun _ h9 => h9) rfl dX4_put_1 ?_
  refine lv_iconst (v := (5 : Int32)) hx hb dX4_put_4 (by decide) ?_
  refine lv_iload_n hx hb dX4_put_5 rfl (lv_at hl 2 rfl) ?_
  refine lv_imul hx hb dX4_put_6 ?_
  refine lv_aload_n hx hb dX4_put_7 rfl (lv_at hl 0 rfl) ?_
  refine va_get (D := D) (ci := 4) (v := .ref (a 2)) (C := RX4) (T := TX4) (N := 23) hx hb hts hinX4 hown hK hP 0 rfl rfl 2 (by decide) hf13 (fun _ h9 => h9) rfl dX4_put_8 ?_
  refine lv_iload_n hx hb dX4_put_11 rfl (lv_at hl 2 rfl) ?_
  have hi12 := hw.1
  have hw := hw.2
  refine va_iald (f := (g_MD_heights σ)) (n := 6) hx hb hK hP 2 0 rfl rfl hi12 dX4_put_12 ?_
  refine lv_iadd hx hb dX4_put_13 ?_
  refine lv_iload_n hx hb dX4_put_14 rfl (lv_at hl 1 rfl) ?_
  have hi15 := hw.1
  have hw := hw.2
  refine va_iast (f := (g_MD_yard σ)) (n := 30) (x := p1) hx hb hK hP hD hS 1 0 rfl rfl hi15 dX4_put_15 (fun H locs hP hD hS => ?_)
  have hP : va_P D vwCl (ws_MD cs a (s_MD_yard σ (upd (g_MD_yard σ) ((((5 : Int32) * p2) + ((g_MD_heights σ) (p2).toNatClampNeg))).toNatClampNeg p1))) H := hP
  have hD : va_D A (ws_MD cs a (s_MD_yard σ (upd (g_MD_yard σ) ((((5 : Int32) * p2) + ((g_MD_heights σ) (p2).toNatClampNeg))).toNatClampNeg p1))) := hD
  obtain ⟨z1, ez1⟩ : ∃ z : MD, z = (s_MD_yard σ (upd (g_MD_yard σ) ((((5 : Int32) * p2) + ((g_MD_heights σ) (p2).toNatClampNeg))).toNatClampNeg p1)) := ⟨_, rfl⟩
  have hw := hw z1 ez1
  rw [← ez1] at hP hD
  refine lv_aload_n hx hb dX4_put_16 rfl (lv_at hl 0 rfl) ?_
  refine va_get (D := D) (ci := 4) (v := .ref (a 2)) (C := RX4) (T := TX4) (N := 23) hx hb hts hinX4 hown hK hP 0 rfl rfl 2 (by decide) hf13 (fun _ h9 => h9) rfl dX4_put_17 ?_
  refine lv_iload_n hx hb dX4_put_20 rfl (lv_at hl 2 rfl) ?_
  refine lv_dup2_11 hx hb dX4_put_21 rfl rfl ?_
  have hi22 := hw.1
  have hw := hw.2
  refine va_iald (f := (g_MD_heights z1)) (n := 6) hx hb hK hP 2 0 rfl rfl hi22 dX4_put_22 ?_
  refine lv_iconst (v := (1 : Int32)) hx hb dX4_put_23 (by decide) ?_
  refine lv_iadd hx hb dX4_put_24 ?_
  refine lv_topi (fun y2 ey2 => ?_)
  have hw := hw y2 ey2
  have hi25 := hw.1
  have hw := hw.2
  refine va_iast (f := (g_MD_heights z1)) (n := 6) (x := y2) hx hb hK hP hD hS 2 0 rfl rfl hi25 dX4_put_25 (fun H locs hP hD hS => ?_)
  have hP : va_P D vwCl (ws_MD cs a (s_MD_heights z1 (upd (g_MD_heights z1) (p2).toNatClampNeg y2))) H := hP
  have hD : va_D A (ws_MD cs a (s_MD_heights z1 (upd (g_MD_heights z1) (p2).toNatClampNeg y2))) := hD
  obtain ⟨z3, ez3⟩ : ∃ z : MD, z = (s_MD_heights z1 (upd (g_MD_heights z1) (p2).toNatClampNeg y2)) := ⟨_, rfl⟩
  have hw := hw z3 ez3
  rw [← ez3] at hP hD
  exact rV (wf := (ws_MD cs a)) (u := z3) hx hb hr hlocks hK hP hD hS hw dX4_put_26
abbrev rm_M_topOf : Room := { frames := 0, cells := 0, slots := 0, locals := 0 }
set_option maxHeartbeats 4000000 in
set_option maxRecDepth 100000 in
theorem c_M_topOf (l : Launch) (D : va_G) (cs : CS) (a : Nat → Nat) (sz : Nat) (σ : MD) (p1 : Int32) {Φ : Int32 → MD → Prop} (hw : w_M_topOf σ p1 Φ) : Met l yX4_topOf wsX4_topOf rm_M_topOf (PcG [.ref (a 0), .int p1] D cs (ws_MD cs a σ) sz) (va_Qi Φ (BG D cs (va_A (ws_MD cs a σ) sz) sz (ws_MD cs a)) (va_A (ws_MD cs a σ) sz)) 0 0 (va_A (ws_MD cs a σ) sz) := by
  refine Met.ofW (cc := cX4_topOf) (maxL := 2) (ret := (some .int)) (by decide) rfl ?_
  intro p e s m args below meth c s₁ B hml hv
  obtain ⟨rfl, hsz, hP, hK, hD0⟩ := hv
  have hx := B.exec
  have hb := B.bytes
  have hr := B.returns
  have hts := atoms_spec (ws := wsX4_topOf) B.pre
  have hown : s.vm.findClass RX4 = some m.cls := findClass_of_methodNamed B.named
  have hlocks := B.notSynchronized
  subst hsz
  have hD := hD0.self (sz := s.heap.size)
  generalize hAe : va_A (ws_MD cs a σ) s.heap.size = A at hD ⊢
  have hA : ∀ q : Nat, s.heap.size ≤ q → A q := fun q h => by rw [← hAe]; exact Or.inr h
  have hS : va_S A s.heap s.heap [] := va_S.rf
  have hf13 : (Cond.fieldLink RX4 13 "CraneYardModel" "heights" "[I").before ([.ref (a 0), .int p1] : List Value).toArray s = true := hts _ (List.mem_of_getElem? (i := 2) rfl)
  have hf7 : (Cond.fieldLink RX4 7 "CraneYardModel" "yard" "[I").before ([.ref (a 0), .int p1] : List Value).toArray s = true := hts _ (List.mem_of_getElem? (i := 1) rfl)
  have hinX4 : ∀ w ∈ wsX40, w ∈ wsX4_topOf := fun _ h => List.mem_cons_of_mem _ (List.mem_append_right _ h)
  have hP : va_P D vwCl (ws_MD cs a σ) s.heap := hP
  have hl := lv_entry ([.ref (a 0), .int p1]) (n := 2) (Nat.le_of_ble_eq_true rfl)
  rw [lg_entry_eq]
  generalize (lg_sl ([.ref (a 0), .int p1]) ++ List.replicate (2 - (lg_sl ([.ref (a 0), .int p1])).length) Slot.unset).toArray = ls at hl ⊢
  have hl : lv_has ls 2 [(0, .ref (a 0)), (1, .int p1)] := hl
  unfold w_M_topOf at hw
  refine lv_aload_n hx hb dX4_topOf_0 rfl (lv_at hl 0 rfl) ?_
  refine va_get (D := D) (ci := 4) (v := .ref (a 1)) (C := RX4) (T := TX4) (N := 23) hx hb hts hinX4 hown hK hP 0 rfl rfl 1 (by decide) hf7 (fun _ h9 => h9) rfl dX4_topOf_1 ?_
  refine lv_iconst (v := (5 : Int32)) hx hb dX4_topOf_4 (by decide) ?_
  refine lv_iload_n hx hb dX4_topOf_5 rfl (lv_at hl 1 rfl) ?_
  refine lv_imul hx hb dX4_topOf_6 ?_
  refine lv_aload_n hx hb dX4_topOf_7 rfl (lv_at hl 0 rfl) ?_
  refine va_get (D := D) (ci := 4) (v := .ref (a 2)) (C := RX4) (T := TX4) (N := 23) hx hb hts hinX4 hown hK hP 0 rfl rfl 2 (by decide) hf13 (fun _ h9 => h9) rfl dX4_topOf_8 ?_
  refine lv_iload_n hx hb dX4_topOf_11 rfl (lv_at hl 1 rfl) ?_
  have hi12 := hw.1
  have hw := hw.2
  refine va_iald (f := (g_MD_heights σ)) (n := 6) hx hb hK hP 2 0 rfl rfl hi12 dX4_topOf_12 ?_
  refine lv_iadd hx hb dX4_topOf_13 ?_
  refine lv_iconst (v := (1 : Int32)) hx hb dX4_topOf_14 (by decide) ?_
  refine lv_isub hx hb dX4_topOf_15 ?_
  have hi16 := hw.1
  have hw := hw.2
  refine va_iald (f := (g_MD_yard σ)) (n := 30) hx hb hK hP 1 0 rfl rfl hi16 dX4_topOf_16 ?_
  exact rI (wf := (ws_MD cs a)) (u := σ) hx hb hr hlocks hK hP hD hS hw dX4_topOf_17
abbrev rm_M_isOnLids : Room := { frames := 1, cells := 0, slots := 0, locals := 21 }
set_option maxHeartbeats 4000000 in
set_option maxRecDepth 100000 in
theorem c_M_isOnLids (l : Launch) (D : va_G) (cs : CS) (a : Nat → Nat) (sz : Nat) (σ : MD) (p1 : Int32) (p2 : Int32) {Φ : Int32 → MD → Prop} (hw : w_M_isOnLids σ p1 p2 Φ) : Met l yX4_isOnLids wsX4_isOnLids rm_M_isOnLids (PcG [.ref (a 0), .int p1, .int p2] D cs (ws_MD cs a σ) sz) (va_Qi Φ (BG D cs (va_A (ws_MD cs a σ) sz) sz (ws_MD cs a)) (va_A (ws_MD cs a σ) sz)) 0 0 (va_A (ws_MD cs a σ) sz) := by
  refine Met.ofW (cc := cX4_isOnLids) (maxL := 6) (ret := (some .boolean)) (by decide) rfl ?_
  intro p e s m args below meth c s₁ B hml hv
  obtain ⟨rfl, hsz, hP, hK, hD0⟩ := hv
  have hx := B.exec
  have hb := B.bytes
  have hr := B.returns
  have hts := atoms_spec (ws := wsX4_isOnLids) B.pre
  have hown : s.vm.findClass RX4 = some m.cls := findClass_of_methodNamed B.named
  have hlocks := B.notSynchronized
  subst hsz
  have hD := hD0.self (sz := s.heap.size)
  generalize hAe : va_A (ws_MD cs a σ) s.heap.size = A at hD ⊢
  have hA : ∀ q : Nat, s.heap.size ≤ q → A q := fun q h => by rw [← hAe]; exact Or.inr h
  have hS : va_S A s.heap s.heap [] := va_S.rf
  have hf13 : (Cond.fieldLink RX4 13 "CraneYardModel" "heights" "[I").before ([.ref (a 0), .int p1, .int p2] : List Value).toArray s = true := hts _ (List.mem_of_getElem? (i := 2) rfl)
  have hf19 : (Cond.fieldLink RX4 19 "CraneYardModel" "letters" "[I").before ([.ref (a 0), .int p1, .int p2] : List Value).toArray s = true := hts _ (List.mem_of_getElem? (i := 3) rfl)
  have hf32 : (Cond.fieldLink RX4 32 "CraneYardModel" "words" "[I").before ([.ref (a 0), .int p1, .int p2] : List Value).toArray s = true := hts _ (List.mem_of_getElem? (i := 1) rfl)
  have hinX4 : ∀ w ∈ wsX40, w ∈ wsX4_isOnLids := fun _ h => List.mem_cons_of_mem _ (List.mem_append_right _ h)
  have hP : va_P D vwCl (ws_MD cs a σ) s.heap := hP
  have B119 : ∀ (x4 : Int32) (σ : MD), b_M_isOnLids_119 Φ x4 σ → At p l e (headSpec wsX4_isOnLids rm_M_isOnLids).room s m ([.ref (a 0), .int p1, .int p2] : List Value).toArray below meth c (MQ below (va_Qi Φ (BG D cs A s.heap.size (ws_MD cs a)) A) ([.ref (a 0), .int p1, .int p2] : List Value).toArray s 0 0 A) D A 6 [(4, .int x4)] (ws_MD cs a σ) 119 [] := by
    intro x4 σ hw H locs ls hl hP hD hS
    unfold b_M_isOnLids_119 at hw
    refine lv_iload hx hb dX4_isOnLids_119 (lv_at hl 0 rfl) ?_
    exact rZ (wf := (ws_MD cs a)) (u := σ) hx hb hr hlocks hK hP hD hS hw dX4_isOnLids_121
  have B104 : ∀ (K8 : (Int32 → Int32 → Int32 → Int32 → MD → Prop)) (hK8 : ∀ (x1 : Int32) (x3 : Int32) (x4 : Int32) (x5 : Int32) (σ : MD), K8 x1 x3 x4 x5 σ → At p l e (headSpec wsX4_isOnLids rm_M_isOnLids).room s m ([.ref (a 0), .int p1, .int p2] : List Value).toArray below meth c (MQ below (va_Qi Φ (BG D cs A s.heap.size (ws_MD cs a)) A) ([.ref (a 0), .int p1, .int p2] : List Value).toArray s 0 0 A) D A 6 [(0, .ref (a 0)), (1, .int x1), (3, .int x3), (4, .int x4), (5, .int x5)] (ws_MD cs a σ) 8 []) (x1 : Int32) (x4 : Int32) (x5 : Int32) (t0 : Int32) (t1 : Int32) (σ : MD), b_M_isOnLids_104 K8 Φ x1 x4 x5 t0 t1 σ → At p l e (headSpec wsX4_isOnLids rm_M_isOnLids).room s m ([.ref (a 0), .int p1, .int p2] : List Value).toArray below meth c (MQ below (va_Qi Φ (BG D cs A s.heap.size (ws_MD cs a)) A) ([.ref (a 0), .int p1, .int p2] : List Value).toArray s 0 0 A) D A 6 [(0, .ref (a 0)), (1, .int x1), (4, .int x4), (5, .int x5)] (ws_MD cs a σ) 104 [.int t1, .int t0] := by
    intro K8 hK8 x1 x4 x5 t0 t1 σ hw H locs ls hl hP hD hS
    unfold b_M_isOnLids_104 at hw
    refine lv_iadd hx hb dX4_isOnLids_104 ?_
    refine lv_istore_n (lv' := [(3, .int (t0 + t1)), (0, .ref (a 0)), (1, .int x1), (4, .int x4), (5, .int x5)]) hx hb dX4_isOnLids_105 rfl hl (by decide) rfl (fun ls hl => ?_)
    refine lv_iload hx hb dX4_isOnLids_106 (lv_at hl 3 rfl) ?_
    refine lv_if_ne (tgt := 113) hx hb dX4_isOnLids_108 (by decide) (fun c108 => ?_) (fun c108 => ?_)
    · have hw := hw.2 c108
      refine lv_iinc (v := (x5 + (1 : Int32))) (lv' := [(5, .int (x5 + (1 : Int32))), (3, .int (t0 + t1)), (0, .ref (a 0)), (1, .int x1), (4, .int x4)]) hx hb dX4_isOnLids_113 hl (k := 4) rfl rfl (by decide) rfl (fun ls hl => ?_)
      refine lv_goto (tgt := 8) hx hb dX4_isOnLids_116 (by decide) ?_
      exact hK8 _ _ _ _ _ hw _ _ ls (lv_sub hl [2, 3, 1, 4, 0] rfl) hP hD hS
    · have hw := hw.1 c108
      refine lv_iconst (v := (0 : Int32)) hx hb dX4_isOnLids_111 (by decide) ?_
      exact rZ (wf := (ws_MD cs a)) (u := σ) hx hb hr hlocks hK hP hD hS hw dX4_isOnLids_112
  have B90 : ∀ (K8 : (Int32 → Int32 → Int32 → Int32 → MD → Prop)) (hK8 : ∀ (x1 : Int32) (x3 : Int32) (x4 : Int32) (x5 : Int32) (σ : MD), K8 x1 x3 x4 x5 σ → At p l e (headSpec wsX4_isOnLids rm_M_isOnLids).room s m ([.ref (a 0), .int p1, .int p2] : List Value).toArray below meth c (MQ below (va_Qi Φ (BG D cs A s.heap.size (ws_MD cs a)) A) ([.ref (a 0), .int p1, .int p2] : List Value).toArray s 0 0 A) D A 6 [(0, .ref (a 0)), (1, .int x1), (3, .int x3), (4, .int x4), (5, .int x5)] (ws_MD cs a σ) 8 []) (x1 : Int32) (x3 : Int32) (x5 : Int32) (t0 : Int32) (σ : MD), b_M_isOnLids_90 K8 Φ x1 x3 x5 t0 σ → At p l e (headSpec wsX4_isOnLids rm_M_isOnLids).room s m ([.ref (a 0), .int p1, .int p2] : List Value).toArray below meth c (MQ below (va_Qi Φ (BG D cs A s.heap.size (ws_MD cs a)) A) ([.ref (a 0), .int p1, .int p2] : List Value).toArray s 0 0 A) D A 6 [(0, .ref (a 0)), (1, .int x1), (3, .int x3), (5, .int x5)] (ws_MD cs a σ) 90 [.int t0] := by
    intro K8 hK8 x1 x3 x5 t0 σ hw H locs ls hl hP hD hS
    unfold b_M_isOnLids_90 at hw
    refine lv_istore (lv' := [(4, .int t0), (0, .ref (a 0)), (1, .int x1), (3, .int x3), (5, .int x5)]) hx hb dX4_isOnLids_90 hl (by decide) rfl (fun ls hl => ?_)
    refine lv_iload_n hx hb dX4_isOnLids_92 rfl (lv_at hl 3 rfl) ?_
    refine lv_iload_n hx hb dX4_isOnLids_93 rfl (lv_at hl 3 rfl) ?_
    refine lv_bipush (v := (6 : Int32)) hx hb dX4_isOnLids_94 (by decide) ?_
    refine lv_icmp_ge (tgt := 103) hx hb dX4_isOnLids_96 (by decide) (fun c96 => ?_) (fun c96 => ?_)
    · have hw := hw.1 c96
      refine lv_iconst (v := (0 : Int32)) hx hb dX4_isOnLids_103 (by decide) ?_
      exact B104 _ hK8 _ _ _ _ _ _ hw _ _ ls (lv_sub hl [1, 2, 0, 4] rfl) hP hD hS
    · have hw := hw.2 c96
      refine lv_iconst (v := (1 : Int32)) hx hb dX4_isOnLids_99 (by decide) ?_
      refine lv_goto (tgt := 104) hx hb dX4_isOnLids_100 (by decide) ?_
      exact B104 _ hK8 _ _ _ _ _ _ hw _ _ ls (lv_sub hl [1, 2, 0, 4] rfl) hP hD hS
  have B89 : ∀ (K8 : (Int32 → Int32 → Int32 → Int32 → MD → Prop)) (hK8 : ∀ (x1 : Int32) (x3 : Int32) (x4 : Int32) (x5 : Int32) (σ : MD), K8 x1 x3 x4 x5 σ → At p l e (headSpec wsX4_isOnLids rm_M_isOnLids).room s m ([.ref (a 0), .int p1, .int p2] : List Value).toArray below meth c (MQ below (va_Qi Φ (BG D cs A s.heap.size (ws_MD cs a)) A) ([.ref (a 0), .int p1, .int p2] : List Value).toArray s 0 0 A) D A 6 [(0, .ref (a 0)), (1, .int x1), (3, .int x3), (4, .int x4), (5, .int x5)] (ws_MD cs a σ) 8 []) (x1 : Int32) (x3 : Int32) (x5 : Int32) (σ : MD), b_M_isOnLids_89 K8 Φ x1 x3 x5 σ → At p l e (headSpec wsX4_isOnLids rm_M_isOnLids).room s m ([.ref (a 0), .int p1, .int p2] : List Value).toArray below meth c (MQ below (va_Qi Φ (BG D cs A s.heap.size (ws_MD cs a)) A) ([.ref (a 0), .int p1, .int p2] : List Value).toArray s 0 0 A) D A 6 [(0, .ref (a 0)), (1, .int x1), (3, .int x3), (5, .int x5)] (ws_MD cs a σ) 89 [] := by
    intro K8 hK8 x1 x3 x5 σ hw H locs ls hl hP hD hS
    unfold b_M_isOnLids_89 at hw
    refine lv_iconst (v := (0 : Int32)) hx hb dX4_isOnLids_89 (by decide) ?_
    exact B90 _ hK8 _ _ _ _ _ hw _ _ ls (lv_sub hl [0, 1, 2, 3] rfl) hP hD hS
  have B50 : ∀ (K8 : (Int32 → Int32 → Int32 → Int32 → MD → Prop)) (hK8 : ∀ (x1 : Int32) (x3 : Int32) (x4 : Int32) (x5 : Int32) (σ : MD), K8 x1 x3 x4 x5 σ → At p l e (headSpec wsX4_isOnLids rm_M_isOnLids).room s m ([.ref (a 0), .int p1, .int p2] : List Value).toArray below meth c (MQ below (va_Qi Φ (BG D cs A s.heap.size (ws_MD cs a)) A) ([.ref (a 0), .int p1, .int p2] : List Value).toArray s 0 0 A) D A 6 [(0, .ref (a 0)), (1, .int x1), (3, .int x3), (4, .int x4), (5, .int x5)] (ws_MD cs a σ) 8 []) (x1 : Int32) (x3 : Int32) (x4 : Int32) (x5 : Int32) (σ : MD), b_M_isOnLids_50 K8 Φ x1 x3 x4 x5 σ → At p l e (headSpec wsX4_isOnLids rm_M_isOnLids).room s m ([.ref (a 0), .int p1, .int p2] : List Value).toArray below meth c (MQ below (va_Qi Φ (BG D cs A s.heap.size (ws_MD cs a)) A) ([.ref (a 0), .int p1, .int p2] : List Value).toArray s 0 0 A) D A 6 [(0, .ref (a 0)), (1, .int x1), (3, .int x3), (4, .int x4), (5, .int x5)] (ws_MD cs a σ) 50 [] := by
    intro K8 hK8 x1 x3 x4 x5 σ hw H locs ls hl hP hD hS
    unfold b_M_isOnLids_50 at hw
    refine lv_iload hx hb dX4_isOnLids_50 (lv_at hl 3 rfl) ?_
    refine lv_if_eq (tgt := 89) hx hb dX4_isOnLids_52 (by decide) (fun c52 => ?_) (fun c52 => ?_)
    · have hw := hw.1 c52
      exact B89 _ hK8 _ _ _ _ hw _ _ ls (lv_sub hl [0, 1, 2, 4] rfl) hP hD hS
    · have hw := hw.2 c52
      refine lv_iload_n hx hb dX4_isOnLids_55 rfl (lv_at hl 2 rfl) ?_
      refine lv_bipush (v := (6 : Int32)) hx hb dX4_isOnLids_56 (by decide) ?_
      refine lv_icmp_ge (tgt := 89) hx hb dX4_isOnLids_58 (by decide) (fun c58 => ?_) (fun c58 => ?_)
      · have hw := hw.1 c58
        exact B89 _ hK8 _ _ _ _ hw _ _ ls (lv_sub hl [0, 1, 2, 4] rfl) hP hD hS
      · have hw := hw.2 c58
        refine lv_aload_n hx hb dX4_isOnLids_61 rfl (lv_at hl 0 rfl) ?_
        refine va_get (D := D) (ci := 4) (v := .ref (a 4)) (C := RX4) (T := TX4) (N := 23) hx hb hts hinX4 hown hK hP 0 rfl rfl 4 (by decide) hf19 (fun _ h9 => h9) rfl dX4_isOnLids_62 ?_
        refine lv_aload_n hx hb dX4_isOnLids_65 rfl (lv_at hl 0 rfl) ?_
        refine lv_iload_n hx hb dX4_isOnLids_66 rfl (lv_at hl 2 rfl) ?_
        refine kVi (As := [.int x3]) (rest := [.ref (a 4)]) ⟨hx, hb, hml, hown, hts⟩ (c_M_topOf l D cs a _ σ x3 hw) (cwV 1 hts gX4_isOnLids_X4_topOf rfl rfl rfl (by decide +kernel) ⟨Nat.le_of_ble_eq_true rfl, Nat.le_of_ble_eq_true rfl⟩) (pt_self_MD cs a σ) hK hP hD hS hA (ci := 4) rfl rfl rfl rfl hl.1 rfl (Nat.le_of_ble_eq_true rfl) dX4_isOnLids_67 ⟨Nat.zero_le _, Nat.zero_le _⟩ (fun r67 u67 H locs hw hP hD hS => ?_)
        have hP : va_P D vwCl (ws_MD cs a u67) H := hP
        have hD : va_D A (ws_MD cs a u67) := hD
        have hi70 := hw.1
        have hw := hw.2
        refine va_iald (f := (g_MD_letters u67)) (n := 30) hx hb hK hP 4 0 rfl rfl hi70 dX4_isOnLids_70 ?_
        refine lv_aload_n hx hb dX4_isOnLids_71 rfl (lv_at hl 0 rfl) ?_
        refine va_get (D := D) (ci := 4) (v := .ref (a 7)) (C := RX4) (T := TX4) (N := 23) hx hb hts hinX4 hown hK hP 0 rfl rfl 10 (by decide) hf32 (fun _ h9 => h9) rfl dX4_isOnLids_72 ?_
        refine lv_iconst (v := (4 : Int32)) hx hb dX4_isOnLids_75 (by decide) ?_
        refine lv_iload_n hx hb dX4_isOnLids_76 rfl (lv_at hl 1 rfl) ?_
        refine lv_imul hx hb dX4_isOnLids_77 ?_
        refine lv_iload hx hb dX4_isOnLids_78 (lv_at hl 4 rfl) ?_
        refine lv_iadd hx hb dX4_isOnLids_80 ?_
        have hi81 := hw.1
        have hw := hw.2
        refine va_iald (f := (g_MD_words u67)) (n := 32) hx hb hK hP 7 0 rfl rfl hi81 dX4_isOnLids_81 ?_
        refine lv_icmp_ne (tgt := 89) hx hb dX4_isOnLids_82 (by decide) (fun c82 => ?_) (fun c82 => ?_)
        · have hw := hw.2 c82
          exact B89 _ hK8 _ _ _ _ hw _ _ ls (lv_sub hl [0, 1, 2, 4] rfl) hP hD hS
        · have hw := hw.1 c82
          refine lv_iconst (v := (1 : Int32)) hx hb dX4_isOnLids_85 (by decide) ?_
          refine lv_goto (tgt := 90) hx hb dX4_isOnLids_86 (by decide) ?_
          exact B90 _ hK8 _ _ _ _ _ hw _ _ ls (lv_sub hl [0, 1, 2, 4] rfl) hP hD hS
  have B29 : ∀ (K8 : (Int32 → Int32 → Int32 → Int32 → MD → Prop)) (hK8 : ∀ (x1 : Int32) (x3 : Int32) (x4 : Int32) (x5 : Int32) (σ : MD), K8 x1 x3 x4 x5 σ → At p l e (headSpec wsX4_isOnLids rm_M_isOnLids).room s m ([.ref (a 0), .int p1, .int p2] : List Value).toArray below meth c (MQ below (va_Qi Φ (BG D cs A s.heap.size (ws_MD cs a)) A) ([.ref (a 0), .int p1, .int p2] : List Value).toArray s 0 0 A) D A 6 [(0, .ref (a 0)), (1, .int x1), (3, .int x3), (4, .int x4), (5, .int x5)] (ws_MD cs a σ) 8 []) (n : Nat) (x1 : Int32) (x3 : Int32) (x4 : Int32) (x5 : Int32) (σ : MD), it5 (b_M_isOnLids_29 K8 Φ) n x1 x3 x4 x5 σ → At p l e (headSpec wsX4_isOnLids rm_M_isOnLids).room s m ([.ref (a 0), .int p1, .int p2] : List Value).toArray below meth c (MQ below (va_Qi Φ (BG D cs A s.heap.size (ws_MD cs a)) A) ([.ref (a 0), .int p1, .int p2] : List Value).toArray s 0 0 A) D A 6 [(0, .ref (a 0)), (1, .int x1), (3, .int x3), (4, .int x4), (5, .int x5)] (ws_MD cs a σ) 29 [] := by
    intro K8 hK8 n
    induction n with
    | zero => intro x1 x3 x4 x5 σ hw; exact absurd hw id
    | succ n ih =>
      intro x1 x3 x4 x5 σ hw H locs ls hl hP hD hS
      have hw : b_M_isOnLids_29 K8 Φ (it5 (b_M_isOnLids_29 K8 Φ) n) x1 x3 x4 x5 σ := hw
      unfold b_M_isOnLids_29 at hw
      refine lv_iload_n hx hb dX4_isOnLids_29 rfl (lv_at hl 2 rfl) ?_
      refine lv_bipush (v := (6 : Int32)) hx hb dX4_isOnLids_30 (by decide) ?_
      refine lv_icmp_ge (tgt := 50) hx hb dX4_isOnLids_32 (by decide) (fun c32 => ?_) (fun c32 => ?_)
      · have hw := hw.1 c32
        exact B50 _ hK8 _ _ _ _ _ hw _ _ ls (lv_sub hl [0, 1, 2, 3, 4] rfl) hP hD hS
      · have hw := hw.2 c32
        refine lv_aload_n hx hb dX4_isOnLids_35 rfl (lv_at hl 0 rfl) ?_
        refine va_get (D := D) (ci := 4) (v := .ref (a 2)) (C := RX4) (T := TX4) (N := 23) hx hb hts hinX4 hown hK hP 0 rfl rfl 2 (by decide) hf13 (fun _ h9 => h9) rfl dX4_isOnLids_36 ?_
        refine lv_iload_n hx hb dX4_isOnLids_39 rfl (lv_at hl 2 rfl) ?_
        have hi40 := hw.1
        have hw := hw.2
        refine va_iald (f := (g_MD_heights σ)) (n := 6) hx hb hK hP 2 0 rfl rfl hi40 dX4_isOnLids_40 ?_
        refine lv_if_ne (tgt := 50) hx hb dX4_isOnLids_41 (by decide) (fun c41 => ?_) (fun c41 => ?_)
        · have hw := hw.2 c41
          exact B50 _ hK8 _ _ _ _ _ hw _ _ ls (lv_sub hl [0, 1, 2, 3, 4] rfl) hP hD hS
        · have hw := hw.1 c41
          refine lv_iinc (v := (x3 + (1 : Int32))) (lv' := [(3, .int (x3 + (1 : Int32))), (0, .ref (a 0)), (1, .int x1), (4, .int x4), (5, .int x5)]) hx hb dX4_isOnLids_44 hl (k := 2) rfl rfl (by decide) rfl (fun ls hl => ?_)
          refine lv_goto (tgt := 29) hx hb dX4_isOnLids_47 (by decide) ?_
          exact ih _ _ _ _ _ hw _ _ ls (lv_sub hl [1, 2, 0, 3, 4] rfl) hP hD hS
  have B8 : ∀ (n : Nat) (x1 : Int32) (x3 : Int32) (x4 : Int32) (x5 : Int32) (σ : MD), it5 (b_M_isOnLids_8 Φ) n x1 x3 x4 x5 σ → At p l e (headSpec wsX4_isOnLids rm_M_isOnLids).room s m ([.ref (a 0), .int p1, .int p2] : List Value).toArray below meth c (MQ below (va_Qi Φ (BG D cs A s.heap.size (ws_MD cs a)) A) ([.ref (a 0), .int p1, .int p2] : List Value).toArray s 0 0 A) D A 6 [(0, .ref (a 0)), (1, .int x1), (3, .int x3), (4, .int x4), (5, .int x5)] (ws_MD cs a σ) 8 [] := by
    intro n
    induction n with
    | zero => intro x1 x3 x4 x5 σ hw; exact absurd hw id
    | succ n ih =>
      intro x1 x3 x4 x5 σ hw H locs ls hl hP hD hS
      have hw : b_M_isOnLids_8 Φ (it5 (b_M_isOnLids_8 Φ) n) x1 x3 x4 x5 σ := hw
      unfold b_M_isOnLids_8 at hw
      refine lv_iload hx hb dX4_isOnLids_8 (lv_at hl 4 rfl) ?_
      refine lv_iconst (v := (4 : Int32)) hx hb dX4_isOnLids_10 (by decide) ?_
      refine lv_icmp_ge (tgt := 119) hx hb dX4_isOnLids_11 (by decide) (fun c11 => ?_) (fun c11 => ?_)
      · have hw := hw.1 c11
        exact B119 _ _ hw _ _ ls (lv_sub hl [3] rfl) hP hD hS
      · have hw := hw.2 c11
        refine lv_aload_n hx hb dX4_isOnLids_14 rfl (lv_at hl 0 rfl) ?_
        refine va_get (D := D) (ci := 4) (v := .ref (a 7)) (C := RX4) (T := TX4) (N := 23) hx hb hts hinX4 hown hK hP 0 rfl rfl 10 (by decide) hf32 (fun _ h9 => h9) rfl dX4_isOnLids_15 ?_
        refine lv_iconst (v := (4 : Int32)) hx hb dX4_isOnLids_18 (by decide) ?_
        refine lv_iload_n hx hb dX4_isOnLids_19 rfl (lv_at hl 1 rfl) ?_
        refine lv_imul hx hb dX4_isOnLids_20 ?_
        refine lv_iload hx hb dX4_isOnLids_21 (lv_at hl 4 rfl) ?_
        refine lv_iadd hx hb dX4_isOnLids_23 ?_
        have hi24 := hw.1
        have hw := hw.2
        refine va_iald (f := (g_MD_words σ)) (n := 32) hx hb hK hP 7 0 rfl rfl hi24 dX4_isOnLids_24 ?_
        refine lv_iconst (v := (-1 : Int32)) hx hb dX4_isOnLids_25 (by decide) ?_
        refine lv_icmp_eq (tgt := 119) hx hb dX4_isOnLids_26 (by decide) (fun c26 => ?_) (fun c26 => ?_)
        · have hw := hw.1 c26
          exact B119 _ _ hw _ _ ls (lv_sub hl [3] rfl) hP hD hS
        · have hw := hw.2 c26
          obtain ⟨n, hw⟩ := hw
          exact B29 _ ih n _ _ _ _ _ hw _ _ ls (lv_sub hl [0, 1, 2, 3, 4] rfl) hP hD hS
  have hl := lv_entry ([.ref (a 0), .int p1, .int p2]) (n := 6) (Nat.le_of_ble_eq_true rfl)
  rw [lg_entry_eq]
  generalize (lg_sl ([.ref (a 0), .int p1, .int p2]) ++ List.replicate (6 - (lg_sl ([.ref (a 0), .int p1, .int p2])).length) Slot.unset).toArray = ls at hl ⊢
  have hl : lv_has ls 6 [(0, .ref (a 0)), (1, .int p1), (2, .int p2)] := hl
  unfold w_M_isOnLids at hw
  refine lv_iload_n hx hb dX4_isOnLids_0 rfl (lv_at hl 2 rfl) ?_
  refine lv_istore_n (lv' := [(3, .int p2), (0, .ref (a 0)), (1, .int p1), (2, .int p2)]) hx hb dX4_isOnLids_1 rfl hl (by decide) rfl (fun ls hl => ?_)
  refine lv_iconst (v := (1 : Int32)) hx hb dX4_isOnLids_2 (by decide) ?_
  refine lv_istore (lv' := [(4, .int (1 : Int32)), (3, .int p2), (0, .ref (a 0)), (1, .int p1), (2, .int p2)]) hx hb dX4_isOnLids_3 hl (by decide) rfl (fun ls hl => ?_)
  refine lv_iconst (v := (0 : Int32)) hx hb dX4_isOnLids_5 (by decide) ?_
  refine lv_istore (lv' := [(5, .int (0 : Int32)), (4, .int (1 : Int32)), (3, .int p2), (0, .ref (a 0)), (1, .int p1), (2, .int p2)]) hx hb dX4_isOnLids_6 hl (by decide) rfl (fun ls hl => ?_)
  obtain ⟨n, hw⟩ := hw
  exact B8 n _ _ _ _ _ hw _ _ ls (lv_sub hl [3, 4, 2, 1, 0] rfl) hP hD hS
abbrev rm_M_sizeOf : Room := { frames := 0, cells := 0, slots := 0, locals := 0 }
set_option maxHeartbeats 4000000 in
set_option maxRecDepth 100000 in
theorem c_M_sizeOf (l : Launch) (D : va_G) (cs : CS) (a : Nat → Nat) (sz : Nat) (σ : MD) (p1 : Int32) {Φ : Int32 → MD → Prop} (hw : w_M_sizeOf σ p1 Φ) : Met l yX4_sizeOf wsX4_sizeOf rm_M_sizeOf (PcG [.ref (a 0), .int p1] D cs (ws_MD cs a σ) sz) (va_Qi Φ (BG D cs (va_A (ws_MD cs a σ) sz) sz (ws_MD cs a)) (va_A (ws_MD cs a σ) sz)) 0 0 (va_A (ws_MD cs a σ) sz) := by
  refine Met.ofW (cc := cX4_sizeOf) (maxL := 2) (ret := (some .int)) (by decide) rfl ?_
  intro p e s m args below meth c s₁ B hml hv
  obtain ⟨rfl, hsz, hP, hK, hD0⟩ := hv
  have hx := B.exec
  have hb := B.bytes
  have hr := B.returns
  have hts := atoms_spec (ws := wsX4_sizeOf) B.pre
  have hown : s.vm.findClass RX4 = some m.cls := findClass_of_methodNamed B.named
  have hlocks := B.notSynchronized
  subst hsz
  have hD := hD0.self (sz := s.heap.size)
  generalize hAe : va_A (ws_MD cs a σ) s.heap.size = A at hD ⊢
  have hA : ∀ q : Nat, s.heap.size ≤ q → A q := fun q h => by rw [← hAe]; exact Or.inr h
  have hS : va_S A s.heap s.heap [] := va_S.rf
  have hf32 : (Cond.fieldLink RX4 32 "CraneYardModel" "words" "[I").before ([.ref (a 0), .int p1] : List Value).toArray s = true := hts _ (List.mem_of_getElem? (i := 1) rfl)
  have hinX4 : ∀ w ∈ wsX40, w ∈ wsX4_sizeOf := fun _ h => List.mem_cons_of_mem _ (List.mem_append_right _ h)
  have hP : va_P D vwCl (ws_MD cs a σ) s.heap := hP
  have B37 : ∀ (t0 : Int32) (σ : MD), b_M_sizeOf_37 Φ t0 σ → At p l e (headSpec wsX4_sizeOf rm_M_sizeOf).room s m ([.ref (a 0), .int p1] : List Value).toArray below meth c (MQ below (va_Qi Φ (BG D cs A s.heap.size (ws_MD cs a)) A) ([.ref (a 0), .int p1] : List Value).toArray s 0 0 A) D A 2 [] (ws_MD cs a σ) 37 [.int t0] := by
    intro t0 σ hw H locs ls hl hP hD hS
    unfold b_M_sizeOf_37 at hw
    exact rI (wf := (ws_MD cs a)) (u := σ) hx hb hr hlocks hK hP hD hS hw dX4_sizeOf_37
  have hl := lv_entry ([.ref (a 0), .int p1]) (n := 2) (Nat.le_of_ble_eq_true rfl)
  rw [lg_entry_eq]
  generalize (lg_sl ([.ref (a 0), .int p1]) ++ List.replicate (2 - (lg_sl ([.ref (a 0), .int p1])).length) Slot.unset).toArray = ls at hl ⊢
  have hl : lv_has ls 2 [(0, .ref (a 0)), (1, .int p1)] := hl
  unfold w_M_sizeOf at hw
  refine lv_aload_n hx hb dX4_sizeOf_0 rfl (lv_at hl 0 rfl) ?_
  refine va_get (D := D) (ci := 4) (v := .ref (a 7)) (C := RX4) (T := TX4) (N := 23) hx hb hts hinX4 hown hK hP 0 rfl rfl 10 (by decide) hf32 (fun _ h9 => h9) rfl dX4_sizeOf_1 ?_
  refine lv_iconst (v := (4 : Int32)) hx hb dX4_sizeOf_4 (by decide) ?_
  refine lv_iload_n hx hb dX4_sizeOf_5 rfl (lv_at hl 1 rfl) ?_
  refine lv_imul hx hb dX4_sizeOf_6 ?_
  refine lv_iconst (v := (2 : Int32)) hx hb dX4_sizeOf_7 (by decide) ?_
  refine lv_iadd hx hb dX4_sizeOf_8 ?_
  have hi9 := hw.1
  have hw := hw.2
  refine va_iald (f := (g_MD_words σ)) (n := 32) hx hb hK hP 7 0 rfl rfl hi9 dX4_sizeOf_9 ?_
  refine lv_iconst (v := (-1 : Int32)) hx hb dX4_sizeOf_10 (by decide) ?_
  refine lv_icmp_ne (tgt := 18) hx hb dX4_sizeOf_11 (by decide) (fun c11 => ?_) (fun c11 => ?_)
  · have hw := hw.2 c11
    refine lv_aload_n hx hb dX4_sizeOf_18 rfl (lv_at hl 0 rfl) ?_
    refine va_get (D := D) (ci := 4) (v := .ref (a 7)) (C := RX4) (T := TX4) (N := 23) hx hb hts hinX4 hown hK hP 0 rfl rfl 10 (by decide) hf32 (fun _ h9 => h9) rfl dX4_sizeOf_19 ?_
    refine lv_iconst (v := (4 : Int32)) hx hb dX4_sizeOf_22 (by decide) ?_
    refine lv_iload_n hx hb dX4_sizeOf_23 rfl (lv_at hl 1 rfl) ?_
    refine lv_imul hx hb dX4_sizeOf_24 ?_
    refine lv_iconst (v := (3 : Int32)) hx hb dX4_sizeOf_25 (by decide) ?_
    refine lv_iadd hx hb dX4_sizeOf_26 ?_
    have hi27 := hw.1
    have hw := hw.2
    refine va_iald (f := (g_MD_words σ)) (n := 32) hx hb hK hP 7 0 rfl rfl hi27 dX4_sizeOf_27 ?_
    refine lv_iconst (v := (-1 : Int32)) hx hb dX4_sizeOf_28 (by decide) ?_
    refine lv_icmp_ne (tgt := 36) hx hb dX4_sizeOf_29 (by decide) (fun c29 => ?_) (fun c29 => ?_)
    · have hw := hw.2 c29
      refine lv_iconst (v := (4 : Int32)) hx hb dX4_sizeOf_36 (by decide) ?_
      exact B37 _ _ hw _ _ ls (lv_sub hl [] rfl) hP hD hS
    · have hw := hw.1 c29
      refine lv_iconst (v := (3 : Int32)) hx hb dX4_sizeOf_32 (by decide) ?_
      refine lv_goto (tgt := 37) hx hb dX4_sizeOf_33 (by decide) ?_
      exact B37 _ _ hw _ _ ls (lv_sub hl [] rfl) hP hD hS
  · have hw := hw.1 c11
    refine lv_iconst (v := (2 : Int32)) hx hb dX4_sizeOf_14 (by decide) ?_
    refine lv_goto (tgt := 37) hx hb dX4_sizeOf_15 (by decide) ?_
    exact B37 _ _ hw _ _ ls (lv_sub hl [] rfl) hP hD hS
