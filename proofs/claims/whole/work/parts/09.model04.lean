abbrev rm_M_copyYard : Room := { frames := 0, cells := 0, slots := 0, locals := 0 }
set_option maxHeartbeats 4000000 in
set_option maxRecDepth 100000 in
theorem c_M_copyYard (l : Launch) (D : va_G) (cs : CS) (a : Nat → Nat) (sz : Nat) (σ : MD) {Φ : MD → Prop} (hw : w_M_copyYard σ Φ) : Met l yX4_copyYard wsX4_copyYard rm_M_copyYard (PcG [.ref (a 0)] D cs (ws_MD cs a σ) sz) (va_Qv Φ (BG D cs (va_A (ws_MD cs a σ) sz) sz (ws_MD cs a)) (va_A (ws_MD cs a σ) sz)) 0 0 (va_A (ws_MD cs a σ) sz) := by
  refine Met.ofW (cc := cX4_copyYard) (maxL := 2) (ret := none) (by decide) rfl ?_
  intro p e s m args below meth c s₁ B hml hv
  obtain ⟨rfl, hsz, hP, hK, hD0⟩ := hv
  have hx := B.exec
  have hb := B.bytes
  have hr := B.returns
  have hts := atoms_spec (ws := wsX4_copyYard) B.pre
  have hown : s.vm.findClass RX4 = some m.cls := findClass_of_methodNamed B.named
  have hlocks := B.notSynchronized
  subst hsz
  have hD := hD0.self (sz := s.heap.size)
  generalize hAe : va_A (ws_MD cs a σ) s.heap.size = A at hD ⊢
  have hA : ∀ q : Nat, s.heap.size ≤ q → A q := fun q h => by rw [← hAe]; exact Or.inr h
  have hS : va_S A s.heap s.heap [] := va_S.rf
  have hf13 : (Cond.fieldLink RX4 13 "CraneYardModel" "heights" "[I").before ([.ref (a 0)] : List Value).toArray s = true := hts _ (List.mem_of_getElem? (i := 4) rfl)
  have hf26 : (Cond.fieldLink RX4 26 "CraneYardModel" "tried" "[I").before ([.ref (a 0)] : List Value).toArray s = true := hts _ (List.mem_of_getElem? (i := 1) rfl)
  have hf29 : (Cond.fieldLink RX4 29 "CraneYardModel" "triedHeights" "[I").before ([.ref (a 0)] : List Value).toArray s = true := hts _ (List.mem_of_getElem? (i := 3) rfl)
  have hf7 : (Cond.fieldLink RX4 7 "CraneYardModel" "yard" "[I").before ([.ref (a 0)] : List Value).toArray s = true := hts _ (List.mem_of_getElem? (i := 2) rfl)
  have hinX4 : ∀ w ∈ wsX40, w ∈ wsX4_copyYard := fun _ h => List.mem_cons_of_mem _ (List.mem_append_right _ h)
  have hP : va_P D vwCl (ws_MD cs a σ) s.heap := hP
  have B28 : ∀ (n : Nat) (x1 : Int32) (σ : MD), it2 (b_M_copyYard_28 Φ) n x1 σ → At p l e (headSpec wsX4_copyYard rm_M_copyYard).room s m ([.ref (a 0)] : List Value).toArray below meth c (MQ below (va_Qv Φ (BG D cs A s.heap.size (ws_MD cs a)) A) ([.ref (a 0)] : List Value).toArray s 0 0 A) D A 2 [(0, .ref (a 0)), (1, .int x1)] (ws_MD cs a σ) 28 [] := by
    intro n
    induction n with
    | zero => intro x1 σ hw; exact absurd hw id
    | succ n ih =>
      intro x1 σ hw H locs ls hl hP hD hS
      have hw : b_M_copyYard_28 Φ (it2 (b_M_copyYard_28 Φ) n) x1 σ := hw
      unfold b_M_copyYard_28 at hw
      refine lv_iload_n hx hb dX4_copyYard_28 rfl (lv_at hl 1 rfl) ?_
      refine lv_bipush (v := (6 : Int32)) hx hb dX4_copyYard_29 (by decide) ?_
      refine lv_icmp_ge (tgt := 52) hx hb dX4_copyYard_31 (by decide) (fun c31 => ?_) (fun c31 => ?_)
      · have hw := hw.1 c31
        exact rV (wf := (ws_MD cs a)) (u := σ) hx hb hr hlocks hK hP hD hS hw dX4_copyYard_52
      · have hw := hw.2 c31
        refine lv_aload_n hx hb dX4_copyYard_34 rfl (lv_at hl 0 rfl) ?_
        refine va_get (D := D) (ci := 4) (v := .ref (a 6)) (C := RX4) (T := TX4) (N := 23) hx hb hts hinX4 hown hK hP 0 rfl rfl 9 (by decide) hf29 (fun _ h9 => h9) rfl dX4_copyYard_35 ?_
        refine lv_iload_n hx hb dX4_copyYard_38 rfl (lv_at hl 1 rfl) ?_
        refine lv_aload_n hx hb dX4_copyYard_39 rfl (lv_at hl 0 rfl) ?_
        refine va_get (D := D) (ci := 4) (v := .ref (a 2)) (C := RX4) (T := TX4) (N := 23) hx hb hts hinX4 hown hK hP 0 rfl rfl 2 (by decide) hf13 (fun _ h9 => h9) rfl dX4_copyYard_40 ?_
        refine lv_iload_n hx hb dX4_copyYard_43 rfl (lv_at hl 1 rfl) ?_
        have hi44 := hw.1
        have hw := hw.2
        refine va_iald (f := (g_MD_heights σ)) (n := 6) hx hb hK hP 2 0 rfl rfl hi44 dX4_copyYard_44 ?_
        refine lv_topi (fun y1 ey1 => ?_)
        have hw := hw y1 ey1
        have hi45 := hw.1
        have hw := hw.2
        refine va_iast (f := (g_MD_triedHeights σ)) (n := 6) (x := y1) hx hb hK hP hD hS 6 0 rfl rfl hi45 dX4_copyYard_45 (fun H locs hP hD hS => ?_)
        have hP : va_P D vwCl (ws_MD cs a (s_MD_triedHeights σ (upd (g_MD_triedHeights σ) (x1).toNatClampNeg y1))) H := hP
        have hD : va_D A (ws_MD cs a (s_MD_triedHeights σ (upd (g_MD_triedHeights σ) (x1).toNatClampNeg y1))) := hD
        obtain ⟨z2, ez2⟩ : ∃ z : MD, z = (s_MD_triedHeights σ (upd (g_MD_triedHeights σ) (x1).toNatClampNeg y1)) := ⟨_, rfl⟩
        have hw := hw z2 ez2
        rw [← ez2] at hP hD
        refine lv_iinc (v := (x1 + (1 : Int32))) (lv' := [(1, .int (x1 + (1 : Int32))), (0, .ref (a 0))]) hx hb dX4_copyYard_46 hl (k := 1) rfl rfl (by decide) rfl (fun ls hl => ?_)
        refine lv_goto (tgt := 28) hx hb dX4_copyYard_49 (by decide) ?_
        exact ih _ _ hw H locs ls (lv_sub hl [1, 0] rfl) hP hD hS
  have B2 : ∀ (n : Nat) (x1 : Int32) (σ : MD), it2 (b_M_copyYard_2 Φ) n x1 σ → At p l e (headSpec wsX4_copyYard rm_M_copyYard).room s m ([.ref (a 0)] : List Value).toArray below meth c (MQ below (va_Qv Φ (BG D cs A s.heap.size (ws_MD cs a)) A) ([.ref (a 0)] : List Value).toArray s 0 0 A) D A 2 [(0, .ref (a 0)), (1, .int x1)] (ws_MD cs a σ) 2 [] := by
    intro n
    induction n with
    | zero => intro x1 σ hw; exact absurd hw id
    | succ n ih =>
      intro x1 σ hw H locs ls hl hP hD hS
      have hw : b_M_copyYard_2 Φ (it2 (b_M_copyYard_2 Φ) n) x1 σ := hw
      unfold b_M_copyYard_2 at hw
      refine lv_iload_n hx hb dX4_copyYard_2 rfl (lv_at hl 1 rfl) ?_
      refine lv_bipush (v := (30 : Int32)) hx hb dX4_copyYard_3 (by decide) ?_
      refine lv_icmp_ge (tgt := 26) hx hb dX4_copyYard_5 (by decide) (fun c5 => ?_) (fun c5 => ?_)
      · have hw := hw.1 c5
        refine lv_iconst (v := (0 : Int32)) hx hb dX4_copyYard_26 (by decide) ?_
        refine lv_istore_n (lv' := [(1, .int (0 : Int32)), (0, .ref (a 0))]) hx hb dX4_copyYard_27 rfl hl (by decide) rfl (fun ls hl => ?_)
        obtain ⟨n, hw⟩ := hw
        exact B28 n _ _ hw _ _ ls (lv_sub hl [1, 0] rfl) hP hD hS
      · have hw := hw.2 c5
        refine lv_aload_n hx hb dX4_copyYard_8 rfl (lv_at hl 0 rfl) ?_
        refine va_get (D := D) (ci := 4) (v := .ref (a 5)) (C := RX4) (T := TX4) (N := 23) hx hb hts hinX4 hown hK hP 0 rfl rfl 8 (by decide) hf26 (fun _ h9 => h9) rfl dX4_copyYard_9 ?_
        refine lv_iload_n hx hb dX4_copyYard_12 rfl (lv_at hl 1 rfl) ?_
        refine lv_aload_n hx hb dX4_copyYard_13 rfl (lv_at hl 0 rfl) ?_
        refine va_get (D := D) (ci := 4) (v := .ref (a 1)) (C := RX4) (T := TX4) (N := 23) hx hb hts hinX4 hown hK hP 0 rfl rfl 1 (by decide) hf7 (fun _ h9 => h9) rfl dX4_copyYard_14 ?_
        refine lv_iload_n hx hb dX4_copyYard_17 rfl (lv_at hl 1 rfl) ?_
        have hi18 := hw.1
        have hw := hw.2
        refine va_iald (f := (g_MD_yard σ)) (n := 30) hx hb hK hP 1 0 rfl rfl hi18 dX4_copyYard_18 ?_
        refine lv_topi (fun y1 ey1 => ?_)
        have hw := hw y1 ey1
        have hi19 := hw.1
        have hw := hw.2
        refine va_iast (f := (g_MD_tried σ)) (n := 30) (x := y1) hx hb hK hP hD hS 5 0 rfl rfl hi19 dX4_copyYard_19 (fun H locs hP hD hS => ?_)
        have hP : va_P D vwCl (ws_MD cs a (s_MD_tried σ (upd (g_MD_tried σ) (x1).toNatClampNeg y1))) H := hP
        have hD : va_D A (ws_MD cs a (s_MD_tried σ (upd (g_MD_tried σ) (x1).toNatClampNeg y1))) := hD
        obtain ⟨z2, ez2⟩ : ∃ z : MD, z = (s_MD_tried σ (upd (g_MD_tried σ) (x1).toNatClampNeg y1)) := ⟨_, rfl⟩
        have hw := hw z2 ez2
        rw [← ez2] at hP hD
        refine lv_iinc (v := (x1 + (1 : Int32))) (lv' := [(1, .int (x1 + (1 : Int32))), (0, .ref (a 0))]) hx hb dX4_copyYard_20 hl (k := 1) rfl rfl (by decide) rfl (fun ls hl => ?_)
        refine lv_goto (tgt := 2) hx hb dX4_copyYard_23 (by decide) ?_
        exact ih _ _ hw H locs ls (lv_sub hl [1, 0] rfl) hP hD hS
  have hl := lv_entry ([.ref (a 0)]) (n := 2) (Nat.le_of_ble_eq_true rfl)
  rw [lg_entry_eq]
  generalize (lg_sl ([.ref (a 0)]) ++ List.replicate (2 - (lg_sl ([.ref (a 0)])).length) Slot.unset).toArray = ls at hl ⊢
  have hl : lv_has ls 2 [(0, .ref (a 0))] := hl
  unfold w_M_copyYard at hw
  refine lv_iconst (v := (0 : Int32)) hx hb dX4_copyYard_0 (by decide) ?_
  refine lv_istore_n (lv' := [(1, .int (0 : Int32)), (0, .ref (a 0))]) hx hb dX4_copyYard_1 rfl hl (by decide) rfl (fun ls hl => ?_)
  obtain ⟨n, hw⟩ := hw
  exact B2 n _ _ hw _ _ ls (lv_sub hl [1, 0] rfl) hP hD hS
abbrev rm_M_canTry : Room := { frames := 1, cells := 0, slots := 0, locals := 20 }
set_option maxHeartbeats 4000000 in
set_option maxRecDepth 100000 in
theorem c_M_canTry (l : Launch) (D : va_G) (cs : CS) (a : Nat → Nat) (sz : Nat) (σ : MD) (p1 : Int32) (p2 : Int32) {Φ : Int32 → MD → Prop} (hw : w_M_canTry σ p1 p2 Φ) : Met l yX4_canTry wsX4_canTry rm_M_canTry (PcG [.ref (a 0), .int p1, .int p2] D cs (ws_MD cs a σ) sz) (va_Qi Φ (BG D cs (va_A (ws_MD cs a σ) sz) sz (ws_MD cs a)) (va_A (ws_MD cs a σ) sz)) 0 0 (va_A (ws_MD cs a σ) sz) := by
  refine Met.ofW (cc := cX4_canTry) (maxL := 4) (ret := (some .boolean)) (by decide) rfl ?_
  intro p e s m args below meth c s₁ B hml hv
  obtain ⟨rfl, hsz, hP, hK, hD0⟩ := hv
  have hx := B.exec
  have hb := B.bytes
  have hr := B.returns
  have hts := atoms_spec (ws := wsX4_canTry) B.pre
  have hown : s.vm.findClass RX4 = some m.cls := findClass_of_methodNamed B.named
  have hlocks := B.notSynchronized
  subst hsz
  have hD := hD0.self (sz := s.heap.size)
  generalize hAe : va_A (ws_MD cs a σ) s.heap.size = A at hD ⊢
  have hA : ∀ q : Nat, s.heap.size ≤ q → A q := fun q h => by rw [← hAe]; exact Or.inr h
  have hS : va_S A s.heap s.heap [] := va_S.rf
  have hf16 : (Cond.fieldLink RX4 16 "CraneYardModel" "weights" "[I").before ([.ref (a 0), .int p1, .int p2] : List Value).toArray s = true := hts _ (List.mem_of_getElem? (i := 2) rfl)
  have hf26 : (Cond.fieldLink RX4 26 "CraneYardModel" "tried" "[I").before ([.ref (a 0), .int p1, .int p2] : List Value).toArray s = true := hts _ (List.mem_of_getElem? (i := 3) rfl)
  have hf29 : (Cond.fieldLink RX4 29 "CraneYardModel" "triedHeights" "[I").before ([.ref (a 0), .int p1, .int p2] : List Value).toArray s = true := hts _ (List.mem_of_getElem? (i := 1) rfl)
  have hinX4 : ∀ w ∈ wsX40, w ∈ wsX4_canTry := fun _ h => List.mem_cons_of_mem _ (List.mem_append_right _ h)
  have hP : va_P D vwCl (ws_MD cs a σ) s.heap := hP
  have B50 : ∀ (t0 : Int32) (σ : MD), b_M_canTry_50 Φ t0 σ → At p l e (headSpec wsX4_canTry rm_M_canTry).room s m ([.ref (a 0), .int p1, .int p2] : List Value).toArray below meth c (MQ below (va_Qi Φ (BG D cs A s.heap.size (ws_MD cs a)) A) ([.ref (a 0), .int p1, .int p2] : List Value).toArray s 0 0 A) D A 4 [] (ws_MD cs a σ) 50 [.int t0] := by
    intro t0 σ hw H locs ls hl hP hD hS
    unfold b_M_canTry_50 at hw
    exact rZ (wf := (ws_MD cs a)) (u := σ) hx hb hr hlocks hK hP hD hS hw dX4_canTry_50
  have B49 : ∀ (σ : MD), b_M_canTry_49 Φ σ → At p l e (headSpec wsX4_canTry rm_M_canTry).room s m ([.ref (a 0), .int p1, .int p2] : List Value).toArray below meth c (MQ below (va_Qi Φ (BG D cs A s.heap.size (ws_MD cs a)) A) ([.ref (a 0), .int p1, .int p2] : List Value).toArray s 0 0 A) D A 4 [] (ws_MD cs a σ) 49 [] := by
    intro σ hw H locs ls hl hP hD hS
    unfold b_M_canTry_49 at hw
    refine lv_iconst (v := (0 : Int32)) hx hb dX4_canTry_49 (by decide) ?_
    exact B50 _ _ hw _ _ ls (lv_sub hl [] rfl) hP hD hS
  have B45 : ∀ (σ : MD), b_M_canTry_45 Φ σ → At p l e (headSpec wsX4_canTry rm_M_canTry).room s m ([.ref (a 0), .int p1, .int p2] : List Value).toArray below meth c (MQ below (va_Qi Φ (BG D cs A s.heap.size (ws_MD cs a)) A) ([.ref (a 0), .int p1, .int p2] : List Value).toArray s 0 0 A) D A 4 [] (ws_MD cs a σ) 45 [] := by
    intro σ hw H locs ls hl hP hD hS
    unfold b_M_canTry_45 at hw
    refine lv_iconst (v := (1 : Int32)) hx hb dX4_canTry_45 (by decide) ?_
    refine lv_goto (tgt := 50) hx hb dX4_canTry_46 (by decide) ?_
    exact B50 _ _ hw _ _ ls (lv_sub hl [] rfl) hP hD hS
  have hl := lv_entry ([.ref (a 0), .int p1, .int p2]) (n := 4) (Nat.le_of_ble_eq_true rfl)
  rw [lg_entry_eq]
  generalize (lg_sl ([.ref (a 0), .int p1, .int p2]) ++ List.replicate (4 - (lg_sl ([.ref (a 0), .int p1, .int p2])).length) Slot.unset).toArray = ls at hl ⊢
  have hl : lv_has ls 4 [(0, .ref (a 0)), (1, .int p1), (2, .int p2)] := hl
  unfold w_M_canTry at hw
  refine lv_aload_n hx hb dX4_canTry_0 rfl (lv_at hl 0 rfl) ?_
  refine va_get (D := D) (ci := 4) (v := .ref (a 6)) (C := RX4) (T := TX4) (N := 23) hx hb hts hinX4 hown hK hP 0 rfl rfl 9 (by decide) hf29 (fun _ h9 => h9) rfl dX4_canTry_1 ?_
  refine lv_iload_n hx hb dX4_canTry_4 rfl (lv_at hl 2 rfl) ?_
  have hi5 := hw.1
  have hw := hw.2
  refine va_iald (f := (g_MD_triedHeights σ)) (n := 6) hx hb hK hP 6 0 rfl rfl hi5 dX4_canTry_5 ?_
  refine lv_topi (fun y1 ey1 => ?_)
  have hw := hw y1 ey1
  refine lv_istore_n (lv' := [(3, .int y1), (0, .ref (a 0)), (1, .int p1), (2, .int p2)]) hx hb dX4_canTry_6 rfl hl (by decide) rfl (fun ls hl => ?_)
  refine lv_iload_n hx hb dX4_canTry_7 rfl (lv_at hl 0 rfl) ?_
  refine lv_aload_n hx hb dX4_canTry_8 rfl (lv_at hl 1 rfl) ?_
  refine kVi (As := []) (rest := [.int y1]) ⟨hx, hb, hml, hown, hts⟩ (c_M_most l D cs a _ σ hw) (cwV 0 hts gX4_canTry_X4_most rfl rfl rfl (by decide +kernel) ⟨Nat.le_of_ble_eq_true rfl, Nat.le_of_ble_eq_true rfl⟩) (pt_self_MD cs a σ) hK hP hD hS hA (ci := 4) rfl rfl rfl rfl hl.1 rfl (Nat.le_of_ble_eq_true rfl) dX4_canTry_9 ⟨Nat.zero_le _, Nat.zero_le _⟩ (fun r9 u9 H locs hw hP hD hS => ?_)
  have hP : va_P D vwCl (ws_MD cs a u9) H := hP
  have hD : va_D A (ws_MD cs a u9) := hD
  refine lv_icmp_ge (tgt := 49) hx hb dX4_canTry_12 (by decide) (fun c12 => ?_) (fun c12 => ?_)
  · have hw := hw.1 c12
    exact B49 _ hw _ _ ls (lv_sub hl [] rfl) hP hD hS
  · have hw := hw.2 c12
    refine lv_iload_n hx hb dX4_canTry_15 rfl (lv_at hl 0 rfl) ?_
    refine lv_if_eq (tgt := 45) hx hb dX4_canTry_16 (by decide) (fun c16 => ?_) (fun c16 => ?_)
    · have hw := hw.1 c16
      exact B45 _ hw _ _ ls (lv_sub hl [] rfl) hP hD hS
    · have hw := hw.2 c16
      refine lv_aload_n hx hb dX4_canTry_19 rfl (lv_at hl 1 rfl) ?_
      refine va_get (D := D) (ci := 4) (v := .ref (a 3)) (C := RX4) (T := TX4) (N := 23) hx hb hts hinX4 hown hK hP 0 rfl rfl 3 (by decide) hf16 (fun _ h9 => h9) rfl dX4_canTry_20 ?_
      refine lv_aload_n hx hb dX4_canTry_23 rfl (lv_at hl 1 rfl) ?_
      refine va_get (D := D) (ci := 4) (v := .ref (a 5)) (C := RX4) (T := TX4) (N := 23) hx hb hts hinX4 hown hK hP 0 rfl rfl 8 (by decide) hf26 (fun _ h9 => h9) rfl dX4_canTry_24 ?_
      refine lv_iconst (v := (5 : Int32)) hx hb dX4_canTry_27 (by decide) ?_
      refine lv_iload_n hx hb dX4_canTry_28 rfl (lv_at hl 3 rfl) ?_
      refine lv_imul hx hb dX4_canTry_29 ?_
      refine lv_iload_n hx hb dX4_canTry_30 rfl (lv_at hl 0 rfl) ?_
      refine lv_iadd hx hb dX4_canTry_31 ?_
      refine lv_iconst (v := (1 : Int32)) hx hb dX4_canTry_32 (by decide) ?_
      refine lv_isub hx hb dX4_canTry_33 ?_
      have hi34 := hw.1
      have hw := hw.2
      refine va_iald (f := (g_MD_tried u9)) (n := 30) hx hb hK hP 5 0 rfl rfl hi34 dX4_canTry_34 ?_
      have hi35 := hw.1
      have hw := hw.2
      refine va_iald (f := (g_MD_weights u9)) (n := 30) hx hb hK hP 3 0 rfl rfl hi35 dX4_canTry_35 ?_
      refine lv_aload_n hx hb dX4_canTry_36 rfl (lv_at hl 1 rfl) ?_
      refine va_get (D := D) (ci := 4) (v := .ref (a 3)) (C := RX4) (T := TX4) (N := 23) hx hb hts hinX4 hown hK hP 0 rfl rfl 3 (by decide) hf16 (fun _ h9 => h9) rfl dX4_canTry_37 ?_
      refine lv_iload_n hx hb dX4_canTry_40 rfl (lv_at hl 2 rfl) ?_
      have hi41 := hw.1
      have hw := hw.2
      refine va_iald (f := (g_MD_weights u9)) (n := 30) hx hb hK hP 3 0 rfl rfl hi41 dX4_canTry_41 ?_
      refine lv_icmp_lt (tgt := 49) hx hb dX4_canTry_42 (by decide) (fun c42 => ?_) (fun c42 => ?_)
      · have hw := hw.1 c42
        exact B49 _ hw _ _ ls (lv_sub hl [] rfl) hP hD hS
      · have hw := hw.2 c42
        exact B45 _ hw _ _ ls (lv_sub hl [] rfl) hP hD hS
abbrev rm_M_find : Room := { frames := 0, cells := 0, slots := 0, locals := 0 }
set_option maxHeartbeats 4000000 in
set_option maxRecDepth 100000 in
theorem c_M_find (l : Launch) (D : va_G) (cs : CS) (a : Nat → Nat) (sz : Nat) (σ : MD) (p1 : Int32) {Φ : Int32 → MD → Prop} (hw : w_M_find σ p1 Φ) : Met l yX4_find wsX4_find rm_M_find (PcG [.ref (a 0), .int p1] D cs (ws_MD cs a σ) sz) (va_Qi Φ (BG D cs (va_A (ws_MD cs a σ) sz) sz (ws_MD cs a)) (va_A (ws_MD cs a σ) sz)) 0 0 (va_A (ws_MD cs a σ) sz) := by
  refine Met.ofW (cc := cX4_find) (maxL := 3) (ret := (some .int)) (by decide) rfl ?_
  intro p e s m args below meth c s₁ B hml hv
  obtain ⟨rfl, hsz, hP, hK, hD0⟩ := hv
  have hx := B.exec
  have hb := B.bytes
  have hr := B.returns
  have hts := atoms_spec (ws := wsX4_find) B.pre
  have hown : s.vm.findClass RX4 = some m.cls := findClass_of_methodNamed B.named
  have hlocks := B.notSynchronized
  subst hsz
  have hD := hD0.self (sz := s.heap.size)
  generalize hAe : va_A (ws_MD cs a σ) s.heap.size = A at hD ⊢
  have hA : ∀ q : Nat, s.heap.size ≤ q → A q := fun q h => by rw [← hAe]; exact Or.inr h
  have hS : va_S A s.heap s.heap [] := va_S.rf
  have hf26 : (Cond.fieldLink RX4 26 "CraneYardModel" "tried" "[I").before ([.ref (a 0), .int p1] : List Value).toArray s = true := hts _ (List.mem_of_getElem? (i := 2) rfl)
  have hf29 : (Cond.fieldLink RX4 29 "CraneYardModel" "triedHeights" "[I").before ([.ref (a 0), .int p1] : List Value).toArray s = true := hts _ (List.mem_of_getElem? (i := 1) rfl)
  have hinX4 : ∀ w ∈ wsX40, w ∈ wsX4_find := fun _ h => List.mem_cons_of_mem _ (List.mem_append_right _ h)
  have hP : va_P D vwCl (ws_MD cs a σ) s.heap := hP
  have B36 : ∀ (K2 : (Int32 → Int32 → MD → Prop)) (hK2 : ∀ (x1 : Int32) (x2 : Int32) (σ : MD), K2 x1 x2 σ → At p l e (headSpec wsX4_find rm_M_find).room s m ([.ref (a 0), .int p1] : List Value).toArray below meth c (MQ below (va_Qi Φ (BG D cs A s.heap.size (ws_MD cs a)) A) ([.ref (a 0), .int p1] : List Value).toArray s 0 0 A) D A 3 [(0, .ref (a 0)), (1, .int x1), (2, .int x2)] (ws_MD cs a σ) 2 []) (x1 : Int32) (x2 : Int32) (σ : MD), b_M_find_36 K2 Φ x1 x2 σ → At p l e (headSpec wsX4_find rm_M_find).room s m ([.ref (a 0), .int p1] : List Value).toArray below meth c (MQ below (va_Qi Φ (BG D cs A s.heap.size (ws_MD cs a)) A) ([.ref (a 0), .int p1] : List Value).toArray s 0 0 A) D A 3 [(0, .ref (a 0)), (1, .int x1), (2, .int x2)] (ws_MD cs a σ) 36 [] := by
    intro K2 hK2 x1 x2 σ hw H locs ls hl hP hD hS
    unfold b_M_find_36 at hw
    refine lv_iinc (v := (x2 + (1 : Int32))) (lv' := [(2, .int (x2 + (1 : Int32))), (0, .ref (a 0)), (1, .int x1)]) hx hb dX4_find_36 hl (k := 2) rfl rfl (by decide) rfl (fun ls hl => ?_)
    refine lv_goto (tgt := 2) hx hb dX4_find_39 (by decide) ?_
    exact hK2 _ _ _ hw _ _ ls (lv_sub hl [1, 2, 0] rfl) hP hD hS
  have B2 : ∀ (n : Nat) (x1 : Int32) (x2 : Int32) (σ : MD), it3 (b_M_find_2 Φ) n x1 x2 σ → At p l e (headSpec wsX4_find rm_M_find).room s m ([.ref (a 0), .int p1] : List Value).toArray below meth c (MQ below (va_Qi Φ (BG D cs A s.heap.size (ws_MD cs a)) A) ([.ref (a 0), .int p1] : List Value).toArray s 0 0 A) D A 3 [(0, .ref (a 0)), (1, .int x1), (2, .int x2)] (ws_MD cs a σ) 2 [] := by
    intro n
    induction n with
    | zero => intro x1 x2 σ hw; exact absurd hw id
    | succ n ih =>
      intro x1 x2 σ hw H locs ls hl hP hD hS
      have hw : b_M_find_2 Φ (it3 (b_M_find_2 Φ) n) x1 x2 σ := hw
      unfold b_M_find_2 at hw
      refine lv_iload_n hx hb dX4_find_2 rfl (lv_at hl 2 rfl) ?_
      refine lv_bipush (v := (30 : Int32)) hx hb dX4_find_3 (by decide) ?_
      refine lv_icmp_ge (tgt := 42) hx hb dX4_find_5 (by decide) (fun c5 => ?_) (fun c5 => ?_)
      · have hw := hw.1 c5
        refine lv_iconst (v := (-1 : Int32)) hx hb dX4_find_42 (by decide) ?_
        exact rI (wf := (ws_MD cs a)) (u := σ) hx hb hr hlocks hK hP hD hS hw dX4_find_43
      · have hw := hw.2 c5
        refine lv_iload_n hx hb dX4_find_8 rfl (lv_at hl 2 rfl) ?_
        refine lv_iconst (v := (5 : Int32)) hx hb dX4_find_9 (by decide) ?_
        refine lv_irem hx hb dX4_find_10 (by decide) ?_
        refine lv_aload_n hx hb dX4_find_11 rfl (lv_at hl 0 rfl) ?_
        refine va_get (D := D) (ci := 4) (v := .ref (a 6)) (C := RX4) (T := TX4) (N := 23) hx hb hts hinX4 hown hK hP 0 rfl rfl 9 (by decide) hf29 (fun _ h9 => h9) rfl dX4_find_12 ?_
        refine lv_iload_n hx hb dX4_find_15 rfl (lv_at hl 2 rfl) ?_
        refine lv_iconst (v := (5 : Int32)) hx hb dX4_find_16 (by decide) ?_
        refine lv_idiv hx hb dX4_find_17 (by decide) ?_
        have hi18 := hw.1
        have hw := hw.2
        refine va_iald (f := (g_MD_triedHeights σ)) (n := 6) hx hb hK hP 6 0 rfl rfl hi18 dX4_find_18 ?_
        refine lv_icmp_ge (tgt := 36) hx hb dX4_find_19 (by decide) (fun c19 => ?_) (fun c19 => ?_)
        · have hw := hw.1 c19
          exact B36 _ ih _ _ _ hw _ _ ls (lv_sub hl [0, 1, 2] rfl) hP hD hS
        · have hw := hw.2 c19
          refine lv_aload_n hx hb dX4_find_22 rfl (lv_at hl 0 rfl) ?_
          refine va_get (D := D) (ci := 4) (v := .ref (a 5)) (C := RX4) (T := TX4) (N := 23) hx hb hts hinX4 hown hK hP 0 rfl rfl 8 (by decide) hf26 (fun _ h9 => h9) rfl dX4_find_23 ?_
          refine lv_iload_n hx hb dX4_find_26 rfl (lv_at hl 2 rfl) ?_
          have hi27 := hw.1
          have hw := hw.2
          refine va_iald (f := (g_MD_tried σ)) (n := 30) hx hb hK hP 5 0 rfl rfl hi27 dX4_find_27 ?_
          refine lv_iload_n hx hb dX4_find_28 rfl (lv_at hl 1 rfl) ?_
          refine lv_icmp_ne (tgt := 36) hx hb dX4_find_29 (by decide) (fun c29 => ?_) (fun c29 => ?_)
          · have hw := hw.2 c29
            exact B36 _ ih _ _ _ hw _ _ ls (lv_sub hl [0, 1, 2] rfl) hP hD hS
          · have hw := hw.1 c29
            refine lv_iload_n hx hb dX4_find_32 rfl (lv_at hl 2 rfl) ?_
            refine lv_iconst (v := (5 : Int32)) hx hb dX4_find_33 (by decide) ?_
            refine lv_idiv hx hb dX4_find_34 (by decide) ?_
            exact rI (wf := (ws_MD cs a)) (u := σ) hx hb hr hlocks hK hP hD hS hw dX4_find_35
  have hl := lv_entry ([.ref (a 0), .int p1]) (n := 3) (Nat.le_of_ble_eq_true rfl)
  rw [lg_entry_eq]
  generalize (lg_sl ([.ref (a 0), .int p1]) ++ List.replicate (3 - (lg_sl ([.ref (a 0), .int p1])).length) Slot.unset).toArray = ls at hl ⊢
  have hl : lv_has ls 3 [(0, .ref (a 0)), (1, .int p1)] := hl
  unfold w_M_find at hw
  refine lv_iconst (v := (0 : Int32)) hx hb dX4_find_0 (by decide) ?_
  refine lv_istore_n (lv' := [(2, .int (0 : Int32)), (0, .ref (a 0)), (1, .int p1)]) hx hb dX4_find_1 rfl hl (by decide) rfl (fun ls hl => ?_)
  obtain ⟨n, hw⟩ := hw
  exact B2 n _ _ _ hw _ _ ls (lv_sub hl [1, 2, 0] rfl) hP hD hS
abbrev rm_M_digOut : Room := { frames := 2, cells := 0, slots := 0, locals := 43 }
set_option maxHeartbeats 4000000 in
set_option maxRecDepth 100000 in
theorem c_M_digOut (l : Launch) (D : va_G) (cs : CS) (a : Nat → Nat) (sz : Nat) (σ : MD) (p1 : Int32) {Φ : Int32 → MD → Prop} (hw : w_M_digOut σ p1 Φ) : Met l yX4_digOut wsX4_digOut rm_M_digOut (PcG [.ref (a 0), .int p1] D cs (ws_MD cs a σ) sz) (va_Qi Φ (BG D cs (va_A (ws_MD cs a σ) sz) sz (ws_MD cs a)) (va_A (ws_MD cs a σ) sz)) 0 0 (va_A (ws_MD cs a σ) sz) := by
  refine Met.ofW (cc := cX4_digOut) (maxL := 8) (ret := (some .int)) (by decide) rfl ?_
  intro p e s m args below meth c s₁ B hml hv
  obtain ⟨rfl, hsz, hP, hK, hD0⟩ := hv
  have hx := B.exec
  have hb := B.bytes
  have hr := B.returns
  have hts := atoms_spec (ws := wsX4_digOut) B.pre
  have hown : s.vm.findClass RX4 = some m.cls := findClass_of_methodNamed B.named
  have hlocks := B.notSynchronized
  subst hsz
  have hD := hD0.self (sz := s.heap.size)
  generalize hAe : va_A (ws_MD cs a σ) s.heap.size = A at hD ⊢
  have hA : ∀ q : Nat, s.heap.size ≤ q → A q := fun q h => by rw [← hAe]; exact Or.inr h
  have hS : va_S A s.heap s.heap [] := va_S.rf
  have hf26 : (Cond.fieldLink RX4 26 "CraneYardModel" "tried" "[I").before ([.ref (a 0), .int p1] : List Value).toArray s = true := hts _ (List.mem_of_getElem? (i := 1) rfl)
  have hf29 : (Cond.fieldLink RX4 29 "CraneYardModel" "triedHeights" "[I").before ([.ref (a 0), .int p1] : List Value).toArray s = true := hts _ (List.mem_of_getElem? (i := 2) rfl)
  have hinX4 : ∀ w ∈ wsX40, w ∈ wsX4_digOut := fun _ h => List.mem_cons_of_mem _ (List.mem_append_right _ h)
  have hP : va_P D vwCl (ws_MD cs a σ) s.heap := hP
  have B125 : ∀ (K8 : (Int32 → Int32 → Int32 → MD → Prop)) (hK8 : ∀ (x1 : Int32) (x2 : Int32) (x3 : Int32) (σ : MD), K8 x1 x2 x3 σ → At p l e (headSpec wsX4_digOut rm_M_digOut).room s m ([.ref (a 0), .int p1] : List Value).toArray below meth c (MQ below (va_Qi Φ (BG D cs A s.heap.size (ws_MD cs a)) A) ([.ref (a 0), .int p1] : List Value).toArray s 0 0 A) D A 8 [(0, .ref (a 0)), (1, .int x1), (2, .int x2), (3, .int x3)] (ws_MD cs a σ) 8 []) (K59 : (Int32 → Int32 → Int32 → Int32 → Int32 → Int32 → MD → Prop)) (hK59 : ∀ (x1 : Int32) (x2 : Int32) (x3 : Int32) (x4 : Int32) (x5 : Int32) (x6 : Int32) (σ : MD), K59 x1 x2 x3 x4 x5 x6 σ → At p l e (headSpec wsX4_digOut rm_M_digOut).room s m ([.ref (a 0), .int p1] : List Value).toArray below meth c (MQ below (va_Qi Φ (BG D cs A s.heap.size (ws_MD cs a)) A) ([.ref (a 0), .int p1] : List Value).toArray s 0 0 A) D A 8 [(0, .ref (a 0)), (1, .int x1), (2, .int x2), (3, .int x3), (4, .int x4), (5, .int x5), (6, .int x6)] (ws_MD cs a σ) 59 []) (x1 : Int32) (x2 : Int32) (x3 : Int32) (x4 : Int32) (x6 : Int32) (t0 : Int32) (σ : MD), b_M_digOut_125 K8 K59 Φ x1 x2 x3 x4 x6 t0 σ → At p l e (headSpec wsX4_digOut rm_M_digOut).room s m ([.ref (a 0), .int p1] : List Value).toArray below meth c (MQ below (va_Qi Φ (BG D cs A s.heap.size (ws_MD cs a)) A) ([.ref (a 0), .int p1] : List Value).toArray s 0 0 A) D A 8 [(0, .ref (a 0)), (1, .int x1), (2, .int x2), (3, .int x3), (4, .int x4), (6, .int x6)] (ws_MD cs a σ) 125 [.int t0] := by
    intro K8 hK8 K59 hK59 x1 x2 x3 x4 x6 t0 σ hw H locs ls hl hP hD hS
    unfold b_M_digOut_125 at hw
    refine lv_istore (lv' := [(5, .int t0), (0, .ref (a 0)), (1, .int x1), (2, .int x2), (3, .int x3), (4, .int x4), (6, .int x6)]) hx hb dX4_digOut_125 hl (by decide) rfl (fun ls hl => ?_)
    refine lv_iinc (v := (x6 + (1 : Int32))) (lv' := [(6, .int (x6 + (1 : Int32))), (5, .int t0), (0, .ref (a 0)), (1, .int x1), (2, .int x2), (3, .int x3), (4, .int x4)]) hx hb dX4_digOut_127 hl (k := 6) rfl rfl (by decide) rfl (fun ls hl => ?_)
    refine lv_goto (tgt := 59) hx hb dX4_digOut_130 (by decide) ?_
    exact hK59 _ _ _ _ _ _ _ hw _ _ ls (lv_sub hl [2, 3, 4, 5, 6, 1, 0] rfl) hP hD hS
  have B123 : ∀ (K8 : (Int32 → Int32 → Int32 → MD → Prop)) (hK8 : ∀ (x1 : Int32) (x2 : Int32) (x3 : Int32) (σ : MD), K8 x1 x2 x3 σ → At p l e (headSpec wsX4_digOut rm_M_digOut).room s m ([.ref (a 0), .int p1] : List Value).toArray below meth c (MQ below (va_Qi Φ (BG D cs A s.heap.size (ws_MD cs a)) A) ([.ref (a 0), .int p1] : List Value).toArray s 0 0 A) D A 8 [(0, .ref (a 0)), (1, .int x1), (2, .int x2), (3, .int x3)] (ws_MD cs a σ) 8 []) (K59 : (Int32 → Int32 → Int32 → Int32 → Int32 → Int32 → MD → Prop)) (hK59 : ∀ (x1 : Int32) (x2 : Int32) (x3 : Int32) (x4 : Int32) (x5 : Int32) (x6 : Int32) (σ : MD), K59 x1 x2 x3 x4 x5 x6 σ → At p l e (headSpec wsX4_digOut rm_M_digOut).room s m ([.ref (a 0), .int p1] : List Value).toArray below meth c (MQ below (va_Qi Φ (BG D cs A s.heap.size (ws_MD cs a)) A) ([.ref (a 0), .int p1] : List Value).toArray s 0 0 A) D A 8 [(0, .ref (a 0)), (1, .int x1), (2, .int x2), (3, .int x3), (4, .int x4), (5, .int x5), (6, .int x6)] (ws_MD cs a σ) 59 []) (x1 : Int32) (x2 : Int32) (x3 : Int32) (x4 : Int32) (x5 : Int32) (x6 : Int32) (σ : MD), b_M_digOut_123 K8 K59 Φ x1 x2 x3 x4 x5 x6 σ → At p l e (headSpec wsX4_digOut rm_M_digOut).room s m ([.ref (a 0), .int p1] : List Value).toArray below meth c (MQ below (va_Qi Φ (BG D cs A s.heap.size (ws_MD cs a)) A) ([.ref (a 0), .int p1] : List Value).toArray s 0 0 A) D A 8 [(0, .ref (a 0)), (1, .int x1), (2, .int x2), (3, .int x3), (4, .int x4), (5, .int x5), (6, .int x6)] (ws_MD cs a σ) 123 [] := by
    intro K8 hK8 K59 hK59 x1 x2 x3 x4 x5 x6 σ hw H locs ls hl hP hD hS
    unfold b_M_digOut_123 at hw
    refine lv_iload hx hb dX4_digOut_123 (lv_at hl 5 rfl) ?_
    exact B125 _ hK8 _ hK59 _ _ _ _ _ _ _ hw _ _ ls (lv_sub hl [0, 1, 2, 3, 4, 6] rfl) hP hD hS
  have B118 : ∀ (K8 : (Int32 → Int32 → Int32 → MD → Prop)) (hK8 : ∀ (x1 : Int32) (x2 : Int32) (x3 : Int32) (σ : MD), K8 x1 x2 x3 σ → At p l e (headSpec wsX4_digOut rm_M_digOut).room s m ([.ref (a 0), .int p1] : List Value).toArray below meth c (MQ below (va_Qi Φ (BG D cs A s.heap.size (ws_MD cs a)) A) ([.ref (a 0), .int p1] : List Value).toArray s 0 0 A) D A 8 [(0, .ref (a 0)), (1, .int x1), (2, .int x2), (3, .int x3)] (ws_MD cs a σ) 8 []) (K59 : (Int32 → Int32 → Int32 → Int32 → Int32 → Int32 → MD → Prop)) (hK59 : ∀ (x1 : Int32) (x2 : Int32) (x3 : Int32) (x4 : Int32) (x5 : Int32) (x6 : Int32) (σ : MD), K59 x1 x2 x3 x4 x5 x6 σ → At p l e (headSpec wsX4_digOut rm_M_digOut).room s m ([.ref (a 0), .int p1] : List Value).toArray below meth c (MQ below (va_Qi Φ (BG D cs A s.heap.size (ws_MD cs a)) A) ([.ref (a 0), .int p1] : List Value).toArray s 0 0 A) D A 8 [(0, .ref (a 0)), (1, .int x1), (2, .int x2), (3, .int x3), (4, .int x4), (5, .int x5), (6, .int x6)] (ws_MD cs a σ) 59 []) (x1 : Int32) (x2 : Int32) (x3 : Int32) (x4 : Int32) (x6 : Int32) (σ : MD), b_M_digOut_118 K8 K59 Φ x1 x2 x3 x4 x6 σ → At p l e (headSpec wsX4_digOut rm_M_digOut).room s m ([.ref (a 0), .int p1] : List Value).toArray below meth c (MQ below (va_Qi Φ (BG D cs A s.heap.size (ws_MD cs a)) A) ([.ref (a 0), .int p1] : List Value).toArray s 0 0 A) D A 8 [(0, .ref (a 0)), (1, .int x1), (2, .int x2), (3, .int x3), (4, .int x4), (6, .int x6)] (ws_MD cs a σ) 118 [] := by
    intro K8 hK8 K59 hK59 x1 x2 x3 x4 x6 σ hw H locs ls hl hP hD hS
    unfold b_M_digOut_118 at hw
    refine lv_iload hx hb dX4_digOut_118 (lv_at hl 5 rfl) ?_
    refine lv_goto (tgt := 125) hx hb dX4_digOut_120 (by decide) ?_
    exact B125 _ hK8 _ hK59 _ _ _ _ _ _ _ hw _ _ ls (lv_sub hl [0, 1, 2, 3, 4, 5] rfl) hP hD hS
  have B88 : ∀ (K8 : (Int32 → Int32 → Int32 → MD → Prop)) (hK8 : ∀ (x1 : Int32) (x2 : Int32) (x3 : Int32) (σ : MD), K8 x1 x2 x3 σ → At p l e (headSpec wsX4_digOut rm_M_digOut).room s m ([.ref (a 0), .int p1] : List Value).toArray below meth c (MQ below (va_Qi Φ (BG D cs A s.heap.size (ws_MD cs a)) A) ([.ref (a 0), .int p1] : List Value).toArray s 0 0 A) D A 8 [(0, .ref (a 0)), (1, .int x1), (2, .int x2), (3, .int x3)] (ws_MD cs a σ) 8 []) (K59 : (Int32 → Int32 → Int32 → Int32 → Int32 → Int32 → MD → Prop)) (hK59 : ∀ (x1 : Int32) (x2 : Int32) (x3 : Int32) (x4 : Int32) (x5 : Int32) (x6 : Int32) (σ : MD), K59 x1 x2 x3 x4 x5 x6 σ → At p l e (headSpec wsX4_digOut rm_M_digOut).room s m ([.ref (a 0), .int p1] : List Value).toArray below meth c (MQ below (va_Qi Φ (BG D cs A s.heap.size (ws_MD cs a)) A) ([.ref (a 0), .int p1] : List Value).toArray s 0 0 A) D A 8 [(0, .ref (a 0)), (1, .int x1), (2, .int x2), (3, .int x3), (4, .int x4), (5, .int x5), (6, .int x6)] (ws_MD cs a σ) 59 []) (x1 : Int32) (x2 : Int32) (x3 : Int32) (x4 : Int32) (x5 : Int32) (x6 : Int32) (t0 : Int32) (σ : MD), b_M_digOut_88 K8 K59 Φ x1 x2 x3 x4 x5 x6 t0 σ → At p l e (headSpec wsX4_digOut rm_M_digOut).room s m ([.ref (a 0), .int p1] : List Value).toArray below meth c (MQ below (va_Qi Φ (BG D cs A s.heap.size (ws_MD cs a)) A) ([.ref (a 0), .int p1] : List Value).toArray s 0 0 A) D A 8 [(0, .ref (a 0)), (1, .int x1), (2, .int x2), (3, .int x3), (4, .int x4), (5, .int x5), (6, .int x6)] (ws_MD cs a σ) 88 [.int t0] := by
    intro K8 hK8 K59 hK59 x1 x2 x3 x4 x5 x6 t0 σ hw H locs ls hl hP hD hS
    unfold b_M_digOut_88 at hw
    refine lv_istore (lv' := [(7, .int t0), (0, .ref (a 0)), (1, .int x1), (2, .int x2), (3, .int x3), (4, .int x4), (5, .int x5), (6, .int x6)]) hx hb dX4_digOut_88 hl (by decide) rfl (fun ls hl => ?_)
    refine lv_iload hx hb dX4_digOut_90 (lv_at hl 0 rfl) ?_
    refine lv_if_eq (tgt := 123) hx hb dX4_digOut_92 (by decide) (fun c92 => ?_) (fun c92 => ?_)
    · have hw := hw.1 c92
      exact B123 _ hK8 _ hK59 _ _ _ _ _ _ _ hw _ _ ls (lv_sub hl [1, 2, 3, 4, 5, 6, 7] rfl) hP hD hS
    · have hw := hw.2 c92
      refine lv_iload hx hb dX4_digOut_95 (lv_at hl 6 rfl) ?_
      refine lv_iconst (v := (-1 : Int32)) hx hb dX4_digOut_97 (by decide) ?_
      refine lv_icmp_eq (tgt := 118) hx hb dX4_digOut_98 (by decide) (fun c98 => ?_) (fun c98 => ?_)
      · have hw := hw.1 c98
        exact B118 _ hK8 _ hK59 _ _ _ _ _ _ hw _ _ ls (lv_sub hl [1, 2, 3, 4, 5, 7] rfl) hP hD hS
      · have hw := hw.2 c98
        refine lv_aload_n hx hb dX4_digOut_101 rfl (lv_at hl 1 rfl) ?_
        refine va_get (D := D) (ci := 4) (v := .ref (a 6)) (C := RX4) (T := TX4) (N := 23) hx hb hts hinX4 hown hK hP 0 rfl rfl 9 (by decide) hf29 (fun _ h9 => h9) rfl dX4_digOut_102 ?_
        refine lv_iload hx hb dX4_digOut_105 (lv_at hl 7 rfl) ?_
        have hi107 := hw.1
        have hw := hw.2
        refine va_iald (f := (g_MD_triedHeights σ)) (n := 6) hx hb hK hP 6 0 rfl rfl hi107 dX4_digOut_107 ?_
        refine lv_aload_n hx hb dX4_digOut_108 rfl (lv_at hl 1 rfl) ?_
        refine va_get (D := D) (ci := 4) (v := .ref (a 6)) (C := RX4) (T := TX4) (N := 23) hx hb hts hinX4 hown hK hP 0 rfl rfl 9 (by decide) hf29 (fun _ h9 => h9) rfl dX4_digOut_109 ?_
        refine lv_iload hx hb dX4_digOut_112 (lv_at hl 6 rfl) ?_
        have hi114 := hw.1
        have hw := hw.2
        refine va_iald (f := (g_MD_triedHeights σ)) (n := 6) hx hb hK hP 6 0 rfl rfl hi114 dX4_digOut_114 ?_
        refine lv_icmp_ge (tgt := 123) hx hb dX4_digOut_115 (by decide) (fun c115 => ?_) (fun c115 => ?_)
        · have hw := hw.1 c115
          exact B123 _ hK8 _ hK59 _ _ _ _ _ _ _ hw _ _ ls (lv_sub hl [1, 2, 3, 4, 5, 6, 7] rfl) hP hD hS
        · have hw := hw.2 c115
          exact B118 _ hK8 _ hK59 _ _ _ _ _ _ hw _ _ ls (lv_sub hl [1, 2, 3, 4, 5, 7] rfl) hP hD hS
  have B87 : ∀ (K8 : (Int32 → Int32 → Int32 → MD → Prop)) (hK8 : ∀ (x1 : Int32) (x2 : Int32) (x3 : Int32) (σ : MD), K8 x1 x2 x3 σ → At p l e (headSpec wsX4_digOut rm_M_digOut).room s m ([.ref (a 0), .int p1] : List Value).toArray below meth c (MQ below (va_Qi Φ (BG D cs A s.heap.size (ws_MD cs a)) A) ([.ref (a 0), .int p1] : List Value).toArray s 0 0 A) D A 8 [(0, .ref (a 0)), (1, .int x1), (2, .int x2), (3, .int x3)] (ws_MD cs a σ) 8 []) (K59 : (Int32 → Int32 → Int32 → Int32 → Int32 → Int32 → MD → Prop)) (hK59 : ∀ (x1 : Int32) (x2 : Int32) (x3 : Int32) (x4 : Int32) (x5 : Int32) (x6 : Int32) (σ : MD), K59 x1 x2 x3 x4 x5 x6 σ → At p l e (headSpec wsX4_digOut rm_M_digOut).room s m ([.ref (a 0), .int p1] : List Value).toArray below meth c (MQ below (va_Qi Φ (BG D cs A s.heap.size (ws_MD cs a)) A) ([.ref (a 0), .int p1] : List Value).toArray s 0 0 A) D A 8 [(0, .ref (a 0)), (1, .int x1), (2, .int x2), (3, .int x3), (4, .int x4), (5, .int x5), (6, .int x6)] (ws_MD cs a σ) 59 []) (x1 : Int32) (x2 : Int32) (x3 : Int32) (x4 : Int32) (x5 : Int32) (x6 : Int32) (σ : MD), b_M_digOut_87 K8 K59 Φ x1 x2 x3 x4 x5 x6 σ → At p l e (headSpec wsX4_digOut rm_M_digOut).room s m ([.ref (a 0), .int p1] : List Value).toArray below meth c (MQ below (va_Qi Φ (BG D cs A s.heap.size (ws_MD cs a)) A) ([.ref (a 0), .int p1] : List Value).toArray s 0 0 A) D A 8 [(0, .ref (a 0)), (1, .int x1), (2, .int x2), (3, .int x3), (4, .int x4), (5, .int x5), (6, .int x6)] (ws_MD cs a σ) 87 [] := by
    intro K8 hK8 K59 hK59 x1 x2 x3 x4 x5 x6 σ hw H locs ls hl hP hD hS
    unfold b_M_digOut_87 at hw
    refine lv_iconst (v := (0 : Int32)) hx hb dX4_digOut_87 (by decide) ?_
    exact B88 _ hK8 _ hK59 _ _ _ _ _ _ _ _ hw _ _ ls (lv_sub hl [0, 1, 2, 3, 4, 5, 6] rfl) hP hD hS
  have B59 : ∀ (K8 : (Int32 → Int32 → Int32 → MD → Prop)) (hK8 : ∀ (x1 : Int32) (x2 : Int32) (x3 : Int32) (σ : MD), K8 x1 x2 x3 σ → At p l e (headSpec wsX4_digOut rm_M_digOut).room s m ([.ref (a 0), .int p1] : List Value).toArray below meth c (MQ below (va_Qi Φ (BG D cs A s.heap.size (ws_MD cs a)) A) ([.ref (a 0), .int p1] : List Value).toArray s 0 0 A) D A 8 [(0, .ref (a 0)), (1, .int x1), (2, .int x2), (3, .int x3)] (ws_MD cs a σ) 8 []) (n : Nat) (x1 : Int32) (x2 : Int32) (x3 : Int32) (x4 : Int32) (x5 : Int32) (x6 : Int32) (σ : MD), it7 (b_M_digOut_59 K8 Φ) n x1 x2 x3 x4 x5 x6 σ → At p l e (headSpec wsX4_digOut rm_M_digOut).room s m ([.ref (a 0), .int p1] : List Value).toArray below meth c (MQ below (va_Qi Φ (BG D cs A s.heap.size (ws_MD cs a)) A) ([.ref (a 0), .int p1] : List Value).toArray s 0 0 A) D A 8 [(0, .ref (a 0)), (1, .int x1), (2, .int x2), (3, .int x3), (4, .int x4), (5, .int x5), (6, .int x6)] (ws_MD cs a σ) 59 [] := by
    intro K8 hK8 n
    induction n with
    | zero => intro x1 x2 x3 x4 x5 x6 σ hw; exact absurd hw id
    | succ n ih =>
      intro x1 x2 x3 x4 x5 x6 σ hw H locs ls hl hP hD hS
      have hw : b_M_digOut_59 K8 Φ (it7 (b_M_digOut_59 K8 Φ) n) x1 x2 x3 x4 x5 x6 σ := hw
      unfold b_M_digOut_59 at hw
      refine lv_iload hx hb dX4_digOut_59 (lv_at hl 6 rfl) ?_
      refine lv_bipush (v := (6 : Int32)) hx hb dX4_digOut_61 (by decide) ?_
      refine lv_icmp_ge (tgt := 133) hx hb dX4_digOut_63 (by decide) (fun c63 => ?_) (fun c63 => ?_)
      · have hw := hw.1 c63
        refine lv_iload hx hb dX4_digOut_133 (lv_at hl 5 rfl) ?_
        refine lv_iconst (v := (-1 : Int32)) hx hb dX4_digOut_135 (by decide) ?_
        refine lv_icmp_ne (tgt := 141) hx hb dX4_digOut_136 (by decide) (fun c136 => ?_) (fun c136 => ?_)
        · have hw := hw.2 c136
          refine lv_aload_n hx hb dX4_digOut_141 rfl (lv_at hl 0 rfl) ?_
          refine va_get (D := D) (ci := 4) (v := .ref (a 6)) (C := RX4) (T := TX4) (N := 23) hx hb hts hinX4 hown hK hP 0 rfl rfl 9 (by decide) hf29 (fun _ h9 => h9) rfl dX4_digOut_142 ?_
          refine lv_iload_n hx hb dX4_digOut_145 rfl (lv_at hl 2 rfl) ?_
          refine lv_dup2_11 hx hb dX4_digOut_146 rfl rfl ?_
          have hi147 := hw.1
          have hw := hw.2
          refine va_iald (f := (g_MD_triedHeights σ)) (n := 6) hx hb hK hP 6 0 rfl rfl hi147 dX4_digOut_147 ?_
          refine lv_iconst (v := (1 : Int32)) hx hb dX4_digOut_148 (by decide) ?_
          refine lv_isub hx hb dX4_digOut_149 ?_
          refine lv_topi (fun y1 ey1 => ?_)
          have hw := hw y1 ey1
          have hi150 := hw.1
          have hw := hw.2
          refine va_iast (f := (g_MD_triedHeights σ)) (n := 6) (x := y1) hx hb hK hP hD hS 6 0 rfl rfl hi150 dX4_digOut_150 (fun H locs hP hD hS => ?_)
          have hP : va_P D vwCl (ws_MD cs a (s_MD_triedHeights σ (upd (g_MD_triedHeights σ) (x2).toNatClampNeg y1))) H := hP
          have hD : va_D A (ws_MD cs a (s_MD_triedHeights σ (upd (g_MD_triedHeights σ) (x2).toNatClampNeg y1))) := hD
          obtain ⟨z2, ez2⟩ : ∃ z : MD, z = (s_MD_triedHeights σ (upd (g_MD_triedHeights σ) (x2).toNatClampNeg y1)) := ⟨_, rfl⟩
          have hw := hw z2 ez2
          rw [← ez2] at hP hD
          refine lv_aload_n hx hb dX4_digOut_151 rfl (lv_at hl 0 rfl) ?_
          refine va_get (D := D) (ci := 4) (v := .ref (a 5)) (C := RX4) (T := TX4) (N := 23) hx hb hts hinX4 hown hK hP 0 rfl rfl 8 (by decide) hf26 (fun _ h9 => h9) rfl dX4_digOut_152 ?_
          refine lv_iconst (v := (5 : Int32)) hx hb dX4_digOut_155 (by decide) ?_
          refine lv_iload hx hb dX4_digOut_156 (lv_at hl 5 rfl) ?_
          refine lv_imul hx hb dX4_digOut_158 ?_
          refine lv_aload_n hx hb dX4_digOut_159 rfl (lv_at hl 0 rfl) ?_
          refine va_get (D := D) (ci := 4) (v := .ref (a 6)) (C := RX4) (T := TX4) (N := 23) hx hb hts hinX4 hown hK hP 0 rfl rfl 9 (by decide) hf29 (fun _ h9 => h9) rfl dX4_digOut_160 ?_
          refine lv_iload hx hb dX4_digOut_163 (lv_at hl 5 rfl) ?_
          have hi165 := hw.1
          have hw := hw.2
          refine va_iald (f := (g_MD_triedHeights z2)) (n := 6) hx hb hK hP 6 0 rfl rfl hi165 dX4_digOut_165 ?_
          refine lv_iadd hx hb dX4_digOut_166 ?_
          refine lv_iload hx hb dX4_digOut_167 (lv_at hl 4 rfl) ?_
          have hi169 := hw.1
          have hw := hw.2
          refine va_iast (f := (g_MD_tried z2)) (n := 30) (x := x4) hx hb hK hP hD hS 5 0 rfl rfl hi169 dX4_digOut_169 (fun H locs hP hD hS => ?_)
          have hP : va_P D vwCl (ws_MD cs a (s_MD_tried z2 (upd (g_MD_tried z2) ((((5 : Int32) * x5) + ((g_MD_triedHeights z2) (x5).toNatClampNeg))).toNatClampNeg x4))) H := hP
          have hD : va_D A (ws_MD cs a (s_MD_tried z2 (upd (g_MD_tried z2) ((((5 : Int32) * x5) + ((g_MD_triedHeights z2) (x5).toNatClampNeg))).toNatClampNeg x4))) := hD
          obtain ⟨z3, ez3⟩ : ∃ z : MD, z = (s_MD_tried z2 (upd (g_MD_tried z2) ((((5 : Int32) * x5) + ((g_MD_triedHeights z2) (x5).toNatClampNeg))).toNatClampNeg x4)) := ⟨_, rfl⟩
          have hw := hw z3 ez3
          rw [← ez3] at hP hD
          refine lv_aload_n hx hb dX4_digOut_170 rfl (lv_at hl 0 rfl) ?_
          refine va_get (D := D) (ci := 4) (v := .ref (a 6)) (C := RX4) (T := TX4) (N := 23) hx hb hts hinX4 hown hK hP 0 rfl rfl 9 (by decide) hf29 (fun _ h9 => h9) rfl dX4_digOut_171 ?_
          refine lv_iload hx hb dX4_digOut_174 (lv_at hl 5 rfl) ?_
          refine lv_dup2_11 hx hb dX4_digOut_176 rfl rfl ?_
          have hi177 := hw.1
          have hw := hw.2
          refine va_iald (f := (g_MD_triedHeights z3)) (n := 6) hx hb hK hP 6 0 rfl rfl hi177 dX4_digOut_177 ?_
          refine lv_iconst (v := (1 : Int32)) hx hb dX4_digOut_178 (by decide) ?_
          refine lv_iadd hx hb dX4_digOut_179 ?_
          refine lv_topi (fun y4 ey4 => ?_)
          have hw := hw y4 ey4
          have hi180 := hw.1
          have hw := hw.2
          refine va_iast (f := (g_MD_triedHeights z3)) (n := 6) (x := y4) hx hb hK hP hD hS 6 0 rfl rfl hi180 dX4_digOut_180 (fun H locs hP hD hS => ?_)
          have hP : va_P D vwCl (ws_MD cs a (s_MD_triedHeights z3 (upd (g_MD_triedHeights z3) (x5).toNatClampNeg y4))) H := hP
          have hD : va_D A (ws_MD cs a (s_MD_triedHeights z3 (upd (g_MD_triedHeights z3) (x5).toNatClampNeg y4))) := hD
          obtain ⟨z5, ez5⟩ : ∃ z : MD, z = (s_MD_triedHeights z3 (upd (g_MD_triedHeights z3) (x5).toNatClampNeg y4)) := ⟨_, rfl⟩
          have hw := hw z5 ez5
          rw [← ez5] at hP hD
          refine lv_goto (tgt := 8) hx hb dX4_digOut_181 (by decide) ?_
          exact hK8 _ _ _ _ hw H locs ls (lv_sub hl [0, 1, 2, 3] rfl) hP hD hS
        · have hw := hw.1 c136
          refine lv_iconst (v := (-1 : Int32)) hx hb dX4_digOut_139 (by decide) ?_
          exact rI (wf := (ws_MD cs a)) (u := σ) hx hb hr hlocks hK hP hD hS hw dX4_digOut_140
      · have hw := hw.2 c63
        refine lv_iload hx hb dX4_digOut_66 (lv_at hl 6 rfl) ?_
        refine lv_iload_n hx hb dX4_digOut_68 rfl (lv_at hl 2 rfl) ?_
        refine lv_icmp_eq (tgt := 87) hx hb dX4_digOut_69 (by decide) (fun c69 => ?_) (fun c69 => ?_)
        · have hw := hw.1 c69
          exact B87 _ hK8 _ ih _ _ _ _ _ _ _ hw _ _ ls (lv_sub hl [0, 1, 2, 3, 4, 5, 6] rfl) hP hD hS
        · have hw := hw.2 c69
          refine lv_aload_n hx hb dX4_digOut_72 rfl (lv_at hl 0 rfl) ?_
          refine lv_iload hx hb dX4_digOut_73 (lv_at hl 4 rfl) ?_
          refine lv_iload hx hb dX4_digOut_75 (lv_at hl 6 rfl) ?_
          refine kVi (As := [.int x4, .int x6]) (rest := []) ⟨hx, hb, hml, hown, hts⟩ (c_M_canTry l D cs a _ σ x4 x6 hw) (cwV 2 hts gX4_digOut_X4_canTry rfl rfl rfl (by decide +kernel) ⟨Nat.le_of_ble_eq_true rfl, Nat.le_of_ble_eq_true rfl⟩) (pt_self_MD cs a σ) hK hP hD hS hA (ci := 4) rfl rfl rfl rfl hl.1 rfl (Nat.le_of_ble_eq_true rfl) dX4_digOut_77 ⟨Nat.zero_le _, Nat.zero_le _⟩ (fun r77 u77 H locs hw hP hD hS => ?_)
          have hP : va_P D vwCl (ws_MD cs a u77) H := hP
          have hD : va_D A (ws_MD cs a u77) := hD
          refine lv_if_eq (tgt := 87) hx hb dX4_digOut_80 (by decide) (fun c80 => ?_) (fun c80 => ?_)
          · have hw := hw.1 c80
            exact B87 _ hK8 _ ih _ _ _ _ _ _ _ hw _ _ ls (lv_sub hl [0, 1, 2, 3, 4, 5, 6] rfl) hP hD hS
          · have hw := hw.2 c80
            refine lv_iconst (v := (1 : Int32)) hx hb dX4_digOut_83 (by decide) ?_
            refine lv_goto (tgt := 88) hx hb dX4_digOut_84 (by decide) ?_
            exact B88 _ hK8 _ ih _ _ _ _ _ _ _ _ hw _ _ ls (lv_sub hl [0, 1, 2, 3, 4, 5, 6] rfl) hP hD hS
  have B8 : ∀ (n : Nat) (x1 : Int32) (x2 : Int32) (x3 : Int32) (σ : MD), it4 (b_M_digOut_8 Φ) n x1 x2 x3 σ → At p l e (headSpec wsX4_digOut rm_M_digOut).room s m ([.ref (a 0), .int p1] : List Value).toArray below meth c (MQ below (va_Qi Φ (BG D cs A s.heap.size (ws_MD cs a)) A) ([.ref (a 0), .int p1] : List Value).toArray s 0 0 A) D A 8 [(0, .ref (a 0)), (1, .int x1), (2, .int x2), (3, .int x3)] (ws_MD cs a σ) 8 [] := by
    intro n
    induction n with
    | zero => intro x1 x2 x3 σ hw; exact absurd hw id
    | succ n ih =>
      intro x1 x2 x3 σ hw H locs ls hl hP hD hS
      have hw : b_M_digOut_8 Φ (it4 (b_M_digOut_8 Φ) n) x1 x2 x3 σ := hw
      unfold b_M_digOut_8 at hw
      refine lv_iload_n hx hb dX4_digOut_8 rfl (lv_at hl 2 rfl) ?_
      refine lv_iconst (v := (-1 : Int32)) hx hb dX4_digOut_9 (by decide) ?_
      refine lv_icmp_eq (tgt := 184) hx hb dX4_digOut_10 (by decide) (fun c10 => ?_) (fun c10 => ?_)
      · have hw := hw.1 c10
        refine lv_iconst (v := (-1 : Int32)) hx hb dX4_digOut_184 (by decide) ?_
        exact rI (wf := (ws_MD cs a)) (u := σ) hx hb hr hlocks hK hP hD hS hw dX4_digOut_185
      · have hw := hw.2 c10
        refine lv_aload_n hx hb dX4_digOut_13 rfl (lv_at hl 0 rfl) ?_
        refine va_get (D := D) (ci := 4) (v := .ref (a 5)) (C := RX4) (T := TX4) (N := 23) hx hb hts hinX4 hown hK hP 0 rfl rfl 8 (by decide) hf26 (fun _ h9 => h9) rfl dX4_digOut_14 ?_
        refine lv_iconst (v := (5 : Int32)) hx hb dX4_digOut_17 (by decide) ?_
        refine lv_iload_n hx hb dX4_digOut_18 rfl (lv_at hl 2 rfl) ?_
        refine lv_imul hx hb dX4_digOut_19 ?_
        refine lv_aload_n hx hb dX4_digOut_20 rfl (lv_at hl 0 rfl) ?_
        refine va_get (D := D) (ci := 4) (v := .ref (a 6)) (C := RX4) (T := TX4) (N := 23) hx hb hts hinX4 hown hK hP 0 rfl rfl 9 (by decide) hf29 (fun _ h9 => h9) rfl dX4_digOut_21 ?_
        refine lv_iload_n hx hb dX4_digOut_24 rfl (lv_at hl 2 rfl) ?_
        have hi25 := hw.1
        have hw := hw.2
        refine va_iald (f := (g_MD_triedHeights σ)) (n := 6) hx hb hK hP 6 0 rfl rfl hi25 dX4_digOut_25 ?_
        refine lv_iadd hx hb dX4_digOut_26 ?_
        refine lv_iconst (v := (1 : Int32)) hx hb dX4_digOut_27 (by decide) ?_
        refine lv_isub hx hb dX4_digOut_28 ?_
        have hi29 := hw.1
        have hw := hw.2
        refine va_iald (f := (g_MD_tried σ)) (n := 30) hx hb hK hP 5 0 rfl rfl hi29 dX4_digOut_29 ?_
        refine lv_topi (fun y1 ey1 => ?_)
        have hw := hw y1 ey1
        refine lv_istore (lv' := [(4, .int y1), (0, .ref (a 0)), (1, .int x1), (2, .int x2), (3, .int x3)]) hx hb dX4_digOut_30 hl (by decide) rfl (fun ls hl => ?_)
        refine lv_iinc (v := (x3 + (1 : Int32))) (lv' := [(3, .int (x3 + (1 : Int32))), (4, .int y1), (0, .ref (a 0)), (1, .int x1), (2, .int x2)]) hx hb dX4_digOut_32 hl (k := 4) rfl rfl (by decide) rfl (fun ls hl => ?_)
        refine lv_iload hx hb dX4_digOut_35 (lv_at hl 1 rfl) ?_
        refine lv_iload_n hx hb dX4_digOut_37 rfl (lv_at hl 3 rfl) ?_
        refine lv_icmp_ne (tgt := 53) hx hb dX4_digOut_38 (by decide) (fun c38 => ?_) (fun c38 => ?_)
        · have hw := hw.2 c38
          refine lv_iconst (v := (-1 : Int32)) hx hb dX4_digOut_53 (by decide) ?_
          refine lv_istore (lv' := [(5, .int (-1 : Int32)), (3, .int (x3 + (1 : Int32))), (4, .int y1), (0, .ref (a 0)), (1, .int x1), (2, .int x2)]) hx hb dX4_digOut_54 hl (by decide) rfl (fun ls hl => ?_)
          refine lv_iconst (v := (0 : Int32)) hx hb dX4_digOut_56 (by decide) ?_
          refine lv_istore (lv' := [(6, .int (0 : Int32)), (5, .int (-1 : Int32)), (3, .int (x3 + (1 : Int32))), (4, .int y1), (0, .ref (a 0)), (1, .int x1), (2, .int x2)]) hx hb dX4_digOut_57 hl (by decide) rfl (fun ls hl => ?_)
          obtain ⟨n, hw⟩ := hw
          exact B59 _ ih n _ _ _ _ _ _ _ hw _ _ ls (lv_sub hl [4, 5, 6, 2, 3, 1, 0] rfl) hP hD hS
        · have hw := hw.1 c38
          refine lv_aload_n hx hb dX4_digOut_41 rfl (lv_at hl 2 rfl) ?_
          refine va_get (D := D) (ci := 4) (v := .ref (a 6)) (C := RX4) (T := TX4) (N := 23) hx hb hts hinX4 hown hK hP 0 rfl rfl 9 (by decide) hf29 (fun _ h9 => h9) rfl dX4_digOut_42 ?_
          refine lv_iload_n hx hb dX4_digOut_45 rfl (lv_at hl 4 rfl) ?_
          refine lv_dup2_11 hx hb dX4_digOut_46 rfl rfl ?_
          have hi47 := hw.1
          have hw := hw.2
          refine va_iald (f := (g_MD_triedHeights σ)) (n := 6) hx hb hK hP 6 0 rfl rfl hi47 dX4_digOut_47 ?_
          refine lv_iconst (v := (1 : Int32)) hx hb dX4_digOut_48 (by decide) ?_
          refine lv_isub hx hb dX4_digOut_49 ?_
          refine lv_topi (fun y2 ey2 => ?_)
          have hw := hw y2 ey2
          have hi50 := hw.1
          have hw := hw.2
          refine va_iast (f := (g_MD_triedHeights σ)) (n := 6) (x := y2) hx hb hK hP hD hS 6 0 rfl rfl hi50 dX4_digOut_50 (fun H locs hP hD hS => ?_)
          have hP : va_P D vwCl (ws_MD cs a (s_MD_triedHeights σ (upd (g_MD_triedHeights σ) (x2).toNatClampNeg y2))) H := hP
          have hD : va_D A (ws_MD cs a (s_MD_triedHeights σ (upd (g_MD_triedHeights σ) (x2).toNatClampNeg y2))) := hD
          obtain ⟨z3, ez3⟩ : ∃ z : MD, z = (s_MD_triedHeights σ (upd (g_MD_triedHeights σ) (x2).toNatClampNeg y2)) := ⟨_, rfl⟩
          have hw := hw z3 ez3
          rw [← ez3] at hP hD
          refine lv_iload_n hx hb dX4_digOut_51 rfl (lv_at hl 0 rfl) ?_
          exact rI (wf := (ws_MD cs a)) (u := z3) hx hb hr hlocks hK hP hD hS hw dX4_digOut_52
  have hl := lv_entry ([.ref (a 0), .int p1]) (n := 8) (Nat.le_of_ble_eq_true rfl)
  rw [lg_entry_eq]
  generalize (lg_sl ([.ref (a 0), .int p1]) ++ List.replicate (8 - (lg_sl ([.ref (a 0), .int p1])).length) Slot.unset).toArray = ls at hl ⊢
  have hl : lv_has ls 8 [(0, .ref (a 0)), (1, .int p1)] := hl
  unfold w_M_digOut at hw
  refine lv_aload_n hx hb dX4_digOut_0 rfl (lv_at hl 0 rfl) ?_
  refine lv_iload_n hx hb dX4_digOut_1 rfl (lv_at hl 1 rfl) ?_
  refine kVi (As := [.int p1]) (rest := []) ⟨hx, hb, hml, hown, hts⟩ (c_M_find l D cs a _ σ p1 hw) (cwV 1 hts gX4_digOut_X4_find rfl rfl rfl (by decide +kernel) ⟨Nat.le_of_ble_eq_true rfl, Nat.le_of_ble_eq_true rfl⟩) (pt_self_MD cs a σ) hK hP hD hS hA (ci := 4) rfl rfl rfl rfl hl.1 rfl (Nat.le_of_ble_eq_true rfl) dX4_digOut_2 ⟨Nat.zero_le _, Nat.zero_le _⟩ (fun r2 u2 H locs hw hP hD hS => ?_)
  have hP : va_P D vwCl (ws_MD cs a u2) H := hP
  have hD : va_D A (ws_MD cs a u2) := hD
  refine lv_istore_n (lv' := [(2, .int r2), (0, .ref (a 0)), (1, .int p1)]) hx hb dX4_digOut_5 rfl hl (by decide) rfl (fun ls hl => ?_)
  refine lv_iconst (v := (0 : Int32)) hx hb dX4_digOut_6 (by decide) ?_
  refine lv_istore_n (lv' := [(3, .int (0 : Int32)), (2, .int r2), (0, .ref (a 0)), (1, .int p1)]) hx hb dX4_digOut_7 rfl hl (by decide) rfl (fun ls hl => ?_)
  obtain ⟨n, hw⟩ := hw
  exact B8 n _ _ _ _ hw H locs ls (lv_sub hl [2, 3, 1, 0] rfl) hP hD hS
