abbrev rm_M_isCrate : Room := { frames := 1, cells := 0, slots := 0, locals := 22 }
set_option maxHeartbeats 4000000 in
set_option maxRecDepth 100000 in
theorem c_M_isCrate (l : Launch) (D : va_G) (cs : CS) (a : Nat → Nat) (sz : Nat) (σ : MD) (p1 : Int32) {Φ : Int32 → MD → Prop} (hw : w_M_isCrate σ p1 Φ) : Met l yX4_isCrate wsX4_isCrate rm_M_isCrate (PcG [.ref (a 0), .int p1] D cs (ws_MD cs a σ) sz) (va_Qi Φ (BG D cs (va_A (ws_MD cs a σ) sz) sz (ws_MD cs a)) (va_A (ws_MD cs a σ) sz)) 0 0 (va_A (ws_MD cs a σ) sz) := by
  refine Met.ofW (cc := cX4_isCrate) (maxL := 2) (ret := (some .boolean)) (by decide) rfl ?_
  intro p e s m args below meth c s₁ B hml hv
  obtain ⟨rfl, hsz, hP, hK, hD0⟩ := hv
  have hx := B.exec
  have hb := B.bytes
  have hr := B.returns
  have hts := atoms_spec (ws := wsX4_isCrate) B.pre
  have hown : s.vm.findClass RX4 = some m.cls := findClass_of_methodNamed B.named
  have hlocks := B.notSynchronized
  subst hsz
  have hD := hD0.self (sz := s.heap.size)
  generalize hAe : va_A (ws_MD cs a σ) s.heap.size = A at hD ⊢
  have hA : ∀ q : Nat, s.heap.size ≤ q → A q := fun q h => by rw [← hAe]; exact Or.inr h
  have hS : va_S A s.heap s.heap [] := va_S.rf
  have hf61 : (Cond.fieldLink RX4 61 "CraneYardModel" "crates" "I").before ([.ref (a 0), .int p1] : List Value).toArray s = true := hts _ (List.mem_of_getElem? (i := 1) rfl)
  have hinX4 : ∀ w ∈ wsX40, w ∈ wsX4_isCrate := fun _ h => List.mem_cons_of_mem _ (List.mem_append_right _ h)
  have hP : va_P D vwCl (ws_MD cs a σ) s.heap := hP
  have hl := lv_entry ([.ref (a 0), .int p1]) (n := 2) (Nat.le_of_ble_eq_true rfl)
  rw [lg_entry_eq]
  generalize (lg_sl ([.ref (a 0), .int p1]) ++ List.replicate (2 - (lg_sl ([.ref (a 0), .int p1])).length) Slot.unset).toArray = ls at hl ⊢
  have hl : lv_has ls 2 [(0, .ref (a 0)), (1, .int p1)] := hl
  unfold w_M_isCrate at hw
  refine lv_iload_n hx hb dX4_isCrate_0 rfl (lv_at hl 1 rfl) ?_
  refine lv_iconst (v := (0 : Int32)) hx hb dX4_isCrate_1 (by decide) ?_
  refine lv_aload_n hx hb dX4_isCrate_2 rfl (lv_at hl 0 rfl) ?_
  refine va_get (D := D) (ci := 4) (v := .int (g_MD_crates σ)) (C := RX4) (T := TX4) (N := 23) hx hb hts hinX4 hown hK hP 0 rfl rfl 5 (by decide) hf61 (fun _ h9 => h9) rfl dX4_isCrate_3 ?_
  refine lv_iconst (v := (1 : Int32)) hx hb dX4_isCrate_6 (by decide) ?_
  refine lv_isub hx hb dX4_isCrate_7 ?_
  refine kSi (As := [.int p1, .int (0 : Int32), .int ((g_MD_crates σ) - (1 : Int32))]) (rest := []) ⟨hx, hb, hml, hown, hts⟩ (c_M_in l D cs a _ p1 (0 : Int32) ((g_MD_crates σ) - (1 : Int32)) hw) (va_cwS 3 hts gX4_isCrate_X4_in rfl rfl rfl (by decide +kernel) ⟨Nat.le_of_ble_eq_true rfl, Nat.le_of_ble_eq_true rfl⟩) (pt_un_MD cs a σ) hK hP hD hS hA rfl hl.1 rfl (Nat.le_of_ble_eq_true rfl) dX4_isCrate_8 ⟨Nat.zero_le _, Nat.zero_le _⟩ (fun r8 u8 H locs hw hP hD hS => ?_)
  have hP : va_P D vwCl (ws_MD cs a σ) H := hP
  have hD : va_D A (ws_MD cs a σ) := hD
  exact rZ (wf := (ws_MD cs a)) (u := σ) hx hb hr hlocks hK hP hD hS hw dX4_isCrate_11
abbrev rm_M_isHaul : Room := { frames := 1, cells := 0, slots := 0, locals := 22 }
set_option maxHeartbeats 4000000 in
set_option maxRecDepth 100000 in
theorem c_M_isHaul (l : Launch) (D : va_G) (cs : CS) (a : Nat → Nat) (sz : Nat) (σ : MD) (p1 : Int32) {Φ : Int32 → MD → Prop} (hw : w_M_isHaul σ p1 Φ) : Met l yX4_isHaul wsX4_isHaul rm_M_isHaul (PcG [.ref (a 0), .int p1] D cs (ws_MD cs a σ) sz) (va_Qi Φ (BG D cs (va_A (ws_MD cs a σ) sz) sz (ws_MD cs a)) (va_A (ws_MD cs a σ) sz)) 0 0 (va_A (ws_MD cs a σ) sz) := by
  refine Met.ofW (cc := cX4_isHaul) (maxL := 2) (ret := (some .boolean)) (by decide) rfl ?_
  intro p e s m args below meth c s₁ B hml hv
  obtain ⟨rfl, hsz, hP, hK, hD0⟩ := hv
  have hx := B.exec
  have hb := B.bytes
  have hr := B.returns
  have hts := atoms_spec (ws := wsX4_isHaul) B.pre
  have hown : s.vm.findClass RX4 = some m.cls := findClass_of_methodNamed B.named
  have hlocks := B.notSynchronized
  subst hsz
  have hD := hD0.self (sz := s.heap.size)
  generalize hAe : va_A (ws_MD cs a σ) s.heap.size = A at hD ⊢
  have hA : ∀ q : Nat, s.heap.size ≤ q → A q := fun q h => by rw [← hAe]; exact Or.inr h
  have hS : va_S A s.heap s.heap [] := va_S.rf
  have hf64 : (Cond.fieldLink RX4 64 "CraneYardModel" "hauls" "I").before ([.ref (a 0), .int p1] : List Value).toArray s = true := hts _ (List.mem_of_getElem? (i := 1) rfl)
  have hinX4 : ∀ w ∈ wsX40, w ∈ wsX4_isHaul := fun _ h => List.mem_cons_of_mem _ (List.mem_append_right _ h)
  have hP : va_P D vwCl (ws_MD cs a σ) s.heap := hP
  have hl := lv_entry ([.ref (a 0), .int p1]) (n := 2) (Nat.le_of_ble_eq_true rfl)
  rw [lg_entry_eq]
  generalize (lg_sl ([.ref (a 0), .int p1]) ++ List.replicate (2 - (lg_sl ([.ref (a 0), .int p1])).length) Slot.unset).toArray = ls at hl ⊢
  have hl : lv_has ls 2 [(0, .ref (a 0)), (1, .int p1)] := hl
  unfold w_M_isHaul at hw
  refine lv_iload_n hx hb dX4_isHaul_0 rfl (lv_at hl 1 rfl) ?_
  refine lv_iconst (v := (0 : Int32)) hx hb dX4_isHaul_1 (by decide) ?_
  refine lv_aload_n hx hb dX4_isHaul_2 rfl (lv_at hl 0 rfl) ?_
  refine va_get (D := D) (ci := 4) (v := .int (g_MD_hauls σ)) (C := RX4) (T := TX4) (N := 23) hx hb hts hinX4 hown hK hP 0 rfl rfl 19 (by decide) hf64 (fun _ h9 => h9) rfl dX4_isHaul_3 ?_
  refine lv_iconst (v := (1 : Int32)) hx hb dX4_isHaul_6 (by decide) ?_
  refine lv_isub hx hb dX4_isHaul_7 ?_
  refine kSi (As := [.int p1, .int (0 : Int32), .int ((g_MD_hauls σ) - (1 : Int32))]) (rest := []) ⟨hx, hb, hml, hown, hts⟩ (c_M_in l D cs a _ p1 (0 : Int32) ((g_MD_hauls σ) - (1 : Int32)) hw) (va_cwS 3 hts gX4_isHaul_X4_in rfl rfl rfl (by decide +kernel) ⟨Nat.le_of_ble_eq_true rfl, Nat.le_of_ble_eq_true rfl⟩) (pt_un_MD cs a σ) hK hP hD hS hA rfl hl.1 rfl (Nat.le_of_ble_eq_true rfl) dX4_isHaul_8 ⟨Nat.zero_le _, Nat.zero_le _⟩ (fun r8 u8 H locs hw hP hD hS => ?_)
  have hP : va_P D vwCl (ws_MD cs a σ) H := hP
  have hD : va_D A (ws_MD cs a σ) := hD
  exact rZ (wf := (ws_MD cs a)) (u := σ) hx hb hr hlocks hK hP hD hS hw dX4_isHaul_11
abbrev rm_M_most : Room := { frames := 0, cells := 0, slots := 0, locals := 0 }
set_option maxHeartbeats 4000000 in
set_option maxRecDepth 100000 in
theorem c_M_most (l : Launch) (D : va_G) (cs : CS) (a : Nat → Nat) (sz : Nat) (σ : MD) {Φ : Int32 → MD → Prop} (hw : w_M_most σ Φ) : Met l yX4_most wsX4_most rm_M_most (PcG [.ref (a 0)] D cs (ws_MD cs a σ) sz) (va_Qi Φ (BG D cs (va_A (ws_MD cs a σ) sz) sz (ws_MD cs a)) (va_A (ws_MD cs a σ) sz)) 0 0 (va_A (ws_MD cs a σ) sz) := by
  refine Met.ofW (cc := cX4_most) (maxL := 1) (ret := (some .int)) (by decide) rfl ?_
  intro p e s m args below meth c s₁ B hml hv
  obtain ⟨rfl, hsz, hP, hK, hD0⟩ := hv
  have hx := B.exec
  have hb := B.bytes
  have hr := B.returns
  have hts := atoms_spec (ws := wsX4_most) B.pre
  have hown : s.vm.findClass RX4 = some m.cls := findClass_of_methodNamed B.named
  have hlocks := B.notSynchronized
  subst hsz
  have hD := hD0.self (sz := s.heap.size)
  generalize hAe : va_A (ws_MD cs a σ) s.heap.size = A at hD ⊢
  have hA : ∀ q : Nat, s.heap.size ≤ q → A q := fun q h => by rw [← hAe]; exact Or.inr h
  have hS : va_S A s.heap s.heap [] := va_S.rf
  have hf67 : (Cond.fieldLink RX4 67 "CraneYardModel" "isStorm" "Z").before ([.ref (a 0)] : List Value).toArray s = true := hts _ (List.mem_of_getElem? (i := 1) rfl)
  have hinX4 : ∀ w ∈ wsX40, w ∈ wsX4_most := fun _ h => List.mem_cons_of_mem _ (List.mem_append_right _ h)
  have hP : va_P D vwCl (ws_MD cs a σ) s.heap := hP
  have B12 : ∀ (t0 : Int32) (σ : MD), b_M_most_12 Φ t0 σ → At p l e (headSpec wsX4_most rm_M_most).room s m ([.ref (a 0)] : List Value).toArray below meth c (MQ below (va_Qi Φ (BG D cs A s.heap.size (ws_MD cs a)) A) ([.ref (a 0)] : List Value).toArray s 0 0 A) D A 1 [] (ws_MD cs a σ) 12 [.int t0] := by
    intro t0 σ hw H locs ls hl hP hD hS
    unfold b_M_most_12 at hw
    exact rI (wf := (ws_MD cs a)) (u := σ) hx hb hr hlocks hK hP hD hS hw dX4_most_12
  have hl := lv_entry ([.ref (a 0)]) (n := 1) (Nat.le_of_ble_eq_true rfl)
  rw [lg_entry_eq]
  generalize (lg_sl ([.ref (a 0)]) ++ List.replicate (1 - (lg_sl ([.ref (a 0)])).length) Slot.unset).toArray = ls at hl ⊢
  have hl : lv_has ls 1 [(0, .ref (a 0))] := hl
  unfold w_M_most at hw
  refine lv_aload_n hx hb dX4_most_0 rfl (lv_at hl 0 rfl) ?_
  refine va_get (D := D) (ci := 4) (v := .int (g_MD_isStorm σ)) (C := RX4) (T := TX4) (N := 23) hx hb hts hinX4 hown hK hP 0 rfl rfl 21 (by decide) hf67 (fun _ h9 => h9) rfl dX4_most_1 ?_
  refine lv_if_eq (tgt := 11) hx hb dX4_most_4 (by decide) (fun c4 => ?_) (fun c4 => ?_)
  · have hw := hw.1 c4
    refine lv_iconst (v := (5 : Int32)) hx hb dX4_most_11 (by decide) ?_
    exact B12 _ _ hw _ _ ls (lv_sub hl [] rfl) hP hD hS
  · have hw := hw.2 c4
    refine lv_iconst (v := (3 : Int32)) hx hb dX4_most_7 (by decide) ?_
    refine lv_goto (tgt := 12) hx hb dX4_most_8 (by decide) ?_
    exact B12 _ _ hw _ _ ls (lv_sub hl [] rfl) hP hD hS
abbrev rm_M_canPut : Room := { frames := 1, cells := 0, slots := 0, locals := 20 }
set_option maxHeartbeats 4000000 in
set_option maxRecDepth 100000 in
theorem c_M_canPut (l : Launch) (D : va_G) (cs : CS) (a : Nat → Nat) (sz : Nat) (σ : MD) (p1 : Int32) (p2 : Int32) {Φ : Int32 → MD → Prop} (hw : w_M_canPut σ p1 p2 Φ) : Met l yX4_canPut wsX4_canPut rm_M_canPut (PcG [.ref (a 0), .int p1, .int p2] D cs (ws_MD cs a σ) sz) (va_Qi Φ (BG D cs (va_A (ws_MD cs a σ) sz) sz (ws_MD cs a)) (va_A (ws_MD cs a σ) sz)) 0 0 (va_A (ws_MD cs a σ) sz) := by
  refine Met.ofW (cc := cX4_canPut) (maxL := 4) (ret := (some .boolean)) (by decide) rfl ?_
  intro p e s m args below meth c s₁ B hml hv
  obtain ⟨rfl, hsz, hP, hK, hD0⟩ := hv
  have hx := B.exec
  have hb := B.bytes
  have hr := B.returns
  have hts := atoms_spec (ws := wsX4_canPut) B.pre
  have hown : s.vm.findClass RX4 = some m.cls := findClass_of_methodNamed B.named
  have hlocks := B.notSynchronized
  subst hsz
  have hD := hD0.self (sz := s.heap.size)
  generalize hAe : va_A (ws_MD cs a σ) s.heap.size = A at hD ⊢
  have hA : ∀ q : Nat, s.heap.size ≤ q → A q := fun q h => by rw [← hAe]; exact Or.inr h
  have hS : va_S A s.heap s.heap [] := va_S.rf
  have hf13 : (Cond.fieldLink RX4 13 "CraneYardModel" "heights" "[I").before ([.ref (a 0), .int p1, .int p2] : List Value).toArray s = true := hts _ (List.mem_of_getElem? (i := 1) rfl)
  have hf16 : (Cond.fieldLink RX4 16 "CraneYardModel" "weights" "[I").before ([.ref (a 0), .int p1, .int p2] : List Value).toArray s = true := hts _ (List.mem_of_getElem? (i := 2) rfl)
  have hf7 : (Cond.fieldLink RX4 7 "CraneYardModel" "yard" "[I").before ([.ref (a 0), .int p1, .int p2] : List Value).toArray s = true := hts _ (List.mem_of_getElem? (i := 3) rfl)
  have hinX4 : ∀ w ∈ wsX40, w ∈ wsX4_canPut := fun _ h => List.mem_cons_of_mem _ (List.mem_append_right _ h)
  have hP : va_P D vwCl (ws_MD cs a σ) s.heap := hP
  have B45 : ∀ (t0 : Int32) (σ : MD), b_M_canPut_45 Φ t0 σ → At p l e (headSpec wsX4_canPut rm_M_canPut).room s m ([.ref (a 0), .int p1, .int p2] : List Value).toArray below meth c (MQ below (va_Qi Φ (BG D cs A s.heap.size (ws_MD cs a)) A) ([.ref (a 0), .int p1, .int p2] : List Value).toArray s 0 0 A) D A 4 [] (ws_MD cs a σ) 45 [.int t0] := by
    intro t0 σ hw H locs ls hl hP hD hS
    unfold b_M_canPut_45 at hw
    exact rZ (wf := (ws_MD cs a)) (u := σ) hx hb hr hlocks hK hP hD hS hw dX4_canPut_45
  have B44 : ∀ (σ : MD), b_M_canPut_44 Φ σ → At p l e (headSpec wsX4_canPut rm_M_canPut).room s m ([.ref (a 0), .int p1, .int p2] : List Value).toArray below meth c (MQ below (va_Qi Φ (BG D cs A s.heap.size (ws_MD cs a)) A) ([.ref (a 0), .int p1, .int p2] : List Value).toArray s 0 0 A) D A 4 [] (ws_MD cs a σ) 44 [] := by
    intro σ hw H locs ls hl hP hD hS
    unfold b_M_canPut_44 at hw
    refine lv_iconst (v := (0 : Int32)) hx hb dX4_canPut_44 (by decide) ?_
    exact B45 _ _ hw _ _ ls (lv_sub hl [] rfl) hP hD hS
  have B40 : ∀ (σ : MD), b_M_canPut_40 Φ σ → At p l e (headSpec wsX4_canPut rm_M_canPut).room s m ([.ref (a 0), .int p1, .int p2] : List Value).toArray below meth c (MQ below (va_Qi Φ (BG D cs A s.heap.size (ws_MD cs a)) A) ([.ref (a 0), .int p1, .int p2] : List Value).toArray s 0 0 A) D A 4 [] (ws_MD cs a σ) 40 [] := by
    intro σ hw H locs ls hl hP hD hS
    unfold b_M_canPut_40 at hw
    refine lv_iconst (v := (1 : Int32)) hx hb dX4_canPut_40 (by decide) ?_
    refine lv_goto (tgt := 45) hx hb dX4_canPut_41 (by decide) ?_
    exact B45 _ _ hw _ _ ls (lv_sub hl [] rfl) hP hD hS
  have hl := lv_entry ([.ref (a 0), .int p1, .int p2]) (n := 4) (Nat.le_of_ble_eq_true rfl)
  rw [lg_entry_eq]
  generalize (lg_sl ([.ref (a 0), .int p1, .int p2]) ++ List.replicate (4 - (lg_sl ([.ref (a 0), .int p1, .int p2])).length) Slot.unset).toArray = ls at hl ⊢
  have hl : lv_has ls 4 [(0, .ref (a 0)), (1, .int p1), (2, .int p2)] := hl
  unfold w_M_canPut at hw
  refine lv_aload_n hx hb dX4_canPut_0 rfl (lv_at hl 0 rfl) ?_
  refine va_get (D := D) (ci := 4) (v := .ref (a 2)) (C := RX4) (T := TX4) (N := 23) hx hb hts hinX4 hown hK hP 0 rfl rfl 2 (by decide) hf13 (fun _ h9 => h9) rfl dX4_canPut_1 ?_
  refine lv_iload_n hx hb dX4_canPut_4 rfl (lv_at hl 2 rfl) ?_
  have hi5 := hw.1
  have hw := hw.2
  refine va_iald (f := (g_MD_heights σ)) (n := 6) hx hb hK hP 2 0 rfl rfl hi5 dX4_canPut_5 ?_
  refine lv_topi (fun y1 ey1 => ?_)
  have hw := hw y1 ey1
  refine lv_istore_n (lv' := [(3, .int y1), (0, .ref (a 0)), (1, .int p1), (2, .int p2)]) hx hb dX4_canPut_6 rfl hl (by decide) rfl (fun ls hl => ?_)
  refine lv_iload_n hx hb dX4_canPut_7 rfl (lv_at hl 0 rfl) ?_
  refine lv_aload_n hx hb dX4_canPut_8 rfl (lv_at hl 1 rfl) ?_
  refine kVi (As := []) (rest := [.int y1]) ⟨hx, hb, hml, hown, hts⟩ (c_M_most l D cs a _ σ hw) (cwV 0 hts gX4_canPut_X4_most rfl rfl rfl (by decide +kernel) ⟨Nat.le_of_ble_eq_true rfl, Nat.le_of_ble_eq_true rfl⟩) (pt_self_MD cs a σ) hK hP hD hS hA (ci := 4) rfl rfl rfl rfl hl.1 rfl (Nat.le_of_ble_eq_true rfl) dX4_canPut_9 ⟨Nat.zero_le _, Nat.zero_le _⟩ (fun r9 u9 H locs hw hP hD hS => ?_)
  have hP : va_P D vwCl (ws_MD cs a u9) H := hP
  have hD : va_D A (ws_MD cs a u9) := hD
  refine lv_icmp_ge (tgt := 44) hx hb dX4_canPut_12 (by decide) (fun c12 => ?_) (fun c12 => ?_)
  · have hw := hw.1 c12
    exact B44 _ hw _ _ ls (lv_sub hl [] rfl) hP hD hS
  · have hw := hw.2 c12
    refine lv_iload_n hx hb dX4_canPut_15 rfl (lv_at hl 0 rfl) ?_
    refine lv_if_eq (tgt := 40) hx hb dX4_canPut_16 (by decide) (fun c16 => ?_) (fun c16 => ?_)
    · have hw := hw.1 c16
      exact B40 _ hw _ _ ls (lv_sub hl [] rfl) hP hD hS
    · have hw := hw.2 c16
      refine lv_aload_n hx hb dX4_canPut_19 rfl (lv_at hl 1 rfl) ?_
      refine va_get (D := D) (ci := 4) (v := .ref (a 3)) (C := RX4) (T := TX4) (N := 23) hx hb hts hinX4 hown hK hP 0 rfl rfl 3 (by decide) hf16 (fun _ h9 => h9) rfl dX4_canPut_20 ?_
      refine lv_aload_n hx hb dX4_canPut_23 rfl (lv_at hl 1 rfl) ?_
      refine va_get (D := D) (ci := 4) (v := .ref (a 1)) (C := RX4) (T := TX4) (N := 23) hx hb hts hinX4 hown hK hP 0 rfl rfl 1 (by decide) hf7 (fun _ h9 => h9) rfl dX4_canPut_24 ?_
      refine lv_iconst (v := (5 : Int32)) hx hb dX4_canPut_27 (by decide) ?_
      refine lv_iload_n hx hb dX4_canPut_28 rfl (lv_at hl 3 rfl) ?_
      refine lv_imul hx hb dX4_canPut_29 ?_
      refine lv_iload_n hx hb dX4_canPut_30 rfl (lv_at hl 0 rfl) ?_
      refine lv_iadd hx hb dX4_canPut_31 ?_
      refine lv_iconst (v := (1 : Int32)) hx hb dX4_canPut_32 (by decide) ?_
      refine lv_isub hx hb dX4_canPut_33 ?_
      have hi34 := hw.1
      have hw := hw.2
      refine va_iald (f := (g_MD_yard u9)) (n := 30) hx hb hK hP 1 0 rfl rfl hi34 dX4_canPut_34 ?_
      have hi35 := hw.1
      have hw := hw.2
      refine va_iald (f := (g_MD_weights u9)) (n := 30) hx hb hK hP 3 0 rfl rfl hi35 dX4_canPut_35 ?_
      refine lv_iload_n hx hb dX4_canPut_36 rfl (lv_at hl 2 rfl) ?_
      refine lv_icmp_lt (tgt := 44) hx hb dX4_canPut_37 (by decide) (fun c37 => ?_) (fun c37 => ?_)
      · have hw := hw.1 c37
        exact B44 _ hw _ _ ls (lv_sub hl [] rfl) hP hD hS
      · have hw := hw.2 c37
        exact B40 _ hw _ _ ls (lv_sub hl [] rfl) hP hD hS
