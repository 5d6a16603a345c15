abbrev rm_H_number : Room := { frames := 0, cells := 0, slots := 0, locals := 0 }
set_option maxHeartbeats 4000000 in
set_option maxRecDepth 100000 in
theorem c_H_number (l : Launch) (D : va_G) (cs : CS) (a : Nat → Nat) (sz : Nat) (σ : HL) {Φ : Int32 → HL → Prop} (hw : w_H_number σ Φ) : Met l yX0_number wsX0_number rm_H_number (PcG [.ref (a 0)] D cs (ws_HL cs a σ) sz) (va_Qi Φ (BG D cs (va_A (ws_HL cs a σ) sz) sz (ws_HL cs a)) (va_A (ws_HL cs a σ) sz)) 0 0 (va_A (ws_HL cs a σ) sz) := by
  refine Met.ofW (cc := cX0_number) (maxL := 1) (ret := (some .int)) (by decide) rfl ?_
  intro p e s m args below meth c s₁ B hml hv
  obtain ⟨rfl, hsz, hP, hK, hD0⟩ := hv
  have hx := B.exec
  have hb := B.bytes
  have hr := B.returns
  have hts := atoms_spec (ws := wsX0_number) B.pre
  have hown : s.vm.findClass RX0 = some m.cls := findClass_of_methodNamed B.named
  have hlocks := B.notSynchronized
  subst hsz
  have hD := hD0.self (sz := s.heap.size)
  generalize hAe : va_A (ws_HL cs a σ) s.heap.size = A at hD ⊢
  have hA : ∀ q : Nat, s.heap.size ≤ q → A q := fun q h => by rw [← hAe]; exact Or.inr h
  have hS : va_S A s.heap s.heap [] := va_S.rf
  have hf27 : (Cond.fieldLink RX0 27 "CraneYard$Hauls" "count" "I").before ([.ref (a 0)] : List Value).toArray s = true := hts _ (List.mem_of_getElem? (i := 1) rfl)
  have hinX0 : ∀ w ∈ wsX00, w ∈ wsX0_number := fun _ h => List.mem_cons_of_mem _ (List.mem_append_right _ h)
  have hP : va_P D vwCl (ws_HL cs a σ) s.heap := hP
  have hl := lv_entry ([.ref (a 0)]) (n := 1) (Nat.le_of_ble_eq_true rfl)
  rw [lg_entry_eq]
  generalize (lg_sl ([.ref (a 0)]) ++ List.replicate (1 - (lg_sl ([.ref (a 0)])).length) Slot.unset).toArray = ls at hl ⊢
  have hl : lv_has ls 1 [(0, .ref (a 0))] := hl
  unfold w_H_number at hw
  refine lv_aload_n hx hb dX0_number_0 rfl (lv_at hl 0 rfl) ?_
  refine va_get (D := D) (ci := 0) (v := .int (g_HL_count σ)) (C := RX0) (T := TX0) (N := 8) hx hb hts hinX0 hown hK hP 0 rfl rfl 5 (by decide) hf27 (fun _ h9 => h9) rfl dX0_number_1 ?_
  exact rI (wf := (ws_HL cs a)) (u := σ) hx hb hr hlocks hK hP hD hS hw dX0_number_4
abbrev rm_H_pricesOfDone : Room := { frames := 0, cells := 0, slots := 0, locals := 0 }
set_option maxHeartbeats 4000000 in
set_option maxRecDepth 100000 in
theorem c_H_pricesOfDone (l : Launch) (D : va_G) (cs : CS) (a : Nat → Nat) (sz : Nat) (σ : HL) {Φ : Int32 → HL → Prop} (hw : w_H_pricesOfDone σ Φ) : Met l yX0_pricesOfDone wsX0_pricesOfDone rm_H_pricesOfDone (PcG [.ref (a 0)] D cs (ws_HL cs a σ) sz) (va_Qi Φ (BG D cs (va_A (ws_HL cs a σ) sz) sz (ws_HL cs a)) (va_A (ws_HL cs a σ) sz)) 0 0 (va_A (ws_HL cs a σ) sz) := by
  refine Met.ofW (cc := cX0_pricesOfDone) (maxL := 1) (ret := (some .int)) (by decide) rfl ?_
  intro p e s m args below meth c s₁ B hml hv
  obtain ⟨rfl, hsz, hP, hK, hD0⟩ := hv
  have hx := B.exec
  have hb := B.bytes
  have hr := B.returns
  have hts := atoms_spec (ws := wsX0_pricesOfDone) B.pre
  have hown : s.vm.findClass RX0 = some m.cls := findClass_of_methodNamed B.named
  have hlocks := B.notSynchronized
  subst hsz
  have hD := hD0.self (sz := s.heap.size)
  generalize hAe : va_A (ws_HL cs a σ) s.heap.size = A at hD ⊢
  have hA : ∀ q : Nat, s.heap.size ≤ q → A q := fun q h => by rw [← hAe]; exact Or.inr h
  have hS : va_S A s.heap s.heap [] := va_S.rf
  have hf31 : (Cond.fieldLink RX0 31 "CraneYard$Hauls" "pricesPaid" "I").before ([.ref (a 0)] : List Value).toArray s = true := hts _ (List.mem_of_getElem? (i := 1) rfl)
  have hinX0 : ∀ w ∈ wsX00, w ∈ wsX0_pricesOfDone := fun _ h => List.mem_cons_of_mem _ (List.mem_append_right _ h)
  have hP : va_P D vwCl (ws_HL cs a σ) s.heap := hP
  have hl := lv_entry ([.ref (a 0)]) (n := 1) (Nat.le_of_ble_eq_true rfl)
  rw [lg_entry_eq]
  generalize (lg_sl ([.ref (a 0)]) ++ List.replicate (1 - (lg_sl ([.ref (a 0)])).length) Slot.unset).toArray = ls at hl ⊢
  have hl : lv_has ls 1 [(0, .ref (a 0))] := hl
  unfold w_H_pricesOfDone at hw
  refine lv_aload_n hx hb dX0_pricesOfDone_0 rfl (lv_at hl 0 rfl) ?_
  refine va_get (D := D) (ci := 0) (v := .int (g_HL_pricesPaid σ)) (C := RX0) (T := TX0) (N := 8) hx hb hts hinX0 hown hK hP 0 rfl rfl 6 (by decide) hf31 (fun _ h9 => h9) rfl dX0_pricesOfDone_1 ?_
  exact rI (wf := (ws_HL cs a)) (u := σ) hx hb hr hlocks hK hP hD hS hw dX0_pricesOfDone_4
abbrev rm_H_owedForLate : Room := { frames := 0, cells := 0, slots := 0, locals := 0 }
set_option maxHeartbeats 4000000 in
set_option maxRecDepth 100000 in
theorem c_H_owedForLate (l : Launch) (D : va_G) (cs : CS) (a : Nat → Nat) (sz : Nat) (σ : HL) {Φ : Int32 → HL → Prop} (hw : w_H_owedForLate σ Φ) : Met l yX0_owedForLate wsX0_owedForLate rm_H_owedForLate (PcG [.ref (a 0)] D cs (ws_HL cs a σ) sz) (va_Qi Φ (BG D cs (va_A (ws_HL cs a σ) sz) sz (ws_HL cs a)) (va_A (ws_HL cs a σ) sz)) 0 0 (va_A (ws_HL cs a σ) sz) := by
  refine Met.ofW (cc := cX0_owedForLate) (maxL := 1) (ret := (some .int)) (by decide) rfl ?_
  intro p e s m args below meth c s₁ B hml hv
  obtain ⟨rfl, hsz, hP, hK, hD0⟩ := hv
  have hx := B.exec
  have hb := B.bytes
  have hr := B.returns
  have hts := atoms_spec (ws := wsX0_owedForLate) B.pre
  have hown : s.vm.findClass RX0 = some m.cls := findClass_of_methodNamed B.named
  have hlocks := B.notSynchronized
  subst hsz
  have hD := hD0.self (sz := s.heap.size)
  generalize hAe : va_A (ws_HL cs a σ) s.heap.size = A at hD ⊢
  have hA : ∀ q : Nat, s.heap.size ≤ q → A q := fun q h => by rw [← hAe]; exact Or.inr h
  have hS : va_S A s.heap s.heap [] := va_S.rf
  have hf34 : (Cond.fieldLink RX0 34 "CraneYard$Hauls" "owed" "I").before ([.ref (a 0)] : List Value).toArray s = true := hts _ (List.mem_of_getElem? (i := 1) rfl)
  have hinX0 : ∀ w ∈ wsX00, w ∈ wsX0_owedForLate := fun _ h => List.mem_cons_of_mem _ (List.mem_append_right _ h)
  have hP : va_P D vwCl (ws_HL cs a σ) s.heap := hP
  have hl := lv_entry ([.ref (a 0)]) (n := 1) (Nat.le_of_ble_eq_true rfl)
  rw [lg_entry_eq]
  generalize (lg_sl ([.ref (a 0)]) ++ List.replicate (1 - (lg_sl ([.ref (a 0)])).length) Slot.unset).toArray = ls at hl ⊢
  have hl : lv_has ls 1 [(0, .ref (a 0))] := hl
  unfold w_H_owedForLate at hw
  refine lv_aload_n hx hb dX0_owedForLate_0 rfl (lv_at hl 0 rfl) ?_
  refine va_get (D := D) (ci := 0) (v := .int (g_HL_owed σ)) (C := RX0) (T := TX0) (N := 8) hx hb hts hinX0 hown hK hP 0 rfl rfl 7 (by decide) hf34 (fun _ h9 => h9) rfl dX0_owedForLate_1 ?_
  exact rI (wf := (ws_HL cs a)) (u := σ) hx hb hr hlocks hK hP hD hS hw dX0_owedForLate_4
abbrev rm_H_stateOf : Room := { frames := 0, cells := 0, slots := 0, locals := 0 }
set_option maxHeartbeats 4000000 in
set_option maxRecDepth 100000 in
theorem c_H_stateOf (l : Launch) (D : va_G) (cs : CS) (a : Nat → Nat) (sz : Nat) (σ : HL) (p1 : Int32) {Φ : Int32 → HL → Prop} (hw : w_H_stateOf σ p1 Φ) : Met l yX0_stateOf wsX0_stateOf rm_H_stateOf (PcG [.ref (a 0), .int p1] D cs (ws_HL cs a σ) sz) (va_Qi Φ (BG D cs (va_A (ws_HL cs a σ) sz) sz (ws_HL cs a)) (va_A (ws_HL cs a σ) sz)) 0 0 (va_A (ws_HL cs a σ) sz) := by
  refine Met.ofW (cc := cX0_stateOf) (maxL := 2) (ret := (some .int)) (by decide) rfl ?_
  intro p e s m args below meth c s₁ B hml hv
  obtain ⟨rfl, hsz, hP, hK, hD0⟩ := hv
  have hx := B.exec
  have hb := B.bytes
  have hr := B.returns
  have hts := atoms_spec (ws := wsX0_stateOf) B.pre
  have hown : s.vm.findClass RX0 = some m.cls := findClass_of_methodNamed B.named
  have hlocks := B.notSynchronized
  subst hsz
  have hD := hD0.self (sz := s.heap.size)
  generalize hAe : va_A (ws_HL cs a σ) s.heap.size = A at hD ⊢
  have hA : ∀ q : Nat, s.heap.size ≤ q → A q := fun q h => by rw [← hAe]; exact Or.inr h
  have hS : va_S A s.heap s.heap [] := va_S.rf
  have hf18 : (Cond.fieldLink RX0 18 "CraneYard$Hauls" "states" "[I").before ([.ref (a 0), .int p1] : List Value).toArray s = true := hts _ (List.mem_of_getElem? (i := 2) rfl)
  have hf27 : (Cond.fieldLink RX0 27 "CraneYard$Hauls" "count" "I").before ([.ref (a 0), .int p1] : List Value).toArray s = true := hts _ (List.mem_of_getElem? (i := 1) rfl)
  have hinX0 : ∀ w ∈ wsX00, w ∈ wsX0_stateOf := fun _ h => List.mem_cons_of_mem _ (List.mem_append_right _ h)
  have hP : va_P D vwCl (ws_HL cs a σ) s.heap := hP
  have B22 : ∀ (t0 : Int32) (σ : HL), b_H_stateOf_22 Φ t0 σ → At p l e (headSpec wsX0_stateOf rm_H_stateOf).room s m ([.ref (a 0), .int p1] : List Value).toArray below meth c (MQ below (va_Qi Φ (BG D cs A s.heap.size (ws_HL cs a)) A) ([.ref (a 0), .int p1] : List Value).toArray s 0 0 A) D A 2 [] (ws_HL cs a σ) 22 [.int t0] := by
    intro t0 σ hw H locs ls hl hP hD hS
    unfold b_H_stateOf_22 at hw
    exact rI (wf := (ws_HL cs a)) (u := σ) hx hb hr hlocks hK hP hD hS hw dX0_stateOf_22
  have B21 : ∀ (σ : HL), b_H_stateOf_21 Φ σ → At p l e (headSpec wsX0_stateOf rm_H_stateOf).room s m ([.ref (a 0), .int p1] : List Value).toArray below meth c (MQ below (va_Qi Φ (BG D cs A s.heap.size (ws_HL cs a)) A) ([.ref (a 0), .int p1] : List Value).toArray s 0 0 A) D A 2 [] (ws_HL cs a σ) 21 [] := by
    intro σ hw H locs ls hl hP hD hS
    unfold b_H_stateOf_21 at hw
    refine lv_iconst (v := (-1 : Int32)) hx hb dX0_stateOf_21 (by decide) ?_
    exact B22 _ _ hw _ _ ls (lv_sub hl [] rfl) hP hD hS
  have hl := lv_entry ([.ref (a 0), .int p1]) (n := 2) (Nat.le_of_ble_eq_true rfl)
  rw [lg_entry_eq]
  generalize (lg_sl ([.ref (a 0), .int p1]) ++ List.replicate (2 - (lg_sl ([.ref (a 0), .int p1])).length) Slot.unset).toArray = ls at hl ⊢
  have hl : lv_has ls 2 [(0, .ref (a 0)), (1, .int p1)] := hl
  unfold w_H_stateOf at hw
  refine lv_iload_n hx hb dX0_stateOf_0 rfl (lv_at hl 1 rfl) ?_
  refine lv_if_lt (tgt := 21) hx hb dX0_stateOf_1 (by decide) (fun c1 => ?_) (fun c1 => ?_)
  · have hw := hw.1 c1
    exact B21 _ hw _ _ ls (lv_sub hl [] rfl) hP hD hS
  · have hw := hw.2 c1
    refine lv_iload_n hx hb dX0_stateOf_4 rfl (lv_at hl 1 rfl) ?_
    refine lv_aload_n hx hb dX0_stateOf_5 rfl (lv_at hl 0 rfl) ?_
    refine va_get (D := D) (ci := 0) (v := .int (g_HL_count σ)) (C := RX0) (T := TX0) (N := 8) hx hb hts hinX0 hown hK hP 0 rfl rfl 5 (by decide) hf27 (fun _ h9 => h9) rfl dX0_stateOf_6 ?_
    refine lv_icmp_ge (tgt := 21) hx hb dX0_stateOf_9 (by decide) (fun c9 => ?_) (fun c9 => ?_)
    · have hw := hw.1 c9
      exact B21 _ hw _ _ ls (lv_sub hl [] rfl) hP hD hS
    · have hw := hw.2 c9
      refine lv_aload_n hx hb dX0_stateOf_12 rfl (lv_at hl 0 rfl) ?_
      refine va_get (D := D) (ci := 0) (v := .ref (a 3)) (C := RX0) (T := TX0) (N := 8) hx hb hts hinX0 hown hK hP 0 rfl rfl 2 (by decide) hf18 (fun _ h9 => h9) rfl dX0_stateOf_13 ?_
      refine lv_iload_n hx hb dX0_stateOf_16 rfl (lv_at hl 1 rfl) ?_
      have hi17 := hw.1
      have hw := hw.2
      refine va_iald (f := (g_HL_states σ)) (n := 20) hx hb hK hP 3 0 rfl rfl hi17 dX0_stateOf_17 ?_
      refine lv_goto (tgt := 22) hx hb dX0_stateOf_18 (by decide) ?_
      exact B22 _ _ hw _ _ ls (lv_sub hl [] rfl) hP hD hS
abbrev rm_H_isOpen : Room := { frames := 1, cells := 0, slots := 0, locals := 21 }
set_option maxHeartbeats 4000000 in
set_option maxRecDepth 100000 in
theorem c_H_isOpen (l : Launch) (D : va_G) (cs : CS) (a : Nat → Nat) (sz : Nat) (σ : HL) (p1 : Int32) {Φ : Int32 → HL → Prop} (hw : w_H_isOpen σ p1 Φ) : Met l yX0_isOpen wsX0_isOpen rm_H_isOpen (PcG [.ref (a 0), .int p1] D cs (ws_HL cs a σ) sz) (va_Qi Φ (BG D cs (va_A (ws_HL cs a σ) sz) sz (ws_HL cs a)) (va_A (ws_HL cs a σ) sz)) 0 0 (va_A (ws_HL cs a σ) sz) := by
  refine Met.ofW (cc := cX0_isOpen) (maxL := 3) (ret := (some .boolean)) (by decide) rfl ?_
  intro p e s m args below meth c s₁ B hml hv
  obtain ⟨rfl, hsz, hP, hK, hD0⟩ := hv
  have hx := B.exec
  have hb := B.bytes
  have hr := B.returns
  have hts := atoms_spec (ws := wsX0_isOpen) B.pre
  have hown : s.vm.findClass RX0 = some m.cls := findClass_of_methodNamed B.named
  have hlocks := B.notSynchronized
  subst hsz
  have hD := hD0.self (sz := s.heap.size)
  generalize hAe : va_A (ws_HL cs a σ) s.heap.size = A at hD ⊢
  have hA : ∀ q : Nat, s.heap.size ≤ q → A q := fun q h => by rw [← hAe]; exact Or.inr h
  have hS : va_S A s.heap s.heap [] := va_S.rf
  have hP : va_P D vwCl (ws_HL cs a σ) s.heap := hP
  have B20 : ∀ (t0 : Int32) (σ : HL), b_H_isOpen_20 Φ t0 σ → At p l e (headSpec wsX0_isOpen rm_H_isOpen).room s m ([.ref (a 0), .int p1] : List Value).toArray below meth c (MQ below (va_Qi Φ (BG D cs A s.heap.size (ws_HL cs a)) A) ([.ref (a 0), .int p1] : List Value).toArray s 0 0 A) D A 3 [] (ws_HL cs a σ) 20 [.int t0] := by
    intro t0 σ hw H locs ls hl hP hD hS
    unfold b_H_isOpen_20 at hw
    exact rZ (wf := (ws_HL cs a)) (u := σ) hx hb hr hlocks hK hP hD hS hw dX0_isOpen_20
  have B15 : ∀ (σ : HL), b_H_isOpen_15 Φ σ → At p l e (headSpec wsX0_isOpen rm_H_isOpen).room s m ([.ref (a 0), .int p1] : List Value).toArray below meth c (MQ below (va_Qi Φ (BG D cs A s.heap.size (ws_HL cs a)) A) ([.ref (a 0), .int p1] : List Value).toArray s 0 0 A) D A 3 [] (ws_HL cs a σ) 15 [] := by
    intro σ hw H locs ls hl hP hD hS
    unfold b_H_isOpen_15 at hw
    refine lv_iconst (v := (1 : Int32)) hx hb dX0_isOpen_15 (by decide) ?_
    refine lv_goto (tgt := 20) hx hb dX0_isOpen_16 (by decide) ?_
    exact B20 _ _ hw _ _ ls (lv_sub hl [] rfl) hP hD hS
  have hl := lv_entry ([.ref (a 0), .int p1]) (n := 3) (Nat.le_of_ble_eq_true rfl)
  rw [lg_entry_eq]
  generalize (lg_sl ([.ref (a 0), .int p1]) ++ List.replicate (3 - (lg_sl ([.ref (a 0), .int p1])).length) Slot.unset).toArray = ls at hl ⊢
  have hl : lv_has ls 3 [(0, .ref (a 0)), (1, .int p1)] := hl
  unfold w_H_isOpen at hw
  refine lv_aload_n hx hb dX0_isOpen_0 rfl (lv_at hl 0 rfl) ?_
  refine lv_iload_n hx hb dX0_isOpen_1 rfl (lv_at hl 1 rfl) ?_
  refine kVi (As := [.int p1]) (rest := []) ⟨hx, hb, hml, hown, hts⟩ (c_H_stateOf l D cs a _ σ p1 hw) (cwV 1 hts gX0_isOpen_X0_stateOf rfl rfl rfl (by decide +kernel) ⟨Nat.le_of_ble_eq_true rfl, Nat.le_of_ble_eq_true rfl⟩) (pt_self_HL cs a σ) hK hP hD hS hA (ci := 0) rfl rfl rfl rfl hl.1 rfl (Nat.le_of_ble_eq_true rfl) dX0_isOpen_2 ⟨Nat.zero_le _, Nat.zero_le _⟩ (fun r2 u2 H locs hw hP hD hS => ?_)
  have hP : va_P D vwCl (ws_HL cs a u2) H := hP
  have hD : va_D A (ws_HL cs a u2) := hD
  refine lv_istore_n (lv' := [(2, .int r2), (0, .ref (a 0)), (1, .int p1)]) hx hb dX0_isOpen_5 rfl hl (by decide) rfl (fun ls hl => ?_)
  refine lv_iload_n hx hb dX0_isOpen_6 rfl (lv_at hl 0 rfl) ?_
  refine lv_if_eq (tgt := 15) hx hb dX0_isOpen_7 (by decide) (fun c7 => ?_) (fun c7 => ?_)
  · have hw := hw.1 c7
    exact B15 _ hw _ _ ls (lv_sub hl [] rfl) hP hD hS
  · have hw := hw.2 c7
    refine lv_iload_n hx hb dX0_isOpen_10 rfl (lv_at hl 0 rfl) ?_
    refine lv_iconst (v := (1 : Int32)) hx hb dX0_isOpen_11 (by decide) ?_
    refine lv_icmp_ne (tgt := 19) hx hb dX0_isOpen_12 (by decide) (fun c12 => ?_) (fun c12 => ?_)
    · have hw := hw.2 c12
      refine lv_iconst (v := (0 : Int32)) hx hb dX0_isOpen_19 (by decide) ?_
      exact B20 _ _ hw _ _ ls (lv_sub hl [] rfl) hP hD hS
    · have hw := hw.1 c12
      exact B15 _ hw _ _ ls (lv_sub hl [] rfl) hP hD hS
abbrev rm_H_openHaulOf : Room := { frames := 2, cells := 0, slots := 0, locals := 43 }
set_option maxHeartbeats 4000000 in
set_option maxRecDepth 100000 in
theorem c_H_openHaulOf (l : Launch) (D : va_G) (cs : CS) (a : Nat → Nat) (sz : Nat) (σ : HL) (p1 : Int32) {Φ : Int32 → HL → Prop} (hw : w_H_openHaulOf σ p1 Φ) : Met l yX0_openHaulOf wsX0_openHaulOf rm_H_openHaulOf (PcG [.ref (a 0), .int p1] D cs (ws_HL cs a σ) sz) (va_Qi Φ (BG D cs (va_A (ws_HL cs a σ) sz) sz (ws_HL cs a)) (va_A (ws_HL cs a σ) sz)) 0 0 (va_A (ws_HL cs a σ) sz) := by
  refine Met.ofW (cc := cX0_openHaulOf) (maxL := 3) (ret := (some .int)) (by decide) rfl ?_
  intro p e s m args below meth c s₁ B hml hv
  obtain ⟨rfl, hsz, hP, hK, hD0⟩ := hv
  have hx := B.exec
  have hb := B.bytes
  have hr := B.returns
  have hts := atoms_spec (ws := wsX0_openHaulOf) B.pre
  have hown : s.vm.findClass RX0 = some m.cls := findClass_of_methodNamed B.named
  have hlocks := B.notSynchronized
  subst hsz
  have hD := hD0.self (sz := s.heap.size)
  generalize hAe : va_A (ws_HL cs a σ) s.heap.size = A at hD ⊢
  have hA : ∀ q : Nat, s.heap.size ≤ q → A q := fun q h => by rw [← hAe]; exact Or.inr h
  have hS : va_S A s.heap s.heap [] := va_S.rf
  have hf27 : (Cond.fieldLink RX0 27 "CraneYard$Hauls" "count" "I").before ([.ref (a 0), .int p1] : List Value).toArray s = true := hts _ (List.mem_of_getElem? (i := 1) rfl)
  have hf9 : (Cond.fieldLink RX0 9 "CraneYard$Hauls" "crates" "[I").before ([.ref (a 0), .int p1] : List Value).toArray s = true := hts _ (List.mem_of_getElem? (i := 2) rfl)
  have hinX0 : ∀ w ∈ wsX00, w ∈ wsX0_openHaulOf := fun _ h => List.mem_cons_of_mem _ (List.mem_append_right _ h)
  have hP : va_P D vwCl (ws_HL cs a σ) s.heap := hP
  have B30 : ∀ (K2 : (Int32 → Int32 → HL → Prop)) (hK2 : ∀ (x1 : Int32) (x2 : Int32) (σ : HL), K2 x1 x2 σ → At p l e (headSpec wsX0_openHaulOf rm_H_openHaulOf).room s m ([.ref (a 0), .int p1] : List Value).toArray below meth c (MQ below (va_Qi Φ (BG D cs A s.heap.size (ws_HL cs a)) A) ([.ref (a 0), .int p1] : List Value).toArray s 0 0 A) D A 3 [(0, .ref (a 0)), (1, .int x1), (2, .int x2)] (ws_HL cs a σ) 2 []) (x1 : Int32) (x2 : Int32) (σ : HL), b_H_openHaulOf_30 K2 Φ x1 x2 σ → At p l e (headSpec wsX0_openHaulOf rm_H_openHaulOf).room s m ([.ref (a 0), .int p1] : List Value).toArray below meth c (MQ below (va_Qi Φ (BG D cs A s.heap.size (ws_HL cs a)) A) ([.ref (a 0), .int p1] : List Value).toArray s 0 0 A) D A 3 [(0, .ref (a 0)), (1, .int x1), (2, .int x2)] (ws_HL cs a σ) 30 [] := by
    intro K2 hK2 x1 x2 σ hw H locs ls hl hP hD hS
    unfold b_H_openHaulOf_30 at hw
    refine lv_iinc (v := (x2 + (1 : Int32))) (lv' := [(2, .int (x2 + (1 : Int32))), (0, .ref (a 0)), (1, .int x1)]) hx hb dX0_openHaulOf_30 hl (k := 2) rfl rfl (by decide) rfl (fun ls hl => ?_)
    refine lv_goto (tgt := 2) hx hb dX0_openHaulOf_33 (by decide) ?_
    exact hK2 _ _ _ hw _ _ ls (lv_sub hl [1, 2, 0] rfl) hP hD hS
  have B2 : ∀ (n : Nat) (x1 : Int32) (x2 : Int32) (σ : HL), it3 (b_H_openHaulOf_2 Φ) n x1 x2 σ → At p l e (headSpec wsX0_openHaulOf rm_H_openHaulOf).room s m ([.ref (a 0), .int p1] : List Value).toArray below meth c (MQ below (va_Qi Φ (BG D cs A s.heap.size (ws_HL cs a)) A) ([.ref (a 0), .int p1] : List Value).toArray s 0 0 A) D A 3 [(0, .ref (a 0)), (1, .int x1), (2, .int x2)] (ws_HL cs a σ) 2 [] := by
    intro n
    induction n with
    | zero => intro x1 x2 σ hw; exact absurd hw id
    | succ n ih =>
      intro x1 x2 σ hw H locs ls hl hP hD hS
      have hw : b_H_openHaulOf_2 Φ (it3 (b_H_openHaulOf_2 Φ) n) x1 x2 σ := hw
      unfold b_H_openHaulOf_2 at hw
      refine lv_iload_n hx hb dX0_openHaulOf_2 rfl (lv_at hl 2 rfl) ?_
      refine lv_aload_n hx hb dX0_openHaulOf_3 rfl (lv_at hl 0 rfl) ?_
      refine va_get (D := D) (ci := 0) (v := .int (g_HL_count σ)) (C := RX0) (T := TX0) (N := 8) hx hb hts hinX0 hown hK hP 0 rfl rfl 5 (by decide) hf27 (fun _ h9 => h9) rfl dX0_openHaulOf_4 ?_
      refine lv_icmp_ge (tgt := 36) hx hb dX0_openHaulOf_7 (by decide) (fun c7 => ?_) (fun c7 => ?_)
      · have hw := hw.1 c7
        refine lv_iconst (v := (-1 : Int32)) hx hb dX0_openHaulOf_36 (by decide) ?_
        exact rI (wf := (ws_HL cs a)) (u := σ) hx hb hr hlocks hK hP hD hS hw dX0_openHaulOf_37
      · have hw := hw.2 c7
        refine lv_aload_n hx hb dX0_openHaulOf_10 rfl (lv_at hl 0 rfl) ?_
        refine va_get (D := D) (ci := 0) (v := .ref (a 1)) (C := RX0) (T := TX0) (N := 8) hx hb hts hinX0 hown hK hP 0 rfl rfl 0 (by decide) hf9 (fun _ h9 => h9) rfl dX0_openHaulOf_11 ?_
        refine lv_iload_n hx hb dX0_openHaulOf_14 rfl (lv_at hl 2 rfl) ?_
        have hi15 := hw.1
        have hw := hw.2
        refine va_iald (f := (g_HL_crates σ)) (n := 20) hx hb hK hP 1 0 rfl rfl hi15 dX0_openHaulOf_15 ?_
        refine lv_iload_n hx hb dX0_openHaulOf_16 rfl (lv_at hl 1 rfl) ?_
        refine lv_icmp_ne (tgt := 30) hx hb dX0_openHaulOf_17 (by decide) (fun c17 => ?_) (fun c17 => ?_)
        · have hw := hw.2 c17
          exact B30 _ ih _ _ _ hw _ _ ls (lv_sub hl [0, 1, 2] rfl) hP hD hS
        · have hw := hw.1 c17
          refine lv_aload_n hx hb dX0_openHaulOf_20 rfl (lv_at hl 0 rfl) ?_
          refine lv_iload_n hx hb dX0_openHaulOf_21 rfl (lv_at hl 2 rfl) ?_
          refine kVi (As := [.int x2]) (rest := []) ⟨hx, hb, hml, hown, hts⟩ (c_H_isOpen l D cs a _ σ x2 hw) (cwV 1 hts gX0_openHaulOf_X0_isOpen rfl rfl rfl (by decide +kernel) ⟨Nat.le_of_ble_eq_true rfl, Nat.le_of_ble_eq_true rfl⟩) (pt_self_HL cs a σ) hK hP hD hS hA (ci := 0) rfl rfl rfl rfl hl.1 rfl (Nat.le_of_ble_eq_true rfl) dX0_openHaulOf_22 ⟨Nat.zero_le _, Nat.zero_le _⟩ (fun r22 u22 H locs hw hP hD hS => ?_)
          have hP : va_P D vwCl (ws_HL cs a u22) H := hP
          have hD : va_D A (ws_HL cs a u22) := hD
          refine lv_if_eq (tgt := 30) hx hb dX0_openHaulOf_25 (by decide) (fun c25 => ?_) (fun c25 => ?_)
          · have hw := hw.1 c25
            exact B30 _ ih _ _ _ hw _ _ ls (lv_sub hl [0, 1, 2] rfl) hP hD hS
          · have hw := hw.2 c25
            refine lv_iload_n hx hb dX0_openHaulOf_28 rfl (lv_at hl 2 rfl) ?_
            exact rI (wf := (ws_HL cs a)) (u := u22) hx hb hr hlocks hK hP hD hS hw dX0_openHaulOf_29
  have hl := lv_entry ([.ref (a 0), .int p1]) (n := 3) (Nat.le_of_ble_eq_true rfl)
  rw [lg_entry_eq]
  generalize (lg_sl ([.ref (a 0), .int p1]) ++ List.replicate (3 - (lg_sl ([.ref (a 0), .int p1])).length) Slot.unset).toArray = ls at hl ⊢
  have hl : lv_has ls 3 [(0, .ref (a 0)), (1, .int p1)] := hl
  unfold w_H_openHaulOf at hw
  refine lv_iconst (v := (0 : Int32)) hx hb dX0_openHaulOf_0 (by decide) ?_
  refine lv_istore_n (lv' := [(2, .int (0 : Int32)), (0, .ref (a 0)), (1, .int p1)]) hx hb dX0_openHaulOf_1 rfl hl (by decide) rfl (fun ls hl => ?_)
  obtain ⟨n, hw⟩ := hw
  exact B2 n _ _ _ hw _ _ ls (lv_sub hl [1, 2, 0] rfl) hP hD hS
abbrev rm_H_add : Room := { frames := 0, cells := 0, slots := 0, locals := 0 }
set_option maxHeartbeats 4000000 in
set_option maxRecDepth 100000 in
theorem c_H_add (l : Launch) (D : va_G) (cs : CS) (a : Nat → Nat) (sz : Nat) (σ : HL) (p1 : Int32) (p2 : Int32) {Φ : Int32 → HL → Prop} (hw : w_H_add σ p1 p2 Φ) : Met l yX0_add wsX0_add rm_H_add (PcG [.ref (a 0), .int p1, .int p2] D cs (ws_HL cs a σ) sz) (va_Qi Φ (BG D cs (va_A (ws_HL cs a σ) sz) sz (ws_HL cs a)) (va_A (ws_HL cs a σ) sz)) 0 0 (va_A (ws_HL cs a σ) sz) := by
  refine Met.ofW (cc := cX0_add) (maxL := 4) (ret := (some .int)) (by decide) rfl ?_
  intro p e s m args below meth c s₁ B hml hv
  obtain ⟨rfl, hsz, hP, hK, hD0⟩ := hv
  have hx := B.exec
  have hb := B.bytes
  have hr := B.returns
  have hts := atoms_spec (ws := wsX0_add) B.pre
  have hown : s.vm.findClass RX0 = some m.cls := findClass_of_methodNamed B.named
  have hlocks := B.notSynchronized
  subst hsz
  have hD := hD0.self (sz := s.heap.size)
  generalize hAe : va_A (ws_HL cs a σ) s.heap.size = A at hD ⊢
  have hA : ∀ q : Nat, s.heap.size ≤ q → A q := fun q h => by rw [← hAe]; exact Or.inr h
  have hS : va_S A s.heap s.heap [] := va_S.rf
  have hf15 : (Cond.fieldLink RX0 15 "CraneYard$Hauls" "lastDays" "[I").before ([.ref (a 0), .int p1, .int p2] : List Value).toArray s = true := hts _ (List.mem_of_getElem? (i := 3) rfl)
  have hf18 : (Cond.fieldLink RX0 18 "CraneYard$Hauls" "states" "[I").before ([.ref (a 0), .int p1, .int p2] : List Value).toArray s = true := hts _ (List.mem_of_getElem? (i := 4) rfl)
  have hf27 : (Cond.fieldLink RX0 27 "CraneYard$Hauls" "count" "I").before ([.ref (a 0), .int p1, .int p2] : List Value).toArray s = true := hts _ (List.mem_of_getElem? (i := 1) rfl)
  have hf9 : (Cond.fieldLink RX0 9 "CraneYard$Hauls" "crates" "[I").before ([.ref (a 0), .int p1, .int p2] : List Value).toArray s = true := hts _ (List.mem_of_getElem? (i := 2) rfl)
  have hinX0 : ∀ w ∈ wsX00, w ∈ wsX0_add := fun _ h => List.mem_cons_of_mem _ (List.mem_append_right _ h)
  have hP : va_P D vwCl (ws_HL cs a σ) s.heap := hP
  have hl := lv_entry ([.ref (a 0), .int p1, .int p2]) (n := 4) (Nat.le_of_ble_eq_true rfl)
  rw [lg_entry_eq]
  generalize (lg_sl ([.ref (a 0), .int p1, .int p2]) ++ List.replicate (4 - (lg_sl ([.ref (a 0), .int p1, .int p2])).length) Slot.unset).toArray = ls at hl ⊢
  have hl : lv_has ls 4 [(0, .ref (a 0)), (1, .int p1), (2, .int p2)] := hl
  unfold w_H_add at hw
  refine lv_aload_n hx hb dX0_add_0 rfl (lv_at hl 0 rfl) ?_
  refine va_get (D := D) (ci := 0) (v := .int (g_HL_count σ)) (C := RX0) (T := TX0) (N := 8) hx hb hts hinX0 hown hK hP 0 rfl rfl 5 (by decide) hf27 (fun _ h9 => h9) rfl dX0_add_1 ?_
  refine lv_bipush (v := (20 : Int32)) hx hb dX0_add_4 (by decide) ?_
  refine lv_icmp_lt (tgt := 11) hx hb dX0_add_6 (by decide) (fun c6 => ?_) (fun c6 => ?_)
  · have hw := hw.1 c6
    refine lv_aload_n hx hb dX0_add_11 rfl (lv_at hl 0 rfl) ?_
    refine va_get (D := D) (ci := 0) (v := .int (g_HL_count σ)) (C := RX0) (T := TX0) (N := 8) hx hb hts hinX0 hown hK hP 0 rfl rfl 5 (by decide) hf27 (fun _ h9 => h9) rfl dX0_add_12 ?_
    refine lv_istore_n (lv' := [(3, .int (g_HL_count σ)), (0, .ref (a 0)), (1, .int p1), (2, .int p2)]) hx hb dX0_add_15 rfl hl (by decide) rfl (fun ls hl => ?_)
    refine lv_aload_n hx hb dX0_add_16 rfl (lv_at hl 1 rfl) ?_
    refine lv_dup hx hb dX0_add_17 rfl ?_
    refine va_get (D := D) (ci := 0) (v := .int (g_HL_count σ)) (C := RX0) (T := TX0) (N := 8) hx hb hts hinX0 hown hK hP 0 rfl rfl 5 (by decide) hf27 (fun _ h9 => h9) rfl dX0_add_18 ?_
    refine lv_iconst (v := (1 : Int32)) hx hb dX0_add_21 (by decide) ?_
    refine lv_iadd hx hb dX0_add_22 ?_
    refine lv_topi (fun y1 ey1 => ?_)
    have hw := hw y1 ey1
    refine va_put (D := D) (ci := 0) (v := .int y1) (ty := .int) (C := RX0) (T := TX0) (N := 8) hx hb hts hinX0 tyX0 tyX0_ok nmX0 hown hK hP hD hS 0 rfl rfl 5 (by decide) hf27 (fun _ h9 => h9) rfl (by decide +kernel) rfl rfl (Nat.le_of_ble_eq_true rfl) dX0_add_23 (fun H locs hP hD hS => ?_)
    have hP : va_P D vwCl (ws_HL cs a (s_HL_count σ y1)) H := hP
    have hD : va_D A (ws_HL cs a (s_HL_count σ y1)) := hD
    obtain ⟨z2, ez2⟩ : ∃ z : HL, z = (s_HL_count σ y1) := ⟨_, rfl⟩
    have hw := hw z2 ez2
    rw [← ez2] at hP hD
    refine lv_aload_n hx hb dX0_add_26 rfl (lv_at hl 1 rfl) ?_
    refine va_get (D := D) (ci := 0) (v := .ref (a 1)) (C := RX0) (T := TX0) (N := 8) hx hb hts hinX0 hown hK hP 0 rfl rfl 0 (by decide) hf9 (fun _ h9 => h9) rfl dX0_add_27 ?_
    refine lv_iload_n hx hb dX0_add_30 rfl (lv_at hl 0 rfl) ?_
    refine lv_iload_n hx hb dX0_add_31 rfl (lv_at hl 2 rfl) ?_
    have hi32 := hw.1
    have hw := hw.2
    refine va_iast (f := (g_HL_crates z2)) (n := 20) (x := p1) hx hb hK hP hD hS 1 0 rfl rfl hi32 dX0_add_32 (fun H locs hP hD hS => ?_)
    have hP : va_P D vwCl (ws_HL cs a (s_HL_crates z2 (upd (g_HL_crates z2) ((g_HL_count σ)).toNatClampNeg p1))) H := hP
    have hD : va_D A (ws_HL cs a (s_HL_crates z2 (upd (g_HL_crates z2) ((g_HL_count σ)).toNatClampNeg p1))) := hD
    obtain ⟨z3, ez3⟩ : ∃ z : HL, z = (s_HL_crates z2 (upd (g_HL_crates z2) ((g_HL_count σ)).toNatClampNeg p1)) := ⟨_, rfl⟩
    have hw := hw z3 ez3
    rw [← ez3] at hP hD
    refine lv_aload_n hx hb dX0_add_33 rfl (lv_at hl 1 rfl) ?_
    refine va_get (D := D) (ci := 0) (v := .ref (a 2)) (C := RX0) (T := TX0) (N := 8) hx hb hts hinX0 hown hK hP 0 rfl rfl 1 (by decide) hf15 (fun _ h9 => h9) rfl dX0_add_34 ?_
    refine lv_iload_n hx hb dX0_add_37 rfl (lv_at hl 0 rfl) ?_
    refine lv_iload_n hx hb dX0_add_38 rfl (lv_at hl 3 rfl) ?_
    have hi39 := hw.1
    have hw := hw.2
    refine va_iast (f := (g_HL_lastDays z3)) (n := 20) (x := p2) hx hb hK hP hD hS 2 0 rfl rfl hi39 dX0_add_39 (fun H locs hP hD hS => ?_)
    have hP : va_P D vwCl (ws_HL cs a (s_HL_lastDays z3 (upd (g_HL_lastDays z3) ((g_HL_count σ)).toNatClampNeg p2))) H := hP
    have hD : va_D A (ws_HL cs a (s_HL_lastDays z3 (upd (g_HL_lastDays z3) ((g_HL_count σ)).toNatClampNeg p2))) := hD
    obtain ⟨z4, ez4⟩ : ∃ z : HL, z = (s_HL_lastDays z3 (upd (g_HL_lastDays z3) ((g_HL_count σ)).toNatClampNeg p2)) := ⟨_, rfl⟩
    have hw := hw z4 ez4
    rw [← ez4] at hP hD
    refine lv_aload_n hx hb dX0_add_40 rfl (lv_at hl 1 rfl) ?_
    refine va_get (D := D) (ci := 0) (v := .ref (a 3)) (C := RX0) (T := TX0) (N := 8) hx hb hts hinX0 hown hK hP 0 rfl rfl 2 (by decide) hf18 (fun _ h9 => h9) rfl dX0_add_41 ?_
    refine lv_iload_n hx hb dX0_add_44 rfl (lv_at hl 0 rfl) ?_
    refine lv_iconst (v := (0 : Int32)) hx hb dX0_add_45 (by decide) ?_
    have hi46 := hw.1
    have hw := hw.2
    refine va_iast (f := (g_HL_states z4)) (n := 20) (x := (0 : Int32)) hx hb hK hP hD hS 3 0 rfl rfl hi46 dX0_add_46 (fun H locs hP hD hS => ?_)
    have hP : va_P D vwCl (ws_HL cs a (s_HL_states z4 (upd (g_HL_states z4) ((g_HL_count σ)).toNatClampNeg (0 : Int32)))) H := hP
    have hD : va_D A (ws_HL cs a (s_HL_states z4 (upd (g_HL_states z4) ((g_HL_count σ)).toNatClampNeg (0 : Int32)))) := hD
    obtain ⟨z5, ez5⟩ : ∃ z : HL, z = (s_HL_states z4 (upd (g_HL_states z4) ((g_HL_count σ)).toNatClampNeg (0 : Int32))) := ⟨_, rfl⟩
    have hw := hw z5 ez5
    rw [← ez5] at hP hD
    refine lv_iload_n hx hb dX0_add_47 rfl (lv_at hl 0 rfl) ?_
    exact rI (wf := (ws_HL cs a)) (u := z5) hx hb hr hlocks hK hP hD hS hw dX0_add_48
  · have hw := hw.2 c6
    refine lv_iconst (v := (-1 : Int32)) hx hb dX0_add_9 (by decide) ?_
    exact rI (wf := (ws_HL cs a)) (u := σ) hx hb hr hlocks hK hP hD hS hw dX0_add_10
abbrev rm_H_isPlaceForBid : Room := { frames := 0, cells := 0, slots := 0, locals := 0 }
set_option maxHeartbeats 4000000 in
set_option maxRecDepth 100000 in
theorem c_H_isPlaceForBid (l : Launch) (D : va_G) (cs : CS) (a : Nat → Nat) (sz : Nat) (σ : HL) (p1 : Int32) (p2 : Int32) {Φ : Int32 → HL → Prop} (hw : w_H_isPlaceForBid σ p1 p2 Φ) : Met l yX0_isPlaceForBid wsX0_isPlaceForBid rm_H_isPlaceForBid (PcG [.ref (a 0), .int p1, .int p2] D cs (ws_HL cs a σ) sz) (va_Qi Φ (BG D cs (va_A (ws_HL cs a σ) sz) sz (ws_HL cs a)) (va_A (ws_HL cs a σ) sz)) 0 0 (va_A (ws_HL cs a σ) sz) := by
  refine Met.ofW (cc := cX0_isPlaceForBid) (maxL := 3) (ret := (some .boolean)) (by decide) rfl ?_
  intro p e s m args below meth c s₁ B hml hv
  obtain ⟨rfl, hsz, hP, hK, hD0⟩ := hv
  have hx := B.exec
  have hb := B.bytes
  have hr := B.returns
  have hts := atoms_spec (ws := wsX0_isPlaceForBid) B.pre
  have hown : s.vm.findClass RX0 = some m.cls := findClass_of_methodNamed B.named
  have hlocks := B.notSynchronized
  subst hsz
  have hD := hD0.self (sz := s.heap.size)
  generalize hAe : va_A (ws_HL cs a σ) s.heap.size = A at hD ⊢
  have hA : ∀ q : Nat, s.heap.size ≤ q → A q := fun q h => by rw [← hAe]; exact Or.inr h
  have hS : va_S A s.heap s.heap [] := va_S.rf
  have hf27 : (Cond.fieldLink RX0 27 "CraneYard$Hauls" "count" "I").before ([.ref (a 0), .int p1, .int p2] : List Value).toArray s = true := hts _ (List.mem_of_getElem? (i := 1) rfl)
  have hinX0 : ∀ w ∈ wsX00, w ∈ wsX0_isPlaceForBid := fun _ h => List.mem_cons_of_mem _ (List.mem_append_right _ h)
  have hP : va_P D vwCl (ws_HL cs a σ) s.heap := hP
  have B26 : ∀ (t0 : Int32) (σ : HL), b_H_isPlaceForBid_26 Φ t0 σ → At p l e (headSpec wsX0_isPlaceForBid rm_H_isPlaceForBid).room s m ([.ref (a 0), .int p1, .int p2] : List Value).toArray below meth c (MQ below (va_Qi Φ (BG D cs A s.heap.size (ws_HL cs a)) A) ([.ref (a 0), .int p1, .int p2] : List Value).toArray s 0 0 A) D A 3 [] (ws_HL cs a σ) 26 [.int t0] := by
    intro t0 σ hw H locs ls hl hP hD hS
    unfold b_H_isPlaceForBid_26 at hw
    exact rZ (wf := (ws_HL cs a)) (u := σ) hx hb hr hlocks hK hP hD hS hw dX0_isPlaceForBid_26
  have B25 : ∀ (σ : HL), b_H_isPlaceForBid_25 Φ σ → At p l e (headSpec wsX0_isPlaceForBid rm_H_isPlaceForBid).room s m ([.ref (a 0), .int p1, .int p2] : List Value).toArray below meth c (MQ below (va_Qi Φ (BG D cs A s.heap.size (ws_HL cs a)) A) ([.ref (a 0), .int p1, .int p2] : List Value).toArray s 0 0 A) D A 3 [] (ws_HL cs a σ) 25 [] := by
    intro σ hw H locs ls hl hP hD hS
    unfold b_H_isPlaceForBid_25 at hw
    refine lv_iconst (v := (0 : Int32)) hx hb dX0_isPlaceForBid_25 (by decide) ?_
    exact B26 _ _ hw _ _ ls (lv_sub hl [] rfl) hP hD hS
  have hl := lv_entry ([.ref (a 0), .int p1, .int p2]) (n := 3) (Nat.le_of_ble_eq_true rfl)
  rw [lg_entry_eq]
  generalize (lg_sl ([.ref (a 0), .int p1, .int p2]) ++ List.replicate (3 - (lg_sl ([.ref (a 0), .int p1, .int p2])).length) Slot.unset).toArray = ls at hl ⊢
  have hl : lv_has ls 3 [(0, .ref (a 0)), (1, .int p1), (2, .int p2)] := hl
  unfold w_H_isPlaceForBid at hw
  refine lv_iload_n hx hb dX0_isPlaceForBid_0 rfl (lv_at hl 1 rfl) ?_
  refine lv_if_lt (tgt := 25) hx hb dX0_isPlaceForBid_1 (by decide) (fun c1 => ?_) (fun c1 => ?_)
  · have hw := hw.1 c1
    exact B25 _ hw _ _ ls (lv_sub hl [] rfl) hP hD hS
  · have hw := hw.2 c1
    refine lv_iload_n hx hb dX0_isPlaceForBid_4 rfl (lv_at hl 1 rfl) ?_
    refine lv_aload_n hx hb dX0_isPlaceForBid_5 rfl (lv_at hl 0 rfl) ?_
    refine va_get (D := D) (ci := 0) (v := .int (g_HL_count σ)) (C := RX0) (T := TX0) (N := 8) hx hb hts hinX0 hown hK hP 0 rfl rfl 5 (by decide) hf27 (fun _ h9 => h9) rfl dX0_isPlaceForBid_6 ?_
    refine lv_icmp_ge (tgt := 25) hx hb dX0_isPlaceForBid_9 (by decide) (fun c9 => ?_) (fun c9 => ?_)
    · have hw := hw.1 c9
      exact B25 _ hw _ _ ls (lv_sub hl [] rfl) hP hD hS
    · have hw := hw.2 c9
      refine lv_iload_n hx hb dX0_isPlaceForBid_12 rfl (lv_at hl 2 rfl) ?_
      refine lv_if_lt (tgt := 25) hx hb dX0_isPlaceForBid_13 (by decide) (fun c13 => ?_) (fun c13 => ?_)
      · have hw := hw.1 c13
        exact B25 _ hw _ _ ls (lv_sub hl [] rfl) hP hD hS
      · have hw := hw.2 c13
        refine lv_iload_n hx hb dX0_isPlaceForBid_16 rfl (lv_at hl 2 rfl) ?_
        refine lv_iconst (v := (4 : Int32)) hx hb dX0_isPlaceForBid_17 (by decide) ?_
        refine lv_icmp_ge (tgt := 25) hx hb dX0_isPlaceForBid_18 (by decide) (fun c18 => ?_) (fun c18 => ?_)
        · have hw := hw.1 c18
          exact B25 _ hw _ _ ls (lv_sub hl [] rfl) hP hD hS
        · have hw := hw.2 c18
          refine lv_iconst (v := (1 : Int32)) hx hb dX0_isPlaceForBid_21 (by decide) ?_
          refine lv_goto (tgt := 26) hx hb dX0_isPlaceForBid_22 (by decide) ?_
          exact B26 _ _ hw _ _ ls (lv_sub hl [] rfl) hP hD hS
abbrev rm_H_priceAsked : Room := { frames := 1, cells := 0, slots := 0, locals := 22 }
set_option maxHeartbeats 4000000 in
set_option maxRecDepth 100000 in
theorem c_H_priceAsked (l : Launch) (D : va_G) (cs : CS) (a : Nat → Nat) (sz : Nat) (σ : HL) (p1 : Int32) (p2 : Int32) {Φ : Int32 → HL → Prop} (hw : w_H_priceAsked σ p1 p2 Φ) : Met l yX0_priceAsked wsX0_priceAsked rm_H_priceAsked (PcG [.ref (a 0), .int p1, .int p2] D cs (ws_HL cs a σ) sz) (va_Qi Φ (BG D cs (va_A (ws_HL cs a σ) sz) sz (ws_HL cs a)) (va_A (ws_HL cs a σ) sz)) 0 0 (va_A (ws_HL cs a σ) sz) := by
  refine Met.ofW (cc := cX0_priceAsked) (maxL := 3) (ret := (some .int)) (by decide) rfl ?_
  intro p e s m args below meth c s₁ B hml hv
  obtain ⟨rfl, hsz, hP, hK, hD0⟩ := hv
  have hx := B.exec
  have hb := B.bytes
  have hr := B.returns
  have hts := atoms_spec (ws := wsX0_priceAsked) B.pre
  have hown : s.vm.findClass RX0 = some m.cls := findClass_of_methodNamed B.named
  have hlocks := B.notSynchronized
  subst hsz
  have hD := hD0.self (sz := s.heap.size)
  generalize hAe : va_A (ws_HL cs a σ) s.heap.size = A at hD ⊢
  have hA : ∀ q : Nat, s.heap.size ≤ q → A q := fun q h => by rw [← hAe]; exact Or.inr h
  have hS : va_S A s.heap s.heap [] := va_S.rf
  have hf24 : (Cond.fieldLink RX0 24 "CraneYard$Hauls" "bids" "[I").before ([.ref (a 0), .int p1, .int p2] : List Value).toArray s = true := hts _ (List.mem_of_getElem? (i := 1) rfl)
  have hinX0 : ∀ w ∈ wsX00, w ∈ wsX0_priceAsked := fun _ h => List.mem_cons_of_mem _ (List.mem_append_right _ h)
  have hP : va_P D vwCl (ws_HL cs a σ) s.heap := hP
  have B22 : ∀ (σ : HL), b_H_priceAsked_22 Φ σ → At p l e (headSpec wsX0_priceAsked rm_H_priceAsked).room s m ([.ref (a 0), .int p1, .int p2] : List Value).toArray below meth c (MQ below (va_Qi Φ (BG D cs A s.heap.size (ws_HL cs a)) A) ([.ref (a 0), .int p1, .int p2] : List Value).toArray s 0 0 A) D A 3 [] (ws_HL cs a σ) 22 [] := by
    intro σ hw H locs ls hl hP hD hS
    unfold b_H_priceAsked_22 at hw
    refine lv_iconst (v := (-1 : Int32)) hx hb dX0_priceAsked_22 (by decide) ?_
    exact rI (wf := (ws_HL cs a)) (u := σ) hx hb hr hlocks hK hP hD hS hw dX0_priceAsked_23
  have hl := lv_entry ([.ref (a 0), .int p1, .int p2]) (n := 3) (Nat.le_of_ble_eq_true rfl)
  rw [lg_entry_eq]
  generalize (lg_sl ([.ref (a 0), .int p1, .int p2]) ++ List.replicate (3 - (lg_sl ([.ref (a 0), .int p1, .int p2])).length) Slot.unset).toArray = ls at hl ⊢
  have hl : lv_has ls 3 [(0, .ref (a 0)), (1, .int p1), (2, .int p2)] := hl
  unfold w_H_priceAsked at hw
  refine lv_aload_n hx hb dX0_priceAsked_0 rfl (lv_at hl 0 rfl) ?_
  refine lv_iload_n hx hb dX0_priceAsked_1 rfl (lv_at hl 1 rfl) ?_
  refine lv_iload_n hx hb dX0_priceAsked_2 rfl (lv_at hl 2 rfl) ?_
  refine kVi (As := [.int p1, .int p2]) (rest := []) ⟨hx, hb, hml, hown, hts⟩ (c_H_isPlaceForBid l D cs a _ σ p1 p2 hw) (cwV 2 hts gX0_priceAsked_X0_isPlaceForBid rfl rfl rfl (by decide +kernel) ⟨Nat.le_of_ble_eq_true rfl, Nat.le_of_ble_eq_true rfl⟩) (pt_self_HL cs a σ) hK hP hD hS hA (ci := 0) rfl rfl rfl rfl hl.1 rfl (Nat.le_of_ble_eq_true rfl) dX0_priceAsked_3 ⟨Nat.zero_le _, Nat.zero_le _⟩ (fun r3 u3 H locs hw hP hD hS => ?_)
  have hP : va_P D vwCl (ws_HL cs a u3) H := hP
  have hD : va_D A (ws_HL cs a u3) := hD
  refine lv_if_eq (tgt := 22) hx hb dX0_priceAsked_6 (by decide) (fun c6 => ?_) (fun c6 => ?_)
  · have hw := hw.1 c6
    exact B22 _ hw _ _ ls (lv_sub hl [] rfl) hP hD hS
  · have hw := hw.2 c6
    refine lv_aload_n hx hb dX0_priceAsked_9 rfl (lv_at hl 0 rfl) ?_
    refine va_get (D := D) (ci := 0) (v := .ref (a 5)) (C := RX0) (T := TX0) (N := 8) hx hb hts hinX0 hown hK hP 0 rfl rfl 4 (by decide) hf24 (fun _ h9 => h9) rfl dX0_priceAsked_10 ?_
    refine lv_iload_n hx hb dX0_priceAsked_13 rfl (lv_at hl 1 rfl) ?_
    refine lv_iconst (v := (4 : Int32)) hx hb dX0_priceAsked_14 (by decide) ?_
    refine lv_imul hx hb dX0_priceAsked_15 ?_
    refine lv_iload_n hx hb dX0_priceAsked_16 rfl (lv_at hl 2 rfl) ?_
    refine lv_iadd hx hb dX0_priceAsked_17 ?_
    have hi18 := hw.1
    have hw := hw.2
    refine va_iald (f := (g_HL_bids u3)) (n := 80) hx hb hK hP 5 0 rfl rfl hi18 dX0_priceAsked_18 ?_
    refine lv_if_ne (tgt := 24) hx hb dX0_priceAsked_19 (by decide) (fun c19 => ?_) (fun c19 => ?_)
    · have hw := hw.2 c19
      refine lv_aload_n hx hb dX0_priceAsked_24 rfl (lv_at hl 0 rfl) ?_
      refine va_get (D := D) (ci := 0) (v := .ref (a 5)) (C := RX0) (T := TX0) (N := 8) hx hb hts hinX0 hown hK hP 0 rfl rfl 4 (by decide) hf24 (fun _ h9 => h9) rfl dX0_priceAsked_25 ?_
      refine lv_iload_n hx hb dX0_priceAsked_28 rfl (lv_at hl 1 rfl) ?_
      refine lv_iconst (v := (4 : Int32)) hx hb dX0_priceAsked_29 (by decide) ?_
      refine lv_imul hx hb dX0_priceAsked_30 ?_
      refine lv_iload_n hx hb dX0_priceAsked_31 rfl (lv_at hl 2 rfl) ?_
      refine lv_iadd hx hb dX0_priceAsked_32 ?_
      have hi33 := hw.1
      have hw := hw.2
      refine va_iald (f := (g_HL_bids u3)) (n := 80) hx hb hK hP 5 0 rfl rfl hi33 dX0_priceAsked_33 ?_
      exact rI (wf := (ws_HL cs a)) (u := u3) hx hb hr hlocks hK hP hD hS hw dX0_priceAsked_34
    · have hw := hw.1 c19
      exact B22 _ hw _ _ ls (lv_sub hl [] rfl) hP hD hS
abbrev rm_H_enterBid : Room := { frames := 1, cells := 0, slots := 0, locals := 22 }
set_option maxHeartbeats 4000000 in
set_option maxRecDepth 100000 in
theorem c_H_enterBid (l : Launch) (D : va_G) (cs : CS) (a : Nat → Nat) (sz : Nat) (σ : HL) (p1 : Int32) (p2 : Int32) (p3 : Int32) {Φ : HL → Prop} (hw : w_H_enterBid σ p1 p2 p3 Φ) : Met l yX0_enterBid wsX0_enterBid rm_H_enterBid (PcG [.ref (a 0), .int p1, .int p2, .int p3] D cs (ws_HL cs a σ) sz) (va_Qv Φ (BG D cs (va_A (ws_HL cs a σ) sz) sz (ws_HL cs a)) (va_A (ws_HL cs a σ) sz)) 0 0 (va_A (ws_HL cs a σ) sz) := by
  refine Met.ofW (cc := cX0_enterBid) (maxL := 4) (ret := none) (by decide) rfl ?_
  intro p e s m args below meth c s₁ B hml hv
  obtain ⟨rfl, hsz, hP, hK, hD0⟩ := hv
  have hx := B.exec
  have hb := B.bytes
  have hr := B.returns
  have hts := atoms_spec (ws := wsX0_enterBid) B.pre
  have hown : s.vm.findClass RX0 = some m.cls := findClass_of_methodNamed B.named
  have hlocks := B.notSynchronized
  subst hsz
  have hD := hD0.self (sz := s.heap.size)
  generalize hAe : va_A (ws_HL cs a σ) s.heap.size = A at hD ⊢
  have hA : ∀ q : Nat, s.heap.size ≤ q → A q := fun q h => by rw [← hAe]; exact Or.inr h
  have hS : va_S A s.heap s.heap [] := va_S.rf
  have hf24 : (Cond.fieldLink RX0 24 "CraneYard$Hauls" "bids" "[I").before ([.ref (a 0), .int p1, .int p2, .int p3] : List Value).toArray s = true := hts _ (List.mem_of_getElem? (i := 1) rfl)
  have hinX0 : ∀ w ∈ wsX00, w ∈ wsX0_enterBid := fun _ h => List.mem_cons_of_mem _ (List.mem_append_right _ h)
  have hP : va_P D vwCl (ws_HL cs a σ) s.heap := hP
  have B20 : ∀ (σ : HL), b_H_enterBid_20 Φ σ → At p l e (headSpec wsX0_enterBid rm_H_enterBid).room s m ([.ref (a 0), .int p1, .int p2, .int p3] : List Value).toArray below meth c (MQ below (va_Qv Φ (BG D cs A s.heap.size (ws_HL cs a)) A) ([.ref (a 0), .int p1, .int p2, .int p3] : List Value).toArray s 0 0 A) D A 4 [] (ws_HL cs a σ) 20 [] := by
    intro σ hw H locs ls hl hP hD hS
    unfold b_H_enterBid_20 at hw
    exact rV (wf := (ws_HL cs a)) (u := σ) hx hb hr hlocks hK hP hD hS hw dX0_enterBid_20
  have hl := lv_entry ([.ref (a 0), .int p1, .int p2, .int p3]) (n := 4) (Nat.le_of_ble_eq_true rfl)
  rw [lg_entry_eq]
  generalize (lg_sl ([.ref (a 0), .int p1, .int p2, .int p3]) ++ List.replicate (4 - (lg_sl ([.ref (a 0), .int p1, .int p2, .int p3])).length) Slot.unset).toArray = ls at hl ⊢
  have hl : lv_has ls 4 [(0, .ref (a 0)), (1, .int p1), (2, .int p2), (3, .int p3)] := hl
  unfold w_H_enterBid at hw
  refine lv_aload_n hx hb dX0_enterBid_0 rfl (lv_at hl 0 rfl) ?_
  refine lv_iload_n hx hb dX0_enterBid_1 rfl (lv_at hl 1 rfl) ?_
  refine lv_iload_n hx hb dX0_enterBid_2 rfl (lv_at hl 2 rfl) ?_
  refine kVi (As := [.int p1, .int p2]) (rest := []) ⟨hx, hb, hml, hown, hts⟩ (c_H_isPlaceForBid l D cs a _ σ p1 p2 hw) (cwV 2 hts gX0_enterBid_X0_isPlaceForBid rfl rfl rfl (by decide +kernel) ⟨Nat.le_of_ble_eq_true rfl, Nat.le_of_ble_eq_true rfl⟩) (pt_self_HL cs a σ) hK hP hD hS hA (ci := 0) rfl rfl rfl rfl hl.1 rfl (Nat.le_of_ble_eq_true rfl) dX0_enterBid_3 ⟨Nat.zero_le _, Nat.zero_le _⟩ (fun r3 u3 H locs hw hP hD hS => ?_)
  have hP : va_P D vwCl (ws_HL cs a u3) H := hP
  have hD : va_D A (ws_HL cs a u3) := hD
  refine lv_if_eq (tgt := 20) hx hb dX0_enterBid_6 (by decide) (fun c6 => ?_) (fun c6 => ?_)
  · have hw := hw.1 c6
    exact B20 _ hw _ _ ls (lv_sub hl [] rfl) hP hD hS
  · have hw := hw.2 c6
    refine lv_aload_n hx hb dX0_enterBid_9 rfl (lv_at hl 0 rfl) ?_
    refine va_get (D := D) (ci := 0) (v := .ref (a 5)) (C := RX0) (T := TX0) (N := 8) hx hb hts hinX0 hown hK hP 0 rfl rfl 4 (by decide) hf24 (fun _ h9 => h9) rfl dX0_enterBid_10 ?_
    refine lv_iload_n hx hb dX0_enterBid_13 rfl (lv_at hl 1 rfl) ?_
    refine lv_iconst (v := (4 : Int32)) hx hb dX0_enterBid_14 (by decide) ?_
    refine lv_imul hx hb dX0_enterBid_15 ?_
    refine lv_iload_n hx hb dX0_enterBid_16 rfl (lv_at hl 2 rfl) ?_
    refine lv_iadd hx hb dX0_enterBid_17 ?_
    refine lv_iload_n hx hb dX0_enterBid_18 rfl (lv_at hl 3 rfl) ?_
    have hi19 := hw.1
    have hw := hw.2
    refine va_iast (f := (g_HL_bids u3)) (n := 80) (x := p3) hx hb hK hP hD hS 5 0 rfl rfl hi19 dX0_enterBid_19 (fun H locs hP hD hS => ?_)
    have hP : va_P D vwCl (ws_HL cs a (s_HL_bids u3 (upd (g_HL_bids u3) (((p1 * (4 : Int32)) + p2)).toNatClampNeg p3))) H := hP
    have hD : va_D A (ws_HL cs a (s_HL_bids u3 (upd (g_HL_bids u3) (((p1 * (4 : Int32)) + p2)).toNatClampNeg p3))) := hD
    obtain ⟨z1, ez1⟩ : ∃ z : HL, z = (s_HL_bids u3 (upd (g_HL_bids u3) (((p1 * (4 : Int32)) + p2)).toNatClampNeg p3)) := ⟨_, rfl⟩
    have hw := hw z1 ez1
    rw [← ez1] at hP hD
    exact B20 _ hw H locs ls (lv_sub hl [] rfl) hP hD hS
abbrev rm_H_cheapestHaulier : Room := { frames := 2, cells := 0, slots := 0, locals := 44 }
set_option maxHeartbeats 4000000 in
set_option maxRecDepth 100000 in
theorem c_H_cheapestHaulier (l : Launch) (D : va_G) (cs : CS) (a : Nat → Nat) (sz : Nat) (σ : HL) (p1 : Int32) {Φ : Int32 → HL → Prop} (hw : w_H_cheapestHaulier σ p1 Φ) : Met l yX0_cheapestHaulier wsX0_cheapestHaulier rm_H_cheapestHaulier (PcG [.ref (a 0), .int p1] D cs (ws_HL cs a σ) sz) (va_Qi Φ (BG D cs (va_A (ws_HL cs a σ) sz) sz (ws_HL cs a)) (va_A (ws_HL cs a σ) sz)) 0 0 (va_A (ws_HL cs a σ) sz) := by
  refine Met.ofW (cc := cX0_cheapestHaulier) (maxL := 5) (ret := (some .int)) (by decide) rfl ?_
  intro p e s m args below meth c s₁ B hml hv
  obtain ⟨rfl, hsz, hP, hK, hD0⟩ := hv
  have hx := B.exec
  have hb := B.bytes
  have hr := B.returns
  have hts := atoms_spec (ws := wsX0_cheapestHaulier) B.pre
  have hown : s.vm.findClass RX0 = some m.cls := findClass_of_methodNamed B.named
  have hlocks := B.notSynchronized
  subst hsz
  have hD := hD0.self (sz := s.heap.size)
  generalize hAe : va_A (ws_HL cs a σ) s.heap.size = A at hD ⊢
  have hA : ∀ q : Nat, s.heap.size ≤ q → A q := fun q h => by rw [← hAe]; exact Or.inr h
  have hS : va_S A s.heap s.heap [] := va_S.rf
  have hP : va_P D vwCl (ws_HL cs a σ) s.heap := hP
  have B41 : ∀ (K4 : (Int32 → Int32 → Int32 → HL → Prop)) (hK4 : ∀ (x1 : Int32) (x2 : Int32) (x3 : Int32) (σ : HL), K4 x1 x2 x3 σ → At p l e (headSpec wsX0_cheapestHaulier rm_H_cheapestHaulier).room s m ([.ref (a 0), .int p1] : List Value).toArray below meth c (MQ below (va_Qi Φ (BG D cs A s.heap.size (ws_HL cs a)) A) ([.ref (a 0), .int p1] : List Value).toArray s 0 0 A) D A 5 [(0, .ref (a 0)), (1, .int x1), (2, .int x2), (3, .int x3)] (ws_HL cs a σ) 4 []) (x1 : Int32) (x2 : Int32) (x3 : Int32) (σ : HL), b_H_cheapestHaulier_41 K4 Φ x1 x2 x3 σ → At p l e (headSpec wsX0_cheapestHaulier rm_H_cheapestHaulier).room s m ([.ref (a 0), .int p1] : List Value).toArray below meth c (MQ below (va_Qi Φ (BG D cs A s.heap.size (ws_HL cs a)) A) ([.ref (a 0), .int p1] : List Value).toArray s 0 0 A) D A 5 [(0, .ref (a 0)), (1, .int x1), (2, .int x2), (3, .int x3)] (ws_HL cs a σ) 41 [] := by
    intro K4 hK4 x1 x2 x3 σ hw H locs ls hl hP hD hS
    unfold b_H_cheapestHaulier_41 at hw
    refine lv_iinc (v := (x3 + (1 : Int32))) (lv' := [(3, .int (x3 + (1 : Int32))), (0, .ref (a 0)), (1, .int x1), (2, .int x2)]) hx hb dX0_cheapestHaulier_41 hl (k := 3) rfl rfl (by decide) rfl (fun ls hl => ?_)
    refine lv_goto (tgt := 4) hx hb dX0_cheapestHaulier_44 (by decide) ?_
    exact hK4 _ _ _ _ hw _ _ ls (lv_sub hl [1, 2, 3, 0] rfl) hP hD hS
  have B39 : ∀ (K4 : (Int32 → Int32 → Int32 → HL → Prop)) (hK4 : ∀ (x1 : Int32) (x2 : Int32) (x3 : Int32) (σ : HL), K4 x1 x2 x3 σ → At p l e (headSpec wsX0_cheapestHaulier rm_H_cheapestHaulier).room s m ([.ref (a 0), .int p1] : List Value).toArray below meth c (MQ below (va_Qi Φ (BG D cs A s.heap.size (ws_HL cs a)) A) ([.ref (a 0), .int p1] : List Value).toArray s 0 0 A) D A 5 [(0, .ref (a 0)), (1, .int x1), (2, .int x2), (3, .int x3)] (ws_HL cs a σ) 4 []) (x1 : Int32) (x3 : Int32) (σ : HL), b_H_cheapestHaulier_39 K4 Φ x1 x3 σ → At p l e (headSpec wsX0_cheapestHaulier rm_H_cheapestHaulier).room s m ([.ref (a 0), .int p1] : List Value).toArray below meth c (MQ below (va_Qi Φ (BG D cs A s.heap.size (ws_HL cs a)) A) ([.ref (a 0), .int p1] : List Value).toArray s 0 0 A) D A 5 [(0, .ref (a 0)), (1, .int x1), (3, .int x3)] (ws_HL cs a σ) 39 [] := by
    intro K4 hK4 x1 x3 σ hw H locs ls hl hP hD hS
    unfold b_H_cheapestHaulier_39 at hw
    refine lv_iload_n hx hb dX0_cheapestHaulier_39 rfl (lv_at hl 2 rfl) ?_
    refine lv_istore_n (lv' := [(2, .int x3), (0, .ref (a 0)), (1, .int x1), (3, .int x3)]) hx hb dX0_cheapestHaulier_40 rfl hl (by decide) rfl (fun ls hl => ?_)
    exact B41 _ hK4 _ _ _ _ hw _ _ ls (lv_sub hl [1, 2, 0, 3] rfl) hP hD hS
  have B4 : ∀ (n : Nat) (x1 : Int32) (x2 : Int32) (x3 : Int32) (σ : HL), it4 (b_H_cheapestHaulier_4 Φ) n x1 x2 x3 σ → At p l e (headSpec wsX0_cheapestHaulier rm_H_cheapestHaulier).room s m ([.ref (a 0), .int p1] : List Value).toArray below meth c (MQ below (va_Qi Φ (BG D cs A s.heap.size (ws_HL cs a)) A) ([.ref (a 0), .int p1] : List Value).toArray s 0 0 A) D A 5 [(0, .ref (a 0)), (1, .int x1), (2, .int x2), (3, .int x3)] (ws_HL cs a σ) 4 [] := by
    intro n
    induction n with
    | zero => intro x1 x2 x3 σ hw; exact absurd hw id
    | succ n ih =>
      intro x1 x2 x3 σ hw H locs ls hl hP hD hS
      have hw : b_H_cheapestHaulier_4 Φ (it4 (b_H_cheapestHaulier_4 Φ) n) x1 x2 x3 σ := hw
      unfold b_H_cheapestHaulier_4 at hw
      refine lv_iload_n hx hb dX0_cheapestHaulier_4 rfl (lv_at hl 3 rfl) ?_
      refine lv_iconst (v := (4 : Int32)) hx hb dX0_cheapestHaulier_5 (by decide) ?_
      refine lv_icmp_ge (tgt := 47) hx hb dX0_cheapestHaulier_6 (by decide) (fun c6 => ?_) (fun c6 => ?_)
      · have hw := hw.1 c6
        refine lv_iload_n hx hb dX0_cheapestHaulier_47 rfl (lv_at hl 2 rfl) ?_
        exact rI (wf := (ws_HL cs a)) (u := σ) hx hb hr hlocks hK hP hD hS hw dX0_cheapestHaulier_48
      · have hw := hw.2 c6
        refine lv_aload_n hx hb dX0_cheapestHaulier_9 rfl (lv_at hl 0 rfl) ?_
        refine lv_iload_n hx hb dX0_cheapestHaulier_10 rfl (lv_at hl 1 rfl) ?_
        refine lv_iload_n hx hb dX0_cheapestHaulier_11 rfl (lv_at hl 3 rfl) ?_
        refine kVi (As := [.int x1, .int x3]) (rest := []) ⟨hx, hb, hml, hown, hts⟩ (c_H_priceAsked l D cs a _ σ x1 x3 hw) (cwV 2 hts gX0_cheapestHaulier_X0_priceAsked rfl rfl rfl (by decide +kernel) ⟨Nat.le_of_ble_eq_true rfl, Nat.le_of_ble_eq_true rfl⟩) (pt_self_HL cs a σ) hK hP hD hS hA (ci := 0) rfl rfl rfl rfl hl.1 rfl (Nat.le_of_ble_eq_true rfl) dX0_cheapestHaulier_12 ⟨Nat.zero_le _, Nat.zero_le _⟩ (fun r12 u12 H locs hw hP hD hS => ?_)
        have hP : va_P D vwCl (ws_HL cs a u12) H := hP
        have hD : va_D A (ws_HL cs a u12) := hD
        refine lv_istore (lv' := [(4, .int r12), (0, .ref (a 0)), (1, .int x1), (2, .int x2), (3, .int x3)]) hx hb dX0_cheapestHaulier_15 hl (by decide) rfl (fun ls hl => ?_)
        refine lv_iload hx hb dX0_cheapestHaulier_17 (lv_at hl 0 rfl) ?_
        refine lv_iconst (v := (-1 : Int32)) hx hb dX0_cheapestHaulier_19 (by decide) ?_
        refine lv_icmp_eq (tgt := 41) hx hb dX0_cheapestHaulier_20 (by decide) (fun c20 => ?_) (fun c20 => ?_)
        · have hw := hw.1 c20
          exact B41 _ ih _ _ _ _ hw _ _ ls (lv_sub hl [1, 2, 3, 4] rfl) hP hD hS
        · have hw := hw.2 c20
          refine lv_iload_n hx hb dX0_cheapestHaulier_23 rfl (lv_at hl 3 rfl) ?_
          refine lv_iconst (v := (-1 : Int32)) hx hb dX0_cheapestHaulier_24 (by decide) ?_
          refine lv_icmp_eq (tgt := 39) hx hb dX0_cheapestHaulier_25 (by decide) (fun c25 => ?_) (fun c25 => ?_)
          · have hw := hw.1 c25
            exact B39 _ ih _ _ _ hw _ _ ls (lv_sub hl [1, 2, 4] rfl) hP hD hS
          · have hw := hw.2 c25
            refine lv_iload hx hb dX0_cheapestHaulier_28 (lv_at hl 0 rfl) ?_
            refine lv_aload_n hx hb dX0_cheapestHaulier_30 rfl (lv_at hl 1 rfl) ?_
            refine lv_iload_n hx hb dX0_cheapestHaulier_31 rfl (lv_at hl 2 rfl) ?_
            refine lv_iload_n hx hb dX0_cheapestHaulier_32 rfl (lv_at hl 3 rfl) ?_
            refine kVi (As := [.int x1, .int x2]) (rest := [.int r12]) ⟨hx, hb, hml, hown, hts⟩ (c_H_priceAsked l D cs a _ u12 x1 x2 hw) (cwV 2 hts gX0_cheapestHaulier_X0_priceAsked rfl rfl rfl (by decide +kernel) ⟨Nat.le_of_ble_eq_true rfl, Nat.le_of_ble_eq_true rfl⟩) (pt_self_HL cs a u12) hK hP hD hS hA (ci := 0) rfl rfl rfl rfl hl.1 rfl (Nat.le_of_ble_eq_true rfl) dX0_cheapestHaulier_33 ⟨Nat.zero_le _, Nat.zero_le _⟩ (fun r33 u33 H locs hw hP hD hS => ?_)
            have hP : va_P D vwCl (ws_HL cs a u33) H := hP
            have hD : va_D A (ws_HL cs a u33) := hD
            refine lv_icmp_ge (tgt := 41) hx hb dX0_cheapestHaulier_36 (by decide) (fun c36 => ?_) (fun c36 => ?_)
            · have hw := hw.1 c36
              exact B41 _ ih _ _ _ _ hw _ _ ls (lv_sub hl [1, 2, 3, 4] rfl) hP hD hS
            · have hw := hw.2 c36
              exact B39 _ ih _ _ _ hw _ _ ls (lv_sub hl [1, 2, 4] rfl) hP hD hS
  have hl := lv_entry ([.ref (a 0), .int p1]) (n := 5) (Nat.le_of_ble_eq_true rfl)
  rw [lg_entry_eq]
  generalize (lg_sl ([.ref (a 0), .int p1]) ++ List.replicate (5 - (lg_sl ([.ref (a 0), .int p1])).length) Slot.unset).toArray = ls at hl ⊢
  have hl : lv_has ls 5 [(0, .ref (a 0)), (1, .int p1)] := hl
  unfold w_H_cheapestHaulier at hw
  refine lv_iconst (v := (-1 : Int32)) hx hb dX0_cheapestHaulier_0 (by decide) ?_
  refine lv_istore_n (lv' := [(2, .int (-1 : Int32)), (0, .ref (a 0)), (1, .int p1)]) hx hb dX0_cheapestHaulier_1 rfl hl (by decide) rfl (fun ls hl => ?_)
  refine lv_iconst (v := (0 : Int32)) hx hb dX0_cheapestHaulier_2 (by decide) ?_
  refine lv_istore_n (lv' := [(3, .int (0 : Int32)), (2, .int (-1 : Int32)), (0, .ref (a 0)), (1, .int p1)]) hx hb dX0_cheapestHaulier_3 rfl hl (by decide) rfl (fun ls hl => ?_)
  obtain ⟨n, hw⟩ := hw
  exact B4 n _ _ _ _ hw _ _ ls (lv_sub hl [2, 3, 1, 0] rfl) hP hD hS
abbrev rm_H_giveTo : Room := { frames := 2, cells := 0, slots := 0, locals := 44 }
set_option maxHeartbeats 4000000 in
set_option maxRecDepth 100000 in
theorem c_H_giveTo (l : Launch) (D : va_G) (cs : CS) (a : Nat → Nat) (sz : Nat) (σ : HL) (p1 : Int32) (p2 : Int32) {Φ : HL → Prop} (hw : w_H_giveTo σ p1 p2 Φ) : Met l yX0_giveTo wsX0_giveTo rm_H_giveTo (PcG [.ref (a 0), .int p1, .int p2] D cs (ws_HL cs a σ) sz) (va_Qv Φ (BG D cs (va_A (ws_HL cs a σ) sz) sz (ws_HL cs a)) (va_A (ws_HL cs a σ) sz)) 0 0 (va_A (ws_HL cs a σ) sz) := by
  refine Met.ofW (cc := cX0_giveTo) (maxL := 3) (ret := none) (by decide) rfl ?_
  intro p e s m args below meth c s₁ B hml hv
  obtain ⟨rfl, hsz, hP, hK, hD0⟩ := hv
  have hx := B.exec
  have hb := B.bytes
  have hr := B.returns
  have hts := atoms_spec (ws := wsX0_giveTo) B.pre
  have hown : s.vm.findClass RX0 = some m.cls := findClass_of_methodNamed B.named
  have hlocks := B.notSynchronized
  subst hsz
  have hD := hD0.self (sz := s.heap.size)
  generalize hAe : va_A (ws_HL cs a σ) s.heap.size = A at hD ⊢
  have hA : ∀ q : Nat, s.heap.size ≤ q → A q := fun q h => by rw [← hAe]; exact Or.inr h
  have hS : va_S A s.heap s.heap [] := va_S.rf
  have hf18 : (Cond.fieldLink RX0 18 "CraneYard$Hauls" "states" "[I").before ([.ref (a 0), .int p1, .int p2] : List Value).toArray s = true := hts _ (List.mem_of_getElem? (i := 1) rfl)
  have hf21 : (Cond.fieldLink RX0 21 "CraneYard$Hauls" "prices" "[I").before ([.ref (a 0), .int p1, .int p2] : List Value).toArray s = true := hts _ (List.mem_of_getElem? (i := 2) rfl)
  have hinX0 : ∀ w ∈ wsX00, w ∈ wsX0_giveTo := fun _ h => List.mem_cons_of_mem _ (List.mem_append_right _ h)
  have hP : va_P D vwCl (ws_HL cs a σ) s.heap := hP
  have B28 : ∀ (σ : HL), b_H_giveTo_28 Φ σ → At p l e (headSpec wsX0_giveTo rm_H_giveTo).room s m ([.ref (a 0), .int p1, .int p2] : List Value).toArray below meth c (MQ below (va_Qv Φ (BG D cs A s.heap.size (ws_HL cs a)) A) ([.ref (a 0), .int p1, .int p2] : List Value).toArray s 0 0 A) D A 3 [] (ws_HL cs a σ) 28 [] := by
    intro σ hw H locs ls hl hP hD hS
    unfold b_H_giveTo_28 at hw
    exact rV (wf := (ws_HL cs a)) (u := σ) hx hb hr hlocks hK hP hD hS hw dX0_giveTo_28
  have hl := lv_entry ([.ref (a 0), .int p1, .int p2]) (n := 3) (Nat.le_of_ble_eq_true rfl)
  rw [lg_entry_eq]
  generalize (lg_sl ([.ref (a 0), .int p1, .int p2]) ++ List.replicate (3 - (lg_sl ([.ref (a 0), .int p1, .int p2])).length) Slot.unset).toArray = ls at hl ⊢
  have hl : lv_has ls 3 [(0, .ref (a 0)), (1, .int p1), (2, .int p2)] := hl
  unfold w_H_giveTo at hw
  refine lv_aload_n hx hb dX0_giveTo_0 rfl (lv_at hl 0 rfl) ?_
  refine lv_iload_n hx hb dX0_giveTo_1 rfl (lv_at hl 1 rfl) ?_
  refine lv_iload_n hx hb dX0_giveTo_2 rfl (lv_at hl 2 rfl) ?_
  refine kVi (As := [.int p1, .int p2]) (rest := []) ⟨hx, hb, hml, hown, hts⟩ (c_H_isPlaceForBid l D cs a _ σ p1 p2 hw) (cwV 2 hts gX0_giveTo_X0_isPlaceForBid rfl rfl rfl (by decide +kernel) ⟨Nat.le_of_ble_eq_true rfl, Nat.le_of_ble_eq_true rfl⟩) (pt_self_HL cs a σ) hK hP hD hS hA (ci := 0) rfl rfl rfl rfl hl.1 rfl (Nat.le_of_ble_eq_true rfl) dX0_giveTo_3 ⟨Nat.zero_le _, Nat.zero_le _⟩ (fun r3 u3 H locs hw hP hD hS => ?_)
  have hP : va_P D vwCl (ws_HL cs a u3) H := hP
  have hD : va_D A (ws_HL cs a u3) := hD
  refine lv_if_eq (tgt := 28) hx hb dX0_giveTo_6 (by decide) (fun c6 => ?_) (fun c6 => ?_)
  · have hw := hw.1 c6
    exact B28 _ hw _ _ ls (lv_sub hl [] rfl) hP hD hS
  · have hw := hw.2 c6
    refine lv_aload_n hx hb dX0_giveTo_9 rfl (lv_at hl 0 rfl) ?_
    refine va_get (D := D) (ci := 0) (v := .ref (a 3)) (C := RX0) (T := TX0) (N := 8) hx hb hts hinX0 hown hK hP 0 rfl rfl 2 (by decide) hf18 (fun _ h9 => h9) rfl dX0_giveTo_10 ?_
    refine lv_iload_n hx hb dX0_giveTo_13 rfl (lv_at hl 1 rfl) ?_
    refine lv_iconst (v := (1 : Int32)) hx hb dX0_giveTo_14 (by decide) ?_
    have hi15 := hw.1
    have hw := hw.2
    refine va_iast (f := (g_HL_states u3)) (n := 20) (x := (1 : Int32)) hx hb hK hP hD hS 3 0 rfl rfl hi15 dX0_giveTo_15 (fun H locs hP hD hS => ?_)
    have hP : va_P D vwCl (ws_HL cs a (s_HL_states u3 (upd (g_HL_states u3) (p1).toNatClampNeg (1 : Int32)))) H := hP
    have hD : va_D A (ws_HL cs a (s_HL_states u3 (upd (g_HL_states u3) (p1).toNatClampNeg (1 : Int32)))) := hD
    obtain ⟨z1, ez1⟩ : ∃ z : HL, z = (s_HL_states u3 (upd (g_HL_states u3) (p1).toNatClampNeg (1 : Int32))) := ⟨_, rfl⟩
    have hw := hw z1 ez1
    rw [← ez1] at hP hD
    refine lv_aload_n hx hb dX0_giveTo_16 rfl (lv_at hl 0 rfl) ?_
    refine va_get (D := D) (ci := 0) (v := .ref (a 4)) (C := RX0) (T := TX0) (N := 8) hx hb hts hinX0 hown hK hP 0 rfl rfl 3 (by decide) hf21 (fun _ h9 => h9) rfl dX0_giveTo_17 ?_
    refine lv_iload_n hx hb dX0_giveTo_20 rfl (lv_at hl 1 rfl) ?_
    refine lv_aload_n hx hb dX0_giveTo_21 rfl (lv_at hl 0 rfl) ?_
    refine lv_iload_n hx hb dX0_giveTo_22 rfl (lv_at hl 1 rfl) ?_
    refine lv_iload_n hx hb dX0_giveTo_23 rfl (lv_at hl 2 rfl) ?_
    refine kVi (As := [.int p1, .int p2]) (rest := [.int p1, .ref (a 4)]) ⟨hx, hb, hml, hown, hts⟩ (c_H_priceAsked l D cs a _ z1 p1 p2 hw) (cwV 2 hts gX0_giveTo_X0_priceAsked rfl rfl rfl (by decide +kernel) ⟨Nat.le_of_ble_eq_true rfl, Nat.le_of_ble_eq_true rfl⟩) (pt_self_HL cs a z1) hK hP hD hS hA (ci := 0) rfl rfl rfl rfl hl.1 rfl (Nat.le_of_ble_eq_true rfl) dX0_giveTo_24 ⟨Nat.zero_le _, Nat.zero_le _⟩ (fun r24 u24 H locs hw hP hD hS => ?_)
    have hP : va_P D vwCl (ws_HL cs a u24) H := hP
    have hD : va_D A (ws_HL cs a u24) := hD
    have hi27 := hw.1
    have hw := hw.2
    refine va_iast (f := (g_HL_prices u24)) (n := 20) (x := r24) hx hb hK hP hD hS 4 0 rfl rfl hi27 dX0_giveTo_27 (fun H locs hP hD hS => ?_)
    have hP : va_P D vwCl (ws_HL cs a (s_HL_prices u24 (upd (g_HL_prices u24) (p1).toNatClampNeg r24))) H := hP
    have hD : va_D A (ws_HL cs a (s_HL_prices u24 (upd (g_HL_prices u24) (p1).toNatClampNeg r24))) := hD
    obtain ⟨z2, ez2⟩ : ∃ z : HL, z = (s_HL_prices u24 (upd (g_HL_prices u24) (p1).toNatClampNeg r24)) := ⟨_, rfl⟩
    have hw := hw z2 ez2
    rw [← ez2] at hP hD
    exact B28 _ hw H locs ls (lv_sub hl [] rfl) hP hD hS
abbrev rm_H_finish : Room := { frames := 0, cells := 0, slots := 0, locals := 0 }
set_option maxHeartbeats 4000000 in
set_option maxRecDepth 100000 in
theorem c_H_finish (l : Launch) (D : va_G) (cs : CS) (a : Nat → Nat) (sz : Nat) (σ : HL) (p1 : Int32) {Φ : Int32 → HL → Prop} (hw : w_H_finish σ p1 Φ) : Met l yX0_finish wsX0_finish rm_H_finish (PcG [.ref (a 0), .int p1] D cs (ws_HL cs a σ) sz) (va_Qi Φ (BG D cs (va_A (ws_HL cs a σ) sz) sz (ws_HL cs a)) (va_A (ws_HL cs a σ) sz)) 0 0 (va_A (ws_HL cs a σ) sz) := by
  refine Met.ofW (cc := cX0_finish) (maxL := 2) (ret := (some .int)) (by decide) rfl ?_
  intro p e s m args below meth c s₁ B hml hv
  obtain ⟨rfl, hsz, hP, hK, hD0⟩ := hv
  have hx := B.exec
  have hb := B.bytes
  have hr := B.returns
  have hts := atoms_spec (ws := wsX0_finish) B.pre
  have hown : s.vm.findClass RX0 = some m.cls := findClass_of_methodNamed B.named
  have hlocks := B.notSynchronized
  subst hsz
  have hD := hD0.self (sz := s.heap.size)
  generalize hAe : va_A (ws_HL cs a σ) s.heap.size = A at hD ⊢
  have hA : ∀ q : Nat, s.heap.size ≤ q → A q := fun q h => by rw [← hAe]; exact Or.inr h
  have hS : va_S A s.heap s.heap [] := va_S.rf
  have hf18 : (Cond.fieldLink RX0 18 "CraneYard$Hauls" "states" "[I").before ([.ref (a 0), .int p1] : List Value).toArray s = true := hts _ (List.mem_of_getElem? (i := 2) rfl)
  have hf21 : (Cond.fieldLink RX0 21 "CraneYard$Hauls" "prices" "[I").before ([.ref (a 0), .int p1] : List Value).toArray s = true := hts _ (List.mem_of_getElem? (i := 4) rfl)
  have hf27 : (Cond.fieldLink RX0 27 "CraneYard$Hauls" "count" "I").before ([.ref (a 0), .int p1] : List Value).toArray s = true := hts _ (List.mem_of_getElem? (i := 1) rfl)
  have hf31 : (Cond.fieldLink RX0 31 "CraneYard$Hauls" "pricesPaid" "I").before ([.ref (a 0), .int p1] : List Value).toArray s = true := hts _ (List.mem_of_getElem? (i := 3) rfl)
  have hinX0 : ∀ w ∈ wsX00, w ∈ wsX0_finish := fun _ h => List.mem_cons_of_mem _ (List.mem_append_right _ h)
  have hP : va_P D vwCl (ws_HL cs a σ) s.heap := hP
  have B12 : ∀ (σ : HL), b_H_finish_12 Φ σ → At p l e (headSpec wsX0_finish rm_H_finish).room s m ([.ref (a 0), .int p1] : List Value).toArray below meth c (MQ below (va_Qi Φ (BG D cs A s.heap.size (ws_HL cs a)) A) ([.ref (a 0), .int p1] : List Value).toArray s 0 0 A) D A 2 [] (ws_HL cs a σ) 12 [] := by
    intro σ hw H locs ls hl hP hD hS
    unfold b_H_finish_12 at hw
    refine lv_iconst (v := (0 : Int32)) hx hb dX0_finish_12 (by decide) ?_
    exact rI (wf := (ws_HL cs a)) (u := σ) hx hb hr hlocks hK hP hD hS hw dX0_finish_13
  have hl := lv_entry ([.ref (a 0), .int p1]) (n := 2) (Nat.le_of_ble_eq_true rfl)
  rw [lg_entry_eq]
  generalize (lg_sl ([.ref (a 0), .int p1]) ++ List.replicate (2 - (lg_sl ([.ref (a 0), .int p1])).length) Slot.unset).toArray = ls at hl ⊢
  have hl : lv_has ls 2 [(0, .ref (a 0)), (1, .int p1)] := hl
  unfold w_H_finish at hw
  refine lv_iload_n hx hb dX0_finish_0 rfl (lv_at hl 1 rfl) ?_
  refine lv_if_lt (tgt := 12) hx hb dX0_finish_1 (by decide) (fun c1 => ?_) (fun c1 => ?_)
  · have hw := hw.1 c1
    exact B12 _ hw _ _ ls (lv_sub hl [] rfl) hP hD hS
  · have hw := hw.2 c1
    refine lv_iload_n hx hb dX0_finish_4 rfl (lv_at hl 1 rfl) ?_
    refine lv_aload_n hx hb dX0_finish_5 rfl (lv_at hl 0 rfl) ?_
    refine va_get (D := D) (ci := 0) (v := .int (g_HL_count σ)) (C := RX0) (T := TX0) (N := 8) hx hb hts hinX0 hown hK hP 0 rfl rfl 5 (by decide) hf27 (fun _ h9 => h9) rfl dX0_finish_6 ?_
    refine lv_icmp_lt (tgt := 14) hx hb dX0_finish_9 (by decide) (fun c9 => ?_) (fun c9 => ?_)
    · have hw := hw.1 c9
      refine lv_aload_n hx hb dX0_finish_14 rfl (lv_at hl 0 rfl) ?_
      refine va_get (D := D) (ci := 0) (v := .ref (a 3)) (C := RX0) (T := TX0) (N := 8) hx hb hts hinX0 hown hK hP 0 rfl rfl 2 (by decide) hf18 (fun _ h9 => h9) rfl dX0_finish_15 ?_
      refine lv_iload_n hx hb dX0_finish_18 rfl (lv_at hl 1 rfl) ?_
      refine lv_iconst (v := (2 : Int32)) hx hb dX0_finish_19 (by decide) ?_
      have hi20 := hw.1
      have hw := hw.2
      refine va_iast (f := (g_HL_states σ)) (n := 20) (x := (2 : Int32)) hx hb hK hP hD hS 3 0 rfl rfl hi20 dX0_finish_20 (fun H locs hP hD hS => ?_)
      have hP : va_P D vwCl (ws_HL cs a (s_HL_states σ (upd (g_HL_states σ) (p1).toNatClampNeg (2 : Int32)))) H := hP
      have hD : va_D A (ws_HL cs a (s_HL_states σ (upd (g_HL_states σ) (p1).toNatClampNeg (2 : Int32)))) := hD
      obtain ⟨z1, ez1⟩ : ∃ z : HL, z = (s_HL_states σ (upd (g_HL_states σ) (p1).toNatClampNeg (2 : Int32))) := ⟨_, rfl⟩
      have hw := hw z1 ez1
      rw [← ez1] at hP hD
      refine lv_aload_n hx hb dX0_finish_21 rfl (lv_at hl 0 rfl) ?_
      refine lv_dup hx hb dX0_finish_22 rfl ?_
      refine va_get (D := D) (ci := 0) (v := .int (g_HL_pricesPaid z1)) (C := RX0) (T := TX0) (N := 8) hx hb hts hinX0 hown hK hP 0 rfl rfl 6 (by decide) hf31 (fun _ h9 => h9) rfl dX0_finish_23 ?_
      refine lv_aload_n hx hb dX0_finish_26 rfl (lv_at hl 0 rfl) ?_
      refine va_get (D := D) (ci := 0) (v := .ref (a 4)) (C := RX0) (T := TX0) (N := 8) hx hb hts hinX0 hown hK hP 0 rfl rfl 3 (by decide) hf21 (fun _ h9 => h9) rfl dX0_finish_27 ?_
      refine lv_iload_n hx hb dX0_finish_30 rfl (lv_at hl 1 rfl) ?_
      have hi31 := hw.1
      have hw := hw.2
      refine va_iald (f := (g_HL_prices z1)) (n := 20) hx hb hK hP 4 0 rfl rfl hi31 dX0_finish_31 ?_
      refine lv_iadd hx hb dX0_finish_32 ?_
      refine lv_topi (fun y2 ey2 => ?_)
      have hw := hw y2 ey2
      refine va_put (D := D) (ci := 0) (v := .int y2) (ty := .int) (C := RX0) (T := TX0) (N := 8) hx hb hts hinX0 tyX0 tyX0_ok nmX0 hown hK hP hD hS 0 rfl rfl 6 (by decide) hf31 (fun _ h9 => h9) rfl (by decide +kernel) rfl rfl (Nat.le_of_ble_eq_true rfl) dX0_finish_33 (fun H locs hP hD hS => ?_)
      have hP : va_P D vwCl (ws_HL cs a (s_HL_pricesPaid z1 y2)) H := hP
      have hD : va_D A (ws_HL cs a (s_HL_pricesPaid z1 y2)) := hD
      obtain ⟨z3, ez3⟩ : ∃ z : HL, z = (s_HL_pricesPaid z1 y2) := ⟨_, rfl⟩
      have hw := hw z3 ez3
      rw [← ez3] at hP hD
      refine lv_aload_n hx hb dX0_finish_36 rfl (lv_at hl 0 rfl) ?_
      refine va_get (D := D) (ci := 0) (v := .ref (a 4)) (C := RX0) (T := TX0) (N := 8) hx hb hts hinX0 hown hK hP 0 rfl rfl 3 (by decide) hf21 (fun _ h9 => h9) rfl dX0_finish_37 ?_
      refine lv_iload_n hx hb dX0_finish_40 rfl (lv_at hl 1 rfl) ?_
      have hi41 := hw.1
      have hw := hw.2
      refine va_iald (f := (g_HL_prices z3)) (n := 20) hx hb hK hP 4 0 rfl rfl hi41 dX0_finish_41 ?_
      exact rI (wf := (ws_HL cs a)) (u := z3) hx hb hr hlocks hK hP hD hS hw dX0_finish_42
    · have hw := hw.2 c9
      exact B12 _ hw _ _ ls (lv_sub hl [] rfl) hP hD hS
abbrev rm_H_endDay : Room := { frames := 2, cells := 0, slots := 0, locals := 43 }
set_option maxHeartbeats 4000000 in
set_option maxRecDepth 100000 in
theorem c_H_endDay (l : Launch) (D : va_G) (cs : CS) (a : Nat → Nat) (sz : Nat) (σ : HL) (p1 : Int32) {Φ : HL → Prop} (hw : w_H_endDay σ p1 Φ) : Met l yX0_endDay wsX0_endDay rm_H_endDay (PcG [.ref (a 0), .int p1] D cs (ws_HL cs a σ) sz) (va_Qv Φ (BG D cs (va_A (ws_HL cs a σ) sz) sz (ws_HL cs a)) (va_A (ws_HL cs a σ) sz)) 0 0 (va_A (ws_HL cs a σ) sz) := by
  refine Met.ofW (cc := cX0_endDay) (maxL := 3) (ret := none) (by decide) rfl ?_
  intro p e s m args below meth c s₁ B hml hv
  obtain ⟨rfl, hsz, hP, hK, hD0⟩ := hv
  have hx := B.exec
  have hb := B.bytes
  have hr := B.returns
  have hts := atoms_spec (ws := wsX0_endDay) B.pre
  have hown : s.vm.findClass RX0 = some m.cls := findClass_of_methodNamed B.named
  have hlocks := B.notSynchronized
  subst hsz
  have hD := hD0.self (sz := s.heap.size)
  generalize hAe : va_A (ws_HL cs a σ) s.heap.size = A at hD ⊢
  have hA : ∀ q : Nat, s.heap.size ≤ q → A q := fun q h => by rw [← hAe]; exact Or.inr h
  have hS : va_S A s.heap s.heap [] := va_S.rf
  have hf15 : (Cond.fieldLink RX0 15 "CraneYard$Hauls" "lastDays" "[I").before ([.ref (a 0), .int p1] : List Value).toArray s = true := hts _ (List.mem_of_getElem? (i := 2) rfl)
  have hf18 : (Cond.fieldLink RX0 18 "CraneYard$Hauls" "states" "[I").before ([.ref (a 0), .int p1] : List Value).toArray s = true := hts _ (List.mem_of_getElem? (i := 3) rfl)
  have hf27 : (Cond.fieldLink RX0 27 "CraneYard$Hauls" "count" "I").before ([.ref (a 0), .int p1] : List Value).toArray s = true := hts _ (List.mem_of_getElem? (i := 1) rfl)
  have hf34 : (Cond.fieldLink RX0 34 "CraneYard$Hauls" "owed" "I").before ([.ref (a 0), .int p1] : List Value).toArray s = true := hts _ (List.mem_of_getElem? (i := 4) rfl)
  have hinX0 : ∀ w ∈ wsX00, w ∈ wsX0_endDay := fun _ h => List.mem_cons_of_mem _ (List.mem_append_right _ h)
  have hP : va_P D vwCl (ws_HL cs a σ) s.heap := hP
  have B46 : ∀ (K2 : (Int32 → Int32 → HL → Prop)) (hK2 : ∀ (x1 : Int32) (x2 : Int32) (σ : HL), K2 x1 x2 σ → At p l e (headSpec wsX0_endDay rm_H_endDay).room s m ([.ref (a 0), .int p1] : List Value).toArray below meth c (MQ below (va_Qv Φ (BG D cs A s.heap.size (ws_HL cs a)) A) ([.ref (a 0), .int p1] : List Value).toArray s 0 0 A) D A 3 [(0, .ref (a 0)), (1, .int x1), (2, .int x2)] (ws_HL cs a σ) 2 []) (x1 : Int32) (x2 : Int32) (σ : HL), b_H_endDay_46 K2 Φ x1 x2 σ → At p l e (headSpec wsX0_endDay rm_H_endDay).room s m ([.ref (a 0), .int p1] : List Value).toArray below meth c (MQ below (va_Qv Φ (BG D cs A s.heap.size (ws_HL cs a)) A) ([.ref (a 0), .int p1] : List Value).toArray s 0 0 A) D A 3 [(0, .ref (a 0)), (1, .int x1), (2, .int x2)] (ws_HL cs a σ) 46 [] := by
    intro K2 hK2 x1 x2 σ hw H locs ls hl hP hD hS
    unfold b_H_endDay_46 at hw
    refine lv_iinc (v := (x2 + (1 : Int32))) (lv' := [(2, .int (x2 + (1 : Int32))), (0, .ref (a 0)), (1, .int x1)]) hx hb dX0_endDay_46 hl (k := 2) rfl rfl (by decide) rfl (fun ls hl => ?_)
    refine lv_goto (tgt := 2) hx hb dX0_endDay_49 (by decide) ?_
    exact hK2 _ _ _ hw _ _ ls (lv_sub hl [1, 2, 0] rfl) hP hD hS
  have B2 : ∀ (n : Nat) (x1 : Int32) (x2 : Int32) (σ : HL), it3 (b_H_endDay_2 Φ) n x1 x2 σ → At p l e (headSpec wsX0_endDay rm_H_endDay).room s m ([.ref (a 0), .int p1] : List Value).toArray below meth c (MQ below (va_Qv Φ (BG D cs A s.heap.size (ws_HL cs a)) A) ([.ref (a 0), .int p1] : List Value).toArray s 0 0 A) D A 3 [(0, .ref (a 0)), (1, .int x1), (2, .int x2)] (ws_HL cs a σ) 2 [] := by
    intro n
    induction n with
    | zero => intro x1 x2 σ hw; exact absurd hw id
    | succ n ih =>
      intro x1 x2 σ hw H locs ls hl hP hD hS
      have hw : b_H_endDay_2 Φ (it3 (b_H_endDay_2 Φ) n) x1 x2 σ := hw
      unfold b_H_endDay_2 at hw
      refine lv_iload_n hx hb dX0_endDay_2 rfl (lv_at hl 2 rfl) ?_
      refine lv_aload_n hx hb dX0_endDay_3 rfl (lv_at hl 0 rfl) ?_
      refine va_get (D := D) (ci := 0) (v := .int (g_HL_count σ)) (C := RX0) (T := TX0) (N := 8) hx hb hts hinX0 hown hK hP 0 rfl rfl 5 (by decide) hf27 (fun _ h9 => h9) rfl dX0_endDay_4 ?_
      refine lv_icmp_ge (tgt := 52) hx hb dX0_endDay_7 (by decide) (fun c7 => ?_) (fun c7 => ?_)
      · have hw := hw.1 c7
        exact rV (wf := (ws_HL cs a)) (u := σ) hx hb hr hlocks hK hP hD hS hw dX0_endDay_52
      · have hw := hw.2 c7
        refine lv_aload_n hx hb dX0_endDay_10 rfl (lv_at hl 0 rfl) ?_
        refine lv_iload_n hx hb dX0_endDay_11 rfl (lv_at hl 2 rfl) ?_
        refine kVi (As := [.int x2]) (rest := []) ⟨hx, hb, hml, hown, hts⟩ (c_H_isOpen l D cs a _ σ x2 hw) (cwV 1 hts gX0_endDay_X0_isOpen rfl rfl rfl (by decide +kernel) ⟨Nat.le_of_ble_eq_true rfl, Nat.le_of_ble_eq_true rfl⟩) (pt_self_HL cs a σ) hK hP hD hS hA (ci := 0) rfl rfl rfl rfl hl.1 rfl (Nat.le_of_ble_eq_true rfl) dX0_endDay_12 ⟨Nat.zero_le _, Nat.zero_le _⟩ (fun r12 u12 H locs hw hP hD hS => ?_)
        have hP : va_P D vwCl (ws_HL cs a u12) H := hP
        have hD : va_D A (ws_HL cs a u12) := hD
        refine lv_if_eq (tgt := 46) hx hb dX0_endDay_15 (by decide) (fun c15 => ?_) (fun c15 => ?_)
        · have hw := hw.1 c15
          exact B46 _ ih _ _ _ hw _ _ ls (lv_sub hl [0, 1, 2] rfl) hP hD hS
        · have hw := hw.2 c15
          refine lv_aload_n hx hb dX0_endDay_18 rfl (lv_at hl 0 rfl) ?_
          refine va_get (D := D) (ci := 0) (v := .ref (a 2)) (C := RX0) (T := TX0) (N := 8) hx hb hts hinX0 hown hK hP 0 rfl rfl 1 (by decide) hf15 (fun _ h9 => h9) rfl dX0_endDay_19 ?_
          refine lv_iload_n hx hb dX0_endDay_22 rfl (lv_at hl 2 rfl) ?_
          have hi23 := hw.1
          have hw := hw.2
          refine va_iald (f := (g_HL_lastDays u12)) (n := 20) hx hb hK hP 2 0 rfl rfl hi23 dX0_endDay_23 ?_
          refine lv_iload_n hx hb dX0_endDay_24 rfl (lv_at hl 1 rfl) ?_
          refine lv_icmp_ne (tgt := 46) hx hb dX0_endDay_25 (by decide) (fun c25 => ?_) (fun c25 => ?_)
          · have hw := hw.2 c25
            exact B46 _ ih _ _ _ hw _ _ ls (lv_sub hl [0, 1, 2] rfl) hP hD hS
          · have hw := hw.1 c25
            refine lv_aload_n hx hb dX0_endDay_28 rfl (lv_at hl 0 rfl) ?_
            refine va_get (D := D) (ci := 0) (v := .ref (a 3)) (C := RX0) (T := TX0) (N := 8) hx hb hts hinX0 hown hK hP 0 rfl rfl 2 (by decide) hf18 (fun _ h9 => h9) rfl dX0_endDay_29 ?_
            refine lv_iload_n hx hb dX0_endDay_32 rfl (lv_at hl 2 rfl) ?_
            refine lv_iconst (v := (3 : Int32)) hx hb dX0_endDay_33 (by decide) ?_
            have hi34 := hw.1
            have hw := hw.2
            refine va_iast (f := (g_HL_states u12)) (n := 20) (x := (3 : Int32)) hx hb hK hP hD hS 3 0 rfl rfl hi34 dX0_endDay_34 (fun H locs hP hD hS => ?_)
            have hP : va_P D vwCl (ws_HL cs a (s_HL_states u12 (upd (g_HL_states u12) (x2).toNatClampNeg (3 : Int32)))) H := hP
            have hD : va_D A (ws_HL cs a (s_HL_states u12 (upd (g_HL_states u12) (x2).toNatClampNeg (3 : Int32)))) := hD
            obtain ⟨z1, ez1⟩ : ∃ z : HL, z = (s_HL_states u12 (upd (g_HL_states u12) (x2).toNatClampNeg (3 : Int32))) := ⟨_, rfl⟩
            have hw := hw z1 ez1
            rw [← ez1] at hP hD
            refine lv_aload_n hx hb dX0_endDay_35 rfl (lv_at hl 0 rfl) ?_
            refine lv_dup hx hb dX0_endDay_36 rfl ?_
            refine va_get (D := D) (ci := 0) (v := .int (g_HL_owed z1)) (C := RX0) (T := TX0) (N := 8) hx hb hts hinX0 hown hK hP 0 rfl rfl 7 (by decide) hf34 (fun _ h9 => h9) rfl dX0_endDay_37 ?_
            refine lv_bipush (v := (50 : Int32)) hx hb dX0_endDay_40 (by decide) ?_
            refine lv_iadd hx hb dX0_endDay_42 ?_
            refine lv_topi (fun y2 ey2 => ?_)
            have hw := hw y2 ey2
            refine va_put (D := D) (ci := 0) (v := .int y2) (ty := .int) (C := RX0) (T := TX0) (N := 8) hx hb hts hinX0 tyX0 tyX0_ok nmX0 hown hK hP hD hS 0 rfl rfl 7 (by decide) hf34 (fun _ h9 => h9) rfl (by decide +kernel) rfl rfl (Nat.le_of_ble_eq_true rfl) dX0_endDay_43 (fun H locs hP hD hS => ?_)
            have hP : va_P D vwCl (ws_HL cs a (s_HL_owed z1 y2)) H := hP
            have hD : va_D A (ws_HL cs a (s_HL_owed z1 y2)) := hD
            obtain ⟨z3, ez3⟩ : ∃ z : HL, z = (s_HL_owed z1 y2) := ⟨_, rfl⟩
            have hw := hw z3 ez3
            rw [← ez3] at hP hD
            exact B46 _ ih _ _ _ hw H locs ls (lv_sub hl [0, 1, 2] rfl) hP hD hS
  have hl := lv_entry ([.ref (a 0), .int p1]) (n := 3) (Nat.le_of_ble_eq_true rfl)
  rw [lg_entry_eq]
  generalize (lg_sl ([.ref (a 0), .int p1]) ++ List.replicate (3 - (lg_sl ([.ref (a 0), .int p1])).length) Slot.unset).toArray = ls at hl ⊢
  have hl : lv_has ls 3 [(0, .ref (a 0)), (1, .int p1)] := hl
  unfold w_H_endDay at hw
  refine lv_iconst (v := (0 : Int32)) hx hb dX0_endDay_0 (by decide) ?_
  refine lv_istore_n (lv' := [(2, .int (0 : Int32)), (0, .ref (a 0)), (1, .int p1)]) hx hb dX0_endDay_1 rfl hl (by decide) rfl (fun ls hl => ?_)
  obtain ⟨n, hw⟩ := hw
  exact B2 n _ _ _ hw _ _ ls (lv_sub hl [1, 2, 0] rfl) hP hD hS
abbrev rm_S_copyFrom : Room := { frames := 1, cells := 0, slots := 0, locals := 40 }
set_option maxHeartbeats 4000000 in
set_option maxRecDepth 100000 in
theorem c_S_copyFrom (l : Launch) (D : va_G) (cs : CS) (a : Nat → Nat) (sz : Nat) (σ : SD) {Φ : SD → Prop} (hw : w_S_copyFrom σ Φ) : Met l yX1_copyFrom wsX1_copyFrom rm_S_copyFrom (PcG [.ref (a 0), .ref (a 4)] D cs (ws_SD cs a σ) sz) (va_Qv Φ (BG D cs (va_A (ws_SD cs a σ) sz) sz (ws_SD cs a)) (va_A (ws_SD cs a σ) sz)) 0 0 (va_A (ws_SD cs a σ) sz) := by
  refine Met.ofW (cc := cX1_copyFrom) (maxL := 2) (ret := none) (by decide) rfl ?_
  intro p e s m args below meth c s₁ B hml hv
  obtain ⟨rfl, hsz, hP, hK, hD0⟩ := hv
  have hx := B.exec
  have hb := B.bytes
  have hr := B.returns
  have hts := atoms_spec (ws := wsX1_copyFrom) B.pre
  have hown : s.vm.findClass RX1 = some m.cls := findClass_of_methodNamed B.named
  have hlocks := B.notSynchronized
  subst hsz
  have hD := hD0.self (sz := s.heap.size)
  generalize hAe : va_A (ws_SD cs a σ) s.heap.size = A at hD ⊢
  have hA : ∀ q : Nat, s.heap.size ≤ q → A q := fun q h => by rw [← hAe]; exact Or.inr h
  have hS : va_S A s.heap s.heap [] := va_S.rf
  have hf15 : (Cond.fieldLink RX1 15 "CraneYard$Stacks" "cells" "[I").before ([.ref (a 0), .ref (a 4)] : List Value).toArray s = true := hts _ (List.mem_of_getElem? (i := 6) rfl)
  have hf18 : (Cond.fieldLink RX1 18 "CraneYard$Stacks" "weights" "[I").before ([.ref (a 0), .ref (a 4)] : List Value).toArray s = true := hts _ (List.mem_of_getElem? (i := 7) rfl)
  have hf9 : (Cond.fieldLink RX1 9 "CraneYard$Stacks" "heights" "[I").before ([.ref (a 0), .ref (a 4)] : List Value).toArray s = true := hts _ (List.mem_of_getElem? (i := 1) rfl)
  have hinX1 : ∀ w ∈ wsX10, w ∈ wsX1_copyFrom := fun _ h => List.mem_cons_of_mem _ (List.mem_append_right _ h)
  have hm1 : (Cond.methodLink RX1 21 arraycopyName).before ([.ref (a 0), .ref (a 4)] : List Value).toArray s = true := hts _ (List.mem_of_getElem? (i := 2) rfl)
  have hm2 : (Cond.native arraycopyName).before ([.ref (a 0), .ref (a 4)] : List Value).toArray s = true := hts _ (List.mem_of_getElem? (i := 3) rfl)
  have hm3 : (Cond.static arraycopyName).before ([.ref (a 0), .ref (a 4)] : List Value).toArray s = true := hts _ (List.mem_of_getElem? (i := 4) rfl)
  have hm4 : (Cond.initialized "java/lang/System").before ([.ref (a 0), .ref (a 4)] : List Value).toArray s = true := hts _ (List.mem_of_getElem? (i := 5) rfl)
  have hP : va_P D vwCl (ws_SD cs a σ) s.heap := hP
  have hl := lv_entry ([.ref (a 0), .ref (a 4)]) (n := 2) (Nat.le_of_ble_eq_true rfl)
  rw [lg_entry_eq]
  generalize (lg_sl ([.ref (a 0), .ref (a 4)]) ++ List.replicate (2 - (lg_sl ([.ref (a 0), .ref (a 4)])).length) Slot.unset).toArray = ls at hl ⊢
  have hl : lv_has ls 2 [(0, .ref (a 0)), (1, .ref (a 4))] := hl
  unfold w_S_copyFrom at hw
  refine lv_aload_n hx hb dX1_copyFrom_0 rfl (lv_at hl 1 rfl) ?_
  refine va_get (D := D) (ci := 1) (v := .ref (a 5)) (C := RX1) (T := TX1) (N := 3) hx hb hts hinX1 hown hK hP 4 rfl rfl 0 (by decide) hf9 (fun _ h9 => h9) rfl dX1_copyFrom_1 ?_
  refine lv_iconst (v := (0 : Int32)) hx hb dX1_copyFrom_4 (by decide) ?_
  refine lv_aload_n hx hb dX1_copyFrom_5 rfl (lv_at hl 0 rfl) ?_
  refine va_get (D := D) (ci := 1) (v := .ref (a 1)) (C := RX1) (T := TX1) (N := 3) hx hb hts hinX1 hown hK hP 0 rfl rfl 0 (by decide) hf9 (fun _ h9 => h9) rfl dX1_copyFrom_6 ?_
  refine lv_iconst (v := (0 : Int32)) hx hb dX1_copyFrom_9 (by decide) ?_
  refine lv_bipush (v := (6 : Int32)) hx hb dX1_copyFrom_10 (by decide) ?_
  refine va_copyi (f := (g_SK_heights (g_SD_other σ))) (g := (g_SK_heights (g_SD_this σ))) (n0 := 6) (n1 := 6) (sp := (0 : Int32)) (dp := (0 : Int32)) (n := (6 : Int32)) (ty := .int) hx hb (by rw [hml]; exact hl.1.symm) hown hm1 hm2 hm3 hm4 hK hP hD hS 5 1 0 0 rfl rfl rfl rfl rfl (by decide) (by decide) (by decide) (by decide) (by decide) (fun _ _ => rfl) (Nat.le_of_ble_eq_true rfl) (Nat.le_of_ble_eq_true (by decide +kernel)) dX1_copyFrom_12 (fun H locs hP hD hS => ?_)
  have hP : va_P D vwCl (ws_SD cs a (s_SD_this σ (s_SK_heights (g_SD_this σ) (va_cpy (g_SK_heights (g_SD_other σ)) (g_SK_heights (g_SD_this σ)) 0 0 6)))) H := hP
  have hD : va_D A (ws_SD cs a (s_SD_this σ (s_SK_heights (g_SD_this σ) (va_cpy (g_SK_heights (g_SD_other σ)) (g_SK_heights (g_SD_this σ)) 0 0 6)))) := hD
  obtain ⟨z1, ez1⟩ : ∃ z : SD, z = (s_SD_this σ (s_SK_heights (g_SD_this σ) (va_cpy (g_SK_heights (g_SD_other σ)) (g_SK_heights (g_SD_this σ)) 0 0 6))) := ⟨_, rfl⟩
  have hw := hw z1 ez1
  rw [← ez1] at hP hD
  refine lv_aload_n hx hb dX1_copyFrom_15 rfl (lv_at hl 1 rfl) ?_
  refine va_get (D := D) (ci := 1) (v := .ref (a 6)) (C := RX1) (T := TX1) (N := 3) hx hb hts hinX1 hown hK hP 4 rfl rfl 1 (by decide) hf15 (fun _ h9 => h9) rfl dX1_copyFrom_16 ?_
  refine lv_iconst (v := (0 : Int32)) hx hb dX1_copyFrom_19 (by decide) ?_
  refine lv_aload_n hx hb dX1_copyFrom_20 rfl (lv_at hl 0 rfl) ?_
  refine va_get (D := D) (ci := 1) (v := .ref (a 2)) (C := RX1) (T := TX1) (N := 3) hx hb hts hinX1 hown hK hP 0 rfl rfl 1 (by decide) hf15 (fun _ h9 => h9) rfl dX1_copyFrom_21 ?_
  refine lv_iconst (v := (0 : Int32)) hx hb dX1_copyFrom_24 (by decide) ?_
  refine lv_bipush (v := (30 : Int32)) hx hb dX1_copyFrom_25 (by decide) ?_
  refine va_copyi (f := (g_SK_cells (g_SD_other z1))) (g := (g_SK_cells (g_SD_this z1))) (n0 := 30) (n1 := 30) (sp := (0 : Int32)) (dp := (0 : Int32)) (n := (30 : Int32)) (ty := .int) hx hb (by rw [hml]; exact hl.1.symm) hown hm1 hm2 hm3 hm4 hK hP hD hS 6 2 0 0 rfl rfl rfl rfl rfl (by decide) (by decide) (by decide) (by decide) (by decide) (fun _ _ => rfl) (Nat.le_of_ble_eq_true rfl) (Nat.le_of_ble_eq_true (by decide +kernel)) dX1_copyFrom_27 (fun H locs hP hD hS => ?_)
  have hP : va_P D vwCl (ws_SD cs a (s_SD_this z1 (s_SK_cells (g_SD_this z1) (va_cpy (g_SK_cells (g_SD_other z1)) (g_SK_cells (g_SD_this z1)) 0 0 30)))) H := hP
  have hD : va_D A (ws_SD cs a (s_SD_this z1 (s_SK_cells (g_SD_this z1) (va_cpy (g_SK_cells (g_SD_other z1)) (g_SK_cells (g_SD_this z1)) 0 0 30)))) := hD
  obtain ⟨z2, ez2⟩ : ∃ z : SD, z = (s_SD_this z1 (s_SK_cells (g_SD_this z1) (va_cpy (g_SK_cells (g_SD_other z1)) (g_SK_cells (g_SD_this z1)) 0 0 30))) := ⟨_, rfl⟩
  have hw := hw z2 ez2
  rw [← ez2] at hP hD
  refine lv_aload_n hx hb dX1_copyFrom_30 rfl (lv_at hl 1 rfl) ?_
  refine va_get (D := D) (ci := 1) (v := .ref (a 7)) (C := RX1) (T := TX1) (N := 3) hx hb hts hinX1 hown hK hP 4 rfl rfl 2 (by decide) hf18 (fun _ h9 => h9) rfl dX1_copyFrom_31 ?_
  refine lv_iconst (v := (0 : Int32)) hx hb dX1_copyFrom_34 (by decide) ?_
  refine lv_aload_n hx hb dX1_copyFrom_35 rfl (lv_at hl 0 rfl) ?_
  refine va_get (D := D) (ci := 1) (v := .ref (a 3)) (C := RX1) (T := TX1) (N := 3) hx hb hts hinX1 hown hK hP 0 rfl rfl 2 (by decide) hf18 (fun _ h9 => h9) rfl dX1_copyFrom_36 ?_
  refine lv_iconst (v := (0 : Int32)) hx hb dX1_copyFrom_39 (by decide) ?_
  refine lv_bipush (v := (30 : Int32)) hx hb dX1_copyFrom_40 (by decide) ?_
  refine va_copyi (f := (g_SK_weights (g_SD_other z2))) (g := (g_SK_weights (g_SD_this z2))) (n0 := 30) (n1 := 30) (sp := (0 : Int32)) (dp := (0 : Int32)) (n := (30 : Int32)) (ty := .int) hx hb (by rw [hml]; exact hl.1.symm) hown hm1 hm2 hm3 hm4 hK hP hD hS 7 3 0 0 rfl rfl rfl rfl rfl (by decide) (by decide) (by decide) (by decide) (by decide) (fun _ _ => rfl) (Nat.le_of_ble_eq_true rfl) (Nat.le_of_ble_eq_true (by decide +kernel)) dX1_copyFrom_42 (fun H locs hP hD hS => ?_)
  have hP : va_P D vwCl (ws_SD cs a (s_SD_this z2 (s_SK_weights (g_SD_this z2) (va_cpy (g_SK_weights (g_SD_other z2)) (g_SK_weights (g_SD_this z2)) 0 0 30)))) H := hP
  have hD : va_D A (ws_SD cs a (s_SD_this z2 (s_SK_weights (g_SD_this z2) (va_cpy (g_SK_weights (g_SD_other z2)) (g_SK_weights (g_SD_this z2)) 0 0 30)))) := hD
  obtain ⟨z3, ez3⟩ : ∃ z : SD, z = (s_SD_this z2 (s_SK_weights (g_SD_this z2) (va_cpy (g_SK_weights (g_SD_other z2)) (g_SK_weights (g_SD_this z2)) 0 0 30))) := ⟨_, rfl⟩
  have hw := hw z3 ez3
  rw [← ez3] at hP hD
  exact rV (wf := (ws_SD cs a)) (u := z3) hx hb hr hlocks hK hP hD hS hw dX1_copyFrom_45
abbrev rm_S_setWeight : Room := { frames := 0, cells := 0, slots := 0, locals := 0 }
set_option maxHeartbeats 4000000 in
set_option maxRecDepth 100000 in
theorem c_S_setWeight (l : Launch) (D : va_G) (cs : CS) (a : Nat → Nat) (sz : Nat) (σ : SK) (p1 : Int32) (p2 : Int32) {Φ : SK → Prop} (hw : w_S_setWeight σ p1 p2 Φ) : Met l yX1_setWeight wsX1_setWeight rm_S_setWeight (PcG [.ref (a 0), .int p1, .int p2] D cs (ws_SK cs a σ) sz) (va_Qv Φ (BG D cs (va_A (ws_SK cs a σ) sz) sz (ws_SK cs a)) (va_A (ws_SK cs a σ) sz)) 0 0 (va_A (ws_SK cs a σ) sz) := by
  refine Met.ofW (cc := cX1_setWeight) (maxL := 3) (ret := none) (by decide) rfl ?_
  intro p e s m args below meth c s₁ B hml hv
  obtain ⟨rfl, hsz, hP, hK, hD0⟩ := hv
  have hx := B.exec
  have hb := B.bytes
  have hr := B.returns
  have hts := atoms_spec (ws := wsX1_setWeight) B.pre
  have hown : s.vm.findClass RX1 = some m.cls := findClass_of_methodNamed B.named
  have hlocks := B.notSynchronized
  subst hsz
  have hD := hD0.self (sz := s.heap.size)
  generalize hAe : va_A (ws_SK cs a σ) s.heap.size = A at hD ⊢
  have hA : ∀ q : Nat, s.heap.size ≤ q → A q := fun q h => by rw [← hAe]; exact Or.inr h
  have hS : va_S A s.heap s.heap [] := va_S.rf
  have hf18 : (Cond.fieldLink RX1 18 "CraneYard$Stacks" "weights" "[I").before ([.ref (a 0), .int p1, .int p2] : List Value).toArray s = true := hts _ (List.mem_of_getElem? (i := 1) rfl)
  have hinX1 : ∀ w ∈ wsX10, w ∈ wsX1_setWeight := fun _ h => List.mem_cons_of_mem _ (List.mem_append_right _ h)
  have hP : va_P D vwCl (ws_SK cs a σ) s.heap := hP
  have B17 : ∀ (σ : SK), b_S_setWeight_17 Φ σ → At p l e (headSpec wsX1_setWeight rm_S_setWeight).room s m ([.ref (a 0), .int p1, .int p2] : List Value).toArray below meth c (MQ below (va_Qv Φ (BG D cs A s.heap.size (ws_SK cs a)) A) ([.ref (a 0), .int p1, .int p2] : List Value).toArray s 0 0 A) D A 3 [] (ws_SK cs a σ) 17 [] := by
    intro σ hw H locs ls hl hP hD hS
    unfold b_S_setWeight_17 at hw
    exact rV (wf := (ws_SK cs a)) (u := σ) hx hb hr hlocks hK hP hD hS hw dX1_setWeight_17
  have hl := lv_entry ([.ref (a 0), .int p1, .int p2]) (n := 3) (Nat.le_of_ble_eq_true rfl)
  rw [lg_entry_eq]
  generalize (lg_sl ([.ref (a 0), .int p1, .int p2]) ++ List.replicate (3 - (lg_sl ([.ref (a 0), .int p1, .int p2])).length) Slot.unset).toArray = ls at hl ⊢
  have hl : lv_has ls 3 [(0, .ref (a 0)), (1, .int p1), (2, .int p2)] := hl
  unfold w_S_setWeight at hw
  refine lv_iload_n hx hb dX1_setWeight_0 rfl (lv_at hl 1 rfl) ?_
  refine lv_if_lt (tgt := 17) hx hb dX1_setWeight_1 (by decide) (fun c1 => ?_) (fun c1 => ?_)
  · have hw := hw.1 c1
    exact B17 _ hw _ _ ls (lv_sub hl [] rfl) hP hD hS
  · have hw := hw.2 c1
    refine lv_iload_n hx hb dX1_setWeight_4 rfl (lv_at hl 1 rfl) ?_
    refine lv_bipush (v := (30 : Int32)) hx hb dX1_setWeight_5 (by decide) ?_
    refine lv_icmp_ge (tgt := 17) hx hb dX1_setWeight_7 (by decide) (fun c7 => ?_) (fun c7 => ?_)
    · have hw := hw.1 c7
      exact B17 _ hw _ _ ls (lv_sub hl [] rfl) hP hD hS
    · have hw := hw.2 c7
      refine lv_aload_n hx hb dX1_setWeight_10 rfl (lv_at hl 0 rfl) ?_
      refine va_get (D := D) (ci := 1) (v := .ref (a 3)) (C := RX1) (T := TX1) (N := 3) hx hb hts hinX1 hown hK hP 0 rfl rfl 2 (by decide) hf18 (fun _ h9 => h9) rfl dX1_setWeight_11 ?_
      refine lv_iload_n hx hb dX1_setWeight_14 rfl (lv_at hl 1 rfl) ?_
      refine lv_iload_n hx hb dX1_setWeight_15 rfl (lv_at hl 2 rfl) ?_
      have hi16 := hw.1
      have hw := hw.2
      refine va_iast (f := (g_SK_weights σ)) (n := 30) (x := p2) hx hb hK hP hD hS 3 0 rfl rfl hi16 dX1_setWeight_16 (fun H locs hP hD hS => ?_)
      have hP : va_P D vwCl (ws_SK cs a (s_SK_weights σ (upd (g_SK_weights σ) (p1).toNatClampNeg p2))) H := hP
      have hD : va_D A (ws_SK cs a (s_SK_weights σ (upd (g_SK_weights σ) (p1).toNatClampNeg p2))) := hD
      obtain ⟨z1, ez1⟩ : ∃ z : SK, z = (s_SK_weights σ (upd (g_SK_weights σ) (p1).toNatClampNeg p2)) := ⟨_, rfl⟩
      have hw := hw z1 ez1
      rw [← ez1] at hP hD
      exact B17 _ hw H locs ls (lv_sub hl [] rfl) hP hD hS
abbrev rm_S_weightOf : Room := { frames := 0, cells := 0, slots := 0, locals := 0 }
set_option maxHeartbeats 4000000 in
set_option maxRecDepth 100000 in
theorem c_S_weightOf (l : Launch) (D : va_G) (cs : CS) (a : Nat → Nat) (sz : Nat) (σ : SK) (p1 : Int32) {Φ : Int32 → SK → Prop} (hw : w_S_weightOf σ p1 Φ) : Met l yX1_weightOf wsX1_weightOf rm_S_weightOf (PcG [.ref (a 0), .int p1] D cs (ws_SK cs a σ) sz) (va_Qi Φ (BG D cs (va_A (ws_SK cs a σ) sz) sz (ws_SK cs a)) (va_A (ws_SK cs a σ) sz)) 0 0 (va_A (ws_SK cs a σ) sz) := by
  refine Met.ofW (cc := cX1_weightOf) (maxL := 2) (ret := (some .int)) (by decide) rfl ?_
  intro p e s m args below meth c s₁ B hml hv
  obtain ⟨rfl, hsz, hP, hK, hD0⟩ := hv
  have hx := B.exec
  have hb := B.bytes
  have hr := B.returns
  have hts := atoms_spec (ws := wsX1_weightOf) B.pre
  have hown : s.vm.findClass RX1 = some m.cls := findClass_of_methodNamed B.named
  have hlocks := B.notSynchronized
  subst hsz
  have hD := hD0.self (sz := s.heap.size)
  generalize hAe : va_A (ws_SK cs a σ) s.heap.size = A at hD ⊢
  have hA : ∀ q : Nat, s.heap.size ≤ q → A q := fun q h => by rw [← hAe]; exact Or.inr h
  have hS : va_S A s.heap s.heap [] := va_S.rf
  have hf18 : (Cond.fieldLink RX1 18 "CraneYard$Stacks" "weights" "[I").before ([.ref (a 0), .int p1] : List Value).toArray s = true := hts _ (List.mem_of_getElem? (i := 1) rfl)
  have hinX1 : ∀ w ∈ wsX10, w ∈ wsX1_weightOf := fun _ h => List.mem_cons_of_mem _ (List.mem_append_right _ h)
  have hP : va_P D vwCl (ws_SK cs a σ) s.heap := hP
  have B20 : ∀ (t0 : Int32) (σ : SK), b_S_weightOf_20 Φ t0 σ → At p l e (headSpec wsX1_weightOf rm_S_weightOf).room s m ([.ref (a 0), .int p1] : List Value).toArray below meth c (MQ below (va_Qi Φ (BG D cs A s.heap.size (ws_SK cs a)) A) ([.ref (a 0), .int p1] : List Value).toArray s 0 0 A) D A 2 [] (ws_SK cs a σ) 20 [.int t0] := by
    intro t0 σ hw H locs ls hl hP hD hS
    unfold b_S_weightOf_20 at hw
    exact rI (wf := (ws_SK cs a)) (u := σ) hx hb hr hlocks hK hP hD hS hw dX1_weightOf_20
  have B19 : ∀ (σ : SK), b_S_weightOf_19 Φ σ → At p l e (headSpec wsX1_weightOf rm_S_weightOf).room s m ([.ref (a 0), .int p1] : List Value).toArray below meth c (MQ below (va_Qi Φ (BG D cs A s.heap.size (ws_SK cs a)) A) ([.ref (a 0), .int p1] : List Value).toArray s 0 0 A) D A 2 [] (ws_SK cs a σ) 19 [] := by
    intro σ hw H locs ls hl hP hD hS
    unfold b_S_weightOf_19 at hw
    refine lv_iconst (v := (-1 : Int32)) hx hb dX1_weightOf_19 (by decide) ?_
    exact B20 _ _ hw _ _ ls (lv_sub hl [] rfl) hP hD hS
  have hl := lv_entry ([.ref (a 0), .int p1]) (n := 2) (Nat.le_of_ble_eq_true rfl)
  rw [lg_entry_eq]
  generalize (lg_sl ([.ref (a 0), .int p1]) ++ List.replicate (2 - (lg_sl ([.ref (a 0), .int p1])).length) Slot.unset).toArray = ls at hl ⊢
  have hl : lv_has ls 2 [(0, .ref (a 0)), (1, .int p1)] := hl
  unfold w_S_weightOf at hw
  refine lv_iload_n hx hb dX1_weightOf_0 rfl (lv_at hl 1 rfl) ?_
  refine lv_if_lt (tgt := 19) hx hb dX1_weightOf_1 (by decide) (fun c1 => ?_) (fun c1 => ?_)
  · have hw := hw.1 c1
    exact B19 _ hw _ _ ls (lv_sub hl [] rfl) hP hD hS
  · have hw := hw.2 c1
    refine lv_iload_n hx hb dX1_weightOf_4 rfl (lv_at hl 1 rfl) ?_
    refine lv_bipush (v := (30 : Int32)) hx hb dX1_weightOf_5 (by decide) ?_
    refine lv_icmp_ge (tgt := 19) hx hb dX1_weightOf_7 (by decide) (fun c7 => ?_) (fun c7 => ?_)
    · have hw := hw.1 c7
      exact B19 _ hw _ _ ls (lv_sub hl [] rfl) hP hD hS
    · have hw := hw.2 c7
      refine lv_aload_n hx hb dX1_weightOf_10 rfl (lv_at hl 0 rfl) ?_
      refine va_get (D := D) (ci := 1) (v := .ref (a 3)) (C := RX1) (T := TX1) (N := 3) hx hb hts hinX1 hown hK hP 0 rfl rfl 2 (by decide) hf18 (fun _ h9 => h9) rfl dX1_weightOf_11 ?_
      refine lv_iload_n hx hb dX1_weightOf_14 rfl (lv_at hl 1 rfl) ?_
      have hi15 := hw.1
      have hw := hw.2
      refine va_iald (f := (g_SK_weights σ)) (n := 30) hx hb hK hP 3 0 rfl rfl hi15 dX1_weightOf_15 ?_
      refine lv_goto (tgt := 20) hx hb dX1_weightOf_16 (by decide) ?_
      exact B20 _ _ hw _ _ ls (lv_sub hl [] rfl) hP hD hS
abbrev rm_S_heightOf : Room := { frames := 0, cells := 0, slots := 0, locals := 0 }
set_option maxHeartbeats 4000000 in
set_option maxRecDepth 100000 in
theorem c_S_heightOf (l : Launch) (D : va_G) (cs : CS) (a : Nat → Nat) (sz : Nat) (σ : SK) (p1 : Int32) {Φ : Int32 → SK → Prop} (hw : w_S_heightOf σ p1 Φ) : Met l yX1_heightOf wsX1_heightOf rm_S_heightOf (PcG [.ref (a 0), .int p1] D cs (ws_SK cs a σ) sz) (va_Qi Φ (BG D cs (va_A (ws_SK cs a σ) sz) sz (ws_SK cs a)) (va_A (ws_SK cs a σ) sz)) 0 0 (va_A (ws_SK cs a σ) sz) := by
  refine Met.ofW (cc := cX1_heightOf) (maxL := 2) (ret := (some .int)) (by decide) rfl ?_
  intro p e s m args below meth c s₁ B hml hv
  obtain ⟨rfl, hsz, hP, hK, hD0⟩ := hv
  have hx := B.exec
  have hb := B.bytes
  have hr := B.returns
  have hts := atoms_spec (ws := wsX1_heightOf) B.pre
  have hown : s.vm.findClass RX1 = some m.cls := findClass_of_methodNamed B.named
  have hlocks := B.notSynchronized
  subst hsz
  have hD := hD0.self (sz := s.heap.size)
  generalize hAe : va_A (ws_SK cs a σ) s.heap.size = A at hD ⊢
  have hA : ∀ q : Nat, s.heap.size ≤ q → A q := fun q h => by rw [← hAe]; exact Or.inr h
  have hS : va_S A s.heap s.heap [] := va_S.rf
  have hf9 : (Cond.fieldLink RX1 9 "CraneYard$Stacks" "heights" "[I").before ([.ref (a 0), .int p1] : List Value).toArray s = true := hts _ (List.mem_of_getElem? (i := 1) rfl)
  have hinX1 : ∀ w ∈ wsX10, w ∈ wsX1_heightOf := fun _ h => List.mem_cons_of_mem _ (List.mem_append_right _ h)
  have hP : va_P D vwCl (ws_SK cs a σ) s.heap := hP
  have B20 : ∀ (t0 : Int32) (σ : SK), b_S_heightOf_20 Φ t0 σ → At p l e (headSpec wsX1_heightOf rm_S_heightOf).room s m ([.ref (a 0), .int p1] : List Value).toArray below meth c (MQ below (va_Qi Φ (BG D cs A s.heap.size (ws_SK cs a)) A) ([.ref (a 0), .int p1] : List Value).toArray s 0 0 A) D A 2 [] (ws_SK cs a σ) 20 [.int t0] := by
    intro t0 σ hw H locs ls hl hP hD hS
    unfold b_S_heightOf_20 at hw
    exact rI (wf := (ws_SK cs a)) (u := σ) hx hb hr hlocks hK hP hD hS hw dX1_heightOf_20
  have B19 : ∀ (σ : SK), b_S_heightOf_19 Φ σ → At p l e (headSpec wsX1_heightOf rm_S_heightOf).room s m ([.ref (a 0), .int p1] : List Value).toArray below meth c (MQ below (va_Qi Φ (BG D cs A s.heap.size (ws_SK cs a)) A) ([.ref (a 0), .int p1] : List Value).toArray s 0 0 A) D A 2 [] (ws_SK cs a σ) 19 [] := by
    intro σ hw H locs ls hl hP hD hS
    unfold b_S_heightOf_19 at hw
    refine lv_iconst (v := (0 : Int32)) hx hb dX1_heightOf_19 (by decide) ?_
    exact B20 _ _ hw _ _ ls (lv_sub hl [] rfl) hP hD hS
  have hl := lv_entry ([.ref (a 0), .int p1]) (n := 2) (Nat.le_of_ble_eq_true rfl)
  rw [lg_entry_eq]
  generalize (lg_sl ([.ref (a 0), .int p1]) ++ List.replicate (2 - (lg_sl ([.ref (a 0), .int p1])).length) Slot.unset).toArray = ls at hl ⊢
  have hl : lv_has ls 2 [(0, .ref (a 0)), (1, .int p1)] := hl
  unfold w_S_heightOf at hw
  refine lv_iload_n hx hb dX1_heightOf_0 rfl (lv_at hl 1 rfl) ?_
  refine lv_if_lt (tgt := 19) hx hb dX1_heightOf_1 (by decide) (fun c1 => ?_) (fun c1 => ?_)
  · have hw := hw.1 c1
    exact B19 _ hw _ _ ls (lv_sub hl [] rfl) hP hD hS
  · have hw := hw.2 c1
    refine lv_iload_n hx hb dX1_heightOf_4 rfl (lv_at hl 1 rfl) ?_
    refine lv_bipush (v := (6 : Int32)) hx hb dX1_heightOf_5 (by decide) ?_
    refine lv_icmp_ge (tgt := 19) hx hb dX1_heightOf_7 (by decide) (fun c7 => ?_) (fun c7 => ?_)
    · have hw := hw.1 c7
      exact B19 _ hw _ _ ls (lv_sub hl [] rfl) hP hD hS
    · have hw := hw.2 c7
      refine lv_aload_n hx hb dX1_heightOf_10 rfl (lv_at hl 0 rfl) ?_
      refine va_get (D := D) (ci := 1) (v := .ref (a 1)) (C := RX1) (T := TX1) (N := 3) hx hb hts hinX1 hown hK hP 0 rfl rfl 0 (by decide) hf9 (fun _ h9 => h9) rfl dX1_heightOf_11 ?_
      refine lv_iload_n hx hb dX1_heightOf_14 rfl (lv_at hl 1 rfl) ?_
      have hi15 := hw.1
      have hw := hw.2
      refine va_iald (f := (g_SK_heights σ)) (n := 6) hx hb hK hP 1 0 rfl rfl hi15 dX1_heightOf_15 ?_
      refine lv_goto (tgt := 20) hx hb dX1_heightOf_16 (by decide) ?_
      exact B20 _ _ hw _ _ ls (lv_sub hl [] rfl) hP hD hS
abbrev rm_S_crateAt : Room := { frames := 1, cells := 0, slots := 0, locals := 21 }
set_option maxHeartbeats 4000000 in
set_option maxRecDepth 100000 in
theorem c_S_crateAt (l : Launch) (D : va_G) (cs : CS) (a : Nat → Nat) (sz : Nat) (σ : SK) (p1 : Int32) (p2 : Int32) {Φ : Int32 → SK → Prop} (hw : w_S_crateAt σ p1 p2 Φ) : Met l yX1_crateAt wsX1_crateAt rm_S_crateAt (PcG [.ref (a 0), .int p1, .int p2] D cs (ws_SK cs a σ) sz) (va_Qi Φ (BG D cs (va_A (ws_SK cs a σ) sz) sz (ws_SK cs a)) (va_A (ws_SK cs a σ) sz)) 0 0 (va_A (ws_SK cs a σ) sz) := by
  refine Met.ofW (cc := cX1_crateAt) (maxL := 3) (ret := (some .int)) (by decide) rfl ?_
  intro p e s m args below meth c s₁ B hml hv
  obtain ⟨rfl, hsz, hP, hK, hD0⟩ := hv
  have hx := B.exec
  have hb := B.bytes
  have hr := B.returns
  have hts := atoms_spec (ws := wsX1_crateAt) B.pre
  have hown : s.vm.findClass RX1 = some m.cls := findClass_of_methodNamed B.named
  have hlocks := B.notSynchronized
  subst hsz
  have hD := hD0.self (sz := s.heap.size)
  generalize hAe : va_A (ws_SK cs a σ) s.heap.size = A at hD ⊢
  have hA : ∀ q : Nat, s.heap.size ≤ q → A q := fun q h => by rw [← hAe]; exact Or.inr h
  have hS : va_S A s.heap s.heap [] := va_S.rf
  have hf15 : (Cond.fieldLink RX1 15 "CraneYard$Stacks" "cells" "[I").before ([.ref (a 0), .int p1, .int p2] : List Value).toArray s = true := hts _ (List.mem_of_getElem? (i := 1) rfl)
  have hinX1 : ∀ w ∈ wsX10, w ∈ wsX1_crateAt := fun _ h => List.mem_cons_of_mem _ (List.mem_append_right _ h)
  have hP : va_P D vwCl (ws_SK cs a σ) s.heap := hP
  have B27 : ∀ (t0 : Int32) (σ : SK), b_S_crateAt_27 Φ t0 σ → At p l e (headSpec wsX1_crateAt rm_S_crateAt).room s m ([.ref (a 0), .int p1, .int p2] : List Value).toArray below meth c (MQ below (va_Qi Φ (BG D cs A s.heap.size (ws_SK cs a)) A) ([.ref (a 0), .int p1, .int p2] : List Value).toArray s 0 0 A) D A 3 [] (ws_SK cs a σ) 27 [.int t0] := by
    intro t0 σ hw H locs ls hl hP hD hS
    unfold b_S_crateAt_27 at hw
    exact rI (wf := (ws_SK cs a)) (u := σ) hx hb hr hlocks hK hP hD hS hw dX1_crateAt_27
  have B26 : ∀ (σ : SK), b_S_crateAt_26 Φ σ → At p l e (headSpec wsX1_crateAt rm_S_crateAt).room s m ([.ref (a 0), .int p1, .int p2] : List Value).toArray below meth c (MQ below (va_Qi Φ (BG D cs A s.heap.size (ws_SK cs a)) A) ([.ref (a 0), .int p1, .int p2] : List Value).toArray s 0 0 A) D A 3 [] (ws_SK cs a σ) 26 [] := by
    intro σ hw H locs ls hl hP hD hS
    unfold b_S_crateAt_26 at hw
    refine lv_iconst (v := (-1 : Int32)) hx hb dX1_crateAt_26 (by decide) ?_
    exact B27 _ _ hw _ _ ls (lv_sub hl [] rfl) hP hD hS
  have hl := lv_entry ([.ref (a 0), .int p1, .int p2]) (n := 3) (Nat.le_of_ble_eq_true rfl)
  rw [lg_entry_eq]
  generalize (lg_sl ([.ref (a 0), .int p1, .int p2]) ++ List.replicate (3 - (lg_sl ([.ref (a 0), .int p1, .int p2])).length) Slot.unset).toArray = ls at hl ⊢
  have hl : lv_has ls 3 [(0, .ref (a 0)), (1, .int p1), (2, .int p2)] := hl
  unfold w_S_crateAt at hw
  refine lv_iload_n hx hb dX1_crateAt_0 rfl (lv_at hl 2 rfl) ?_
  refine lv_if_lt (tgt := 26) hx hb dX1_crateAt_1 (by decide) (fun c1 => ?_) (fun c1 => ?_)
  · have hw := hw.1 c1
    exact B26 _ hw _ _ ls (lv_sub hl [] rfl) hP hD hS
  · have hw := hw.2 c1
    refine lv_iload_n hx hb dX1_crateAt_4 rfl (lv_at hl 2 rfl) ?_
    refine lv_aload_n hx hb dX1_crateAt_5 rfl (lv_at hl 0 rfl) ?_
    refine lv_iload_n hx hb dX1_crateAt_6 rfl (lv_at hl 1 rfl) ?_
    refine kVi (As := [.int p1]) (rest := [.int p2]) ⟨hx, hb, hml, hown, hts⟩ (c_S_heightOf l D cs a _ σ p1 hw) (cwV 1 hts gX1_crateAt_X1_heightOf rfl rfl rfl (by decide +kernel) ⟨Nat.le_of_ble_eq_true rfl, Nat.le_of_ble_eq_true rfl⟩) (pt_self_SK cs a σ) hK hP hD hS hA (ci := 1) rfl rfl rfl rfl hl.1 rfl (Nat.le_of_ble_eq_true rfl) dX1_crateAt_7 ⟨Nat.zero_le _, Nat.zero_le _⟩ (fun r7 u7 H locs hw hP hD hS => ?_)
    have hP : va_P D vwCl (ws_SK cs a u7) H := hP
    have hD : va_D A (ws_SK cs a u7) := hD
    refine lv_icmp_ge (tgt := 26) hx hb dX1_crateAt_10 (by decide) (fun c10 => ?_) (fun c10 => ?_)
    · have hw := hw.1 c10
      exact B26 _ hw _ _ ls (lv_sub hl [] rfl) hP hD hS
    · have hw := hw.2 c10
      refine lv_aload_n hx hb dX1_crateAt_13 rfl (lv_at hl 0 rfl) ?_
      refine va_get (D := D) (ci := 1) (v := .ref (a 2)) (C := RX1) (T := TX1) (N := 3) hx hb hts hinX1 hown hK hP 0 rfl rfl 1 (by decide) hf15 (fun _ h9 => h9) rfl dX1_crateAt_14 ?_
      refine lv_iload_n hx hb dX1_crateAt_17 rfl (lv_at hl 1 rfl) ?_
      refine lv_iconst (v := (5 : Int32)) hx hb dX1_crateAt_18 (by decide) ?_
      refine lv_imul hx hb dX1_crateAt_19 ?_
      refine lv_iload_n hx hb dX1_crateAt_20 rfl (lv_at hl 2 rfl) ?_
      refine lv_iadd hx hb dX1_crateAt_21 ?_
      have hi22 := hw.1
      have hw := hw.2
      refine va_iald (f := (g_SK_cells u7)) (n := 30) hx hb hK hP 2 0 rfl rfl hi22 dX1_crateAt_22 ?_
      refine lv_goto (tgt := 27) hx hb dX1_crateAt_23 (by decide) ?_
      exact B27 _ _ hw _ _ ls (lv_sub hl [] rfl) hP hD hS
abbrev rm_S_topOf : Room := { frames := 1, cells := 0, slots := 0, locals := 21 }
set_option maxHeartbeats 4000000 in
set_option maxRecDepth 100000 in
theorem c_S_topOf (l : Launch) (D : va_G) (cs : CS) (a : Nat → Nat) (sz : Nat) (σ : SK) (p1 : Int32) {Φ : Int32 → SK → Prop} (hw : w_S_topOf σ p1 Φ) : Met l yX1_topOf wsX1_topOf rm_S_topOf (PcG [.ref (a 0), .int p1] D cs (ws_SK cs a σ) sz) (va_Qi Φ (BG D cs (va_A (ws_SK cs a σ) sz) sz (ws_SK cs a)) (va_A (ws_SK cs a σ) sz)) 0 0 (va_A (ws_SK cs a σ) sz) := by
  refine Met.ofW (cc := cX1_topOf) (maxL := 3) (ret := (some .int)) (by decide) rfl ?_
  intro p e s m args below meth c s₁ B hml hv
  obtain ⟨rfl, hsz, hP, hK, hD0⟩ := hv
  have hx := B.exec
  have hb := B.bytes
  have hr := B.returns
  have hts := atoms_spec (ws := wsX1_topOf) B.pre
  have hown : s.vm.findClass RX1 = some m.cls := findClass_of_methodNamed B.named
  have hlocks := B.notSynchronized
  subst hsz
  have hD := hD0.self (sz := s.heap.size)
  generalize hAe : va_A (ws_SK cs a σ) s.heap.size = A at hD ⊢
  have hA : ∀ q : Nat, s.heap.size ≤ q → A q := fun q h => by rw [← hAe]; exact Or.inr h
  have hS : va_S A s.heap s.heap [] := va_S.rf
  have hf15 : (Cond.fieldLink RX1 15 "CraneYard$Stacks" "cells" "[I").before ([.ref (a 0), .int p1] : List Value).toArray s = true := hts _ (List.mem_of_getElem? (i := 1) rfl)
  have hinX1 : ∀ w ∈ wsX10, w ∈ wsX1_topOf := fun _ h => List.mem_cons_of_mem _ (List.mem_append_right _ h)
  have hP : va_P D vwCl (ws_SK cs a σ) s.heap := hP
  have B26 : ∀ (t0 : Int32) (σ : SK), b_S_topOf_26 Φ t0 σ → At p l e (headSpec wsX1_topOf rm_S_topOf).room s m ([.ref (a 0), .int p1] : List Value).toArray below meth c (MQ below (va_Qi Φ (BG D cs A s.heap.size (ws_SK cs a)) A) ([.ref (a 0), .int p1] : List Value).toArray s 0 0 A) D A 3 [] (ws_SK cs a σ) 26 [.int t0] := by
    intro t0 σ hw H locs ls hl hP hD hS
    unfold b_S_topOf_26 at hw
    exact rI (wf := (ws_SK cs a)) (u := σ) hx hb hr hlocks hK hP hD hS hw dX1_topOf_26
  have hl := lv_entry ([.ref (a 0), .int p1]) (n := 3) (Nat.le_of_ble_eq_true rfl)
  rw [lg_entry_eq]
  generalize (lg_sl ([.ref (a 0), .int p1]) ++ List.replicate (3 - (lg_sl ([.ref (a 0), .int p1])).length) Slot.unset).toArray = ls at hl ⊢
  have hl : lv_has ls 3 [(0, .ref (a 0)), (1, .int p1)] := hl
  unfold w_S_topOf at hw
  refine lv_aload_n hx hb dX1_topOf_0 rfl (lv_at hl 0 rfl) ?_
  refine lv_iload_n hx hb dX1_topOf_1 rfl (lv_at hl 1 rfl) ?_
  refine kVi (As := [.int p1]) (rest := []) ⟨hx, hb, hml, hown, hts⟩ (c_S_heightOf l D cs a _ σ p1 hw) (cwV 1 hts gX1_topOf_X1_heightOf rfl rfl rfl (by decide +kernel) ⟨Nat.le_of_ble_eq_true rfl, Nat.le_of_ble_eq_true rfl⟩) (pt_self_SK cs a σ) hK hP hD hS hA (ci := 1) rfl rfl rfl rfl hl.1 rfl (Nat.le_of_ble_eq_true rfl) dX1_topOf_2 ⟨Nat.zero_le _, Nat.zero_le _⟩ (fun r2 u2 H locs hw hP hD hS => ?_)
  have hP : va_P D vwCl (ws_SK cs a u2) H := hP
  have hD : va_D A (ws_SK cs a u2) := hD
  refine lv_istore_n (lv' := [(2, .int r2), (0, .ref (a 0)), (1, .int p1)]) hx hb dX1_topOf_5 rfl hl (by decide) rfl (fun ls hl => ?_)
  refine lv_iload_n hx hb dX1_topOf_6 rfl (lv_at hl 0 rfl) ?_
  refine lv_if_le (tgt := 25) hx hb dX1_topOf_7 (by decide) (fun c7 => ?_) (fun c7 => ?_)
  · have hw := hw.1 c7
    refine lv_iconst (v := (-1 : Int32)) hx hb dX1_topOf_25 (by decide) ?_
    exact B26 _ _ hw _ _ ls (lv_sub hl [] rfl) hP hD hS
  · have hw := hw.2 c7
    refine lv_aload_n hx hb dX1_topOf_10 rfl (lv_at hl 1 rfl) ?_
    refine va_get (D := D) (ci := 1) (v := .ref (a 2)) (C := RX1) (T := TX1) (N := 3) hx hb hts hinX1 hown hK hP 0 rfl rfl 1 (by decide) hf15 (fun _ h9 => h9) rfl dX1_topOf_11 ?_
    refine lv_iload_n hx hb dX1_topOf_14 rfl (lv_at hl 2 rfl) ?_
    refine lv_iconst (v := (5 : Int32)) hx hb dX1_topOf_15 (by decide) ?_
    refine lv_imul hx hb dX1_topOf_16 ?_
    refine lv_iload_n hx hb dX1_topOf_17 rfl (lv_at hl 0 rfl) ?_
    refine lv_iadd hx hb dX1_topOf_18 ?_
    refine lv_iconst (v := (1 : Int32)) hx hb dX1_topOf_19 (by decide) ?_
    refine lv_isub hx hb dX1_topOf_20 ?_
    have hi21 := hw.1
    have hw := hw.2
    refine va_iald (f := (g_SK_cells u2)) (n := 30) hx hb hK hP 2 0 rfl rfl hi21 dX1_topOf_21 ?_
    refine lv_goto (tgt := 26) hx hb dX1_topOf_22 (by decide) ?_
    exact B26 _ _ hw _ _ ls (lv_sub hl [] rfl) hP hD hS
abbrev rm_S_stackHolding : Room := { frames := 0, cells := 0, slots := 0, locals := 0 }
set_option maxHeartbeats 4000000 in
set_option maxRecDepth 100000 in
theorem c_S_stackHolding (l : Launch) (D : va_G) (cs : CS) (a : Nat → Nat) (sz : Nat) (σ : SK) (p1 : Int32) {Φ : Int32 → SK → Prop} (hw : w_S_stackHolding σ p1 Φ) : Met l yX1_stackHolding wsX1_stackHolding rm_S_stackHolding (PcG [.ref (a 0), .int p1] D cs (ws_SK cs a σ) sz) (va_Qi Φ (BG D cs (va_A (ws_SK cs a σ) sz) sz (ws_SK cs a)) (va_A (ws_SK cs a σ) sz)) 0 0 (va_A (ws_SK cs a σ) sz) := by
  refine Met.ofW (cc := cX1_stackHolding) (maxL := 4) (ret := (some .int)) (by decide) rfl ?_
  intro p e s m args below meth c s₁ B hml hv
  obtain ⟨rfl, hsz, hP, hK, hD0⟩ := hv
  have hx := B.exec
  have hb := B.bytes
  have hr := B.returns
  have hts := atoms_spec (ws := wsX1_stackHolding) B.pre
  have hown : s.vm.findClass RX1 = some m.cls := findClass_of_methodNamed B.named
  have hlocks := B.notSynchronized
  subst hsz
  have hD := hD0.self (sz := s.heap.size)
  generalize hAe : va_A (ws_SK cs a σ) s.heap.size = A at hD ⊢
  have hA : ∀ q : Nat, s.heap.size ≤ q → A q := fun q h => by rw [← hAe]; exact Or.inr h
  have hS : va_S A s.heap s.heap [] := va_S.rf
  have hf15 : (Cond.fieldLink RX1 15 "CraneYard$Stacks" "cells" "[I").before ([.ref (a 0), .int p1] : List Value).toArray s = true := hts _ (List.mem_of_getElem? (i := 2) rfl)
  have hf9 : (Cond.fieldLink RX1 9 "CraneYard$Stacks" "heights" "[I").before ([.ref (a 0), .int p1] : List Value).toArray s = true := hts _ (List.mem_of_getElem? (i := 1) rfl)
  have hinX1 : ∀ w ∈ wsX10, w ∈ wsX1_stackHolding := fun _ h => List.mem_cons_of_mem _ (List.mem_append_right _ h)
  have hP : va_P D vwCl (ws_SK cs a σ) s.heap := hP
  have B10 : ∀ (K2 : (Int32 → Int32 → SK → Prop)) (hK2 : ∀ (x1 : Int32) (x2 : Int32) (σ : SK), K2 x1 x2 σ → At p l e (headSpec wsX1_stackHolding rm_S_stackHolding).room s m ([.ref (a 0), .int p1] : List Value).toArray below meth c (MQ below (va_Qi Φ (BG D cs A s.heap.size (ws_SK cs a)) A) ([.ref (a 0), .int p1] : List Value).toArray s 0 0 A) D A 4 [(0, .ref (a 0)), (1, .int x1), (2, .int x2)] (ws_SK cs a σ) 2 []) (n : Nat) (x1 : Int32) (x2 : Int32) (x3 : Int32) (σ : SK), it4 (b_S_stackHolding_10 K2 Φ) n x1 x2 x3 σ → At p l e (headSpec wsX1_stackHolding rm_S_stackHolding).room s m ([.ref (a 0), .int p1] : List Value).toArray below meth c (MQ below (va_Qi Φ (BG D cs A s.heap.size (ws_SK cs a)) A) ([.ref (a 0), .int p1] : List Value).toArray s 0 0 A) D A 4 [(0, .ref (a 0)), (1, .int x1), (2, .int x2), (3, .int x3)] (ws_SK cs a σ) 10 [] := by
    intro K2 hK2 n
    induction n with
    | zero => intro x1 x2 x3 σ hw; exact absurd hw id
    | succ n ih =>
      intro x1 x2 x3 σ hw H locs ls hl hP hD hS
      have hw : b_S_stackHolding_10 K2 Φ (it4 (b_S_stackHolding_10 K2 Φ) n) x1 x2 x3 σ := hw
      unfold b_S_stackHolding_10 at hw
      refine lv_iload_n hx hb dX1_stackHolding_10 rfl (lv_at hl 3 rfl) ?_
      refine lv_aload_n hx hb dX1_stackHolding_11 rfl (lv_at hl 0 rfl) ?_
      refine va_get (D := D) (ci := 1) (v := .ref (a 1)) (C := RX1) (T := TX1) (N := 3) hx hb hts hinX1 hown hK hP 0 rfl rfl 0 (by decide) hf9 (fun _ h9 => h9) rfl dX1_stackHolding_12 ?_
      refine lv_iload_n hx hb dX1_stackHolding_15 rfl (lv_at hl 2 rfl) ?_
      have hi16 := hw.1
      have hw := hw.2
      refine va_iald (f := (g_SK_heights σ)) (n := 6) hx hb hK hP 1 0 rfl rfl hi16 dX1_stackHolding_16 ?_
      refine lv_icmp_ge (tgt := 42) hx hb dX1_stackHolding_17 (by decide) (fun c17 => ?_) (fun c17 => ?_)
      · have hw := hw.1 c17
        refine lv_iinc (v := (x2 + (1 : Int32))) (lv' := [(2, .int (x2 + (1 : Int32))), (0, .ref (a 0)), (1, .int x1), (3, .int x3)]) hx hb dX1_stackHolding_42 hl (k := 2) rfl rfl (by decide) rfl (fun ls hl => ?_)
        refine lv_goto (tgt := 2) hx hb dX1_stackHolding_45 (by decide) ?_
        exact hK2 _ _ _ hw _ _ ls (lv_sub hl [1, 2, 0] rfl) hP hD hS
      · have hw := hw.2 c17
        refine lv_aload_n hx hb dX1_stackHolding_20 rfl (lv_at hl 0 rfl) ?_
        refine va_get (D := D) (ci := 1) (v := .ref (a 2)) (C := RX1) (T := TX1) (N := 3) hx hb hts hinX1 hown hK hP 0 rfl rfl 1 (by decide) hf15 (fun _ h9 => h9) rfl dX1_stackHolding_21 ?_
        refine lv_iload_n hx hb dX1_stackHolding_24 rfl (lv_at hl 2 rfl) ?_
        refine lv_iconst (v := (5 : Int32)) hx hb dX1_stackHolding_25 (by decide) ?_
        refine lv_imul hx hb dX1_stackHolding_26 ?_
        refine lv_iload_n hx hb dX1_stackHolding_27 rfl (lv_at hl 3 rfl) ?_
        refine lv_iadd hx hb dX1_stackHolding_28 ?_
        have hi29 := hw.1
        have hw := hw.2
        refine va_iald (f := (g_SK_cells σ)) (n := 30) hx hb hK hP 2 0 rfl rfl hi29 dX1_stackHolding_29 ?_
        refine lv_iload_n hx hb dX1_stackHolding_30 rfl (lv_at hl 1 rfl) ?_
        refine lv_icmp_ne (tgt := 36) hx hb dX1_stackHolding_31 (by decide) (fun c31 => ?_) (fun c31 => ?_)
        · have hw := hw.2 c31
          refine lv_iinc (v := (x3 + (1 : Int32))) (lv' := [(3, .int (x3 + (1 : Int32))), (0, .ref (a 0)), (1, .int x1), (2, .int x2)]) hx hb dX1_stackHolding_36 hl (k := 3) rfl rfl (by decide) rfl (fun ls hl => ?_)
          refine lv_goto (tgt := 10) hx hb dX1_stackHolding_39 (by decide) ?_
          exact ih _ _ _ _ hw _ _ ls (lv_sub hl [1, 2, 3, 0] rfl) hP hD hS
        · have hw := hw.1 c31
          refine lv_iload_n hx hb dX1_stackHolding_34 rfl (lv_at hl 2 rfl) ?_
          exact rI (wf := (ws_SK cs a)) (u := σ) hx hb hr hlocks hK hP hD hS hw dX1_stackHolding_35
  have B2 : ∀ (n : Nat) (x1 : Int32) (x2 : Int32) (σ : SK), it3 (b_S_stackHolding_2 Φ) n x1 x2 σ → At p l e (headSpec wsX1_stackHolding rm_S_stackHolding).room s m ([.ref (a 0), .int p1] : List Value).toArray below meth c (MQ below (va_Qi Φ (BG D cs A s.heap.size (ws_SK cs a)) A) ([.ref (a 0), .int p1] : List Value).toArray s 0 0 A) D A 4 [(0, .ref (a 0)), (1, .int x1), (2, .int x2)] (ws_SK cs a σ) 2 [] := by
    intro n
    induction n with
    | zero => intro x1 x2 σ hw; exact absurd hw id
    | succ n ih =>
      intro x1 x2 σ hw H locs ls hl hP hD hS
      have hw : b_S_stackHolding_2 Φ (it3 (b_S_stackHolding_2 Φ) n) x1 x2 σ := hw
      unfold b_S_stackHolding_2 at hw
      refine lv_iload_n hx hb dX1_stackHolding_2 rfl (lv_at hl 2 rfl) ?_
      refine lv_bipush (v := (6 : Int32)) hx hb dX1_stackHolding_3 (by decide) ?_
      refine lv_icmp_ge (tgt := 48) hx hb dX1_stackHolding_5 (by decide) (fun c5 => ?_) (fun c5 => ?_)
      · have hw := hw.1 c5
        refine lv_iconst (v := (-1 : Int32)) hx hb dX1_stackHolding_48 (by decide) ?_
        exact rI (wf := (ws_SK cs a)) (u := σ) hx hb hr hlocks hK hP hD hS hw dX1_stackHolding_49
      · have hw := hw.2 c5
        refine lv_iconst (v := (0 : Int32)) hx hb dX1_stackHolding_8 (by decide) ?_
        refine lv_istore_n (lv' := [(3, .int (0 : Int32)), (0, .ref (a 0)), (1, .int x1), (2, .int x2)]) hx hb dX1_stackHolding_9 rfl hl (by decide) rfl (fun ls hl => ?_)
        obtain ⟨n, hw⟩ := hw
        exact B10 _ ih n _ _ _ _ hw _ _ ls (lv_sub hl [1, 2, 3, 0] rfl) hP hD hS
  have hl := lv_entry ([.ref (a 0), .int p1]) (n := 4) (Nat.le_of_ble_eq_true rfl)
  rw [lg_entry_eq]
  generalize (lg_sl ([.ref (a 0), .int p1]) ++ List.replicate (4 - (lg_sl ([.ref (a 0), .int p1])).length) Slot.unset).toArray = ls at hl ⊢
  have hl : lv_has ls 4 [(0, .ref (a 0)), (1, .int p1)] := hl
  unfold w_S_stackHolding at hw
  refine lv_iconst (v := (0 : Int32)) hx hb dX1_stackHolding_0 (by decide) ?_
  refine lv_istore_n (lv' := [(2, .int (0 : Int32)), (0, .ref (a 0)), (1, .int p1)]) hx hb dX1_stackHolding_1 rfl hl (by decide) rfl (fun ls hl => ?_)
  obtain ⟨n, hw⟩ := hw
  exact B2 n _ _ _ hw _ _ ls (lv_sub hl [1, 2, 0] rfl) hP hD hS
abbrev rm_S_canTake : Room := { frames := 2, cells := 0, slots := 0, locals := 43 }
set_option maxHeartbeats 4000000 in
set_option maxRecDepth 100000 in
theorem c_S_canTake (l : Launch) (D : va_G) (cs : CS) (a : Nat → Nat) (sz : Nat) (σ : SK) (p1 : Int32) (p2 : Int32) (p3 : Int32) {Φ : Int32 → SK → Prop} (hw : w_S_canTake σ p1 p2 p3 Φ) : Met l yX1_canTake wsX1_canTake rm_S_canTake (PcG [.ref (a 0), .int p1, .int p2, .int p3] D cs (ws_SK cs a σ) sz) (va_Qi Φ (BG D cs (va_A (ws_SK cs a σ) sz) sz (ws_SK cs a)) (va_A (ws_SK cs a σ) sz)) 0 0 (va_A (ws_SK cs a σ) sz) := by
  refine Met.ofW (cc := cX1_canTake) (maxL := 5) (ret := (some .boolean)) (by decide) rfl ?_
  intro p e s m args below meth c s₁ B hml hv
  obtain ⟨rfl, hsz, hP, hK, hD0⟩ := hv
  have hx := B.exec
  have hb := B.bytes
  have hr := B.returns
  have hts := atoms_spec (ws := wsX1_canTake) B.pre
  have hown : s.vm.findClass RX1 = some m.cls := findClass_of_methodNamed B.named
  have hlocks := B.notSynchronized
  subst hsz
  have hD := hD0.self (sz := s.heap.size)
  generalize hAe : va_A (ws_SK cs a σ) s.heap.size = A at hD ⊢
  have hA : ∀ q : Nat, s.heap.size ≤ q → A q := fun q h => by rw [← hAe]; exact Or.inr h
  have hS : va_S A s.heap s.heap [] := va_S.rf
  have hP : va_P D vwCl (ws_SK cs a σ) s.heap := hP
  have B36 : ∀ (t0 : Int32) (σ : SK), b_S_canTake_36 Φ t0 σ → At p l e (headSpec wsX1_canTake rm_S_canTake).room s m ([.ref (a 0), .int p1, .int p2, .int p3] : List Value).toArray below meth c (MQ below (va_Qi Φ (BG D cs A s.heap.size (ws_SK cs a)) A) ([.ref (a 0), .int p1, .int p2, .int p3] : List Value).toArray s 0 0 A) D A 5 [] (ws_SK cs a σ) 36 [.int t0] := by
    intro t0 σ hw H locs ls hl hP hD hS
    unfold b_S_canTake_36 at hw
    exact rZ (wf := (ws_SK cs a)) (u := σ) hx hb hr hlocks hK hP hD hS hw dX1_canTake_36
  have B35 : ∀ (σ : SK), b_S_canTake_35 Φ σ → At p l e (headSpec wsX1_canTake rm_S_canTake).room s m ([.ref (a 0), .int p1, .int p2, .int p3] : List Value).toArray below meth c (MQ below (va_Qi Φ (BG D cs A s.heap.size (ws_SK cs a)) A) ([.ref (a 0), .int p1, .int p2, .int p3] : List Value).toArray s 0 0 A) D A 5 [] (ws_SK cs a σ) 35 [] := by
    intro σ hw H locs ls hl hP hD hS
    unfold b_S_canTake_35 at hw
    refine lv_iconst (v := (0 : Int32)) hx hb dX1_canTake_35 (by decide) ?_
    exact B36 _ _ hw _ _ ls (lv_sub hl [] rfl) hP hD hS
  have B31 : ∀ (σ : SK), b_S_canTake_31 Φ σ → At p l e (headSpec wsX1_canTake rm_S_canTake).room s m ([.ref (a 0), .int p1, .int p2, .int p3] : List Value).toArray below meth c (MQ below (va_Qi Φ (BG D cs A s.heap.size (ws_SK cs a)) A) ([.ref (a 0), .int p1, .int p2, .int p3] : List Value).toArray s 0 0 A) D A 5 [] (ws_SK cs a σ) 31 [] := by
    intro σ hw H locs ls hl hP hD hS
    unfold b_S_canTake_31 at hw
    refine lv_iconst (v := (1 : Int32)) hx hb dX1_canTake_31 (by decide) ?_
    refine lv_goto (tgt := 36) hx hb dX1_canTake_32 (by decide) ?_
    exact B36 _ _ hw _ _ ls (lv_sub hl [] rfl) hP hD hS
  have hl := lv_entry ([.ref (a 0), .int p1, .int p2, .int p3]) (n := 5) (Nat.le_of_ble_eq_true rfl)
  rw [lg_entry_eq]
  generalize (lg_sl ([.ref (a 0), .int p1, .int p2, .int p3]) ++ List.replicate (5 - (lg_sl ([.ref (a 0), .int p1, .int p2, .int p3])).length) Slot.unset).toArray = ls at hl ⊢
  have hl : lv_has ls 5 [(0, .ref (a 0)), (1, .int p1), (2, .int p2), (3, .int p3)] := hl
  unfold w_S_canTake at hw
  refine lv_aload_n hx hb dX1_canTake_0 rfl (lv_at hl 0 rfl) ?_
  refine lv_iload_n hx hb dX1_canTake_1 rfl (lv_at hl 1 rfl) ?_
  refine kVi (As := [.int p1]) (rest := []) ⟨hx, hb, hml, hown, hts⟩ (c_S_heightOf l D cs a _ σ p1 hw) (cwV 1 hts gX1_canTake_X1_heightOf rfl rfl rfl (by decide +kernel) ⟨Nat.le_of_ble_eq_true rfl, Nat.le_of_ble_eq_true rfl⟩) (pt_self_SK cs a σ) hK hP hD hS hA (ci := 1) rfl rfl rfl rfl hl.1 rfl (Nat.le_of_ble_eq_true rfl) dX1_canTake_2 ⟨Nat.zero_le _, Nat.zero_le _⟩ (fun r2 u2 H locs hw hP hD hS => ?_)
  have hP : va_P D vwCl (ws_SK cs a u2) H := hP
  have hD : va_D A (ws_SK cs a u2) := hD
  refine lv_istore (lv' := [(4, .int r2), (0, .ref (a 0)), (1, .int p1), (2, .int p2), (3, .int p3)]) hx hb dX1_canTake_5 hl (by decide) rfl (fun ls hl => ?_)
  refine lv_iload hx hb dX1_canTake_7 (lv_at hl 0 rfl) ?_
  refine lv_iload_n hx hb dX1_canTake_9 rfl (lv_at hl 4 rfl) ?_
  refine lv_icmp_ge (tgt := 35) hx hb dX1_canTake_10 (by decide) (fun c10 => ?_) (fun c10 => ?_)
  · have hw := hw.1 c10
    exact B35 _ hw _ _ ls (lv_sub hl [] rfl) hP hD hS
  · have hw := hw.2 c10
    refine lv_iload hx hb dX1_canTake_13 (lv_at hl 0 rfl) ?_
    refine lv_if_eq (tgt := 31) hx hb dX1_canTake_15 (by decide) (fun c15 => ?_) (fun c15 => ?_)
    · have hw := hw.1 c15
      exact B31 _ hw _ _ ls (lv_sub hl [] rfl) hP hD hS
    · have hw := hw.2 c15
      refine lv_aload_n hx hb dX1_canTake_18 rfl (lv_at hl 1 rfl) ?_
      refine lv_aload_n hx hb dX1_canTake_19 rfl (lv_at hl 1 rfl) ?_
      refine lv_iload_n hx hb dX1_canTake_20 rfl (lv_at hl 2 rfl) ?_
      refine kVi (As := [.int p1]) (rest := [.ref (a 0)]) ⟨hx, hb, hml, hown, hts⟩ (c_S_topOf l D cs a _ u2 p1 hw) (cwV 1 hts gX1_canTake_X1_topOf rfl rfl rfl (by decide +kernel) ⟨Nat.le_of_ble_eq_true rfl, Nat.le_of_ble_eq_true rfl⟩) (pt_self_SK cs a u2) hK hP hD hS hA (ci := 1) rfl rfl rfl rfl hl.1 rfl (Nat.le_of_ble_eq_true rfl) dX1_canTake_21 ⟨Nat.zero_le _, Nat.zero_le _⟩ (fun r21 u21 H locs hw hP hD hS => ?_)
      have hP : va_P D vwCl (ws_SK cs a u21) H := hP
      have hD : va_D A (ws_SK cs a u21) := hD
      refine kVi (As := [.int r21]) (rest := []) ⟨hx, hb, hml, hown, hts⟩ (c_S_weightOf l D cs a _ u21 r21 hw) (cwV 1 hts gX1_canTake_X1_weightOf rfl rfl rfl (by decide +kernel) ⟨Nat.le_of_ble_eq_true rfl, Nat.le_of_ble_eq_true rfl⟩) (pt_self_SK cs a u21) hK hP hD hS hA (ci := 1) rfl rfl rfl rfl hl.1 rfl (Nat.le_of_ble_eq_true rfl) dX1_canTake_24 ⟨Nat.zero_le _, Nat.zero_le _⟩ (fun r24 u24 H locs hw hP hD hS => ?_)
      have hP : va_P D vwCl (ws_SK cs a u24) H := hP
      have hD : va_D A (ws_SK cs a u24) := hD
      refine lv_iload_n hx hb dX1_canTake_27 rfl (lv_at hl 3 rfl) ?_
      refine lv_icmp_lt (tgt := 35) hx hb dX1_canTake_28 (by decide) (fun c28 => ?_) (fun c28 => ?_)
      · have hw := hw.1 c28
        exact B35 _ hw _ _ ls (lv_sub hl [] rfl) hP hD hS
      · have hw := hw.2 c28
        exact B31 _ hw _ _ ls (lv_sub hl [] rfl) hP hD hS
abbrev rm_S_put : Room := { frames := 1, cells := 0, slots := 0, locals := 21 }
set_option maxHeartbeats 4000000 in
set_option maxRecDepth 100000 in
theorem c_S_put (l : Launch) (D : va_G) (cs : CS) (a : Nat → Nat) (sz : Nat) (σ : SK) (p1 : Int32) (p2 : Int32) {Φ : SK → Prop} (hw : w_S_put σ p1 p2 Φ) : Met l yX1_put wsX1_put rm_S_put (PcG [.ref (a 0), .int p1, .int p2] D cs (ws_SK cs a σ) sz) (va_Qv Φ (BG D cs (va_A (ws_SK cs a σ) sz) sz (ws_SK cs a)) (va_A (ws_SK cs a σ) sz)) 0 0 (va_A (ws_SK cs a σ) sz) := by
  refine Met.ofW (cc := cX1_put) (maxL := 4) (ret := none) (by decide) rfl ?_
  intro p e s m args below meth c s₁ B hml hv
  obtain ⟨rfl, hsz, hP, hK, hD0⟩ := hv
  have hx := B.exec
  have hb := B.bytes
  have hr := B.returns
  have hts := atoms_spec (ws := wsX1_put) B.pre
  have hown : s.vm.findClass RX1 = some m.cls := findClass_of_methodNamed B.named
  have hlocks := B.notSynchronized
  subst hsz
  have hD := hD0.self (sz := s.heap.size)
  generalize hAe : va_A (ws_SK cs a σ) s.heap.size = A at hD ⊢
  have hA : ∀ q : Nat, s.heap.size ≤ q → A q := fun q h => by rw [← hAe]; exact Or.inr h
  have hS : va_S A s.heap s.heap [] := va_S.rf
  have hf15 : (Cond.fieldLink RX1 15 "CraneYard$Stacks" "cells" "[I").before ([.ref (a 0), .int p1, .int p2] : List Value).toArray s = true := hts _ (List.mem_of_getElem? (i := 1) rfl)
  have hf9 : (Cond.fieldLink RX1 9 "CraneYard$Stacks" "heights" "[I").before ([.ref (a 0), .int p1, .int p2] : List Value).toArray s = true := hts _ (List.mem_of_getElem? (i := 2) rfl)
  have hinX1 : ∀ w ∈ wsX10, w ∈ wsX1_put := fun _ h => List.mem_cons_of_mem _ (List.mem_append_right _ h)
  have hP : va_P D vwCl (ws_SK cs a σ) s.heap := hP
  have B41 : ∀ (σ : SK), b_S_put_41 Φ σ → At p l e (headSpec wsX1_put rm_S_put).room s m ([.ref (a 0), .int p1, .int p2] : List Value).toArray below meth c (MQ below (va_Qv Φ (BG D cs A s.heap.size (ws_SK cs a)) A) ([.ref (a 0), .int p1, .int p2] : List Value).toArray s 0 0 A) D A 4 [] (ws_SK cs a σ) 41 [] := by
    intro σ hw H locs ls hl hP hD hS
    unfold b_S_put_41 at hw
    exact rV (wf := (ws_SK cs a)) (u := σ) hx hb hr hlocks hK hP hD hS hw dX1_put_41
  have hl := lv_entry ([.ref (a 0), .int p1, .int p2]) (n := 4) (Nat.le_of_ble_eq_true rfl)
  rw [lg_entry_eq]
  generalize (lg_sl ([.ref (a 0), .int p1, .int p2]) ++ List.replicate (4 - (lg_sl ([.ref (a 0), .int p1, .int p2])).length) Slot.unset).toArray = ls at hl ⊢
  have hl : lv_has ls 4 [(0, .ref (a 0)), (1, .int p1), (2, .int p2)] := hl
  unfold w_S_put at hw
  refine lv_aload_n hx hb dX1_put_0 rfl (lv_at hl 0 rfl) ?_
  refine lv_iload_n hx hb dX1_put_1 rfl (lv_at hl 1 rfl) ?_
  refine kVi (As := [.int p1]) (rest := []) ⟨hx, hb, hml, hown, hts⟩ (c_S_heightOf l D cs a _ σ p1 hw) (cwV 1 hts gX1_put_X1_heightOf rfl rfl rfl (by decide +kernel) ⟨Nat.le_of_ble_eq_true rfl, Nat.le_of_ble_eq_true rfl⟩) (pt_self_SK cs a σ) hK hP hD hS hA (ci := 1) rfl rfl rfl rfl hl.1 rfl (Nat.le_of_ble_eq_true rfl) dX1_put_2 ⟨Nat.zero_le _, Nat.zero_le _⟩ (fun r2 u2 H locs hw hP hD hS => ?_)
  have hP : va_P D vwCl (ws_SK cs a u2) H := hP
  have hD : va_D A (ws_SK cs a u2) := hD
  refine lv_istore_n (lv' := [(3, .int r2), (0, .ref (a 0)), (1, .int p1), (2, .int p2)]) hx hb dX1_put_5 rfl hl (by decide) rfl (fun ls hl => ?_)
  refine lv_iload_n hx hb dX1_put_6 rfl (lv_at hl 2 rfl) ?_
  refine lv_if_lt (tgt := 41) hx hb dX1_put_7 (by decide) (fun c7 => ?_) (fun c7 => ?_)
  · have hw := hw.1 c7
    exact B41 _ hw _ _ ls (lv_sub hl [] rfl) hP hD hS
  · have hw := hw.2 c7
    refine lv_iload_n hx hb dX1_put_10 rfl (lv_at hl 2 rfl) ?_
    refine lv_bipush (v := (6 : Int32)) hx hb dX1_put_11 (by decide) ?_
    refine lv_icmp_ge (tgt := 41) hx hb dX1_put_13 (by decide) (fun c13 => ?_) (fun c13 => ?_)
    · have hw := hw.1 c13
      exact B41 _ hw _ _ ls (lv_sub hl [] rfl) hP hD hS
    · have hw := hw.2 c13
      refine lv_iload_n hx hb dX1_put_16 rfl (lv_at hl 0 rfl) ?_
      refine lv_iconst (v := (5 : Int32)) hx hb dX1_put_17 (by decide) ?_
      refine lv_icmp_ge (tgt := 41) hx hb dX1_put_18 (by decide) (fun c18 => ?_) (fun c18 => ?_)
      · have hw := hw.1 c18
        exact B41 _ hw _ _ ls (lv_sub hl [] rfl) hP hD hS
      · have hw := hw.2 c18
        refine lv_aload_n hx hb dX1_put_21 rfl (lv_at hl 1 rfl) ?_
        refine va_get (D := D) (ci := 1) (v := .ref (a 2)) (C := RX1) (T := TX1) (N := 3) hx hb hts hinX1 hown hK hP 0 rfl rfl 1 (by decide) hf15 (fun _ h9 => h9) rfl dX1_put_22 ?_
        refine lv_iload_n hx hb dX1_put_25 rfl (lv_at hl 2 rfl) ?_
        refine lv_iconst (v := (5 : Int32)) hx hb dX1_put_26 (by decide) ?_
        refine lv_imul hx hb dX1_put_27 ?_
        refine lv_iload_n hx hb dX1_put_28 rfl (lv_at hl 0 rfl) ?_
        refine lv_iadd hx hb dX1_put_29 ?_
        refine lv_iload_n hx hb dX1_put_30 rfl (lv_at hl 3 rfl) ?_
        have hi31 := hw.1
        have hw := hw.2
        refine va_iast (f := (g_SK_cells u2)) (n := 30) (x := p2) hx hb hK hP hD hS 2 0 rfl rfl hi31 dX1_put_31 (fun H locs hP hD hS => ?_)
        have hP : va_P D vwCl (ws_SK cs a (s_SK_cells u2 (upd (g_SK_cells u2) (((p1 * (5 : Int32)) + r2)).toNatClampNeg p2))) H := hP
        have hD : va_D A (ws_SK cs a (s_SK_cells u2 (upd (g_SK_cells u2) (((p1 * (5 : Int32)) + r2)).toNatClampNeg p2))) := hD
        obtain ⟨z1, ez1⟩ : ∃ z : SK, z = (s_SK_cells u2 (upd (g_SK_cells u2) (((p1 * (5 : Int32)) + r2)).toNatClampNeg p2)) := ⟨_, rfl⟩
        have hw := hw z1 ez1
        rw [← ez1] at hP hD
        refine lv_aload_n hx hb dX1_put_32 rfl (lv_at hl 1 rfl) ?_
        refine va_get (D := D) (ci := 1) (v := .ref (a 1)) (C := RX1) (T := TX1) (N := 3) hx hb hts hinX1 hown hK hP 0 rfl rfl 0 (by decide) hf9 (fun _ h9 => h9) rfl dX1_put_33 ?_
        refine lv_iload_n hx hb dX1_put_36 rfl (lv_at hl 2 rfl) ?_
        refine lv_iload_n hx hb dX1_put_37 rfl (lv_at hl 0 rfl) ?_
        refine lv_iconst (v := (1 : Int32)) hx hb dX1_put_38 (by decide) ?_
        refine lv_iadd hx hb dX1_put_39 ?_
        have hi40 := hw.1
        have hw := hw.2
        refine va_iast (f := (g_SK_heights z1)) (n := 6) (x := (r2 + (1 : Int32))) hx hb hK hP hD hS 1 0 rfl rfl hi40 dX1_put_40 (fun H locs hP hD hS => ?_)
        have hP : va_P D vwCl (ws_SK cs a (s_SK_heights z1 (upd (g_SK_heights z1) (p1).toNatClampNeg (r2 + (1 : Int32))))) H := hP
        have hD : va_D A (ws_SK cs a (s_SK_heights z1 (upd (g_SK_heights z1) (p1).toNatClampNeg (r2 + (1 : Int32))))) := hD
        obtain ⟨z2, ez2⟩ : ∃ z : SK, z = (s_SK_heights z1 (upd (g_SK_heights z1) (p1).toNatClampNeg (r2 + (1 : Int32)))) := ⟨_, rfl⟩
        have hw := hw z2 ez2
        rw [← ez2] at hP hD
        exact B41 _ hw H locs ls (lv_sub hl [] rfl) hP hD hS
abbrev rm_S_takeTop : Room := { frames := 2, cells := 0, slots := 0, locals := 43 }
set_option maxHeartbeats 4000000 in
set_option maxRecDepth 100000 in
theorem c_S_takeTop (l : Launch) (D : va_G) (cs : CS) (a : Nat → Nat) (sz : Nat) (σ : SK) (p1 : Int32) {Φ : Int32 → SK → Prop} (hw : w_S_takeTop σ p1 Φ) : Met l yX1_takeTop wsX1_takeTop rm_S_takeTop (PcG [.ref (a 0), .int p1] D cs (ws_SK cs a σ) sz) (va_Qi Φ (BG D cs (va_A (ws_SK cs a σ) sz) sz (ws_SK cs a)) (va_A (ws_SK cs a σ) sz)) 0 0 (va_A (ws_SK cs a σ) sz) := by
  refine Met.ofW (cc := cX1_takeTop) (maxL := 3) (ret := (some .int)) (by decide) rfl ?_
  intro p e s m args below meth c s₁ B hml hv
  obtain ⟨rfl, hsz, hP, hK, hD0⟩ := hv
  have hx := B.exec
  have hb := B.bytes
  have hr := B.returns
  have hts := atoms_spec (ws := wsX1_takeTop) B.pre
  have hown : s.vm.findClass RX1 = some m.cls := findClass_of_methodNamed B.named
  have hlocks := B.notSynchronized
  subst hsz
  have hD := hD0.self (sz := s.heap.size)
  generalize hAe : va_A (ws_SK cs a σ) s.heap.size = A at hD ⊢
  have hA : ∀ q : Nat, s.heap.size ≤ q → A q := fun q h => by rw [← hAe]; exact Or.inr h
  have hS : va_S A s.heap s.heap [] := va_S.rf
  have hf9 : (Cond.fieldLink RX1 9 "CraneYard$Stacks" "heights" "[I").before ([.ref (a 0), .int p1] : List Value).toArray s = true := hts _ (List.mem_of_getElem? (i := 1) rfl)
  have hinX1 : ∀ w ∈ wsX10, w ∈ wsX1_takeTop := fun _ h => List.mem_cons_of_mem _ (List.mem_append_right _ h)
  have hP : va_P D vwCl (ws_SK cs a σ) s.heap := hP
  have B21 : ∀ (x2 : Int32) (σ : SK), b_S_takeTop_21 Φ x2 σ → At p l e (headSpec wsX1_takeTop rm_S_takeTop).room s m ([.ref (a 0), .int p1] : List Value).toArray below meth c (MQ below (va_Qi Φ (BG D cs A s.heap.size (ws_SK cs a)) A) ([.ref (a 0), .int p1] : List Value).toArray s 0 0 A) D A 3 [(2, .int x2)] (ws_SK cs a σ) 21 [] := by
    intro x2 σ hw H locs ls hl hP hD hS
    unfold b_S_takeTop_21 at hw
    refine lv_iload_n hx hb dX1_takeTop_21 rfl (lv_at hl 0 rfl) ?_
    exact rI (wf := (ws_SK cs a)) (u := σ) hx hb hr hlocks hK hP hD hS hw dX1_takeTop_22
  have hl := lv_entry ([.ref (a 0), .int p1]) (n := 3) (Nat.le_of_ble_eq_true rfl)
  rw [lg_entry_eq]
  generalize (lg_sl ([.ref (a 0), .int p1]) ++ List.replicate (3 - (lg_sl ([.ref (a 0), .int p1])).length) Slot.unset).toArray = ls at hl ⊢
  have hl : lv_has ls 3 [(0, .ref (a 0)), (1, .int p1)] := hl
  unfold w_S_takeTop at hw
  refine lv_aload_n hx hb dX1_takeTop_0 rfl (lv_at hl 0 rfl) ?_
  refine lv_iload_n hx hb dX1_takeTop_1 rfl (lv_at hl 1 rfl) ?_
  refine kVi (As := [.int p1]) (rest := []) ⟨hx, hb, hml, hown, hts⟩ (c_S_topOf l D cs a _ σ p1 hw) (cwV 1 hts gX1_takeTop_X1_topOf rfl rfl rfl (by decide +kernel) ⟨Nat.le_of_ble_eq_true rfl, Nat.le_of_ble_eq_true rfl⟩) (pt_self_SK cs a σ) hK hP hD hS hA (ci := 1) rfl rfl rfl rfl hl.1 rfl (Nat.le_of_ble_eq_true rfl) dX1_takeTop_2 ⟨Nat.zero_le _, Nat.zero_le _⟩ (fun r2 u2 H locs hw hP hD hS => ?_)
  have hP : va_P D vwCl (ws_SK cs a u2) H := hP
  have hD : va_D A (ws_SK cs a u2) := hD
  refine lv_istore_n (lv' := [(2, .int r2), (0, .ref (a 0)), (1, .int p1)]) hx hb dX1_takeTop_5 rfl hl (by decide) rfl (fun ls hl => ?_)
  refine lv_iload_n hx hb dX1_takeTop_6 rfl (lv_at hl 0 rfl) ?_
  refine lv_iconst (v := (-1 : Int32)) hx hb dX1_takeTop_7 (by decide) ?_
  refine lv_icmp_eq (tgt := 21) hx hb dX1_takeTop_8 (by decide) (fun c8 => ?_) (fun c8 => ?_)
  · have hw := hw.1 c8
    exact B21 _ _ hw _ _ ls (lv_sub hl [0] rfl) hP hD hS
  · have hw := hw.2 c8
    refine lv_aload_n hx hb dX1_takeTop_11 rfl (lv_at hl 1 rfl) ?_
    refine va_get (D := D) (ci := 1) (v := .ref (a 1)) (C := RX1) (T := TX1) (N := 3) hx hb hts hinX1 hown hK hP 0 rfl rfl 0 (by decide) hf9 (fun _ h9 => h9) rfl dX1_takeTop_12 ?_
    refine lv_iload_n hx hb dX1_takeTop_15 rfl (lv_at hl 2 rfl) ?_
    refine lv_dup2_11 hx hb dX1_takeTop_16 rfl rfl ?_
    have hi17 := hw.1
    have hw := hw.2
    refine va_iald (f := (g_SK_heights u2)) (n := 6) hx hb hK hP 1 0 rfl rfl hi17 dX1_takeTop_17 ?_
    refine lv_iconst (v := (1 : Int32)) hx hb dX1_takeTop_18 (by decide) ?_
    refine lv_isub hx hb dX1_takeTop_19 ?_
    refine lv_topi (fun y1 ey1 => ?_)
    have hw := hw y1 ey1
    have hi20 := hw.1
    have hw := hw.2
    refine va_iast (f := (g_SK_heights u2)) (n := 6) (x := y1) hx hb hK hP hD hS 1 0 rfl rfl hi20 dX1_takeTop_20 (fun H locs hP hD hS => ?_)
    have hP : va_P D vwCl (ws_SK cs a (s_SK_heights u2 (upd (g_SK_heights u2) (p1).toNatClampNeg y1))) H := hP
    have hD : va_D A (ws_SK cs a (s_SK_heights u2 (upd (g_SK_heights u2) (p1).toNatClampNeg y1))) := hD
    obtain ⟨z2, ez2⟩ : ∃ z : SK, z = (s_SK_heights u2 (upd (g_SK_heights u2) (p1).toNatClampNeg y1)) := ⟨_, rfl⟩
    have hw := hw z2 ez2
    rw [← ez2] at hP hD
    exact B21 _ _ hw H locs ls (lv_sub hl [0] rfl) hP hD hS
abbrev rm_S_targetFor : Room := { frames := 3, cells := 0, slots := 0, locals := 67 }
set_option maxHeartbeats 4000000 in
set_option maxRecDepth 100000 in
theorem c_S_targetFor (l : Launch) (D : va_G) (cs : CS) (a : Nat → Nat) (sz : Nat) (σ : SK) (p1 : Int32) (p2 : Int32) (p3 : Int32) {Φ : Int32 → SK → Prop} (hw : w_S_targetFor σ p1 p2 p3 Φ) : Met l yX1_targetFor wsX1_targetFor rm_S_targetFor (PcG [.ref (a 0), .int p1, .int p2, .int p3] D cs (ws_SK cs a σ) sz) (va_Qi Φ (BG D cs (va_A (ws_SK cs a σ) sz) sz (ws_SK cs a)) (va_A (ws_SK cs a σ) sz)) 0 0 (va_A (ws_SK cs a σ) sz) := by
  refine Met.ofW (cc := cX1_targetFor) (maxL := 6) (ret := (some .int)) (by decide) rfl ?_
  intro p e s m args below meth c s₁ B hml hv
  obtain ⟨rfl, hsz, hP, hK, hD0⟩ := hv
  have hx := B.exec
  have hb := B.bytes
  have hr := B.returns
  have hts := atoms_spec (ws := wsX1_targetFor) B.pre
  have hown : s.vm.findClass RX1 = some m.cls := findClass_of_methodNamed B.named
  have hlocks := B.notSynchronized
  subst hsz
  have hD := hD0.self (sz := s.heap.size)
  generalize hAe : va_A (ws_SK cs a σ) s.heap.size = A at hD ⊢
  have hA : ∀ q : Nat, s.heap.size ≤ q → A q := fun q h => by rw [← hAe]; exact Or.inr h
  have hS : va_S A s.heap s.heap [] := va_S.rf
  have hP : va_P D vwCl (ws_SK cs a σ) s.heap := hP
  have B55 : ∀ (K6 : (Int32 → Int32 → Int32 → Int32 → Int32 → SK → Prop)) (hK6 : ∀ (x1 : Int32) (x2 : Int32) (x3 : Int32) (x4 : Int32) (x5 : Int32) (σ : SK), K6 x1 x2 x3 x4 x5 σ → At p l e (headSpec wsX1_targetFor rm_S_targetFor).room s m ([.ref (a 0), .int p1, .int p2, .int p3] : List Value).toArray below meth c (MQ below (va_Qi Φ (BG D cs A s.heap.size (ws_SK cs a)) A) ([.ref (a 0), .int p1, .int p2, .int p3] : List Value).toArray s 0 0 A) D A 6 [(0, .ref (a 0)), (1, .int x1), (2, .int x2), (3, .int x3), (4, .int x4), (5, .int x5)] (ws_SK cs a σ) 6 []) (x1 : Int32) (x2 : Int32) (x3 : Int32) (x4 : Int32) (x5 : Int32) (σ : SK), b_S_targetFor_55 K6 Φ x1 x2 x3 x4 x5 σ → At p l e (headSpec wsX1_targetFor rm_S_targetFor).room s m ([.ref (a 0), .int p1, .int p2, .int p3] : List Value).toArray below meth c (MQ below (va_Qi Φ (BG D cs A s.heap.size (ws_SK cs a)) A) ([.ref (a 0), .int p1, .int p2, .int p3] : List Value).toArray s 0 0 A) D A 6 [(0, .ref (a 0)), (1, .int x1), (2, .int x2), (3, .int x3), (4, .int x4), (5, .int x5)] (ws_SK cs a σ) 55 [] := by
    intro K6 hK6 x1 x2 x3 x4 x5 σ hw H locs ls hl hP hD hS
    unfold b_S_targetFor_55 at hw
    refine lv_iinc (v := (x5 + (1 : Int32))) (lv' := [(5, .int (x5 + (1 : Int32))), (0, .ref (a 0)), (1, .int x1), (2, .int x2), (3, .int x3), (4, .int x4)]) hx hb dX1_targetFor_55 hl (k := 5) rfl rfl (by decide) rfl (fun ls hl => ?_)
    refine lv_goto (tgt := 6) hx hb dX1_targetFor_58 (by decide) ?_
    exact hK6 _ _ _ _ _ _ hw _ _ ls (lv_sub hl [1, 2, 3, 4, 5, 0] rfl) hP hD hS
  have B51 : ∀ (K6 : (Int32 → Int32 → Int32 → Int32 → Int32 → SK → Prop)) (hK6 : ∀ (x1 : Int32) (x2 : Int32) (x3 : Int32) (x4 : Int32) (x5 : Int32) (σ : SK), K6 x1 x2 x3 x4 x5 σ → At p l e (headSpec wsX1_targetFor rm_S_targetFor).room s m ([.ref (a 0), .int p1, .int p2, .int p3] : List Value).toArray below meth c (MQ below (va_Qi Φ (BG D cs A s.heap.size (ws_SK cs a)) A) ([.ref (a 0), .int p1, .int p2, .int p3] : List Value).toArray s 0 0 A) D A 6 [(0, .ref (a 0)), (1, .int x1), (2, .int x2), (3, .int x3), (4, .int x4), (5, .int x5)] (ws_SK cs a σ) 6 []) (x1 : Int32) (x2 : Int32) (x3 : Int32) (x5 : Int32) (σ : SK), b_S_targetFor_51 K6 Φ x1 x2 x3 x5 σ → At p l e (headSpec wsX1_targetFor rm_S_targetFor).room s m ([.ref (a 0), .int p1, .int p2, .int p3] : List Value).toArray below meth c (MQ below (va_Qi Φ (BG D cs A s.heap.size (ws_SK cs a)) A) ([.ref (a 0), .int p1, .int p2, .int p3] : List Value).toArray s 0 0 A) D A 6 [(0, .ref (a 0)), (1, .int x1), (2, .int x2), (3, .int x3), (5, .int x5)] (ws_SK cs a σ) 51 [] := by
    intro K6 hK6 x1 x2 x3 x5 σ hw H locs ls hl hP hD hS
    unfold b_S_targetFor_51 at hw
    refine lv_iload hx hb dX1_targetFor_51 (lv_at hl 4 rfl) ?_
    refine lv_istore (lv' := [(4, .int x5), (0, .ref (a 0)), (1, .int x1), (2, .int x2), (3, .int x3), (5, .int x5)]) hx hb dX1_targetFor_53 hl (by decide) rfl (fun ls hl => ?_)
    exact B55 _ hK6 _ _ _ _ _ _ hw _ _ ls (lv_sub hl [1, 2, 3, 4, 0, 5] rfl) hP hD hS
  have B6 : ∀ (n : Nat) (x1 : Int32) (x2 : Int32) (x3 : Int32) (x4 : Int32) (x5 : Int32) (σ : SK), it6 (b_S_targetFor_6 Φ) n x1 x2 x3 x4 x5 σ → At p l e (headSpec wsX1_targetFor rm_S_targetFor).room s m ([.ref (a 0), .int p1, .int p2, .int p3] : List Value).toArray below meth c (MQ below (va_Qi Φ (BG D cs A s.heap.size (ws_SK cs a)) A) ([.ref (a 0), .int p1, .int p2, .int p3] : List Value).toArray s 0 0 A) D A 6 [(0, .ref (a 0)), (1, .int x1), (2, .int x2), (3, .int x3), (4, .int x4), (5, .int x5)] (ws_SK cs a σ) 6 [] := by
    intro n
    induction n with
    | zero => intro x1 x2 x3 x4 x5 σ hw; exact absurd hw id
    | succ n ih =>
      intro x1 x2 x3 x4 x5 σ hw H locs ls hl hP hD hS
      have hw : b_S_targetFor_6 Φ (it6 (b_S_targetFor_6 Φ) n) x1 x2 x3 x4 x5 σ := hw
      unfold b_S_targetFor_6 at hw
      refine lv_iload hx hb dX1_targetFor_6 (lv_at hl 5 rfl) ?_
      refine lv_bipush (v := (6 : Int32)) hx hb dX1_targetFor_8 (by decide) ?_
      refine lv_icmp_ge (tgt := 61) hx hb dX1_targetFor_10 (by decide) (fun c10 => ?_) (fun c10 => ?_)
      · have hw := hw.1 c10
        refine lv_iload hx hb dX1_targetFor_61 (lv_at hl 4 rfl) ?_
        exact rI (wf := (ws_SK cs a)) (u := σ) hx hb hr hlocks hK hP hD hS hw dX1_targetFor_63
      · have hw := hw.2 c10
        refine lv_iload hx hb dX1_targetFor_13 (lv_at hl 5 rfl) ?_
        refine lv_iload_n hx hb dX1_targetFor_15 rfl (lv_at hl 2 rfl) ?_
        refine lv_icmp_eq (tgt := 55) hx hb dX1_targetFor_16 (by decide) (fun c16 => ?_) (fun c16 => ?_)
        · have hw := hw.1 c16
          exact B55 _ ih _ _ _ _ _ _ hw _ _ ls (lv_sub hl [0, 1, 2, 3, 4, 5] rfl) hP hD hS
        · have hw := hw.2 c16
          refine lv_aload_n hx hb dX1_targetFor_19 rfl (lv_at hl 0 rfl) ?_
          refine lv_iload hx hb dX1_targetFor_20 (lv_at hl 5 rfl) ?_
          refine lv_iload_n hx hb dX1_targetFor_22 rfl (lv_at hl 1 rfl) ?_
          refine lv_iload_n hx hb dX1_targetFor_23 rfl (lv_at hl 3 rfl) ?_
          refine kVi (As := [.int x5, .int x1, .int x3]) (rest := []) ⟨hx, hb, hml, hown, hts⟩ (c_S_canTake l D cs a _ σ x5 x1 x3 hw) (cwV 3 hts gX1_targetFor_X1_canTake rfl rfl rfl (by decide +kernel) ⟨Nat.le_of_ble_eq_true rfl, Nat.le_of_ble_eq_true rfl⟩) (pt_self_SK cs a σ) hK hP hD hS hA (ci := 1) rfl rfl rfl rfl hl.1 rfl (Nat.le_of_ble_eq_true rfl) dX1_targetFor_24 ⟨Nat.zero_le _, Nat.zero_le _⟩ (fun r24 u24 H locs hw hP hD hS => ?_)
          have hP : va_P D vwCl (ws_SK cs a u24) H := hP
          have hD : va_D A (ws_SK cs a u24) := hD
          refine lv_if_eq (tgt := 55) hx hb dX1_targetFor_27 (by decide) (fun c27 => ?_) (fun c27 => ?_)
          · have hw := hw.1 c27
            exact B55 _ ih _ _ _ _ _ _ hw _ _ ls (lv_sub hl [0, 1, 2, 3, 4, 5] rfl) hP hD hS
          · have hw := hw.2 c27
            refine lv_iload hx hb dX1_targetFor_30 (lv_at hl 4 rfl) ?_
            refine lv_iconst (v := (-1 : Int32)) hx hb dX1_targetFor_32 (by decide) ?_
            refine lv_icmp_eq (tgt := 51) hx hb dX1_targetFor_33 (by decide) (fun c33 => ?_) (fun c33 => ?_)
            · have hw := hw.1 c33
              exact B51 _ ih _ _ _ _ _ hw _ _ ls (lv_sub hl [0, 1, 2, 3, 5] rfl) hP hD hS
            · have hw := hw.2 c33
              refine lv_aload_n hx hb dX1_targetFor_36 rfl (lv_at hl 0 rfl) ?_
              refine lv_iload hx hb dX1_targetFor_37 (lv_at hl 5 rfl) ?_
              refine kVi (As := [.int x5]) (rest := []) ⟨hx, hb, hml, hown, hts⟩ (c_S_heightOf l D cs a _ u24 x5 hw) (cwV 1 hts gX1_targetFor_X1_heightOf rfl rfl rfl (by decide +kernel) ⟨Nat.le_of_ble_eq_true rfl, Nat.le_of_ble_eq_true rfl⟩) (pt_self_SK cs a u24) hK hP hD hS hA (ci := 1) rfl rfl rfl rfl hl.1 rfl (Nat.le_of_ble_eq_true rfl) dX1_targetFor_39 ⟨Nat.zero_le _, Nat.zero_le _⟩ (fun r39 u39 H locs hw hP hD hS => ?_)
              have hP : va_P D vwCl (ws_SK cs a u39) H := hP
              have hD : va_D A (ws_SK cs a u39) := hD
              refine lv_aload_n hx hb dX1_targetFor_42 rfl (lv_at hl 0 rfl) ?_
              refine lv_iload hx hb dX1_targetFor_43 (lv_at hl 4 rfl) ?_
              refine kVi (As := [.int x4]) (rest := [.int r39]) ⟨hx, hb, hml, hown, hts⟩ (c_S_heightOf l D cs a _ u39 x4 hw) (cwV 1 hts gX1_targetFor_X1_heightOf rfl rfl rfl (by decide +kernel) ⟨Nat.le_of_ble_eq_true rfl, Nat.le_of_ble_eq_true rfl⟩) (pt_self_SK cs a u39) hK hP hD hS hA (ci := 1) rfl rfl rfl rfl hl.1 rfl (Nat.le_of_ble_eq_true rfl) dX1_targetFor_45 ⟨Nat.zero_le _, Nat.zero_le _⟩ (fun r45 u45 H locs hw hP hD hS => ?_)
              have hP : va_P D vwCl (ws_SK cs a u45) H := hP
              have hD : va_D A (ws_SK cs a u45) := hD
              refine lv_icmp_ge (tgt := 55) hx hb dX1_targetFor_48 (by decide) (fun c48 => ?_) (fun c48 => ?_)
              · have hw := hw.1 c48
                exact B55 _ ih _ _ _ _ _ _ hw _ _ ls (lv_sub hl [0, 1, 2, 3, 4, 5] rfl) hP hD hS
              · have hw := hw.2 c48
                exact B51 _ ih _ _ _ _ _ hw _ _ ls (lv_sub hl [0, 1, 2, 3, 5] rfl) hP hD hS
  have hl := lv_entry ([.ref (a 0), .int p1, .int p2, .int p3]) (n := 6) (Nat.le_of_ble_eq_true rfl)
  rw [lg_entry_eq]
  generalize (lg_sl ([.ref (a 0), .int p1, .int p2, .int p3]) ++ List.replicate (6 - (lg_sl ([.ref (a 0), .int p1, .int p2, .int p3])).length) Slot.unset).toArray = ls at hl ⊢
  have hl : lv_has ls 6 [(0, .ref (a 0)), (1, .int p1), (2, .int p2), (3, .int p3)] := hl
  unfold w_S_targetFor at hw
  refine lv_iconst (v := (-1 : Int32)) hx hb dX1_targetFor_0 (by decide) ?_
  refine lv_istore (lv' := [(4, .int (-1 : Int32)), (0, .ref (a 0)), (1, .int p1), (2, .int p2), (3, .int p3)]) hx hb dX1_targetFor_1 hl (by decide) rfl (fun ls hl => ?_)
  refine lv_iconst (v := (0 : Int32)) hx hb dX1_targetFor_3 (by decide) ?_
  refine lv_istore (lv' := [(5, .int (0 : Int32)), (4, .int (-1 : Int32)), (0, .ref (a 0)), (1, .int p1), (2, .int p2), (3, .int p3)]) hx hb dX1_targetFor_4 hl (by decide) rfl (fun ls hl => ?_)
  obtain ⟨n, hw⟩ := hw
  exact B6 n _ _ _ _ _ _ hw _ _ ls (lv_sub hl [2, 3, 4, 5, 1, 0] rfl) hP hD hS
abbrev rm_S_digOut : Room := { frames := 4, cells := 0, slots := 0, locals := 92 }
set_option maxHeartbeats 4000000 in
set_option maxRecDepth 100000 in
theorem c_S_digOut (l : Launch) (D : va_G) (cs : CS) (a : Nat → Nat) (sz : Nat) (σ : SK) (p1 : Int32) (p2 : Int32) {Φ : Int32 → SK → Prop} (hw : w_S_digOut σ p1 p2 Φ) : Met l yX1_digOut wsX1_digOut rm_S_digOut (PcG [.ref (a 0), .int p1, .int p2] D cs (ws_SK cs a σ) sz) (va_Qi Φ (BG D cs (va_A (ws_SK cs a σ) sz) sz (ws_SK cs a)) (va_A (ws_SK cs a σ) sz)) 0 0 (va_A (ws_SK cs a σ) sz) := by
  refine Met.ofW (cc := cX1_digOut) (maxL := 7) (ret := (some .int)) (by decide) rfl ?_
  intro p e s m args below meth c s₁ B hml hv
  obtain ⟨rfl, hsz, hP, hK, hD0⟩ := hv
  have hx := B.exec
  have hb := B.bytes
  have hr := B.returns
  have hts := atoms_spec (ws := wsX1_digOut) B.pre
  have hown : s.vm.findClass RX1 = some m.cls := findClass_of_methodNamed B.named
  have hlocks := B.notSynchronized
  subst hsz
  have hD := hD0.self (sz := s.heap.size)
  generalize hAe : va_A (ws_SK cs a σ) s.heap.size = A at hD ⊢
  have hA : ∀ q : Nat, s.heap.size ≤ q → A q := fun q h => by rw [← hAe]; exact Or.inr h
  have hS : va_S A s.heap s.heap [] := va_S.rf
  have hP : va_P D vwCl (ws_SK cs a σ) s.heap := hP
  have B16 : ∀ (n : Nat) (x1 : Int32) (x2 : Int32) (x3 : Int32) (x4 : Int32) (σ : SK), it5 (b_S_digOut_16 Φ) n x1 x2 x3 x4 σ → At p l e (headSpec wsX1_digOut rm_S_digOut).room s m ([.ref (a 0), .int p1, .int p2] : List Value).toArray below meth c (MQ below (va_Qi Φ (BG D cs A s.heap.size (ws_SK cs a)) A) ([.ref (a 0), .int p1, .int p2] : List Value).toArray s 0 0 A) D A 7 [(0, .ref (a 0)), (1, .int x1), (2, .int x2), (3, .int x3), (4, .int x4)] (ws_SK cs a σ) 16 [] := by
    intro n
    induction n with
    | zero => intro x1 x2 x3 x4 σ hw; exact absurd hw id
    | succ n ih =>
      intro x1 x2 x3 x4 σ hw H locs ls hl hP hD hS
      have hw : b_S_digOut_16 Φ (it5 (b_S_digOut_16 Φ) n) x1 x2 x3 x4 σ := hw
      unfold b_S_digOut_16 at hw
      refine lv_iload hx hb dX1_digOut_16 (lv_at hl 4 rfl) ?_
      refine lv_iconst (v := (5 : Int32)) hx hb dX1_digOut_18 (by decide) ?_
      refine lv_icmp_gt (tgt := 74) hx hb dX1_digOut_19 (by decide) (fun c19 => ?_) (fun c19 => ?_)
      · have hw := hw.1 c19
        refine lv_iconst (v := (-1 : Int32)) hx hb dX1_digOut_74 (by decide) ?_
        exact rI (wf := (ws_SK cs a)) (u := σ) hx hb hr hlocks hK hP hD hS hw dX1_digOut_75
      · have hw := hw.2 c19
        refine lv_aload_n hx hb dX1_digOut_22 rfl (lv_at hl 0 rfl) ?_
        refine lv_iload_n hx hb dX1_digOut_23 rfl (lv_at hl 3 rfl) ?_
        refine kVi (As := [.int x3]) (rest := []) ⟨hx, hb, hml, hown, hts⟩ (c_S_takeTop l D cs a _ σ x3 hw) (cwV 1 hts gX1_digOut_X1_takeTop rfl rfl rfl (by decide +kernel) ⟨Nat.le_of_ble_eq_true rfl, Nat.le_of_ble_eq_true rfl⟩) (pt_self_SK cs a σ) hK hP hD hS hA (ci := 1) rfl rfl rfl rfl hl.1 rfl (Nat.le_of_ble_eq_true rfl) dX1_digOut_24 ⟨Nat.zero_le _, Nat.zero_le _⟩ (fun r24 u24 H locs hw hP hD hS => ?_)
        have hP : va_P D vwCl (ws_SK cs a u24) H := hP
        have hD : va_D A (ws_SK cs a u24) := hD
        refine lv_istore (lv' := [(5, .int r24), (0, .ref (a 0)), (1, .int x1), (2, .int x2), (3, .int x3), (4, .int x4)]) hx hb dX1_digOut_27 hl (by decide) rfl (fun ls hl => ?_)
        refine lv_iload hx hb dX1_digOut_29 (lv_at hl 0 rfl) ?_
        refine lv_iload_n hx hb dX1_digOut_31 rfl (lv_at hl 2 rfl) ?_
        refine lv_icmp_ne (tgt := 38) hx hb dX1_digOut_32 (by decide) (fun c32 => ?_) (fun c32 => ?_)
        · have hw := hw.2 c32
          refine lv_aload_n hx hb dX1_digOut_38 rfl (lv_at hl 1 rfl) ?_
          refine lv_aload_n hx hb dX1_digOut_39 rfl (lv_at hl 1 rfl) ?_
          refine lv_iload hx hb dX1_digOut_40 (lv_at hl 0 rfl) ?_
          refine kVi (As := [.int r24]) (rest := [.ref (a 0)]) ⟨hx, hb, hml, hown, hts⟩ (c_S_weightOf l D cs a _ u24 r24 hw) (cwV 1 hts gX1_digOut_X1_weightOf rfl rfl rfl (by decide +kernel) ⟨Nat.le_of_ble_eq_true rfl, Nat.le_of_ble_eq_true rfl⟩) (pt_self_SK cs a u24) hK hP hD hS hA (ci := 1) rfl rfl rfl rfl hl.1 rfl (Nat.le_of_ble_eq_true rfl) dX1_digOut_42 ⟨Nat.zero_le _, Nat.zero_le _⟩ (fun r42 u42 H locs hw hP hD hS => ?_)
          have hP : va_P D vwCl (ws_SK cs a u42) H := hP
          have hD : va_D A (ws_SK cs a u42) := hD
          refine lv_iload_n hx hb dX1_digOut_45 rfl (lv_at hl 4 rfl) ?_
          refine lv_iload_n hx hb dX1_digOut_46 rfl (lv_at hl 3 rfl) ?_
          refine kVi (As := [.int r42, .int x3, .int x2]) (rest := []) ⟨hx, hb, hml, hown, hts⟩ (c_S_targetFor l D cs a _ u42 r42 x3 x2 hw) (cwV 3 hts gX1_digOut_X1_targetFor rfl rfl rfl (by decide +kernel) ⟨Nat.le_of_ble_eq_true rfl, Nat.le_of_ble_eq_true rfl⟩) (pt_self_SK cs a u42) hK hP hD hS hA (ci := 1) rfl rfl rfl rfl hl.1 rfl (Nat.le_of_ble_eq_true rfl) dX1_digOut_47 ⟨Nat.zero_le _, Nat.zero_le _⟩ (fun r47 u47 H locs hw hP hD hS => ?_)
          have hP : va_P D vwCl (ws_SK cs a u47) H := hP
          have hD : va_D A (ws_SK cs a u47) := hD
          refine lv_istore (lv' := [(6, .int r47), (5, .int r24), (0, .ref (a 0)), (1, .int x1), (2, .int x2), (3, .int x3), (4, .int x4)]) hx hb dX1_digOut_50 hl (by decide) rfl (fun ls hl => ?_)
          refine lv_iload hx hb dX1_digOut_52 (lv_at hl 0 rfl) ?_
          refine lv_iconst (v := (-1 : Int32)) hx hb dX1_digOut_54 (by decide) ?_
          refine lv_icmp_ne (tgt := 60) hx hb dX1_digOut_55 (by decide) (fun c55 => ?_) (fun c55 => ?_)
          · have hw := hw.2 c55
            refine lv_aload_n hx hb dX1_digOut_60 rfl (lv_at hl 2 rfl) ?_
            refine lv_iload hx hb dX1_digOut_61 (lv_at hl 0 rfl) ?_
            refine lv_iload hx hb dX1_digOut_63 (lv_at hl 1 rfl) ?_
            refine kVv (As := [.int r47, .int r24]) (rest := []) ⟨hx, hb, hml, hown, hts⟩ (c_S_put l D cs a _ u47 r47 r24 hw) (cwV 2 hts gX1_digOut_X1_put rfl rfl rfl (by decide +kernel) ⟨Nat.le_of_ble_eq_true rfl, Nat.le_of_ble_eq_true rfl⟩) (pt_self_SK cs a u47) hK hP hD hS hA (ci := 1) rfl rfl rfl rfl hl.1 rfl (Nat.le_of_ble_eq_true rfl) dX1_digOut_65 ⟨Nat.zero_le _, Nat.zero_le _⟩ (fun u65 H locs hw hP hD hS => ?_)
            have hP : va_P D vwCl (ws_SK cs a u65) H := hP
            have hD : va_D A (ws_SK cs a u65) := hD
            refine lv_iinc (v := (x4 + (1 : Int32))) (lv' := [(4, .int (x4 + (1 : Int32))), (6, .int r47), (5, .int r24), (0, .ref (a 0)), (1, .int x1), (2, .int x2), (3, .int x3)]) hx hb dX1_digOut_68 hl (k := 6) rfl rfl (by decide) rfl (fun ls hl => ?_)
            refine lv_goto (tgt := 16) hx hb dX1_digOut_71 (by decide) ?_
            exact ih _ _ _ _ _ hw H locs ls (lv_sub hl [3, 4, 5, 6, 0] rfl) hP hD hS
          · have hw := hw.1 c55
            refine lv_iconst (v := (-1 : Int32)) hx hb dX1_digOut_58 (by decide) ?_
            exact rI (wf := (ws_SK cs a)) (u := u47) hx hb hr hlocks hK hP hD hS hw dX1_digOut_59
        · have hw := hw.1 c32
          refine lv_iload hx hb dX1_digOut_35 (lv_at hl 5 rfl) ?_
          exact rI (wf := (ws_SK cs a)) (u := u24) hx hb hr hlocks hK hP hD hS hw dX1_digOut_37
  have hl := lv_entry ([.ref (a 0), .int p1, .int p2]) (n := 7) (Nat.le_of_ble_eq_true rfl)
  rw [lg_entry_eq]
  generalize (lg_sl ([.ref (a 0), .int p1, .int p2]) ++ List.replicate (7 - (lg_sl ([.ref (a 0), .int p1, .int p2])).length) Slot.unset).toArray = ls at hl ⊢
  have hl : lv_has ls 7 [(0, .ref (a 0)), (1, .int p1), (2, .int p2)] := hl
  unfold w_S_digOut at hw
  refine lv_aload_n hx hb dX1_digOut_0 rfl (lv_at hl 0 rfl) ?_
  refine lv_iload_n hx hb dX1_digOut_1 rfl (lv_at hl 1 rfl) ?_
  refine kVi (As := [.int p1]) (rest := []) ⟨hx, hb, hml, hown, hts⟩ (c_S_stackHolding l D cs a _ σ p1 hw) (cwV 1 hts gX1_digOut_X1_stackHolding rfl rfl rfl (by decide +kernel) ⟨Nat.le_of_ble_eq_true rfl, Nat.le_of_ble_eq_true rfl⟩) (pt_self_SK cs a σ) hK hP hD hS hA (ci := 1) rfl rfl rfl rfl hl.1 rfl (Nat.le_of_ble_eq_true rfl) dX1_digOut_2 ⟨Nat.zero_le _, Nat.zero_le _⟩ (fun r2 u2 H locs hw hP hD hS => ?_)
  have hP : va_P D vwCl (ws_SK cs a u2) H := hP
  have hD : va_D A (ws_SK cs a u2) := hD
  refine lv_istore_n (lv' := [(3, .int r2), (0, .ref (a 0)), (1, .int p1), (2, .int p2)]) hx hb dX1_digOut_5 rfl hl (by decide) rfl (fun ls hl => ?_)
  refine lv_iload_n hx hb dX1_digOut_6 rfl (lv_at hl 0 rfl) ?_
  refine lv_iconst (v := (-1 : Int32)) hx hb dX1_digOut_7 (by decide) ?_
  refine lv_icmp_ne (tgt := 13) hx hb dX1_digOut_8 (by decide) (fun c8 => ?_) (fun c8 => ?_)
  · have hw := hw.2 c8
    refine lv_iconst (v := (1 : Int32)) hx hb dX1_digOut_13 (by decide) ?_
    refine lv_istore (lv' := [(4, .int (1 : Int32)), (3, .int r2), (0, .ref (a 0)), (1, .int p1), (2, .int p2)]) hx hb dX1_digOut_14 hl (by decide) rfl (fun ls hl => ?_)
    obtain ⟨n, hw⟩ := hw
    exact B16 n _ _ _ _ _ hw _ _ ls (lv_sub hl [2, 3, 4, 1, 0] rfl) hP hD hS
  · have hw := hw.1 c8
    refine lv_iconst (v := (-1 : Int32)) hx hb dX1_digOut_11 (by decide) ?_
    exact rI (wf := (ws_SK cs a)) (u := u2) hx hb hr hlocks hK hP hD hS hw dX1_digOut_12
abbrev rm_S_cratesAbove : Room := { frames := 1, cells := 0, slots := 0, locals := 30 }
set_option maxHeartbeats 4000000 in
set_option maxRecDepth 100000 in
theorem c_S_cratesAbove (l : Launch) (D : va_G) (cs : CS) (a : Nat → Nat) (sz : Nat) (σ : SK) (p1 : Int32) {Φ : Int32 → SK → Prop} (hw : w_S_cratesAbove σ p1 Φ) : Met l yX1_cratesAbove wsX1_cratesAbove rm_S_cratesAbove (PcG [.ref (a 0), .int p1] D cs (ws_SK cs a σ) sz) (va_Qi Φ (BG D cs (va_A (ws_SK cs a σ) sz) sz (ws_SK cs a)) (va_A (ws_SK cs a σ) sz)) 0 0 (va_A (ws_SK cs a σ) sz) := by
  refine Met.ofW (cc := cX1_cratesAbove) (maxL := 4) (ret := (some .int)) (by decide) rfl ?_
  intro p e s m args below meth c s₁ B hml hv
  obtain ⟨rfl, hsz, hP, hK, hD0⟩ := hv
  have hx := B.exec
  have hb := B.bytes
  have hr := B.returns
  have hts := atoms_spec (ws := wsX1_cratesAbove) B.pre
  have hown : s.vm.findClass RX1 = some m.cls := findClass_of_methodNamed B.named
  have hlocks := B.notSynchronized
  subst hsz
  have hD := hD0.self (sz := s.heap.size)
  generalize hAe : va_A (ws_SK cs a σ) s.heap.size = A at hD ⊢
  have hA : ∀ q : Nat, s.heap.size ≤ q → A q := fun q h => by rw [← hAe]; exact Or.inr h
  have hS : va_S A s.heap s.heap [] := va_S.rf
  have hf9 : (Cond.fieldLink RX1 9 "CraneYard$Stacks" "heights" "[I").before ([.ref (a 0), .int p1] : List Value).toArray s = true := hts _ (List.mem_of_getElem? (i := 1) rfl)
  have hinX1 : ∀ w ∈ wsX10, w ∈ wsX1_cratesAbove := fun _ h => List.mem_cons_of_mem _ (List.mem_append_right _ h)
  have hm1 : (Cond.methodLink RX1 55 Lib.Math.max.name).before ([.ref (a 0), .int p1] : List Value).toArray s = true := hts _ (List.mem_of_getElem? (i := 2) rfl)
  have hm2 : (Cond.static Lib.Math.max.name).before ([.ref (a 0), .int p1] : List Value).toArray s = true := hts _ (List.mem_of_getElem? (i := 3) rfl)
  have hm3 : (Cond.initialized "java/lang/Math").before ([.ref (a 0), .int p1] : List Value).toArray s = true := hts _ (List.mem_of_getElem? (i := 4) rfl)
  have hm4 : (Cond.code Lib.Math.max.name Lib.Math.max.code 2 (some .int)).before ([.ref (a 0), .int p1] : List Value).toArray s = true := hts _ (List.mem_of_getElem? (i := 5) rfl)
  have hP : va_P D vwCl (ws_SK cs a σ) s.heap := hP
  have B4 : ∀ (n : Nat) (x1 : Int32) (x2 : Int32) (x3 : Int32) (σ : SK), it4 (b_S_cratesAbove_4 Φ) n x1 x2 x3 σ → At p l e (headSpec wsX1_cratesAbove rm_S_cratesAbove).room s m ([.ref (a 0), .int p1] : List Value).toArray below meth c (MQ below (va_Qi Φ (BG D cs A s.heap.size (ws_SK cs a)) A) ([.ref (a 0), .int p1] : List Value).toArray s 0 0 A) D A 4 [(0, .ref (a 0)), (1, .int x1), (2, .int x2), (3, .int x3)] (ws_SK cs a σ) 4 [] := by
    intro n
    induction n with
    | zero => intro x1 x2 x3 σ hw; exact absurd hw id
    | succ n ih =>
      intro x1 x2 x3 σ hw H locs ls hl hP hD hS
      have hw : b_S_cratesAbove_4 Φ (it4 (b_S_cratesAbove_4 Φ) n) x1 x2 x3 σ := hw
      unfold b_S_cratesAbove_4 at hw
      refine lv_iload_n hx hb dX1_cratesAbove_4 rfl (lv_at hl 3 rfl) ?_
      refine lv_bipush (v := (6 : Int32)) hx hb dX1_cratesAbove_5 (by decide) ?_
      refine lv_icmp_ge (tgt := 31) hx hb dX1_cratesAbove_7 (by decide) (fun c7 => ?_) (fun c7 => ?_)
      · have hw := hw.1 c7
        refine lv_iload_n hx hb dX1_cratesAbove_31 rfl (lv_at hl 2 rfl) ?_
        exact rI (wf := (ws_SK cs a)) (u := σ) hx hb hr hlocks hK hP hD hS hw dX1_cratesAbove_32
      · have hw := hw.2 c7
        refine lv_iload_n hx hb dX1_cratesAbove_10 rfl (lv_at hl 2 rfl) ?_
        refine lv_iconst (v := (0 : Int32)) hx hb dX1_cratesAbove_11 (by decide) ?_
        refine lv_aload_n hx hb dX1_cratesAbove_12 rfl (lv_at hl 0 rfl) ?_
        refine va_get (D := D) (ci := 1) (v := .ref (a 1)) (C := RX1) (T := TX1) (N := 3) hx hb hts hinX1 hown hK hP 0 rfl rfl 0 (by decide) hf9 (fun _ h9 => h9) rfl dX1_cratesAbove_13 ?_
        refine lv_iload_n hx hb dX1_cratesAbove_16 rfl (lv_at hl 3 rfl) ?_
        have hi17 := hw.1
        have hw := hw.2
        refine va_iald (f := (g_SK_heights σ)) (n := 6) hx hb hK hP 1 0 rfl rfl hi17 dX1_cratesAbove_17 ?_
        refine lv_iload_n hx hb dX1_cratesAbove_18 rfl (lv_at hl 1 rfl) ?_
        refine lv_isub hx hb dX1_cratesAbove_19 ?_
        refine va_mmax hx hb (by rw [hml]; exact hl.1.symm) hown hm1 hm2 hm3 hm4 (Nat.le_of_ble_eq_true rfl) (Nat.le_of_ble_eq_true rfl) (Nat.zero_le _) (Nat.zero_le _) dX1_cratesAbove_20 ?_
        refine lv_iadd hx hb dX1_cratesAbove_23 ?_
        refine lv_topi (fun y1 ey1 => ?_)
        have hw := hw y1 ey1
        refine lv_istore_n (lv' := [(2, .int y1), (0, .ref (a 0)), (1, .int x1), (3, .int x3)]) hx hb dX1_cratesAbove_24 rfl hl (by decide) rfl (fun ls hl => ?_)
        refine lv_iinc (v := (x3 + (1 : Int32))) (lv' := [(3, .int (x3 + (1 : Int32))), (2, .int y1), (0, .ref (a 0)), (1, .int x1)]) hx hb dX1_cratesAbove_25 hl (k := 3) rfl rfl (by decide) rfl (fun ls hl => ?_)
        refine lv_goto (tgt := 4) hx hb dX1_cratesAbove_28 (by decide) ?_
        exact ih _ _ _ _ hw _ _ ls (lv_sub hl [2, 3, 1, 0] rfl) hP hD hS
  have hl := lv_entry ([.ref (a 0), .int p1]) (n := 4) (Nat.le_of_ble_eq_true rfl)
  rw [lg_entry_eq]
  generalize (lg_sl ([.ref (a 0), .int p1]) ++ List.replicate (4 - (lg_sl ([.ref (a 0), .int p1])).length) Slot.unset).toArray = ls at hl ⊢
  have hl : lv_has ls 4 [(0, .ref (a 0)), (1, .int p1)] := hl
  unfold w_S_cratesAbove at hw
  refine lv_iconst (v := (0 : Int32)) hx hb dX1_cratesAbove_0 (by decide) ?_
  refine lv_istore_n (lv' := [(2, .int (0 : Int32)), (0, .ref (a 0)), (1, .int p1)]) hx hb dX1_cratesAbove_1 rfl hl (by decide) rfl (fun ls hl => ?_)
  refine lv_iconst (v := (0 : Int32)) hx hb dX1_cratesAbove_2 (by decide) ?_
  refine lv_istore_n (lv' := [(3, .int (0 : Int32)), (2, .int (0 : Int32)), (0, .ref (a 0)), (1, .int p1)]) hx hb dX1_cratesAbove_3 rfl hl (by decide) rfl (fun ls hl => ?_)
  obtain ⟨n, hw⟩ := hw
  exact B4 n _ _ _ _ hw _ _ ls (lv_sub hl [2, 3, 1, 0] rfl) hP hD hS
abbrev rm_S_feeOfOneDay : Room := { frames := 0, cells := 0, slots := 0, locals := 0 }
set_option maxHeartbeats 4000000 in
set_option maxRecDepth 100000 in
theorem c_S_feeOfOneDay (l : Launch) (D : va_G) (cs : CS) (a : Nat → Nat) (sz : Nat) (σ : SK) {Φ : Int32 → SK → Prop} (hw : w_S_feeOfOneDay σ Φ) : Met l yX1_feeOfOneDay wsX1_feeOfOneDay rm_S_feeOfOneDay (PcG [.ref (a 0)] D cs (ws_SK cs a σ) sz) (va_Qi Φ (BG D cs (va_A (ws_SK cs a σ) sz) sz (ws_SK cs a)) (va_A (ws_SK cs a σ) sz)) 0 0 (va_A (ws_SK cs a σ) sz) := by
  refine Met.ofW (cc := cX1_feeOfOneDay) (maxL := 3) (ret := (some .int)) (by decide) rfl ?_
  intro p e s m args below meth c s₁ B hml hv
  obtain ⟨rfl, hsz, hP, hK, hD0⟩ := hv
  have hx := B.exec
  have hb := B.bytes
  have hr := B.returns
  have hts := atoms_spec (ws := wsX1_feeOfOneDay) B.pre
  have hown : s.vm.findClass RX1 = some m.cls := findClass_of_methodNamed B.named
  have hlocks := B.notSynchronized
  subst hsz
  have hD := hD0.self (sz := s.heap.size)
  generalize hAe : va_A (ws_SK cs a σ) s.heap.size = A at hD ⊢
  have hA : ∀ q : Nat, s.heap.size ≤ q → A q := fun q h => by rw [← hAe]; exact Or.inr h
  have hS : va_S A s.heap s.heap [] := va_S.rf
  have hf9 : (Cond.fieldLink RX1 9 "CraneYard$Stacks" "heights" "[I").before ([.ref (a 0)] : List Value).toArray s = true := hts _ (List.mem_of_getElem? (i := 1) rfl)
  have hinX1 : ∀ w ∈ wsX10, w ∈ wsX1_feeOfOneDay := fun _ h => List.mem_cons_of_mem _ (List.mem_append_right _ h)
  have hP : va_P D vwCl (ws_SK cs a σ) s.heap := hP
  have B4 : ∀ (n : Nat) (x1 : Int32) (x2 : Int32) (σ : SK), it3 (b_S_feeOfOneDay_4 Φ) n x1 x2 σ → At p l e (headSpec wsX1_feeOfOneDay rm_S_feeOfOneDay).room s m ([.ref (a 0)] : List Value).toArray below meth c (MQ below (va_Qi Φ (BG D cs A s.heap.size (ws_SK cs a)) A) ([.ref (a 0)] : List Value).toArray s 0 0 A) D A 3 [(0, .ref (a 0)), (1, .int x1), (2, .int x2)] (ws_SK cs a σ) 4 [] := by
    intro n
    induction n with
    | zero => intro x1 x2 σ hw; exact absurd hw id
    | succ n ih =>
      intro x1 x2 σ hw H locs ls hl hP hD hS
      have hw : b_S_feeOfOneDay_4 Φ (it3 (b_S_feeOfOneDay_4 Φ) n) x1 x2 σ := hw
      unfold b_S_feeOfOneDay_4 at hw
      refine lv_iload_n hx hb dX1_feeOfOneDay_4 rfl (lv_at hl 2 rfl) ?_
      refine lv_bipush (v := (6 : Int32)) hx hb dX1_feeOfOneDay_5 (by decide) ?_
      refine lv_icmp_ge (tgt := 36) hx hb dX1_feeOfOneDay_7 (by decide) (fun c7 => ?_) (fun c7 => ?_)
      · have hw := hw.1 c7
        refine lv_iload_n hx hb dX1_feeOfOneDay_36 rfl (lv_at hl 1 rfl) ?_
        exact rI (wf := (ws_SK cs a)) (u := σ) hx hb hr hlocks hK hP hD hS hw dX1_feeOfOneDay_37
      · have hw := hw.2 c7
        refine lv_iload_n hx hb dX1_feeOfOneDay_10 rfl (lv_at hl 1 rfl) ?_
        refine lv_aload_n hx hb dX1_feeOfOneDay_11 rfl (lv_at hl 0 rfl) ?_
        refine va_get (D := D) (ci := 1) (v := .ref (a 1)) (C := RX1) (T := TX1) (N := 3) hx hb hts hinX1 hown hK hP 0 rfl rfl 0 (by decide) hf9 (fun _ h9 => h9) rfl dX1_feeOfOneDay_12 ?_
        refine lv_iload_n hx hb dX1_feeOfOneDay_15 rfl (lv_at hl 2 rfl) ?_
        have hi16 := hw.1
        have hw := hw.2
        refine va_iald (f := (g_SK_heights σ)) (n := 6) hx hb hK hP 1 0 rfl rfl hi16 dX1_feeOfOneDay_16 ?_
        refine lv_aload_n hx hb dX1_feeOfOneDay_17 rfl (lv_at hl 0 rfl) ?_
        refine va_get (D := D) (ci := 1) (v := .ref (a 1)) (C := RX1) (T := TX1) (N := 3) hx hb hts hinX1 hown hK hP 0 rfl rfl 0 (by decide) hf9 (fun _ h9 => h9) rfl dX1_feeOfOneDay_18 ?_
        refine lv_iload_n hx hb dX1_feeOfOneDay_21 rfl (lv_at hl 2 rfl) ?_
        have hi22 := hw.1
        have hw := hw.2
        refine va_iald (f := (g_SK_heights σ)) (n := 6) hx hb hK hP 1 0 rfl rfl hi22 dX1_feeOfOneDay_22 ?_
        refine lv_iconst (v := (1 : Int32)) hx hb dX1_feeOfOneDay_23 (by decide) ?_
        refine lv_isub hx hb dX1_feeOfOneDay_24 ?_
        refine lv_imul hx hb dX1_feeOfOneDay_25 ?_
        refine lv_iconst (v := (2 : Int32)) hx hb dX1_feeOfOneDay_26 (by decide) ?_
        refine lv_idiv hx hb dX1_feeOfOneDay_27 (by decide) ?_
        refine lv_iadd hx hb dX1_feeOfOneDay_28 ?_
        refine lv_topi (fun y1 ey1 => ?_)
        have hw := hw y1 ey1
        refine lv_istore_n (lv' := [(1, .int y1), (0, .ref (a 0)), (2, .int x2)]) hx hb dX1_feeOfOneDay_29 rfl hl (by decide) rfl (fun ls hl => ?_)
        refine lv_iinc (v := (x2 + (1 : Int32))) (lv' := [(2, .int (x2 + (1 : Int32))), (1, .int y1), (0, .ref (a 0))]) hx hb dX1_feeOfOneDay_30 hl (k := 2) rfl rfl (by decide) rfl (fun ls hl => ?_)
        refine lv_goto (tgt := 4) hx hb dX1_feeOfOneDay_33 (by decide) ?_
        exact ih _ _ _ hw _ _ ls (lv_sub hl [2, 1, 0] rfl) hP hD hS
  have hl := lv_entry ([.ref (a 0)]) (n := 3) (Nat.le_of_ble_eq_true rfl)
  rw [lg_entry_eq]
  generalize (lg_sl ([.ref (a 0)]) ++ List.replicate (3 - (lg_sl ([.ref (a 0)])).length) Slot.unset).toArray = ls at hl ⊢
  have hl : lv_has ls 3 [(0, .ref (a 0))] := hl
  unfold w_S_feeOfOneDay at hw
  refine lv_iconst (v := (0 : Int32)) hx hb dX1_feeOfOneDay_0 (by decide) ?_
  refine lv_istore_n (lv' := [(1, .int (0 : Int32)), (0, .ref (a 0))]) hx hb dX1_feeOfOneDay_1 rfl hl (by decide) rfl (fun ls hl => ?_)
  refine lv_iconst (v := (0 : Int32)) hx hb dX1_feeOfOneDay_2 (by decide) ?_
  refine lv_istore_n (lv' := [(2, .int (0 : Int32)), (1, .int (0 : Int32)), (0, .ref (a 0))]) hx hb dX1_feeOfOneDay_3 rfl hl (by decide) rfl (fun ls hl => ?_)
  obtain ⟨n, hw⟩ := hw
  exact B4 n _ _ _ hw _ _ ls (lv_sub hl [2, 1, 0] rfl) hP hD hS
abbrev rm_W_number : Room := { frames := 0, cells := 0, slots := 0, locals := 0 }
set_option maxHeartbeats 4000000 in
set_option maxRecDepth 100000 in
theorem c_W_number (l : Launch) (D : va_G) (cs : CS) (a : Nat → Nat) (sz : Nat) (σ : WD) {Φ : Int32 → WD → Prop} (hw : w_W_number σ Φ) : Met l yX2_number wsX2_number rm_W_number (PcG [.ref (a 0)] D cs (ws_WD cs a σ) sz) (va_Qi Φ (BG D cs (va_A (ws_WD cs a σ) sz) sz (ws_WD cs a)) (va_A (ws_WD cs a σ) sz)) 0 0 (va_A (ws_WD cs a σ) sz) := by
  refine Met.ofW (cc := cX2_number) (maxL := 1) (ret := (some .int)) (by decide) rfl ?_
  intro p e s m args below meth c s₁ B hml hv
  obtain ⟨rfl, hsz, hP, hK, hD0⟩ := hv
  have hx := B.exec
  have hb := B.bytes
  have hr := B.returns
  have hts := atoms_spec (ws := wsX2_number) B.pre
  have hown : s.vm.findClass RX2 = some m.cls := findClass_of_methodNamed B.named
  have hlocks := B.notSynchronized
  subst hsz
  have hD := hD0.self (sz := s.heap.size)
  generalize hAe : va_A (ws_WD cs a σ) s.heap.size = A at hD ⊢
  have hA : ∀ q : Nat, s.heap.size ≤ q → A q := fun q h => by rw [← hAe]; exact Or.inr h
  have hS : va_S A s.heap s.heap [] := va_S.rf
  have hf22 : (Cond.fieldLink RX2 22 "CraneYard$Words" "count" "I").before ([.ref (a 0)] : List Value).toArray s = true := hts _ (List.mem_of_getElem? (i := 1) rfl)
  have hinX2 : ∀ w ∈ wsX20, w ∈ wsX2_number := fun _ h => List.mem_cons_of_mem _ (List.mem_append_right _ h)
  have hP : va_P D vwCl (ws_WD cs a σ) s.heap := hP
  have hl := lv_entry ([.ref (a 0)]) (n := 1) (Nat.le_of_ble_eq_true rfl)
  rw [lg_entry_eq]
  generalize (lg_sl ([.ref (a 0)]) ++ List.replicate (1 - (lg_sl ([.ref (a 0)])).length) Slot.unset).toArray = ls at hl ⊢
  have hl : lv_has ls 1 [(0, .ref (a 0))] := hl
  unfold w_W_number at hw
  refine lv_aload_n hx hb dX2_number_0 rfl (lv_at hl 0 rfl) ?_
  refine va_get (D := D) (ci := 2) (v := .int (g_WD_count σ)) (C := RX2) (T := TX2) (N := 5) hx hb hts hinX2 hown hK hP 0 rfl rfl 3 (by decide) hf22 (fun _ h9 => h9) rfl dX2_number_1 ?_
  exact rI (wf := (ws_WD cs a)) (u := σ) hx hb hr hlocks hK hP hD hS hw dX2_number_4
abbrev rm_W_isPaid : Room := { frames := 0, cells := 0, slots := 0, locals := 0 }
set_option maxHeartbeats 4000000 in
set_option maxRecDepth 100000 in
theorem c_W_isPaid (l : Launch) (D : va_G) (cs : CS) (a : Nat → Nat) (sz : Nat) (σ : WD) (p1 : Int32) {Φ : Int32 → WD → Prop} (hw : w_W_isPaid σ p1 Φ) : Met l yX2_isPaid wsX2_isPaid rm_W_isPaid (PcG [.ref (a 0), .int p1] D cs (ws_WD cs a σ) sz) (va_Qi Φ (BG D cs (va_A (ws_WD cs a σ) sz) sz (ws_WD cs a)) (va_A (ws_WD cs a σ) sz)) 0 0 (va_A (ws_WD cs a σ) sz) := by
  refine Met.ofW (cc := cX2_isPaid) (maxL := 2) (ret := (some .boolean)) (by decide) rfl ?_
  intro p e s m args below meth c s₁ B hml hv
  obtain ⟨rfl, hsz, hP, hK, hD0⟩ := hv
  have hx := B.exec
  have hb := B.bytes
  have hr := B.returns
  have hts := atoms_spec (ws := wsX2_isPaid) B.pre
  have hown : s.vm.findClass RX2 = some m.cls := findClass_of_methodNamed B.named
  have hlocks := B.notSynchronized
  subst hsz
  have hD := hD0.self (sz := s.heap.size)
  generalize hAe : va_A (ws_WD cs a σ) s.heap.size = A at hD ⊢
  have hA : ∀ q : Nat, s.heap.size ≤ q → A q := fun q h => by rw [← hAe]; exact Or.inr h
  have hS : va_S A s.heap s.heap [] := va_S.rf
  have hf18 : (Cond.fieldLink RX2 18 "CraneYard$Words" "paid" "[Z").before ([.ref (a 0), .int p1] : List Value).toArray s = true := hts _ (List.mem_of_getElem? (i := 2) rfl)
  have hf22 : (Cond.fieldLink RX2 22 "CraneYard$Words" "count" "I").before ([.ref (a 0), .int p1] : List Value).toArray s = true := hts _ (List.mem_of_getElem? (i := 1) rfl)
  have hinX2 : ∀ w ∈ wsX20, w ∈ wsX2_isPaid := fun _ h => List.mem_cons_of_mem _ (List.mem_append_right _ h)
  have hP : va_P D vwCl (ws_WD cs a σ) s.heap := hP
  have B26 : ∀ (t0 : Int32) (σ : WD), b_W_isPaid_26 Φ t0 σ → At p l e (headSpec wsX2_isPaid rm_W_isPaid).room s m ([.ref (a 0), .int p1] : List Value).toArray below meth c (MQ below (va_Qi Φ (BG D cs A s.heap.size (ws_WD cs a)) A) ([.ref (a 0), .int p1] : List Value).toArray s 0 0 A) D A 2 [] (ws_WD cs a σ) 26 [.int t0] := by
    intro t0 σ hw H locs ls hl hP hD hS
    unfold b_W_isPaid_26 at hw
    exact rZ (wf := (ws_WD cs a)) (u := σ) hx hb hr hlocks hK hP hD hS hw dX2_isPaid_26
  have B25 : ∀ (σ : WD), b_W_isPaid_25 Φ σ → At p l e (headSpec wsX2_isPaid rm_W_isPaid).room s m ([.ref (a 0), .int p1] : List Value).toArray below meth c (MQ below (va_Qi Φ (BG D cs A s.heap.size (ws_WD cs a)) A) ([.ref (a 0), .int p1] : List Value).toArray s 0 0 A) D A 2 [] (ws_WD cs a σ) 25 [] := by
    intro σ hw H locs ls hl hP hD hS
    unfold b_W_isPaid_25 at hw
    refine lv_iconst (v := (0 : Int32)) hx hb dX2_isPaid_25 (by decide) ?_
    exact B26 _ _ hw _ _ ls (lv_sub hl [] rfl) hP hD hS
  have hl := lv_entry ([.ref (a 0), .int p1]) (n := 2) (Nat.le_of_ble_eq_true rfl)
  rw [lg_entry_eq]
  generalize (lg_sl ([.ref (a 0), .int p1]) ++ List.replicate (2 - (lg_sl ([.ref (a 0), .int p1])).length) Slot.unset).toArray = ls at hl ⊢
  have hl : lv_has ls 2 [(0, .ref (a 0)), (1, .int p1)] := hl
  unfold w_W_isPaid at hw
  refine lv_iload_n hx hb dX2_isPaid_0 rfl (lv_at hl 1 rfl) ?_
  refine lv_if_lt (tgt := 25) hx hb dX2_isPaid_1 (by decide) (fun c1 => ?_) (fun c1 => ?_)
  · have hw := hw.1 c1
    exact B25 _ hw _ _ ls (lv_sub hl [] rfl) hP hD hS
  · have hw := hw.2 c1
    refine lv_iload_n hx hb dX2_isPaid_4 rfl (lv_at hl 1 rfl) ?_
    refine lv_aload_n hx hb dX2_isPaid_5 rfl (lv_at hl 0 rfl) ?_
    refine va_get (D := D) (ci := 2) (v := .int (g_WD_count σ)) (C := RX2) (T := TX2) (N := 5) hx hb hts hinX2 hown hK hP 0 rfl rfl 3 (by decide) hf22 (fun _ h9 => h9) rfl dX2_isPaid_6 ?_
    refine lv_icmp_ge (tgt := 25) hx hb dX2_isPaid_9 (by decide) (fun c9 => ?_) (fun c9 => ?_)
    · have hw := hw.1 c9
      exact B25 _ hw _ _ ls (lv_sub hl [] rfl) hP hD hS
    · have hw := hw.2 c9
      refine lv_aload_n hx hb dX2_isPaid_12 rfl (lv_at hl 0 rfl) ?_
      refine va_get (D := D) (ci := 2) (v := .ref (a 3)) (C := RX2) (T := TX2) (N := 5) hx hb hts hinX2 hown hK hP 0 rfl rfl 2 (by decide) hf18 (fun _ h9 => h9) rfl dX2_isPaid_13 ?_
      refine lv_iload_n hx hb dX2_isPaid_16 rfl (lv_at hl 1 rfl) ?_
      have hi17 := hw.1
      have hw := hw.2
      refine va_zald (f := (g_WD_paid σ)) (n := 8) hx hb hK hP 3 1 rfl rfl hi17 dX2_isPaid_17 ?_
      refine lv_if_eq (tgt := 25) hx hb dX2_isPaid_18 (by decide) (fun c18 => ?_) (fun c18 => ?_)
      · have hw := hw.1 c18
        exact B25 _ hw _ _ ls (lv_sub hl [] rfl) hP hD hS
      · have hw := hw.2 c18
        refine lv_iconst (v := (1 : Int32)) hx hb dX2_isPaid_21 (by decide) ?_
        refine lv_goto (tgt := 26) hx hb dX2_isPaid_22 (by decide) ?_
        exact B26 _ _ hw _ _ ls (lv_sub hl [] rfl) hP hD hS
abbrev rm_W_paidInAll : Room := { frames := 0, cells := 0, slots := 0, locals := 0 }
set_option maxHeartbeats 4000000 in
set_option maxRecDepth 100000 in
theorem c_W_paidInAll (l : Launch) (D : va_G) (cs : CS) (a : Nat → Nat) (sz : Nat) (σ : WD) {Φ : Int32 → WD → Prop} (hw : w_W_paidInAll σ Φ) : Met l yX2_paidInAll wsX2_paidInAll rm_W_paidInAll (PcG [.ref (a 0)] D cs (ws_WD cs a σ) sz) (va_Qi Φ (BG D cs (va_A (ws_WD cs a σ) sz) sz (ws_WD cs a)) (va_A (ws_WD cs a σ) sz)) 0 0 (va_A (ws_WD cs a σ) sz) := by
  refine Met.ofW (cc := cX2_paidInAll) (maxL := 1) (ret := (some .int)) (by decide) rfl ?_
  intro p e s m args below meth c s₁ B hml hv
  obtain ⟨rfl, hsz, hP, hK, hD0⟩ := hv
  have hx := B.exec
  have hb := B.bytes
  have hr := B.returns
  have hts := atoms_spec (ws := wsX2_paidInAll) B.pre
  have hown : s.vm.findClass RX2 = some m.cls := findClass_of_methodNamed B.named
  have hlocks := B.notSynchronized
  subst hsz
  have hD := hD0.self (sz := s.heap.size)
  generalize hAe : va_A (ws_WD cs a σ) s.heap.size = A at hD ⊢
  have hA : ∀ q : Nat, s.heap.size ≤ q → A q := fun q h => by rw [← hAe]; exact Or.inr h
  have hS : va_S A s.heap s.heap [] := va_S.rf
  have hf26 : (Cond.fieldLink RX2 26 "CraneYard$Words" "sum" "I").before ([.ref (a 0)] : List Value).toArray s = true := hts _ (List.mem_of_getElem? (i := 1) rfl)
  have hinX2 : ∀ w ∈ wsX20, w ∈ wsX2_paidInAll := fun _ h => List.mem_cons_of_mem _ (List.mem_append_right _ h)
  have hP : va_P D vwCl (ws_WD cs a σ) s.heap := hP
  have hl := lv_entry ([.ref (a 0)]) (n := 1) (Nat.le_of_ble_eq_true rfl)
  rw [lg_entry_eq]
  generalize (lg_sl ([.ref (a 0)]) ++ List.replicate (1 - (lg_sl ([.ref (a 0)])).length) Slot.unset).toArray = ls at hl ⊢
  have hl : lv_has ls 1 [(0, .ref (a 0))] := hl
  unfold w_W_paidInAll at hw
  refine lv_aload_n hx hb dX2_paidInAll_0 rfl (lv_at hl 0 rfl) ?_
  refine va_get (D := D) (ci := 2) (v := .int (g_WD_sum σ)) (C := RX2) (T := TX2) (N := 5) hx hb hts hinX2 hown hK hP 0 rfl rfl 4 (by decide) hf26 (fun _ h9 => h9) rfl dX2_paidInAll_1 ?_
  exact rI (wf := (ws_WD cs a)) (u := σ) hx hb hr hlocks hK hP hD hS hw dX2_paidInAll_4
abbrev rm_W_add : Room := { frames := 0, cells := 0, slots := 0, locals := 0 }
set_option maxHeartbeats 4000000 in
set_option maxRecDepth 100000 in
theorem c_W_add (l : Launch) (D : va_G) (cs : CS) (a : Nat → Nat) (sz : Nat) (σ : WD) (p1 : Int32) (p2 : Int32) (p3 : Int32) (p4 : Int32) {Φ : Int32 → WD → Prop} (hw : w_W_add σ p1 p2 p3 p4 Φ) : Met l yX2_add wsX2_add rm_W_add (PcG [.ref (a 0), .int p1, .int p2, .int p3, .int p4] D cs (ws_WD cs a σ) sz) (va_Qi Φ (BG D cs (va_A (ws_WD cs a σ) sz) sz (ws_WD cs a)) (va_A (ws_WD cs a σ) sz)) 0 0 (va_A (ws_WD cs a σ) sz) := by
  refine Met.ofW (cc := cX2_add) (maxL := 7) (ret := (some .int)) (by decide) rfl ?_
  intro p e s m args below meth c s₁ B hml hv
  obtain ⟨rfl, hsz, hP, hK, hD0⟩ := hv
  have hx := B.exec
  have hb := B.bytes
  have hr := B.returns
  have hts := atoms_spec (ws := wsX2_add) B.pre
  have hown : s.vm.findClass RX2 = some m.cls := findClass_of_methodNamed B.named
  have hlocks := B.notSynchronized
  subst hsz
  have hD := hD0.self (sz := s.heap.size)
  generalize hAe : va_A (ws_WD cs a σ) s.heap.size = A at hD ⊢
  have hA : ∀ q : Nat, s.heap.size ≤ q → A q := fun q h => by rw [← hAe]; exact Or.inr h
  have hS : va_S A s.heap s.heap [] := va_S.rf
  have hf15 : (Cond.fieldLink RX2 15 "CraneYard$Words" "lengths" "[I").before ([.ref (a 0), .int p1, .int p2, .int p3, .int p4] : List Value).toArray s = true := hts _ (List.mem_of_getElem? (i := 3) rfl)
  have hf22 : (Cond.fieldLink RX2 22 "CraneYard$Words" "count" "I").before ([.ref (a 0), .int p1, .int p2, .int p3, .int p4] : List Value).toArray s = true := hts _ (List.mem_of_getElem? (i := 1) rfl)
  have hf9 : (Cond.fieldLink RX2 9 "CraneYard$Words" "letters" "[I").before ([.ref (a 0), .int p1, .int p2, .int p3, .int p4] : List Value).toArray s = true := hts _ (List.mem_of_getElem? (i := 2) rfl)
  have hinX2 : ∀ w ∈ wsX20, w ∈ wsX2_add := fun _ h => List.mem_cons_of_mem _ (List.mem_append_right _ h)
  have hP : va_P D vwCl (ws_WD cs a σ) s.heap := hP
  have B98 : ∀ (x5 : Int32) (t1 : Int32) (t2 : Int32) (σ : WD), b_W_add_98 Φ x5 t1 t2 σ → At p l e (headSpec wsX2_add rm_W_add).room s m ([.ref (a 0), .int p1, .int p2, .int p3, .int p4] : List Value).toArray below meth c (MQ below (va_Qi Φ (BG D cs A s.heap.size (ws_WD cs a)) A) ([.ref (a 0), .int p1, .int p2, .int p3, .int p4] : List Value).toArray s 0 0 A) D A 7 [(5, .int x5)] (ws_WD cs a σ) 98 [.int t2, .int t1, .ref (a 2)] := by
    intro x5 t1 t2 σ hw H locs ls hl hP hD hS
    unfold b_W_add_98 at hw
    have hi98 := hw.1
    have hw := hw.2
    refine va_iast (f := (g_WD_lengths σ)) (n := 8) (x := t2) hx hb hK hP hD hS 2 0 rfl rfl hi98 dX2_add_98 (fun H locs hP hD hS => ?_)
    have hP : va_P D vwCl (ws_WD cs a (s_WD_lengths σ (upd (g_WD_lengths σ) (t1).toNatClampNeg t2))) H := hP
    have hD : va_D A (ws_WD cs a (s_WD_lengths σ (upd (g_WD_lengths σ) (t1).toNatClampNeg t2))) := hD
    obtain ⟨z1, ez1⟩ : ∃ z : WD, z = (s_WD_lengths σ (upd (g_WD_lengths σ) (t1).toNatClampNeg t2)) := ⟨_, rfl⟩
    have hw := hw z1 ez1
    rw [← ez1] at hP hD
    refine lv_iload hx hb dX2_add_99 (lv_at hl 0 rfl) ?_
    exact rI (wf := (ws_WD cs a)) (u := z1) hx hb hr hlocks hK hP hD hS hw dX2_add_101
  have hl := lv_entry ([.ref (a 0), .int p1, .int p2, .int p3, .int p4]) (n := 7) (Nat.le_of_ble_eq_true rfl)
  rw [lg_entry_eq]
  generalize (lg_sl ([.ref (a 0), .int p1, .int p2, .int p3, .int p4]) ++ List.replicate (7 - (lg_sl ([.ref (a 0), .int p1, .int p2, .int p3, .int p4])).length) Slot.unset).toArray = ls at hl ⊢
  have hl : lv_has ls 7 [(0, .ref (a 0)), (1, .int p1), (2, .int p2), (3, .int p3), (4, .int p4)] := hl
  unfold w_W_add at hw
  refine lv_aload_n hx hb dX2_add_0 rfl (lv_at hl 0 rfl) ?_
  refine va_get (D := D) (ci := 2) (v := .int (g_WD_count σ)) (C := RX2) (T := TX2) (N := 5) hx hb hts hinX2 hown hK hP 0 rfl rfl 3 (by decide) hf22 (fun _ h9 => h9) rfl dX2_add_1 ?_
  refine lv_bipush (v := (8 : Int32)) hx hb dX2_add_4 (by decide) ?_
  refine lv_icmp_lt (tgt := 11) hx hb dX2_add_6 (by decide) (fun c6 => ?_) (fun c6 => ?_)
  · have hw := hw.1 c6
    refine lv_aload_n hx hb dX2_add_11 rfl (lv_at hl 0 rfl) ?_
    refine va_get (D := D) (ci := 2) (v := .int (g_WD_count σ)) (C := RX2) (T := TX2) (N := 5) hx hb hts hinX2 hown hK hP 0 rfl rfl 3 (by decide) hf22 (fun _ h9 => h9) rfl dX2_add_12 ?_
    refine lv_istore (lv' := [(5, .int (g_WD_count σ)), (0, .ref (a 0)), (1, .int p1), (2, .int p2), (3, .int p3), (4, .int p4)]) hx hb dX2_add_15 hl (by decide) rfl (fun ls hl => ?_)
    refine lv_aload_n hx hb dX2_add_17 rfl (lv_at hl 1 rfl) ?_
    refine lv_dup hx hb dX2_add_18 rfl ?_
    refine va_get (D := D) (ci := 2) (v := .int (g_WD_count σ)) (C := RX2) (T := TX2) (N := 5) hx hb hts hinX2 hown hK hP 0 rfl rfl 3 (by decide) hf22 (fun _ h9 => h9) rfl dX2_add_19 ?_
    refine lv_iconst (v := (1 : Int32)) hx hb dX2_add_22 (by decide) ?_
    refine lv_iadd hx hb dX2_add_23 ?_
    refine lv_topi (fun y1 ey1 => ?_)
    have hw := hw y1 ey1
    refine va_put (D := D) (ci := 2) (v := .int y1) (ty := .int) (C := RX2) (T := TX2) (N := 5) hx hb hts hinX2 tyX2 tyX2_ok nmX2 hown hK hP hD hS 0 rfl rfl 3 (by decide) hf22 (fun _ h9 => h9) rfl (by decide +kernel) rfl rfl (Nat.le_of_ble_eq_true rfl) dX2_add_24 (fun H locs hP hD hS => ?_)
    have hP : va_P D vwCl (ws_WD cs a (s_WD_count σ y1)) H := hP
    have hD : va_D A (ws_WD cs a (s_WD_count σ y1)) := hD
    obtain ⟨z2, ez2⟩ : ∃ z : WD, z = (s_WD_count σ y1) := ⟨_, rfl⟩
    have hw := hw z2 ez2
    rw [← ez2] at hP hD
    refine lv_iload hx hb dX2_add_27 (lv_at hl 0 rfl) ?_
    refine lv_iconst (v := (4 : Int32)) hx hb dX2_add_29 (by decide) ?_
    refine lv_imul hx hb dX2_add_30 ?_
    refine lv_topi (fun y3 ey3 => ?_)
    have hw := hw y3 ey3
    refine lv_istore (lv' := [(6, .int y3), (5, .int (g_WD_count σ)), (0, .ref (a 0)), (1, .int p1), (2, .int p2), (3, .int p3), (4, .int p4)]) hx hb dX2_add_31 hl (by decide) rfl (fun ls hl => ?_)
    refine lv_aload_n hx hb dX2_add_33 rfl (lv_at hl 2 rfl) ?_
    refine va_get (D := D) (ci := 2) (v := .ref (a 1)) (C := RX2) (T := TX2) (N := 5) hx hb hts hinX2 hown hK hP 0 rfl rfl 0 (by decide) hf9 (fun _ h9 => h9) rfl dX2_add_34 ?_
    refine lv_iload hx hb dX2_add_37 (lv_at hl 0 rfl) ?_
    refine lv_iload_n hx hb dX2_add_39 rfl (lv_at hl 3 rfl) ?_
    have hi40 := hw.1
    have hw := hw.2
    refine va_iast (f := (g_WD_letters z2)) (n := 32) (x := p1) hx hb hK hP hD hS 1 0 rfl rfl hi40 dX2_add_40 (fun H locs hP hD hS => ?_)
    have hP : va_P D vwCl (ws_WD cs a (s_WD_letters z2 (upd (g_WD_letters z2) (y3).toNatClampNeg p1))) H := hP
    have hD : va_D A (ws_WD cs a (s_WD_letters z2 (upd (g_WD_letters z2) (y3).toNatClampNeg p1))) := hD
    obtain ⟨z4, ez4⟩ : ∃ z : WD, z = (s_WD_letters z2 (upd (g_WD_letters z2) (y3).toNatClampNeg p1)) := ⟨_, rfl⟩
    have hw := hw z4 ez4
    rw [← ez4] at hP hD
    refine lv_aload_n hx hb dX2_add_41 rfl (lv_at hl 2 rfl) ?_
    refine va_get (D := D) (ci := 2) (v := .ref (a 1)) (C := RX2) (T := TX2) (N := 5) hx hb hts hinX2 hown hK hP 0 rfl rfl 0 (by decide) hf9 (fun _ h9 => h9) rfl dX2_add_42 ?_
    refine lv_iload hx hb dX2_add_45 (lv_at hl 0 rfl) ?_
    refine lv_iconst (v := (1 : Int32)) hx hb dX2_add_47 (by decide) ?_
    refine lv_iadd hx hb dX2_add_48 ?_
    refine lv_iload_n hx hb dX2_add_49 rfl (lv_at hl 4 rfl) ?_
    have hi50 := hw.1
    have hw := hw.2
    refine va_iast (f := (g_WD_letters z4)) (n := 32) (x := p2) hx hb hK hP hD hS 1 0 rfl rfl hi50 dX2_add_50 (fun H locs hP hD hS => ?_)
    have hP : va_P D vwCl (ws_WD cs a (s_WD_letters z4 (upd (g_WD_letters z4) ((y3 + (1 : Int32))).toNatClampNeg p2))) H := hP
    have hD : va_D A (ws_WD cs a (s_WD_letters z4 (upd (g_WD_letters z4) ((y3 + (1 : Int32))).toNatClampNeg p2))) := hD
    obtain ⟨z5, ez5⟩ : ∃ z : WD, z = (s_WD_letters z4 (upd (g_WD_letters z4) ((y3 + (1 : Int32))).toNatClampNeg p2)) := ⟨_, rfl⟩
    have hw := hw z5 ez5
    rw [← ez5] at hP hD
    refine lv_aload_n hx hb dX2_add_51 rfl (lv_at hl 2 rfl) ?_
    refine va_get (D := D) (ci := 2) (v := .ref (a 1)) (C := RX2) (T := TX2) (N := 5) hx hb hts hinX2 hown hK hP 0 rfl rfl 0 (by decide) hf9 (fun _ h9 => h9) rfl dX2_add_52 ?_
    refine lv_iload hx hb dX2_add_55 (lv_at hl 0 rfl) ?_
    refine lv_iconst (v := (2 : Int32)) hx hb dX2_add_57 (by decide) ?_
    refine lv_iadd hx hb dX2_add_58 ?_
    refine lv_iload_n hx hb dX2_add_59 rfl (lv_at hl 5 rfl) ?_
    have hi60 := hw.1
    have hw := hw.2
    refine va_iast (f := (g_WD_letters z5)) (n := 32) (x := p3) hx hb hK hP hD hS 1 0 rfl rfl hi60 dX2_add_60 (fun H locs hP hD hS => ?_)
    have hP : va_P D vwCl (ws_WD cs a (s_WD_letters z5 (upd (g_WD_letters z5) ((y3 + (2 : Int32))).toNatClampNeg p3))) H := hP
    have hD : va_D A (ws_WD cs a (s_WD_letters z5 (upd (g_WD_letters z5) ((y3 + (2 : Int32))).toNatClampNeg p3))) := hD
    obtain ⟨z6, ez6⟩ : ∃ z : WD, z = (s_WD_letters z5 (upd (g_WD_letters z5) ((y3 + (2 : Int32))).toNatClampNeg p3)) := ⟨_, rfl⟩
    have hw := hw z6 ez6
    rw [← ez6] at hP hD
    refine lv_aload_n hx hb dX2_add_61 rfl (lv_at hl 2 rfl) ?_
    refine va_get (D := D) (ci := 2) (v := .ref (a 1)) (C := RX2) (T := TX2) (N := 5) hx hb hts hinX2 hown hK hP 0 rfl rfl 0 (by decide) hf9 (fun _ h9 => h9) rfl dX2_add_62 ?_
    refine lv_iload hx hb dX2_add_65 (lv_at hl 0 rfl) ?_
    refine lv_iconst (v := (3 : Int32)) hx hb dX2_add_67 (by decide) ?_
    refine lv_iadd hx hb dX2_add_68 ?_
    refine lv_iload hx hb dX2_add_69 (lv_at hl 6 rfl) ?_
    have hi71 := hw.1
    have hw := hw.2
    refine va_iast (f := (g_WD_letters z6)) (n := 32) (x := p4) hx hb hK hP hD hS 1 0 rfl rfl hi71 dX2_add_71 (fun H locs hP hD hS => ?_)
    have hP : va_P D vwCl (ws_WD cs a (s_WD_letters z6 (upd (g_WD_letters z6) ((y3 + (3 : Int32))).toNatClampNeg p4))) H := hP
    have hD : va_D A (ws_WD cs a (s_WD_letters z6 (upd (g_WD_letters z6) ((y3 + (3 : Int32))).toNatClampNeg p4))) := hD
    obtain ⟨z7, ez7⟩ : ∃ z : WD, z = (s_WD_letters z6 (upd (g_WD_letters z6) ((y3 + (3 : Int32))).toNatClampNeg p4)) := ⟨_, rfl⟩
    have hw := hw z7 ez7
    rw [← ez7] at hP hD
    refine lv_aload_n hx hb dX2_add_72 rfl (lv_at hl 2 rfl) ?_
    refine va_get (D := D) (ci := 2) (v := .ref (a 2)) (C := RX2) (T := TX2) (N := 5) hx hb hts hinX2 hown hK hP 0 rfl rfl 1 (by decide) hf15 (fun _ h9 => h9) rfl dX2_add_73 ?_
    refine lv_iload hx hb dX2_add_76 (lv_at hl 1 rfl) ?_
    refine lv_iload_n hx hb dX2_add_78 rfl (lv_at hl 5 rfl) ?_
    refine lv_iconst (v := (-1 : Int32)) hx hb dX2_add_79 (by decide) ?_
    refine lv_icmp_ne (tgt := 87) hx hb dX2_add_80 (by decide) (fun c80 => ?_) (fun c80 => ?_)
    · have hw := hw.2 c80
      refine lv_iload hx hb dX2_add_87 (lv_at hl 6 rfl) ?_
      refine lv_iconst (v := (-1 : Int32)) hx hb dX2_add_89 (by decide) ?_
      refine lv_icmp_ne (tgt := 97) hx hb dX2_add_90 (by decide) (fun c90 => ?_) (fun c90 => ?_)
      · have hw := hw.2 c90
        refine lv_iconst (v := (4 : Int32)) hx hb dX2_add_97 (by decide) ?_
        exact B98 _ _ _ _ hw _ _ ls (lv_sub hl [1] rfl) hP hD hS
      · have hw := hw.1 c90
        refine lv_iconst (v := (3 : Int32)) hx hb dX2_add_93 (by decide) ?_
        refine lv_goto (tgt := 98) hx hb dX2_add_94 (by decide) ?_
        exact B98 _ _ _ _ hw _ _ ls (lv_sub hl [1] rfl) hP hD hS
    · have hw := hw.1 c80
      refine lv_iconst (v := (2 : Int32)) hx hb dX2_add_83 (by decide) ?_
      refine lv_goto (tgt := 98) hx hb dX2_add_84 (by decide) ?_
      exact B98 _ _ _ _ hw _ _ ls (lv_sub hl [1] rfl) hP hD hS
  · have hw := hw.2 c6
    refine lv_iconst (v := (-1 : Int32)) hx hb dX2_add_9 (by decide) ?_
    exact rI (wf := (ws_WD cs a)) (u := σ) hx hb hr hlocks hK hP hD hS hw dX2_add_10
abbrev rm_W_isShownFrom : Room := { frames := 0, cells := 0, slots := 0, locals := 0 }
set_option maxHeartbeats 4000000 in
set_option maxRecDepth 100000 in
theorem c_W_isShownFrom (l : Launch) (D : va_G) (cs : CS) (a : Nat → Nat) (sz : Nat) (σ : WL) (p1 : Int32) (p2 : Int32) {Φ : Int32 → WL → Prop} (hw : w_W_isShownFrom σ p1 p2 Φ) : Met l yX2_isShownFrom wsX2_isShownFrom rm_W_isShownFrom (PcG [.ref (a 0), .int p1, .int p2, .ref (a 4)] D cs (ws_WL cs a σ) sz) (va_Qi Φ (BG D cs (va_A (ws_WL cs a σ) sz) sz (ws_WL cs a)) (va_A (ws_WL cs a σ) sz)) 0 0 (va_A (ws_WL cs a σ) sz) := by
  refine Met.ofW (cc := cX2_isShownFrom) (maxL := 5) (ret := (some .boolean)) (by decide) rfl ?_
  intro p e s m args below meth c s₁ B hml hv
  obtain ⟨rfl, hsz, hP, hK, hD0⟩ := hv
  have hx := B.exec
  have hb := B.bytes
  have hr := B.returns
  have hts := atoms_spec (ws := wsX2_isShownFrom) B.pre
  have hown : s.vm.findClass RX2 = some m.cls := findClass_of_methodNamed B.named
  have hlocks := B.notSynchronized
  subst hsz
  have hD := hD0.self (sz := s.heap.size)
  generalize hAe : va_A (ws_WL cs a σ) s.heap.size = A at hD ⊢
  have hA : ∀ q : Nat, s.heap.size ≤ q → A q := fun q h => by rw [← hAe]; exact Or.inr h
  have hS : va_S A s.heap s.heap [] := va_S.rf
  have hf15 : (Cond.fieldLink RX2 15 "CraneYard$Words" "lengths" "[I").before ([.ref (a 0), .int p1, .int p2, .ref (a 4)] : List Value).toArray s = true := hts _ (List.mem_of_getElem? (i := 1) rfl)
  have hf9 : (Cond.fieldLink RX2 9 "CraneYard$Words" "letters" "[I").before ([.ref (a 0), .int p1, .int p2, .ref (a 4)] : List Value).toArray s = true := hts _ (List.mem_of_getElem? (i := 2) rfl)
  have hinX2 : ∀ w ∈ wsX20, w ∈ wsX2_isShownFrom := fun _ h => List.mem_cons_of_mem _ (List.mem_append_right _ h)
  have hP : va_P D vwCl (ws_WL cs a σ) s.heap := hP
  have B3 : ∀ (n : Nat) (x1 : Int32) (x2 : Int32) (x4 : Int32) (σ : WL), it4 (b_W_isShownFrom_3 Φ) n x1 x2 x4 σ → At p l e (headSpec wsX2_isShownFrom rm_W_isShownFrom).room s m ([.ref (a 0), .int p1, .int p2, .ref (a 4)] : List Value).toArray below meth c (MQ below (va_Qi Φ (BG D cs A s.heap.size (ws_WL cs a)) A) ([.ref (a 0), .int p1, .int p2, .ref (a 4)] : List Value).toArray s 0 0 A) D A 5 [(0, .ref (a 0)), (1, .int x1), (2, .int x2), (3, .ref (a 4)), (4, .int x4)] (ws_WL cs a σ) 3 [] := by
    intro n
    induction n with
    | zero => intro x1 x2 x4 σ hw; exact absurd hw id
    | succ n ih =>
      intro x1 x2 x4 σ hw H locs ls hl hP hD hS
      have hw : b_W_isShownFrom_3 Φ (it4 (b_W_isShownFrom_3 Φ) n) x1 x2 x4 σ := hw
      unfold b_W_isShownFrom_3 at hw
      refine lv_iload hx hb dX2_isShownFrom_3 (lv_at hl 4 rfl) ?_
      refine lv_aload_n hx hb dX2_isShownFrom_5 rfl (lv_at hl 0 rfl) ?_
      refine va_get (D := D) (ci := 2) (v := .ref (a 2)) (C := RX2) (T := TX2) (N := 5) hx hb hts hinX2 hown hK hP 0 rfl rfl 1 (by decide) hf15 (fun _ h9 => h9) rfl dX2_isShownFrom_6 ?_
      refine lv_iload_n hx hb dX2_isShownFrom_9 rfl (lv_at hl 2 rfl) ?_
      have hi10 := hw.1
      have hw := hw.2
      refine va_iald (f := (g_WD_lengths (g_WL_wd σ))) (n := 8) hx hb hK hP 2 0 rfl rfl hi10 dX2_isShownFrom_10 ?_
      refine lv_icmp_ge (tgt := 42) hx hb dX2_isShownFrom_11 (by decide) (fun c11 => ?_) (fun c11 => ?_)
      · have hw := hw.1 c11
        refine lv_iconst (v := (1 : Int32)) hx hb dX2_isShownFrom_42 (by decide) ?_
        exact rZ (wf := (ws_WL cs a)) (u := σ) hx hb hr hlocks hK hP hD hS hw dX2_isShownFrom_43
      · have hw := hw.2 c11
        refine lv_aload_n hx hb dX2_isShownFrom_14 rfl (lv_at hl 3 rfl) ?_
        refine lv_iload_n hx hb dX2_isShownFrom_15 rfl (lv_at hl 1 rfl) ?_
        refine lv_iload hx hb dX2_isShownFrom_16 (lv_at hl 4 rfl) ?_
        refine lv_iadd hx hb dX2_isShownFrom_18 ?_
        have hi19 := hw.1
        have hw := hw.2
        refine va_iald (f := (g_WL_lids σ)) (n := 6) hx hb hK hP 4 0 rfl rfl hi19 dX2_isShownFrom_19 ?_
        refine lv_aload_n hx hb dX2_isShownFrom_20 rfl (lv_at hl 0 rfl) ?_
        refine va_get (D := D) (ci := 2) (v := .ref (a 1)) (C := RX2) (T := TX2) (N := 5) hx hb hts hinX2 hown hK hP 0 rfl rfl 0 (by decide) hf9 (fun _ h9 => h9) rfl dX2_isShownFrom_21 ?_
        refine lv_iload_n hx hb dX2_isShownFrom_24 rfl (lv_at hl 2 rfl) ?_
        refine lv_iconst (v := (4 : Int32)) hx hb dX2_isShownFrom_25 (by decide) ?_
        refine lv_imul hx hb dX2_isShownFrom_26 ?_
        refine lv_iload hx hb dX2_isShownFrom_27 (lv_at hl 4 rfl) ?_
        refine lv_iadd hx hb dX2_isShownFrom_29 ?_
        have hi30 := hw.1
        have hw := hw.2
        refine va_iald (f := (g_WD_letters (g_WL_wd σ))) (n := 32) hx hb hK hP 1 0 rfl rfl hi30 dX2_isShownFrom_30 ?_
        refine lv_icmp_eq (tgt := 36) hx hb dX2_isShownFrom_31 (by decide) (fun c31 => ?_) (fun c31 => ?_)
        · have hw := hw.1 c31
          refine lv_iinc (v := (x4 + (1 : Int32))) (lv' := [(4, .int (x4 + (1 : Int32))), (0, .ref (a 0)), (1, .int x1), (2, .int x2), (3, .ref (a 4))]) hx hb dX2_isShownFrom_36 hl (k := 4) rfl rfl (by decide) rfl (fun ls hl => ?_)
          refine lv_goto (tgt := 3) hx hb dX2_isShownFrom_39 (by decide) ?_
          exact ih _ _ _ _ hw _ _ ls (lv_sub hl [1, 2, 3, 4, 0] rfl) hP hD hS
        · have hw := hw.2 c31
          refine lv_iconst (v := (0 : Int32)) hx hb dX2_isShownFrom_34 (by decide) ?_
          exact rZ (wf := (ws_WL cs a)) (u := σ) hx hb hr hlocks hK hP hD hS hw dX2_isShownFrom_35
  have hl := lv_entry ([.ref (a 0), .int p1, .int p2, .ref (a 4)]) (n := 5) (Nat.le_of_ble_eq_true rfl)
  rw [lg_entry_eq]
  generalize (lg_sl ([.ref (a 0), .int p1, .int p2, .ref (a 4)]) ++ List.replicate (5 - (lg_sl ([.ref (a 0), .int p1, .int p2, .ref (a 4)])).length) Slot.unset).toArray = ls at hl ⊢
  have hl : lv_has ls 5 [(0, .ref (a 0)), (1, .int p1), (2, .int p2), (3, .ref (a 4))] := hl
  unfold w_W_isShownFrom at hw
  refine lv_iconst (v := (0 : Int32)) hx hb dX2_isShownFrom_0 (by decide) ?_
  refine lv_istore (lv' := [(4, .int (0 : Int32)), (0, .ref (a 0)), (1, .int p1), (2, .int p2), (3, .ref (a 4))]) hx hb dX2_isShownFrom_1 hl (by decide) rfl (fun ls hl => ?_)
  obtain ⟨n, hw⟩ := hw
  exact B3 n _ _ _ _ hw _ _ ls (lv_sub hl [1, 2, 3, 4, 0] rfl) hP hD hS
abbrev rm_W_isShown : Room := { frames := 1, cells := 0, slots := 0, locals := 30 }
set_option maxHeartbeats 4000000 in
set_option maxRecDepth 100000 in
theorem c_W_isShown (l : Launch) (D : va_G) (cs : CS) (a : Nat → Nat) (sz : Nat) (σ : WL) (p1 : Int32) (p3 : Int32) {Φ : Int32 → WL → Prop} (hw : w_W_isShown σ p1 p3 Φ) : Met l yX2_isShown wsX2_isShown rm_W_isShown (PcG [.ref (a 0), .int p1, .ref (a 4), .int p3] D cs (ws_WL cs a σ) sz) (va_Qi Φ (BG D cs (va_A (ws_WL cs a σ) sz) sz (ws_WL cs a)) (va_A (ws_WL cs a σ) sz)) 0 0 (va_A (ws_WL cs a σ) sz) := by
  refine Met.ofW (cc := cX2_isShown) (maxL := 6) (ret := (some .boolean)) (by decide) rfl ?_
  intro p e s m args below meth c s₁ B hml hv
  obtain ⟨rfl, hsz, hP, hK, hD0⟩ := hv
  have hx := B.exec
  have hb := B.bytes
  have hr := B.returns
  have hts := atoms_spec (ws := wsX2_isShown) B.pre
  have hown : s.vm.findClass RX2 = some m.cls := findClass_of_methodNamed B.named
  have hlocks := B.notSynchronized
  subst hsz
  have hD := hD0.self (sz := s.heap.size)
  generalize hAe : va_A (ws_WL cs a σ) s.heap.size = A at hD ⊢
  have hA : ∀ q : Nat, s.heap.size ≤ q → A q := fun q h => by rw [← hAe]; exact Or.inr h
  have hS : va_S A s.heap s.heap [] := va_S.rf
  have hf15 : (Cond.fieldLink RX2 15 "CraneYard$Words" "lengths" "[I").before ([.ref (a 0), .int p1, .ref (a 4), .int p3] : List Value).toArray s = true := hts _ (List.mem_of_getElem? (i := 5) rfl)
  have hinX2 : ∀ w ∈ wsX20, w ∈ wsX2_isShown := fun _ h => List.mem_cons_of_mem _ (List.mem_append_right _ h)
  have hm1 : (Cond.methodLink RX2 33 Lib.Math.min.name).before ([.ref (a 0), .int p1, .ref (a 4), .int p3] : List Value).toArray s = true := hts _ (List.mem_of_getElem? (i := 1) rfl)
  have hm2 : (Cond.static Lib.Math.min.name).before ([.ref (a 0), .int p1, .ref (a 4), .int p3] : List Value).toArray s = true := hts _ (List.mem_of_getElem? (i := 2) rfl)
  have hm3 : (Cond.initialized "java/lang/Math").before ([.ref (a 0), .int p1, .ref (a 4), .int p3] : List Value).toArray s = true := hts _ (List.mem_of_getElem? (i := 3) rfl)
  have hm4 : (Cond.code Lib.Math.min.name Lib.Math.min.code 2 (some .int)).before ([.ref (a 0), .int p1, .ref (a 4), .int p3] : List Value).toArray s = true := hts _ (List.mem_of_getElem? (i := 4) rfl)
  have hP : va_P D vwCl (ws_WL cs a σ) s.heap := hP
  have B18 : ∀ (n : Nat) (x1 : Int32) (x4 : Int32) (x5 : Int32) (σ : WL), it4 (b_W_isShown_18 Φ) n x1 x4 x5 σ → At p l e (headSpec wsX2_isShown rm_W_isShown).room s m ([.ref (a 0), .int p1, .ref (a 4), .int p3] : List Value).toArray below meth c (MQ below (va_Qi Φ (BG D cs A s.heap.size (ws_WL cs a)) A) ([.ref (a 0), .int p1, .ref (a 4), .int p3] : List Value).toArray s 0 0 A) D A 6 [(0, .ref (a 0)), (1, .int x1), (2, .ref (a 4)), (4, .int x4), (5, .int x5)] (ws_WL cs a σ) 18 [] := by
    intro n
    induction n with
    | zero => intro x1 x4 x5 σ hw; exact absurd hw id
    | succ n ih =>
      intro x1 x4 x5 σ hw H locs ls hl hP hD hS
      have hw : b_W_isShown_18 Φ (it4 (b_W_isShown_18 Φ) n) x1 x4 x5 σ := hw
      unfold b_W_isShown_18 at hw
      refine lv_iload hx hb dX2_isShown_18 (lv_at hl 4 rfl) ?_
      refine lv_iload hx hb dX2_isShown_20 (lv_at hl 3 rfl) ?_
      refine lv_icmp_gt (tgt := 44) hx hb dX2_isShown_22 (by decide) (fun c22 => ?_) (fun c22 => ?_)
      · have hw := hw.1 c22
        refine lv_iconst (v := (0 : Int32)) hx hb dX2_isShown_44 (by decide) ?_
        exact rZ (wf := (ws_WL cs a)) (u := σ) hx hb hr hlocks hK hP hD hS hw dX2_isShown_45
      · have hw := hw.2 c22
        refine lv_aload_n hx hb dX2_isShown_25 rfl (lv_at hl 0 rfl) ?_
        refine lv_iload hx hb dX2_isShown_26 (lv_at hl 4 rfl) ?_
        refine lv_iload_n hx hb dX2_isShown_28 rfl (lv_at hl 1 rfl) ?_
        refine lv_aload_n hx hb dX2_isShown_29 rfl (lv_at hl 2 rfl) ?_
        refine kVi (As := [.int x5, .int x1, .ref (a 4)]) (rest := []) ⟨hx, hb, hml, hown, hts⟩ (c_W_isShownFrom l D cs a _ σ x5 x1 hw) (cwV 3 hts gX2_isShown_X2_isShownFrom rfl rfl rfl (by decide +kernel) ⟨Nat.le_of_ble_eq_true rfl, Nat.le_of_ble_eq_true rfl⟩) (pt_self_WL cs a σ) hK hP hD hS hA (ci := 2) rfl rfl rfl rfl hl.1 rfl (Nat.le_of_ble_eq_true rfl) dX2_isShown_30 ⟨Nat.zero_le _, Nat.zero_le _⟩ (fun r30 u30 H locs hw hP hD hS => ?_)
        have hP : va_P D vwCl (ws_WL cs a u30) H := hP
        have hD : va_D A (ws_WL cs a u30) := hD
        refine lv_if_eq (tgt := 38) hx hb dX2_isShown_33 (by decide) (fun c33 => ?_) (fun c33 => ?_)
        · have hw := hw.1 c33
          refine lv_iinc (v := (x5 + (1 : Int32))) (lv' := [(5, .int (x5 + (1 : Int32))), (0, .ref (a 0)), (1, .int x1), (2, .ref (a 4)), (4, .int x4)]) hx hb dX2_isShown_38 hl (k := 4) rfl rfl (by decide) rfl (fun ls hl => ?_)
          refine lv_goto (tgt := 18) hx hb dX2_isShown_41 (by decide) ?_
          exact ih _ _ _ _ hw _ _ ls (lv_sub hl [1, 2, 3, 4, 0] rfl) hP hD hS
        · have hw := hw.2 c33
          refine lv_iconst (v := (1 : Int32)) hx hb dX2_isShown_36 (by decide) ?_
          exact rZ (wf := (ws_WL cs a)) (u := u30) hx hb hr hlocks hK hP hD hS hw dX2_isShown_37
  have hl := lv_entry ([.ref (a 0), .int p1, .ref (a 4), .int p3]) (n := 6) (Nat.le_of_ble_eq_true rfl)
  rw [lg_entry_eq]
  generalize (lg_sl ([.ref (a 0), .int p1, .ref (a 4), .int p3]) ++ List.replicate (6 - (lg_sl ([.ref (a 0), .int p1, .ref (a 4), .int p3])).length) Slot.unset).toArray = ls at hl ⊢
  have hl : lv_has ls 6 [(0, .ref (a 0)), (1, .int p1), (2, .ref (a 4)), (3, .int p3)] := hl
  unfold w_W_isShown at hw
  refine lv_iload_n hx hb dX2_isShown_0 rfl (lv_at hl 3 rfl) ?_
  refine lv_aload_n hx hb dX2_isShown_1 rfl (lv_at hl 2 rfl) ?_
  refine va_alen (v := (6 : Int32)) hx hb hK hP 4 0 rfl rfl rfl dX2_isShown_2 ?_
  refine va_mmin hx hb (by rw [hml]; exact hl.1.symm) hown hm1 hm2 hm3 hm4 (Nat.le_of_ble_eq_true rfl) (Nat.le_of_ble_eq_true rfl) (Nat.zero_le _) (Nat.zero_le _) dX2_isShown_3 ?_
  refine lv_aload_n hx hb dX2_isShown_6 rfl (lv_at hl 0 rfl) ?_
  refine va_get (D := D) (ci := 2) (v := .ref (a 2)) (C := RX2) (T := TX2) (N := 5) hx hb hts hinX2 hown hK hP 0 rfl rfl 1 (by decide) hf15 (fun _ h9 => h9) rfl dX2_isShown_7 ?_
  refine lv_iload_n hx hb dX2_isShown_10 rfl (lv_at hl 1 rfl) ?_
  have hi11 := hw.1
  have hw := hw.2
  refine va_iald (f := (g_WD_lengths (g_WL_wd σ))) (n := 8) hx hb hK hP 2 0 rfl rfl hi11 dX2_isShown_11 ?_
  refine lv_isub hx hb dX2_isShown_12 ?_
  refine lv_topi (fun y1 ey1 => ?_)
  have hw := hw y1 ey1
  refine lv_istore (lv' := [(4, .int y1), (0, .ref (a 0)), (1, .int p1), (2, .ref (a 4)), (3, .int p3)]) hx hb dX2_isShown_13 hl (by decide) rfl (fun ls hl => ?_)
  refine lv_iconst (v := (0 : Int32)) hx hb dX2_isShown_15 (by decide) ?_
  refine lv_istore (lv' := [(5, .int (0 : Int32)), (4, .int y1), (0, .ref (a 0)), (1, .int p1), (2, .ref (a 4)), (3, .int p3)]) hx hb dX2_isShown_16 hl (by decide) rfl (fun ls hl => ?_)
  obtain ⟨n, hw⟩ := hw
  exact B18 n _ _ _ _ hw _ _ ls (lv_sub hl [2, 3, 4, 1, 0] rfl) hP hD hS
abbrev rm_W_payShown : Room := { frames := 2, cells := 0, slots := 0, locals := 55 }
set_option maxHeartbeats 4000000 in
set_option maxRecDepth 100000 in
theorem c_W_payShown (l : Launch) (D : va_G) (cs : CS) (a : Nat → Nat) (sz : Nat) (σ : WL) (p2 : Int32) {Φ : WL → Prop} (hw : w_W_payShown σ p2 Φ) : Met l yX2_payShown wsX2_payShown rm_W_payShown (PcG [.ref (a 0), .ref (a 4), .int p2] D cs (ws_WL cs a σ) sz) (va_Qv Φ (BG D cs (va_A (ws_WL cs a σ) sz) sz (ws_WL cs a)) (va_A (ws_WL cs a σ) sz)) 0 0 (va_A (ws_WL cs a σ) sz) := by
  refine Met.ofW (cc := cX2_payShown) (maxL := 4) (ret := none) (by decide) rfl ?_
  intro p e s m args below meth c s₁ B hml hv
  obtain ⟨rfl, hsz, hP, hK, hD0⟩ := hv
  have hx := B.exec
  have hb := B.bytes
  have hr := B.returns
  have hts := atoms_spec (ws := wsX2_payShown) B.pre
  have hown : s.vm.findClass RX2 = some m.cls := findClass_of_methodNamed B.named
  have hlocks := B.notSynchronized
  subst hsz
  have hD := hD0.self (sz := s.heap.size)
  generalize hAe : va_A (ws_WL cs a σ) s.heap.size = A at hD ⊢
  have hA : ∀ q : Nat, s.heap.size ≤ q → A q := fun q h => by rw [← hAe]; exact Or.inr h
  have hS : va_S A s.heap s.heap [] := va_S.rf
  have hf15 : (Cond.fieldLink RX2 15 "CraneYard$Words" "lengths" "[I").before ([.ref (a 0), .ref (a 4), .int p2] : List Value).toArray s = true := hts _ (List.mem_of_getElem? (i := 4) rfl)
  have hf18 : (Cond.fieldLink RX2 18 "CraneYard$Words" "paid" "[Z").before ([.ref (a 0), .ref (a 4), .int p2] : List Value).toArray s = true := hts _ (List.mem_of_getElem? (i := 2) rfl)
  have hf22 : (Cond.fieldLink RX2 22 "CraneYard$Words" "count" "I").before ([.ref (a 0), .ref (a 4), .int p2] : List Value).toArray s = true := hts _ (List.mem_of_getElem? (i := 1) rfl)
  have hf26 : (Cond.fieldLink RX2 26 "CraneYard$Words" "sum" "I").before ([.ref (a 0), .ref (a 4), .int p2] : List Value).toArray s = true := hts _ (List.mem_of_getElem? (i := 3) rfl)
  have hinX2 : ∀ w ∈ wsX20, w ∈ wsX2_payShown := fun _ h => List.mem_cons_of_mem _ (List.mem_append_right _ h)
  have hP : va_P D vwCl (ws_WL cs a σ) s.heap := hP
  have B54 : ∀ (K2 : (Int32 → Int32 → WL → Prop)) (hK2 : ∀ (x2 : Int32) (x3 : Int32) (σ : WL), K2 x2 x3 σ → At p l e (headSpec wsX2_payShown rm_W_payShown).room s m ([.ref (a 0), .ref (a 4), .int p2] : List Value).toArray below meth c (MQ below (va_Qv Φ (BG D cs A s.heap.size (ws_WL cs a)) A) ([.ref (a 0), .ref (a 4), .int p2] : List Value).toArray s 0 0 A) D A 4 [(0, .ref (a 0)), (1, .ref (a 4)), (2, .int x2), (3, .int x3)] (ws_WL cs a σ) 2 []) (x2 : Int32) (x3 : Int32) (σ : WL), b_W_payShown_54 K2 Φ x2 x3 σ → At p l e (headSpec wsX2_payShown rm_W_payShown).room s m ([.ref (a 0), .ref (a 4), .int p2] : List Value).toArray below meth c (MQ below (va_Qv Φ (BG D cs A s.heap.size (ws_WL cs a)) A) ([.ref (a 0), .ref (a 4), .int p2] : List Value).toArray s 0 0 A) D A 4 [(0, .ref (a 0)), (1, .ref (a 4)), (2, .int x2), (3, .int x3)] (ws_WL cs a σ) 54 [] := by
    intro K2 hK2 x2 x3 σ hw H locs ls hl hP hD hS
    unfold b_W_payShown_54 at hw
    refine lv_iinc (v := (x3 + (1 : Int32))) (lv' := [(3, .int (x3 + (1 : Int32))), (0, .ref (a 0)), (1, .ref (a 4)), (2, .int x2)]) hx hb dX2_payShown_54 hl (k := 3) rfl rfl (by decide) rfl (fun ls hl => ?_)
    refine lv_goto (tgt := 2) hx hb dX2_payShown_57 (by decide) ?_
    exact hK2 _ _ _ hw _ _ ls (lv_sub hl [1, 2, 3, 0] rfl) hP hD hS
  have B2 : ∀ (n : Nat) (x2 : Int32) (x3 : Int32) (σ : WL), it3 (b_W_payShown_2 Φ) n x2 x3 σ → At p l e (headSpec wsX2_payShown rm_W_payShown).room s m ([.ref (a 0), .ref (a 4), .int p2] : List Value).toArray below meth c (MQ below (va_Qv Φ (BG D cs A s.heap.size (ws_WL cs a)) A) ([.ref (a 0), .ref (a 4), .int p2] : List Value).toArray s 0 0 A) D A 4 [(0, .ref (a 0)), (1, .ref (a 4)), (2, .int x2), (3, .int x3)] (ws_WL cs a σ) 2 [] := by
    intro n
    induction n with
    | zero => intro x2 x3 σ hw; exact absurd hw id
    | succ n ih =>
      intro x2 x3 σ hw H locs ls hl hP hD hS
      have hw : b_W_payShown_2 Φ (it3 (b_W_payShown_2 Φ) n) x2 x3 σ := hw
      unfold b_W_payShown_2 at hw
      refine lv_iload_n hx hb dX2_payShown_2 rfl (lv_at hl 3 rfl) ?_
      refine lv_aload_n hx hb dX2_payShown_3 rfl (lv_at hl 0 rfl) ?_
      refine va_get (D := D) (ci := 2) (v := .int (g_WD_count (g_WL_wd σ))) (C := RX2) (T := TX2) (N := 5) hx hb hts hinX2 hown hK hP 0 rfl rfl 3 (by decide) hf22 (fun _ h9 => h9) rfl dX2_payShown_4 ?_
      refine lv_icmp_ge (tgt := 60) hx hb dX2_payShown_7 (by decide) (fun c7 => ?_) (fun c7 => ?_)
      · have hw := hw.1 c7
        exact rV (wf := (ws_WL cs a)) (u := σ) hx hb hr hlocks hK hP hD hS hw dX2_payShown_60
      · have hw := hw.2 c7
        refine lv_aload_n hx hb dX2_payShown_10 rfl (lv_at hl 0 rfl) ?_
        refine va_get (D := D) (ci := 2) (v := .ref (a 3)) (C := RX2) (T := TX2) (N := 5) hx hb hts hinX2 hown hK hP 0 rfl rfl 2 (by decide) hf18 (fun _ h9 => h9) rfl dX2_payShown_11 ?_
        refine lv_iload_n hx hb dX2_payShown_14 rfl (lv_at hl 3 rfl) ?_
        have hi15 := hw.1
        have hw := hw.2
        refine va_zald (f := (g_WD_paid (g_WL_wd σ))) (n := 8) hx hb hK hP 3 1 rfl rfl hi15 dX2_payShown_15 ?_
        refine lv_if_ne (tgt := 54) hx hb dX2_payShown_16 (by decide) (fun c16 => ?_) (fun c16 => ?_)
        · have hw := hw.2 c16
          exact B54 _ ih _ _ _ hw _ _ ls (lv_sub hl [0, 1, 2, 3] rfl) hP hD hS
        · have hw := hw.1 c16
          refine lv_aload_n hx hb dX2_payShown_19 rfl (lv_at hl 0 rfl) ?_
          refine lv_iload_n hx hb dX2_payShown_20 rfl (lv_at hl 3 rfl) ?_
          refine lv_aload_n hx hb dX2_payShown_21 rfl (lv_at hl 1 rfl) ?_
          refine lv_iload_n hx hb dX2_payShown_22 rfl (lv_at hl 2 rfl) ?_
          refine kVi (As := [.int x3, .ref (a 4), .int x2]) (rest := []) ⟨hx, hb, hml, hown, hts⟩ (c_W_isShown l D cs a _ σ x3 x2 hw) (cwV 3 hts gX2_payShown_X2_isShown rfl rfl rfl (by decide +kernel) ⟨Nat.le_of_ble_eq_true rfl, Nat.le_of_ble_eq_true rfl⟩) (pt_self_WL cs a σ) hK hP hD hS hA (ci := 2) rfl rfl rfl rfl hl.1 rfl (Nat.le_of_ble_eq_true rfl) dX2_payShown_23 ⟨Nat.zero_le _, Nat.zero_le _⟩ (fun r23 u23 H locs hw hP hD hS => ?_)
          have hP : va_P D vwCl (ws_WL cs a u23) H := hP
          have hD : va_D A (ws_WL cs a u23) := hD
          refine lv_if_eq (tgt := 54) hx hb dX2_payShown_26 (by decide) (fun c26 => ?_) (fun c26 => ?_)
          · have hw := hw.1 c26
            exact B54 _ ih _ _ _ hw _ _ ls (lv_sub hl [0, 1, 2, 3] rfl) hP hD hS
          · have hw := hw.2 c26
            refine lv_aload_n hx hb dX2_payShown_29 rfl (lv_at hl 0 rfl) ?_
            refine va_get (D := D) (ci := 2) (v := .ref (a 3)) (C := RX2) (T := TX2) (N := 5) hx hb hts hinX2 hown hK hP 0 rfl rfl 2 (by decide) hf18 (fun _ h9 => h9) rfl dX2_payShown_30 ?_
            refine lv_iload_n hx hb dX2_payShown_33 rfl (lv_at hl 3 rfl) ?_
            refine lv_iconst (v := (1 : Int32)) hx hb dX2_payShown_34 (by decide) ?_
            have hi35 := hw.1
            have hw := hw.2
            refine va_zast (f := (g_WD_paid (g_WL_wd u23))) (n := 8) (x := (1 : Int32)) hx hb hK hP hD hS 3 1 rfl rfl hi35 dX2_payShown_35 (fun H locs hP hD hS => ?_)
            have hP : va_P D vwCl (ws_WL cs a (s_WL_wd u23 (s_WD_paid (g_WL_wd u23) (upd (g_WD_paid (g_WL_wd u23)) (x3).toNatClampNeg (1 : Int32))))) H := hP
            have hD : va_D A (ws_WL cs a (s_WL_wd u23 (s_WD_paid (g_WL_wd u23) (upd (g_WD_paid (g_WL_wd u23)) (x3).toNatClampNeg (1 : Int32))))) := hD
            obtain ⟨z1, ez1⟩ : ∃ z : WL, z = (s_WL_wd u23 (s_WD_paid (g_WL_wd u23) (upd (g_WD_paid (g_WL_wd u23)) (x3).toNatClampNeg (1 : Int32)))) := ⟨_, rfl⟩
            have hw := hw z1 ez1
            rw [← ez1] at hP hD
            refine lv_aload_n hx hb dX2_payShown_36 rfl (lv_at hl 0 rfl) ?_
            refine lv_dup hx hb dX2_payShown_37 rfl ?_
            refine va_get (D := D) (ci := 2) (v := .int (g_WD_sum (g_WL_wd z1))) (C := RX2) (T := TX2) (N := 5) hx hb hts hinX2 hown hK hP 0 rfl rfl 4 (by decide) hf26 (fun _ h9 => h9) rfl dX2_payShown_38 ?_
            refine lv_bipush (v := (100 : Int32)) hx hb dX2_payShown_41 (by decide) ?_
            refine lv_aload_n hx hb dX2_payShown_43 rfl (lv_at hl 0 rfl) ?_
            refine va_get (D := D) (ci := 2) (v := .ref (a 2)) (C := RX2) (T := TX2) (N := 5) hx hb hts hinX2 hown hK hP 0 rfl rfl 1 (by decide) hf15 (fun _ h9 => h9) rfl dX2_payShown_44 ?_
            refine lv_iload_n hx hb dX2_payShown_47 rfl (lv_at hl 3 rfl) ?_
            have hi48 := hw.1
            have hw := hw.2
            refine va_iald (f := (g_WD_lengths (g_WL_wd z1))) (n := 8) hx hb hK hP 2 0 rfl rfl hi48 dX2_payShown_48 ?_
            refine lv_imul hx hb dX2_payShown_49 ?_
            refine lv_iadd hx hb dX2_payShown_50 ?_
            refine lv_topi (fun y2 ey2 => ?_)
            have hw := hw y2 ey2
            refine va_put (D := D) (ci := 2) (v := .int y2) (ty := .int) (C := RX2) (T := TX2) (N := 5) hx hb hts hinX2 tyX2 tyX2_ok nmX2 hown hK hP hD hS 0 rfl rfl 4 (by decide) hf26 (fun _ h9 => h9) rfl (by decide +kernel) rfl rfl (Nat.le_of_ble_eq_true rfl) dX2_payShown_51 (fun H locs hP hD hS => ?_)
            have hP : va_P D vwCl (ws_WL cs a (s_WL_wd z1 (s_WD_sum (g_WL_wd z1) y2))) H := hP
            have hD : va_D A (ws_WL cs a (s_WL_wd z1 (s_WD_sum (g_WL_wd z1) y2))) := hD
            obtain ⟨z3, ez3⟩ : ∃ z : WL, z = (s_WL_wd z1 (s_WD_sum (g_WL_wd z1) y2)) := ⟨_, rfl⟩
            have hw := hw z3 ez3
            rw [← ez3] at hP hD
            exact B54 _ ih _ _ _ hw H locs ls (lv_sub hl [0, 1, 2, 3] rfl) hP hD hS
  have hl := lv_entry ([.ref (a 0), .ref (a 4), .int p2]) (n := 4) (Nat.le_of_ble_eq_true rfl)
  rw [lg_entry_eq]
  generalize (lg_sl ([.ref (a 0), .ref (a 4), .int p2]) ++ List.replicate (4 - (lg_sl ([.ref (a 0), .ref (a 4), .int p2])).length) Slot.unset).toArray = ls at hl ⊢
  have hl : lv_has ls 4 [(0, .ref (a 0)), (1, .ref (a 4)), (2, .int p2)] := hl
  unfold w_W_payShown at hw
  refine lv_iconst (v := (0 : Int32)) hx hb dX2_payShown_0 (by decide) ?_
  refine lv_istore_n (lv' := [(3, .int (0 : Int32)), (0, .ref (a 0)), (1, .ref (a 4)), (2, .int p2)]) hx hb dX2_payShown_1 rfl hl (by decide) rfl (fun ls hl => ?_)
  obtain ⟨n, hw⟩ := hw
  exact B2 n _ _ _ hw _ _ ls (lv_sub hl [1, 2, 3, 0] rfl) hP hD hS
abbrev rm_J_bitCount : Room := { frames := 0, cells := 0, slots := 0, locals := 0 }
set_option maxHeartbeats 4000000 in
set_option maxRecDepth 100000 in
theorem c_J_bitCount (l : Launch) (D : va_G) (cs : CS) (a : Nat → Nat) (sz : Nat) (p0 : Int32) {Φ : Int32 → Unit → Prop} (hw : w_J_bitCount p0 Φ) : Met l yJ6_bitCount_0f7a4 wsJ6_bitCount_0f7a4 rm_J_bitCount (PcG [.int p0] D cs ([] : va_W) sz) (va_Qi Φ (BG D cs (va_A ([] : va_W) sz) sz (fun _ : Unit => ([] : va_W))) (va_A ([] : va_W) sz)) 0 0 (va_A ([] : va_W) sz) := by
  refine Met.ofW (cc := cJ6_bitCount_0f7a4) (maxL := 1) (ret := (some .int)) (by decide) rfl ?_
  intro p e s m args below meth c s₁ B hml hv
  obtain ⟨rfl, hsz, hP, hK, hD0⟩ := hv
  have hx := B.exec
  have hb := B.bytes
  have hr := B.returns
  have hts := atoms_spec (ws := wsJ6_bitCount_0f7a4) B.pre
  have hown : s.vm.findClass RJ6 = some m.cls := findClass_of_methodNamed B.named
  have hlocks := B.notSynchronized
  subst hsz
  have hD := hD0.self (sz := s.heap.size)
  generalize hAe : va_A ([] : va_W) s.heap.size = A at hD ⊢
  have hA : ∀ q : Nat, s.heap.size ≤ q → A q := fun q h => by rw [← hAe]; exact Or.inr h
  have hS : va_S A s.heap s.heap [] := va_S.rf
  have hc265 : (Cond.constant RJ6 265 (1431655765 : Int32)).before ([.int p0] : List Value).toArray s = true := hts _ (List.mem_of_getElem? (i := 1) rfl)
  have hc266 : (Cond.constant RJ6 266 (858993459 : Int32)).before ([.int p0] : List Value).toArray s = true := hts _ (List.mem_of_getElem? (i := 2) rfl)
  have hc267 : (Cond.constant RJ6 267 (252645135 : Int32)).before ([.int p0] : List Value).toArray s = true := hts _ (List.mem_of_getElem? (i := 3) rfl)
  have hP : va_P D vwCl ([] : va_W) s.heap := hP
  have hl := lv_entry ([.int p0]) (n := 1) (Nat.le_of_ble_eq_true rfl)
  rw [lg_entry_eq]
  generalize (lg_sl ([.int p0]) ++ List.replicate (1 - (lg_sl ([.int p0])).length) Slot.unset).toArray = ls at hl ⊢
  have hl : lv_has ls 1 [(0, .int p0)] := hl
  unfold w_J_bitCount at hw
  refine lv_iload_n hx hb dJ6_bitCount_0f7a4_0 rfl (lv_at hl 0 rfl) ?_
  refine lv_iload_n hx hb dJ6_bitCount_0f7a4_1 rfl (lv_at hl 0 rfl) ?_
  refine lv_iconst (v := (1 : Int32)) hx hb dJ6_bitCount_0f7a4_2 (by decide) ?_
  refine lv_iushr hx hb dJ6_bitCount_0f7a4_3 rfl ?_
  refine lv_ldcw (v := (1431655765 : Int32)) hx hb hown hc265 dJ6_bitCount_0f7a4_4 ?_
  refine lv_iand hx hb dJ6_bitCount_0f7a4_7 ?_
  refine lv_isub hx hb dJ6_bitCount_0f7a4_8 ?_
  refine lv_topi (fun y1 ey1 => ?_)
  have hw := hw y1 ey1
  refine lv_istore_n (lv' := [(0, .int y1)]) hx hb dJ6_bitCount_0f7a4_9 rfl hl (by decide) rfl (fun ls hl => ?_)
  refine lv_iload_n hx hb dJ6_bitCount_0f7a4_10 rfl (lv_at hl 0 rfl) ?_
  refine lv_ldcw (v := (858993459 : Int32)) hx hb hown hc266 dJ6_bitCount_0f7a4_11 ?_
  refine lv_iand hx hb dJ6_bitCount_0f7a4_14 ?_
  refine lv_iload_n hx hb dJ6_bitCount_0f7a4_15 rfl (lv_at hl 0 rfl) ?_
  refine lv_iconst (v := (2 : Int32)) hx hb dJ6_bitCount_0f7a4_16 (by decide) ?_
  refine lv_iushr hx hb dJ6_bitCount_0f7a4_17 rfl ?_
  refine lv_ldcw (v := (858993459 : Int32)) hx hb hown hc266 dJ6_bitCount_0f7a4_18 ?_
  refine lv_iand hx hb dJ6_bitCount_0f7a4_21 ?_
  refine lv_iadd hx hb dJ6_bitCount_0f7a4_22 ?_
  refine lv_topi (fun y2 ey2 => ?_)
  have hw := hw y2 ey2
  refine lv_istore_n (lv' := [(0, .int y2)]) hx hb dJ6_bitCount_0f7a4_23 rfl hl (by decide) rfl (fun ls hl => ?_)
  refine lv_iload_n hx hb dJ6_bitCount_0f7a4_24 rfl (lv_at hl 0 rfl) ?_
  refine lv_iload_n hx hb dJ6_bitCount_0f7a4_25 rfl (lv_at hl 0 rfl) ?_
  refine lv_iconst (v := (4 : Int32)) hx hb dJ6_bitCount_0f7a4_26 (by decide) ?_
  refine lv_iushr hx hb dJ6_bitCount_0f7a4_27 rfl ?_
  refine lv_iadd hx hb dJ6_bitCount_0f7a4_28 ?_
  refine lv_ldcw (v := (252645135 : Int32)) hx hb hown hc267 dJ6_bitCount_0f7a4_29 ?_
  refine lv_iand hx hb dJ6_bitCount_0f7a4_32 ?_
  refine lv_topi (fun y3 ey3 => ?_)
  have hw := hw y3 ey3
  refine lv_istore_n (lv' := [(0, .int y3)]) hx hb dJ6_bitCount_0f7a4_33 rfl hl (by decide) rfl (fun ls hl => ?_)
  refine lv_iload_n hx hb dJ6_bitCount_0f7a4_34 rfl (lv_at hl 0 rfl) ?_
  refine lv_iload_n hx hb dJ6_bitCount_0f7a4_35 rfl (lv_at hl 0 rfl) ?_
  refine lv_bipush (v := (8 : Int32)) hx hb dJ6_bitCount_0f7a4_36 (by decide) ?_
  refine lv_iushr hx hb dJ6_bitCount_0f7a4_38 rfl ?_
  refine lv_iadd hx hb dJ6_bitCount_0f7a4_39 ?_
  refine lv_topi (fun y4 ey4 => ?_)
  have hw := hw y4 ey4
  refine lv_istore_n (lv' := [(0, .int y4)]) hx hb dJ6_bitCount_0f7a4_40 rfl hl (by decide) rfl (fun ls hl => ?_)
  refine lv_iload_n hx hb dJ6_bitCount_0f7a4_41 rfl (lv_at hl 0 rfl) ?_
  refine lv_iload_n hx hb dJ6_bitCount_0f7a4_42 rfl (lv_at hl 0 rfl) ?_
  refine lv_bipush (v := (16 : Int32)) hx hb dJ6_bitCount_0f7a4_43 (by decide) ?_
  refine lv_iushr hx hb dJ6_bitCount_0f7a4_45 rfl ?_
  refine lv_iadd hx hb dJ6_bitCount_0f7a4_46 ?_
  refine lv_topi (fun y5 ey5 => ?_)
  have hw := hw y5 ey5
  refine lv_istore_n (lv' := [(0, .int y5)]) hx hb dJ6_bitCount_0f7a4_47 rfl hl (by decide) rfl (fun ls hl => ?_)
  refine lv_iload_n hx hb dJ6_bitCount_0f7a4_48 rfl (lv_at hl 0 rfl) ?_
  refine lv_bipush (v := (63 : Int32)) hx hb dJ6_bitCount_0f7a4_49 (by decide) ?_
  refine lv_iand hx hb dJ6_bitCount_0f7a4_51 ?_
  exact rI (wf := (fun _ : Unit => ([] : va_W))) (u := ()) hx hb hr hlocks hK hP hD hS hw dJ6_bitCount_0f7a4_52
