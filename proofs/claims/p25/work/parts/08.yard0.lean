theorem ng_64 : (vx_atS RX3 64 "java/lang/IllegalArgumentException" ["java/lang/RuntimeException", "java/lang/Exception"]).filter (fun w => !goodWord w) = [.declares (Bundle.initS "java/lang/RuntimeException"), .declares (Bundle.initS "java/lang/Exception"), .declares (Bundle.initS Bundle.tN), .castable "java/lang/IllegalArgumentException" "java/lang/IllegalArgumentException"] := by decide +kernel
theorem gd_64 : (Cond.classLink RX3 60 "java/lang/IllegalArgumentException" :: Cond.initialized "java/lang/IllegalArgumentException" :: vx_atS RX3 64 "java/lang/IllegalArgumentException" ["java/lang/RuntimeException", "java/lang/Exception"]).all vx_ot = true := by decide +kernel
theorem ng_78 : (vx_atS RX3 78 "java/lang/IllegalStateException" ["java/lang/RuntimeException", "java/lang/Exception"]).filter (fun w => !goodWord w) = [.declares (Bundle.initS "java/lang/RuntimeException"), .declares (Bundle.initS "java/lang/Exception"), .declares (Bundle.initS Bundle.tN), .castable "java/lang/IllegalStateException" "java/lang/IllegalStateException"] := by decide +kernel
theorem gd_78 : (Cond.classLink RX3 74 "java/lang/IllegalStateException" :: Cond.initialized "java/lang/IllegalStateException" :: vx_atS RX3 78 "java/lang/IllegalStateException" ["java/lang/RuntimeException", "java/lang/Exception"]).all vx_ot = true := by decide +kernel
theorem ng_170 : (vx_atS RX3 170 "java/lang/IndexOutOfBoundsException" ["java/lang/RuntimeException", "java/lang/Exception"]).filter (fun w => !goodWord w) = [.declares (Bundle.initS "java/lang/RuntimeException"), .declares (Bundle.initS "java/lang/Exception"), .declares (Bundle.initS Bundle.tN), .castable "java/lang/IndexOutOfBoundsException" "java/lang/IndexOutOfBoundsException"] := by decide +kernel
theorem gd_170 : (Cond.classLink RX3 166 "java/lang/IndexOutOfBoundsException" :: Cond.initialized "java/lang/IndexOutOfBoundsException" :: vx_atS RX3 170 "java/lang/IndexOutOfBoundsException" ["java/lang/RuntimeException", "java/lang/Exception"]).all vx_ot = true := by decide +kernel
abbrev rm_C_requireLetter : Room := { frames := 6, cells := 1, slots := 6, locals := 92 }
set_option maxHeartbeats 4000000 in
set_option maxRecDepth 100000 in
theorem c_C_requireLetter (l : Launch) (hfl : l.stackTraces = false) (D : va_G) (cs : CS) (a : Nat → Nat) (sz : Nat) (p0 : Int32) {Φ : Unit → Prop} {Ξ : String → Unit → Prop} (hw : w_C_requireLetter p0 Φ Ξ) : vx_Met l yX3_requireLetter wsX3_requireLetter rm_C_requireLetter (PcX [.int p0] D cs ([] : va_W) sz) (va_Qv Φ (BG D cs (va_A ([] : va_W) sz) sz (fun _ : Unit => ([] : va_W))) (va_A ([] : va_W) sz)) (XG D cs (va_A ([] : va_W) sz) (fun _ : Unit => ([] : va_W)) Ξ) 1 6 (va_A ([] : va_W) sz) := by
  refine vx_ofW (cc := cX3_requireLetter) (maxL := 1) (ret := none) (by decide) rfl ?_
  intro p e s m args below meth c s₁ B hml hout hv
  obtain ⟨rfl, hsz, hP, hK, hD0, hE⟩ := hv
  have hx := B.exec
  have hb := B.bytes
  have hr := B.returns
  have hts := atoms_spec (ws := wsX3_requireLetter) B.pre
  have hown : s.vm.findClass RX3 = some m.cls := findClass_of_methodNamed B.named
  have hlocks := B.notSynchronized
  subst hsz
  have hD := hD0.self (sz := s.heap.size)
  generalize hAe : va_A ([] : va_W) s.heap.size = A at hD hE ⊢
  have hA : ∀ q : Nat, s.heap.size ≤ q → A q := fun q h => by rw [← hAe]; exact Or.inr h
  have hS : va_S A s.heap s.heap [] := va_S.rf
  have hi60 : (Cond.initialized "java/lang/IllegalArgumentException").before ([.int p0] : List Value).toArray s = true := hts _ (List.mem_of_getElem? (i := 2) rfl)
  have hk60 : (Cond.classLink RX3 60 "java/lang/IllegalArgumentException").before ([.int p0] : List Value).toArray s = true := hts _ (List.mem_of_getElem? (i := 1) rfl)
  have hP : va_P D vwCl ([] : va_W) s.heap := hP
  have B10 : b_C_requireLetter_10 Φ Ξ → At p l e (headSpec wsX3_requireLetter rm_C_requireLetter).room s m ([.int p0] : List Value).toArray below meth c (vx_MQ below (va_Qv Φ (BG D cs A s.heap.size (fun _ : Unit => ([] : va_W))) A) (XG D cs A (fun _ : Unit => ([] : va_W)) Ξ) ([.int p0] : List Value).toArray s 1 6 A) D A 1 [] ([] : va_W) 10 [] := by
    intro hw H locs ls hl hP hD hS
    unfold b_C_requireLetter_10 at hw
    exact tS (wf := (fun _ : Unit => ([] : va_W))) (u := ()) (ik := 60) (ic := 64) (text := "the letter is not 0 to 25") (cls := "java/lang/IllegalArgumentException") hx hb hfl hown (by decide +kernel) hk60 hi60 (fun w h => hts w (List.mem_cons_of_mem _ (List.mem_append_right _ h))) ng_64 gd_64 (by decide) (by decide) hE hK hP hD hS (by rw [hml]; exact hl.1) dX3_requireLetter_10 dX3_requireLetter_13 dX3_requireLetter_14 dX3_requireLetter_16 dX3_requireLetter_19 hout (Nat.le_of_ble_eq_true rfl) (Nat.le_of_ble_eq_true rfl) (Nat.le_of_ble_eq_true rfl) (Nat.le_of_ble_eq_true rfl) hlocks hw
  have hl := lv_entry ([.int p0]) (n := 1) (Nat.le_of_ble_eq_true rfl)
  rw [lg_entry_eq]
  generalize (lg_sl ([.int p0]) ++ List.replicate (1 - (lg_sl ([.int p0])).length) Slot.unset).toArray = ls at hl ⊢
  have hl : lv_has ls 1 [(0, .int p0)] := hl
  unfold w_C_requireLetter at hw
  refine lv_iload_n hx hb dX3_requireLetter_0 rfl (lv_at hl 0 rfl) ?_
  refine lv_if_lt (tgt := 10) hx hb dX3_requireLetter_1 (by decide) (fun c1 => ?_) (fun c1 => ?_)
  · have hw := hw.1 c1
    exact B10 hw _ _ ls (lv_sub hl [] rfl) hP hD hS
  · have hw := hw.2 c1
    refine lv_iload_n hx hb dX3_requireLetter_4 rfl (lv_at hl 0 rfl) ?_
    refine lv_bipush (v := (26 : Int32)) hx hb dX3_requireLetter_5 (by decide) ?_
    refine lv_icmp_lt (tgt := 20) hx hb dX3_requireLetter_7 (by decide) (fun c7 => ?_) (fun c7 => ?_)
    · have hw := hw.1 c7
      exact xV (wf := (fun _ : Unit => ([] : va_W))) (u := ()) hx hb hr hlocks hK hP hD hS hw dX3_requireLetter_20
    · have hw := hw.2 c7
      exact B10 hw _ _ ls (lv_sub hl [] rfl) hP hD hS
abbrev rm_C_requireStack : Room := { frames := 6, cells := 1, slots := 6, locals := 92 }
set_option maxHeartbeats 4000000 in
set_option maxRecDepth 100000 in
theorem c_C_requireStack (l : Launch) (hfl : l.stackTraces = false) (D : va_G) (cs : CS) (a : Nat → Nat) (sz : Nat) (p0 : Int32) {Φ : Unit → Prop} {Ξ : String → Unit → Prop} (hw : w_C_requireStack p0 Φ Ξ) : vx_Met l yX3_requireStack wsX3_requireStack rm_C_requireStack (PcX [.int p0] D cs ([] : va_W) sz) (va_Qv Φ (BG D cs (va_A ([] : va_W) sz) sz (fun _ : Unit => ([] : va_W))) (va_A ([] : va_W) sz)) (XG D cs (va_A ([] : va_W) sz) (fun _ : Unit => ([] : va_W)) Ξ) 1 6 (va_A ([] : va_W) sz) := by
  refine vx_ofW (cc := cX3_requireStack) (maxL := 1) (ret := none) (by decide) rfl ?_
  intro p e s m args below meth c s₁ B hml hout hv
  obtain ⟨rfl, hsz, hP, hK, hD0, hE⟩ := hv
  have hx := B.exec
  have hb := B.bytes
  have hr := B.returns
  have hts := atoms_spec (ws := wsX3_requireStack) B.pre
  have hown : s.vm.findClass RX3 = some m.cls := findClass_of_methodNamed B.named
  have hlocks := B.notSynchronized
  subst hsz
  have hD := hD0.self (sz := s.heap.size)
  generalize hAe : va_A ([] : va_W) s.heap.size = A at hD hE ⊢
  have hA : ∀ q : Nat, s.heap.size ≤ q → A q := fun q h => by rw [← hAe]; exact Or.inr h
  have hS : va_S A s.heap s.heap [] := va_S.rf
  have hi60 : (Cond.initialized "java/lang/IllegalArgumentException").before ([.int p0] : List Value).toArray s = true := hts _ (List.mem_of_getElem? (i := 2) rfl)
  have hk60 : (Cond.classLink RX3 60 "java/lang/IllegalArgumentException").before ([.int p0] : List Value).toArray s = true := hts _ (List.mem_of_getElem? (i := 1) rfl)
  have hP : va_P D vwCl ([] : va_W) s.heap := hP
  have B10 : b_C_requireStack_10 Φ Ξ → At p l e (headSpec wsX3_requireStack rm_C_requireStack).room s m ([.int p0] : List Value).toArray below meth c (vx_MQ below (va_Qv Φ (BG D cs A s.heap.size (fun _ : Unit => ([] : va_W))) A) (XG D cs A (fun _ : Unit => ([] : va_W)) Ξ) ([.int p0] : List Value).toArray s 1 6 A) D A 1 [] ([] : va_W) 10 [] := by
    intro hw H locs ls hl hP hD hS
    unfold b_C_requireStack_10 at hw
    exact tS (wf := (fun _ : Unit => ([] : va_W))) (u := ()) (ik := 60) (ic := 64) (text := "the stack is not 0 to 5") (cls := "java/lang/IllegalArgumentException") hx hb hfl hown (by decide +kernel) hk60 hi60 (fun w h => hts w (List.mem_cons_of_mem _ (List.mem_append_right _ h))) ng_64 gd_64 (by decide) (by decide) hE hK hP hD hS (by rw [hml]; exact hl.1) dX3_requireStack_10 dX3_requireStack_13 dX3_requireStack_14 dX3_requireStack_16 dX3_requireStack_19 hout (Nat.le_of_ble_eq_true rfl) (Nat.le_of_ble_eq_true rfl) (Nat.le_of_ble_eq_true rfl) (Nat.le_of_ble_eq_true rfl) hlocks hw
  have hl := lv_entry ([.int p0]) (n := 1) (Nat.le_of_ble_eq_true rfl)
  rw [lg_entry_eq]
  generalize (lg_sl ([.int p0]) ++ List.replicate (1 - (lg_sl ([.int p0])).length) Slot.unset).toArray = ls at hl ⊢
  have hl : lv_has ls 1 [(0, .int p0)] := hl
  unfold w_C_requireStack at hw
  refine lv_iload_n hx hb dX3_requireStack_0 rfl (lv_at hl 0 rfl) ?_
  refine lv_if_lt (tgt := 10) hx hb dX3_requireStack_1 (by decide) (fun c1 => ?_) (fun c1 => ?_)
  · have hw := hw.1 c1
    exact B10 hw _ _ ls (lv_sub hl [] rfl) hP hD hS
  · have hw := hw.2 c1
    refine lv_iload_n hx hb dX3_requireStack_4 rfl (lv_at hl 0 rfl) ?_
    refine lv_bipush (v := (6 : Int32)) hx hb dX3_requireStack_5 (by decide) ?_
    refine lv_icmp_lt (tgt := 20) hx hb dX3_requireStack_7 (by decide) (fun c7 => ?_) (fun c7 => ?_)
    · have hw := hw.1 c7
      exact xV (wf := (fun _ : Unit => ([] : va_W))) (u := ()) hx hb hr hlocks hK hP hD hS hw dX3_requireStack_20
    · have hw := hw.2 c7
      exact B10 hw _ _ ls (lv_sub hl [] rfl) hP hD hS
abbrev rm_C_mostPlaces : Room := { frames := 0, cells := 0, slots := 0, locals := 0 }
set_option maxHeartbeats 4000000 in
set_option maxRecDepth 100000 in
theorem c_C_mostPlaces (l : Launch) (D : va_G) (cs : CS) (a : Nat → Nat) (sz : Nat) (σ : CY) {Φ : Int32 → CY → Prop} (hw : w_C_mostPlaces σ Φ) : Met l yX3_mostPlaces wsX3_mostPlaces rm_C_mostPlaces (PcG [.ref (a 0)] D cs (ws_CY cs a σ) sz) (va_Qi Φ (BG D cs (va_A (ws_CY cs a σ) sz) sz (ws_CY cs a)) (va_A (ws_CY cs a σ) sz)) 0 0 (va_A (ws_CY cs a σ) sz) := by
  refine Met.ofW (cc := cX3_mostPlaces) (maxL := 1) (ret := (some .int)) (by decide) rfl ?_
  intro p e s m args below meth c s₁ B hml hv
  obtain ⟨rfl, hsz, hP, hK, hD0⟩ := hv
  have hx := B.exec
  have hb := B.bytes
  have hr := B.returns
  have hts := atoms_spec (ws := wsX3_mostPlaces) B.pre
  have hown : s.vm.findClass RX3 = some m.cls := findClass_of_methodNamed B.named
  have hlocks := B.notSynchronized
  subst hsz
  have hD := hD0.self (sz := s.heap.size)
  generalize hAe : va_A (ws_CY cs a σ) s.heap.size = A at hD ⊢
  have hA : ∀ q : Nat, s.heap.size ≤ q → A q := fun q h => by rw [← hAe]; exact Or.inr h
  have hS : va_S A s.heap s.heap [] := va_S.rf
  have hf53 : (Cond.fieldLink RX3 53 "CraneYard" "stormy" "Z").before ([.ref (a 0)] : List Value).toArray s = true := hts _ (List.mem_of_getElem? (i := 1) rfl)
  have hinX3 : ∀ w ∈ wsX30, w ∈ wsX3_mostPlaces := fun _ h => List.mem_cons_of_mem _ (List.mem_append_right _ h)
  have hP : va_P D vwCl (ws_CY cs a σ) s.heap := hP
  have B12 : ∀ (t0 : Int32) (σ : CY), b_C_mostPlaces_12 Φ t0 σ → At p l e (headSpec wsX3_mostPlaces rm_C_mostPlaces).room s m ([.ref (a 0)] : List Value).toArray below meth c (MQ below (va_Qi Φ (BG D cs A s.heap.size (ws_CY cs a)) A) ([.ref (a 0)] : List Value).toArray s 0 0 A) D A 1 [] (ws_CY cs a σ) 12 [.int t0] := by
    intro t0 σ hw H locs ls hl hP hD hS
    unfold b_C_mostPlaces_12 at hw
    exact rI (wf := (ws_CY cs a)) (u := σ) hx hb hr hlocks hK hP hD hS hw dX3_mostPlaces_12
  have hl := lv_entry ([.ref (a 0)]) (n := 1) (Nat.le_of_ble_eq_true rfl)
  rw [lg_entry_eq]
  generalize (lg_sl ([.ref (a 0)]) ++ List.replicate (1 - (lg_sl ([.ref (a 0)])).length) Slot.unset).toArray = ls at hl ⊢
  have hl : lv_has ls 1 [(0, .ref (a 0))] := hl
  unfold w_C_mostPlaces at hw
  refine lv_aload_n hx hb dX3_mostPlaces_0 rfl (lv_at hl 0 rfl) ?_
  refine va_get (D := D) (ci := 3) (v := .int (g_CY_stormy σ)) (C := RX3) (T := TX3) (N := 12) hx hb hts hinX3 hown hK hP 0 rfl rfl 10 (by decide) hf53 (fun _ h9 => h9) rfl dX3_mostPlaces_1 ?_
  refine lv_if_eq (tgt := 11) hx hb dX3_mostPlaces_4 (by decide) (fun c4 => ?_) (fun c4 => ?_)
  · have hw := hw.1 c4
    refine lv_iconst (v := (5 : Int32)) hx hb dX3_mostPlaces_11 (by decide) ?_
    exact B12 _ _ hw _ _ ls (lv_sub hl [] rfl) hP hD hS
  · have hw := hw.2 c4
    refine lv_iconst (v := (3 : Int32)) hx hb dX3_mostPlaces_7 (by decide) ?_
    refine lv_goto (tgt := 12) hx hb dX3_mostPlaces_8 (by decide) ?_
    exact B12 _ _ hw _ _ ls (lv_sub hl [] rfl) hP hD hS
abbrev rm_C_requireRoom : Room := { frames := 6, cells := 1, slots := 6, locals := 92 }
set_option maxHeartbeats 4000000 in
set_option maxRecDepth 100000 in
theorem c_C_requireRoom (l : Launch) (hfl : l.stackTraces = false) (D : va_G) (cs : CS) (a : Nat → Nat) (sz : Nat) (σ : CY) (p1 : Int32) (p2 : Int32) {Φ : CY → Prop} {Ξ : String → CY → Prop} (hw : w_C_requireRoom σ p1 p2 Φ Ξ) : vx_Met l yX3_requireRoom wsX3_requireRoom rm_C_requireRoom (PcX [.ref (a 0), .int p1, .int p2] D cs (ws_CY cs a σ) sz) (va_Qv Φ (BG D cs (va_A (ws_CY cs a σ) sz) sz (ws_CY cs a)) (va_A (ws_CY cs a σ) sz)) (XG D cs (va_A (ws_CY cs a σ) sz) (ws_CY cs a) Ξ) 1 6 (va_A (ws_CY cs a σ) sz) := by
  refine vx_ofW (cc := cX3_requireRoom) (maxL := 3) (ret := none) (by decide) rfl ?_
  intro p e s m args below meth c s₁ B hml hout hv
  obtain ⟨rfl, hsz, hP, hK, hD0, hE⟩ := hv
  have hx := B.exec
  have hb := B.bytes
  have hr := B.returns
  have hts := atoms_spec (ws := wsX3_requireRoom) B.pre
  have hown : s.vm.findClass RX3 = some m.cls := findClass_of_methodNamed B.named
  have hlocks := B.notSynchronized
  subst hsz
  have hD := hD0.self (sz := s.heap.size)
  generalize hAe : va_A (ws_CY cs a σ) s.heap.size = A at hD hE ⊢
  have hA : ∀ q : Nat, s.heap.size ≤ q → A q := fun q h => by rw [← hAe]; exact Or.inr h
  have hS : va_S A s.heap s.heap [] := va_S.rf
  have hf10 : (Cond.fieldLink RX3 10 "CraneYard" "stacks" "LCraneYard$Stacks;").before ([.ref (a 0), .int p1, .int p2] : List Value).toArray s = true := hts _ (List.mem_of_getElem? (i := 3) rfl)
  have hi74 : (Cond.initialized "java/lang/IllegalStateException").before ([.ref (a 0), .int p1, .int p2] : List Value).toArray s = true := hts _ (List.mem_of_getElem? (i := 2) rfl)
  have hinX3 : ∀ w ∈ wsX30, w ∈ wsX3_requireRoom := fun _ h => List.mem_cons_of_mem _ (List.mem_append_left _ (List.mem_append_left _ (List.mem_append_right _ h)))
  have hk74 : (Cond.classLink RX3 74 "java/lang/IllegalStateException").before ([.ref (a 0), .int p1, .int p2] : List Value).toArray s = true := hts _ (List.mem_of_getElem? (i := 1) rfl)
  have hP : va_P D vwCl (ws_CY cs a σ) s.heap := hP
  have hl := lv_entry ([.ref (a 0), .int p1, .int p2]) (n := 3) (Nat.le_of_ble_eq_true rfl)
  rw [lg_entry_eq]
  generalize (lg_sl ([.ref (a 0), .int p1, .int p2]) ++ List.replicate (3 - (lg_sl ([.ref (a 0), .int p1, .int p2])).length) Slot.unset).toArray = ls at hl ⊢
  have hl : lv_has ls 3 [(0, .ref (a 0)), (1, .int p1), (2, .int p2)] := hl
  unfold w_C_requireRoom at hw
  refine lv_aload_n hx hb dX3_requireRoom_0 rfl (lv_at hl 0 rfl) ?_
  refine va_get (D := D) (ci := 3) (v := .ref (a 1)) (C := RX3) (T := TX3) (N := 12) hx hb hts hinX3 hown hK hP 0 rfl rfl 0 (by decide) hf10 (fun _ h9 => h9) rfl dX3_requireRoom_1 ?_
  refine lv_iload_n hx hb dX3_requireRoom_4 rfl (lv_at hl 1 rfl) ?_
  refine lv_iload_n hx hb dX3_requireRoom_5 rfl (lv_at hl 2 rfl) ?_
  refine lv_aload_n hx hb dX3_requireRoom_6 rfl (lv_at hl 0 rfl) ?_
  refine kVi (As := []) (rest := [.int p2, .int p1, .ref (a 1)]) ⟨hx, hb, hml, hown, hts⟩ (c_C_mostPlaces l D cs a _ σ hw) (cwV 0 hts gX3_requireRoom_X3_mostPlaces rfl rfl rfl (by decide +kernel) ⟨Nat.le_of_ble_eq_true rfl, Nat.le_of_ble_eq_true rfl⟩) (pt_self_CY cs a σ) hK hP hD hS hA (ci := 3) rfl rfl rfl rfl hl.1 rfl (Nat.le_of_ble_eq_true rfl) dX3_requireRoom_7 ⟨Nat.zero_le _, Nat.zero_le _⟩ (fun r7 u7 H locs hw hP hD hS => ?_)
  have hP : va_P D vwCl (ws_CY cs a u7) H := hP
  have hD : va_D A (ws_CY cs a u7) := hD
  refine kVi (As := [.int p1, .int p2, .int r7]) (rest := []) ⟨hx, hb, hml, hown, hts⟩ (c_S_canTake l D cs (sh a 1) _ (g_CY_st u7) p1 p2 r7 hw) (cwV 3 hts gX3_requireRoom_X1_canTake rfl rfl rfl (by decide +kernel) ⟨Nat.le_of_ble_eq_true rfl, Nat.le_of_ble_eq_true rfl⟩) (pt_CY_st cs a u7) hK hP hD hS hA (ci := 1) rfl rfl rfl rfl hl.1 rfl (Nat.le_of_ble_eq_true rfl) dX3_requireRoom_10 ⟨Nat.zero_le _, Nat.zero_le _⟩ (fun r10 u10 H locs hw hP hD hS => ?_)
  have hP : va_P D vwCl (ws_CY cs a (s_CY_st u7 u10)) H := hP
  have hD : va_D A (ws_CY cs a (s_CY_st u7 u10)) := hD
  refine lv_if_ne (tgt := 27) hx hb dX3_requireRoom_13 (by decide) (fun c13 => ?_) (fun c13 => ?_)
  · have hw := hw.2 c13
    exact xV (wf := (ws_CY cs a)) (u := (s_CY_st u7 u10)) hx hb hr hlocks hK hP hD hS hw dX3_requireRoom_27
  · have hw := hw.1 c13
    exact tSW (wf := (ws_CY cs a)) (u := (s_CY_st u7 u10)) (ik := 74) (ic := 78) (text := "the crate cannot be put onto the stack") (cls := "java/lang/IllegalStateException") hx hb hfl hown (by decide +kernel) hk74 hi74 (fun w h => hts w (List.mem_cons_of_mem _ (List.mem_append_right _ h))) ng_78 gd_78 (by decide) (by decide) hE hK hP hD hS (by rw [hml]; exact hl.1) dX3_requireRoom_16 dX3_requireRoom_19 dX3_requireRoom_20 dX3_requireRoom_23 dX3_requireRoom_26 hout (Nat.le_of_ble_eq_true rfl) (Nat.le_of_ble_eq_true rfl) (Nat.le_of_ble_eq_true rfl) (Nat.le_of_ble_eq_true rfl) hlocks hw
abbrev rm_C_payWords : Room := { frames := 3, cells := 0, slots := 0, locals := 78 }
set_option maxHeartbeats 4000000 in
set_option maxRecDepth 100000 in
theorem c_C_payWords (l : Launch) (D : va_G) (cs : CS) (a : Nat → Nat) (sz : Nat) (σ : CY) {Φ : CY → Prop} (hw : w_C_payWords σ Φ) : Met l yX3_payWords wsX3_payWords rm_C_payWords (PcG [.ref (a 0)] D cs (ws_CY cs a σ) sz) (va_Qv Φ (BG D cs (va_A (ws_CY cs a σ) sz) sz (ws_CY cs a)) (va_A (ws_CY cs a σ) sz)) 0 0 (va_A (ws_CY cs a σ) sz) := by
  refine Met.ofW (cc := cX3_payWords) (maxL := 4) (ret := none) (by decide) rfl ?_
  intro p e s m args below meth c s₁ B hml hv
  obtain ⟨rfl, hsz, hP, hK, hD0⟩ := hv
  have hx := B.exec
  have hb := B.bytes
  have hr := B.returns
  have hts := atoms_spec (ws := wsX3_payWords) B.pre
  have hown : s.vm.findClass RX3 = some m.cls := findClass_of_methodNamed B.named
  have hlocks := B.notSynchronized
  subst hsz
  have hD := hD0.self (sz := s.heap.size)
  generalize hAe : va_A (ws_CY cs a σ) s.heap.size = A at hD ⊢
  have hA : ∀ q : Nat, s.heap.size ≤ q → A q := fun q h => by rw [← hAe]; exact Or.inr h
  have hS : va_S A s.heap s.heap [] := va_S.rf
  have hf10 : (Cond.fieldLink RX3 10 "CraneYard" "stacks" "LCraneYard$Stacks;").before ([.ref (a 0)] : List Value).toArray s = true := hts _ (List.mem_of_getElem? (i := 1) rfl)
  have hf22 : (Cond.fieldLink RX3 22 "CraneYard" "words" "LCraneYard$Words;").before ([.ref (a 0)] : List Value).toArray s = true := hts _ (List.mem_of_getElem? (i := 4) rfl)
  have hf33 : (Cond.fieldLink RX3 33 "CraneYard" "letters" "[I").before ([.ref (a 0)] : List Value).toArray s = true := hts _ (List.mem_of_getElem? (i := 3) rfl)
  have hf37 : (Cond.fieldLink RX3 37 "CraneYard" "lids" "[I").before ([.ref (a 0)] : List Value).toArray s = true := hts _ (List.mem_of_getElem? (i := 2) rfl)
  have hinX3 : ∀ w ∈ wsX30, w ∈ wsX3_payWords := fun _ h => List.mem_cons_of_mem _ (List.mem_append_left _ (List.mem_append_left _ (List.mem_append_right _ h)))
  have hP : va_P D vwCl (ws_CY cs a σ) s.heap := hP
  have B50 : ∀ (K4 : (Int32 → Int32 → CY → Prop)) (hK4 : ∀ (x1 : Int32) (x2 : Int32) (σ : CY), K4 x1 x2 σ → At p l e (headSpec wsX3_payWords rm_C_payWords).room s m ([.ref (a 0)] : List Value).toArray below meth c (MQ below (va_Qv Φ (BG D cs A s.heap.size (ws_CY cs a)) A) ([.ref (a 0)] : List Value).toArray s 0 0 A) D A 4 [(0, .ref (a 0)), (1, .int x1), (2, .int x2)] (ws_CY cs a σ) 4 []) (x1 : Int32) (x2 : Int32) (σ : CY), b_C_payWords_50 K4 Φ x1 x2 σ → At p l e (headSpec wsX3_payWords rm_C_payWords).room s m ([.ref (a 0)] : List Value).toArray below meth c (MQ below (va_Qv Φ (BG D cs A s.heap.size (ws_CY cs a)) A) ([.ref (a 0)] : List Value).toArray s 0 0 A) D A 4 [(0, .ref (a 0)), (1, .int x1), (2, .int x2)] (ws_CY cs a σ) 50 [] := by
    intro K4 hK4 x1 x2 σ hw H locs ls hl hP hD hS
    unfold b_C_payWords_50 at hw
    refine lv_iinc (v := (x2 + (1 : Int32))) (lv' := [(2, .int (x2 + (1 : Int32))), (0, .ref (a 0)), (1, .int x1)]) hx hb dX3_payWords_50 hl (k := 2) rfl rfl (by decide) rfl (fun ls hl => ?_)
    refine lv_goto (tgt := 4) hx hb dX3_payWords_53 (by decide) ?_
    exact hK4 _ _ _ hw _ _ ls (lv_sub hl [1, 2, 0] rfl) hP hD hS
  have B4 : ∀ (n : Nat) (x1 : Int32) (x2 : Int32) (σ : CY), it3 (b_C_payWords_4 Φ) n x1 x2 σ → At p l e (headSpec wsX3_payWords rm_C_payWords).room s m ([.ref (a 0)] : List Value).toArray below meth c (MQ below (va_Qv Φ (BG D cs A s.heap.size (ws_CY cs a)) A) ([.ref (a 0)] : List Value).toArray s 0 0 A) D A 4 [(0, .ref (a 0)), (1, .int x1), (2, .int x2)] (ws_CY cs a σ) 4 [] := by
    intro n
    induction n with
    | zero => intro x1 x2 σ hw; exact absurd hw id
    | succ n ih =>
      intro x1 x2 σ hw H locs ls hl hP hD hS
      have hw : b_C_payWords_4 Φ (it3 (b_C_payWords_4 Φ) n) x1 x2 σ := hw
      unfold b_C_payWords_4 at hw
      refine lv_iload_n hx hb dX3_payWords_4 rfl (lv_at hl 2 rfl) ?_
      refine lv_bipush (v := (6 : Int32)) hx hb dX3_payWords_5 (by decide) ?_
      refine lv_icmp_ge (tgt := 56) hx hb dX3_payWords_7 (by decide) (fun c7 => ?_) (fun c7 => ?_)
      · have hw := hw.1 c7
        refine lv_aload_n hx hb dX3_payWords_56 rfl (lv_at hl 0 rfl) ?_
        refine va_get (D := D) (ci := 3) (v := .ref (a 9)) (C := RX3) (T := TX3) (N := 12) hx hb hts hinX3 hown hK hP 0 rfl rfl 2 (by decide) hf22 (fun _ h9 => h9) rfl dX3_payWords_57 ?_
        refine lv_aload_n hx hb dX3_payWords_60 rfl (lv_at hl 0 rfl) ?_
        refine va_get (D := D) (ci := 3) (v := .ref (a 20)) (C := RX3) (T := TX3) (N := 12) hx hb hts hinX3 hown hK hP 0 rfl rfl 5 (by decide) hf37 (fun _ h9 => h9) rfl dX3_payWords_61 ?_
        refine lv_iload_n hx hb dX3_payWords_64 rfl (lv_at hl 1 rfl) ?_
        refine kVv (As := [.ref (a 20), .int x1]) (rest := []) ⟨hx, hb, hml, hown, hts⟩ (c_W_payShown l D cs (ad_CY_wl a) _ (gCY_wl σ) x1 hw) (cwV 2 hts gX3_payWords_X2_payShown rfl rfl rfl (by decide +kernel) ⟨Nat.le_of_ble_eq_true rfl, Nat.le_of_ble_eq_true rfl⟩) (pt_CY_wl cs a σ) hK hP hD hS hA (ci := 2) rfl rfl rfl rfl hl.1 rfl (Nat.le_of_ble_eq_true rfl) dX3_payWords_65 ⟨Nat.zero_le _, Nat.zero_le _⟩ (fun u65 H locs hw hP hD hS => ?_)
        have hP : va_P D vwCl (ws_CY cs a (sCY_wl σ u65)) H := hP
        have hD : va_D A (ws_CY cs a (sCY_wl σ u65)) := hD
        exact rV (wf := (ws_CY cs a)) (u := (sCY_wl σ u65)) hx hb hr hlocks hK hP hD hS hw dX3_payWords_68
      · have hw := hw.2 c7
        refine lv_aload_n hx hb dX3_payWords_10 rfl (lv_at hl 0 rfl) ?_
        refine va_get (D := D) (ci := 3) (v := .ref (a 1)) (C := RX3) (T := TX3) (N := 12) hx hb hts hinX3 hown hK hP 0 rfl rfl 0 (by decide) hf10 (fun _ h9 => h9) rfl dX3_payWords_11 ?_
        refine lv_iload_n hx hb dX3_payWords_14 rfl (lv_at hl 2 rfl) ?_
        refine kVi (As := [.int x2]) (rest := []) ⟨hx, hb, hml, hown, hts⟩ (c_S_topOf l D cs (sh a 1) _ (g_CY_st σ) x2 hw) (cwV 1 hts gX3_payWords_X1_topOf rfl rfl rfl (by decide +kernel) ⟨Nat.le_of_ble_eq_true rfl, Nat.le_of_ble_eq_true rfl⟩) (pt_CY_st cs a σ) hK hP hD hS hA (ci := 1) rfl rfl rfl rfl hl.1 rfl (Nat.le_of_ble_eq_true rfl) dX3_payWords_15 ⟨Nat.zero_le _, Nat.zero_le _⟩ (fun r15 u15 H locs hw hP hD hS => ?_)
        have hP : va_P D vwCl (ws_CY cs a (s_CY_st σ u15)) H := hP
        have hD : va_D A (ws_CY cs a (s_CY_st σ u15)) := hD
        refine lv_istore_n (lv' := [(3, .int r15), (0, .ref (a 0)), (1, .int x1), (2, .int x2)]) hx hb dX3_payWords_18 rfl hl (by decide) rfl (fun ls hl => ?_)
        refine lv_iload_n hx hb dX3_payWords_19 rfl (lv_at hl 0 rfl) ?_
        refine lv_if_lt (tgt := 50) hx hb dX3_payWords_20 (by decide) (fun c20 => ?_) (fun c20 => ?_)
        · have hw := hw.1 c20
          exact B50 _ ih _ _ _ hw _ _ ls (lv_sub hl [1, 2, 3] rfl) hP hD hS
        · have hw := hw.2 c20
          refine lv_iload_n hx hb dX3_payWords_23 rfl (lv_at hl 0 rfl) ?_
          refine lv_bipush (v := (30 : Int32)) hx hb dX3_payWords_24 (by decide) ?_
          refine lv_icmp_ge (tgt := 50) hx hb dX3_payWords_26 (by decide) (fun c26 => ?_) (fun c26 => ?_)
          · have hw := hw.1 c26
            exact B50 _ ih _ _ _ hw _ _ ls (lv_sub hl [1, 2, 3] rfl) hP hD hS
          · have hw := hw.2 c26
            refine lv_iload_n hx hb dX3_payWords_29 rfl (lv_at hl 2 rfl) ?_
            refine lv_bipush (v := (6 : Int32)) hx hb dX3_payWords_30 (by decide) ?_
            refine lv_icmp_ge (tgt := 50) hx hb dX3_payWords_32 (by decide) (fun c32 => ?_) (fun c32 => ?_)
            · have hw := hw.1 c32
              exact B50 _ ih _ _ _ hw _ _ ls (lv_sub hl [1, 2, 3] rfl) hP hD hS
            · have hw := hw.2 c32
              refine lv_aload_n hx hb dX3_payWords_35 rfl (lv_at hl 1 rfl) ?_
              refine va_get (D := D) (ci := 3) (v := .ref (a 20)) (C := RX3) (T := TX3) (N := 12) hx hb hts hinX3 hown hK hP 0 rfl rfl 5 (by decide) hf37 (fun _ h9 => h9) rfl dX3_payWords_36 ?_
              refine lv_iload_n hx hb dX3_payWords_39 rfl (lv_at hl 2 rfl) ?_
              refine lv_aload_n hx hb dX3_payWords_40 rfl (lv_at hl 1 rfl) ?_
              refine va_get (D := D) (ci := 3) (v := .ref (a 19)) (C := RX3) (T := TX3) (N := 12) hx hb hts hinX3 hown hK hP 0 rfl rfl 4 (by decide) hf33 (fun _ h9 => h9) rfl dX3_payWords_41 ?_
              refine lv_iload_n hx hb dX3_payWords_44 rfl (lv_at hl 0 rfl) ?_
              have hi45 := hw.1
              have hw := hw.2
              refine va_iald (f := (g_CY_letters (s_CY_st σ u15))) (n := 30) hx hb hK hP 19 0 rfl rfl hi45 dX3_payWords_45 ?_
              refine lv_topi (fun y1 ey1 => ?_)
              have hw := hw y1 ey1
              have hi46 := hw.1
              have hw := hw.2
              refine va_iast (f := (g_CY_lids (s_CY_st σ u15))) (n := 6) (x := y1) hx hb hK hP hD hS 20 0 rfl rfl hi46 dX3_payWords_46 (fun H locs hP hD hS => ?_)
              have hP : va_P D vwCl (ws_CY cs a (s_CY_lids (s_CY_st σ u15) (upd (g_CY_lids (s_CY_st σ u15)) (x1).toNatClampNeg y1))) H := hP
              have hD : va_D A (ws_CY cs a (s_CY_lids (s_CY_st σ u15) (upd (g_CY_lids (s_CY_st σ u15)) (x1).toNatClampNeg y1))) := hD
              obtain ⟨z2, ez2⟩ : ∃ z : CY, z = (s_CY_lids (s_CY_st σ u15) (upd (g_CY_lids (s_CY_st σ u15)) (x1).toNatClampNeg y1)) := ⟨_, rfl⟩
              have hw := hw z2 ez2
              rw [← ez2] at hP hD
              refine lv_iinc (v := (x1 + (1 : Int32))) (lv' := [(1, .int (x1 + (1 : Int32))), (3, .int r15), (0, .ref (a 0)), (2, .int x2)]) hx hb dX3_payWords_47 hl (k := 2) rfl rfl (by decide) rfl (fun ls hl => ?_)
              exact B50 _ ih _ _ _ hw H locs ls (lv_sub hl [2, 0, 3] rfl) hP hD hS
  have hl := lv_entry ([.ref (a 0)]) (n := 4) (Nat.le_of_ble_eq_true rfl)
  rw [lg_entry_eq]
  generalize (lg_sl ([.ref (a 0)]) ++ List.replicate (4 - (lg_sl ([.ref (a 0)])).length) Slot.unset).toArray = ls at hl ⊢
  have hl : lv_has ls 4 [(0, .ref (a 0))] := hl
  unfold w_C_payWords at hw
  refine lv_iconst (v := (0 : Int32)) hx hb dX3_payWords_0 (by decide) ?_
  refine lv_istore_n (lv' := [(1, .int (0 : Int32)), (0, .ref (a 0))]) hx hb dX3_payWords_1 rfl hl (by decide) rfl (fun ls hl => ?_)
  refine lv_iconst (v := (0 : Int32)) hx hb dX3_payWords_2 (by decide) ?_
  refine lv_istore_n (lv' := [(2, .int (0 : Int32)), (1, .int (0 : Int32)), (0, .ref (a 0))]) hx hb dX3_payWords_3 rfl hl (by decide) rfl (fun ls hl => ?_)
  obtain ⟨n, hw⟩ := hw
  exact B4 n _ _ _ hw _ _ ls (lv_sub hl [2, 1, 0] rfl) hP hD hS
abbrev rm_C_arrive : Room := { frames := 7, cells := 1, slots := 6, locals := 114 }
set_option maxHeartbeats 4000000 in
set_option maxRecDepth 100000 in
theorem c_C_arrive (l : Launch) (hfl : l.stackTraces = false) (D : va_G) (cs : CS) (a : Nat → Nat) (sz : Nat) (σ : CY) (p1 : Int32) (p2 : Int32) (p3 : Int32) {Φ : Int32 → CY → Prop} {Ξ : String → CY → Prop} (hw : w_C_arrive σ p1 p2 p3 Φ Ξ) : vx_Met l yX3_arrive wsX3_arrive rm_C_arrive (PcX [.ref (a 0), .int p1, .int p2, .int p3] D cs (ws_CY cs a σ) sz) (va_Qi Φ (BG D cs (va_A (ws_CY cs a σ) sz) sz (ws_CY cs a)) (va_A (ws_CY cs a σ) sz)) (XG D cs (va_A (ws_CY cs a σ) sz) (ws_CY cs a) Ξ) 1 6 (va_A (ws_CY cs a σ) sz) := by
  refine vx_ofW (cc := cX3_arrive) (maxL := 5) (ret := (some .int)) (by decide) rfl ?_
  intro p e s m args below meth c s₁ B hml hout hv
  obtain ⟨rfl, hsz, hP, hK, hD0, hE⟩ := hv
  have hx := B.exec
  have hb := B.bytes
  have hr := B.returns
  have hts := atoms_spec (ws := wsX3_arrive) B.pre
  have hown : s.vm.findClass RX3 = some m.cls := findClass_of_methodNamed B.named
  have hlocks := B.notSynchronized
  subst hsz
  have hD := hD0.self (sz := s.heap.size)
  generalize hAe : va_A (ws_CY cs a σ) s.heap.size = A at hD hE ⊢
  have hA : ∀ q : Nat, s.heap.size ≤ q → A q := fun q h => by rw [← hAe]; exact Or.inr h
  have hS : va_S A s.heap s.heap [] := va_S.rf
  have hf10 : (Cond.fieldLink RX3 10 "CraneYard" "stacks" "LCraneYard$Stacks;").before ([.ref (a 0), .int p1, .int p2, .int p3] : List Value).toArray s = true := hts _ (List.mem_of_getElem? (i := 7) rfl)
  have hf33 : (Cond.fieldLink RX3 33 "CraneYard" "letters" "[I").before ([.ref (a 0), .int p1, .int p2, .int p3] : List Value).toArray s = true := hts _ (List.mem_of_getElem? (i := 6) rfl)
  have hf40 : (Cond.fieldLink RX3 40 "CraneYard" "crateCount" "I").before ([.ref (a 0), .int p1, .int p2, .int p3] : List Value).toArray s = true := hts _ (List.mem_of_getElem? (i := 5) rfl)
  have hi60 : (Cond.initialized "java/lang/IllegalArgumentException").before ([.ref (a 0), .int p1, .int p2, .int p3] : List Value).toArray s = true := hts _ (List.mem_of_getElem? (i := 2) rfl)
  have hi74 : (Cond.initialized "java/lang/IllegalStateException").before ([.ref (a 0), .int p1, .int p2, .int p3] : List Value).toArray s = true := hts _ (List.mem_of_getElem? (i := 4) rfl)
  have hinX3 : ∀ w ∈ wsX30, w ∈ wsX3_arrive := fun _ h => List.mem_cons_of_mem _ (List.mem_append_left _ (List.mem_append_left _ (List.mem_append_left _ (List.mem_append_left _ (List.mem_append_right _ h)))))
  have hk60 : (Cond.classLink RX3 60 "java/lang/IllegalArgumentException").before ([.ref (a 0), .int p1, .int p2, .int p3] : List Value).toArray s = true := hts _ (List.mem_of_getElem? (i := 1) rfl)
  have hk74 : (Cond.classLink RX3 74 "java/lang/IllegalStateException").before ([.ref (a 0), .int p1, .int p2, .int p3] : List Value).toArray s = true := hts _ (List.mem_of_getElem? (i := 3) rfl)
  have hP : va_P D vwCl (ws_CY cs a σ) s.heap := hP
  have B11 : ∀ (σ : CY), b_C_arrive_11 Φ Ξ σ → At p l e (headSpec wsX3_arrive rm_C_arrive).room s m ([.ref (a 0), .int p1, .int p2, .int p3] : List Value).toArray below meth c (vx_MQ below (va_Qi Φ (BG D cs A s.heap.size (ws_CY cs a)) A) (XG D cs A (ws_CY cs a) Ξ) ([.ref (a 0), .int p1, .int p2, .int p3] : List Value).toArray s 1 6 A) D A 5 [] (ws_CY cs a σ) 11 [] := by
    intro σ hw H locs ls hl hP hD hS
    unfold b_C_arrive_11 at hw
    exact tS (wf := (ws_CY cs a)) (u := σ) (ik := 60) (ic := 64) (text := "the weight is not 1 to 100") (cls := "java/lang/IllegalArgumentException") hx hb hfl hown (by decide +kernel) hk60 hi60 (fun w h => hts w (List.mem_cons_of_mem _ (List.mem_append_left _ (List.mem_append_right _ h)))) ng_64 gd_64 (by decide) (by decide) hE hK hP hD hS (by rw [hml]; exact hl.1) dX3_arrive_11 dX3_arrive_14 dX3_arrive_15 dX3_arrive_17 dX3_arrive_20 hout (Nat.le_of_ble_eq_true rfl) (Nat.le_of_ble_eq_true rfl) (Nat.le_of_ble_eq_true rfl) (Nat.le_of_ble_eq_true rfl) hlocks hw
  have hl := lv_entry ([.ref (a 0), .int p1, .int p2, .int p3]) (n := 5) (Nat.le_of_ble_eq_true rfl)
  rw [lg_entry_eq]
  generalize (lg_sl ([.ref (a 0), .int p1, .int p2, .int p3]) ++ List.replicate (5 - (lg_sl ([.ref (a 0), .int p1, .int p2, .int p3])).length) Slot.unset).toArray = ls at hl ⊢
  have hl : lv_has ls 5 [(0, .ref (a 0)), (1, .int p1), (2, .int p2), (3, .int p3)] := hl
  unfold w_C_arrive at hw
  refine lv_iload_n hx hb dX3_arrive_0 rfl (lv_at hl 1 rfl) ?_
  refine lv_iconst (v := (1 : Int32)) hx hb dX3_arrive_1 (by decide) ?_
  refine lv_icmp_lt (tgt := 11) hx hb dX3_arrive_2 (by decide) (fun c2 => ?_) (fun c2 => ?_)
  · have hw := hw.1 c2
    exact B11 _ hw _ _ ls (lv_sub hl [] rfl) hP hD hS
  · have hw := hw.2 c2
    refine lv_iload_n hx hb dX3_arrive_5 rfl (lv_at hl 1 rfl) ?_
    refine lv_bipush (v := (100 : Int32)) hx hb dX3_arrive_6 (by decide) ?_
    refine lv_icmp_le (tgt := 21) hx hb dX3_arrive_8 (by decide) (fun c8 => ?_) (fun c8 => ?_)
    · have hw := hw.1 c8
      refine lv_iload_n hx hb dX3_arrive_21 rfl (lv_at hl 2 rfl) ?_
      refine kxSv (As := [.int p2]) (rest := []) ⟨hx, hb, hml, hown, hts⟩ hE (c_C_requireLetter l hfl D cs a _ p2 hw) (va_cwS 1 hts gX3_arrive_X3_requireLetter rfl rfl rfl (by decide +kernel) ⟨Nat.le_of_ble_eq_true rfl, Nat.le_of_ble_eq_true rfl⟩) (pt_un_CY cs a σ) hK hP hD hS hA rfl hl.1 rfl (Nat.le_of_ble_eq_true rfl) dX3_arrive_22 ⟨Nat.le_of_ble_eq_true rfl, Nat.le_of_ble_eq_true rfl⟩ (fun E u22 H locs q9 ce hw hP hD hS hcell hv hcl => tX (wf := (ws_CY cs a)) (u := σ) hout hlocks hK hP hD hS hw hcell hv hcl) (fun u22 H locs hw hP hD hS => ?_)
      have hP : va_P D vwCl (ws_CY cs a σ) H := hP
      have hD : va_D A (ws_CY cs a σ) := hD
      refine lv_iload_n hx hb dX3_arrive_25 rfl (lv_at hl 3 rfl) ?_
      refine kxSv (As := [.int p3]) (rest := []) ⟨hx, hb, hml, hown, hts⟩ hE (c_C_requireStack l hfl D cs a _ p3 hw) (va_cwS 1 hts gX3_arrive_X3_requireStack rfl rfl rfl (by decide +kernel) ⟨Nat.le_of_ble_eq_true rfl, Nat.le_of_ble_eq_true rfl⟩) (pt_un_CY cs a σ) hK hP hD hS hA rfl hl.1 rfl (Nat.le_of_ble_eq_true rfl) dX3_arrive_26 ⟨Nat.le_of_ble_eq_true rfl, Nat.le_of_ble_eq_true rfl⟩ (fun E u26 H locs q9 ce hw hP hD hS hcell hv hcl => tX (wf := (ws_CY cs a)) (u := σ) hout hlocks hK hP hD hS hw hcell hv hcl) (fun u26 H locs hw hP hD hS => ?_)
      have hP : va_P D vwCl (ws_CY cs a σ) H := hP
      have hD : va_D A (ws_CY cs a σ) := hD
      refine lv_aload_n hx hb dX3_arrive_29 rfl (lv_at hl 0 rfl) ?_
      refine va_get (D := D) (ci := 3) (v := .int (g_CY_crateCount σ)) (C := RX3) (T := TX3) (N := 12) hx hb hts hinX3 hown hK hP 0 rfl rfl 6 (by decide) hf40 (fun _ h9 => h9) rfl dX3_arrive_30 ?_
      refine lv_bipush (v := (30 : Int32)) hx hb dX3_arrive_33 (by decide) ?_
      refine lv_icmp_lt (tgt := 48) hx hb dX3_arrive_35 (by decide) (fun c35 => ?_) (fun c35 => ?_)
      · have hw := hw.1 c35
        refine lv_aload_n hx hb dX3_arrive_48 rfl (lv_at hl 0 rfl) ?_
        refine lv_iload_n hx hb dX3_arrive_49 rfl (lv_at hl 3 rfl) ?_
        refine lv_iload_n hx hb dX3_arrive_50 rfl (lv_at hl 1 rfl) ?_
        refine kxVv (As := [.int p3, .int p1]) (rest := []) ⟨hx, hb, hml, hown, hts⟩ hE (c_C_requireRoom l hfl D cs a _ σ p3 p1 hw) (cwV 2 hts gX3_arrive_X3_requireRoom rfl rfl rfl (by decide +kernel) ⟨Nat.le_of_ble_eq_true rfl, Nat.le_of_ble_eq_true rfl⟩) (pt_self_CY cs a σ) hK hP hD hS hA (ci := 3) rfl rfl rfl rfl hl.1 rfl (Nat.le_of_ble_eq_true rfl) dX3_arrive_51 ⟨Nat.le_of_ble_eq_true rfl, Nat.le_of_ble_eq_true rfl⟩ (fun E u51 H locs q9 ce hw hP hD hS hcell hv hcl => tX (wf := (ws_CY cs a)) (u := u51) hout hlocks hK hP hD hS hw hcell hv hcl) (fun u51 H locs hw hP hD hS => ?_)
        have hP : va_P D vwCl (ws_CY cs a u51) H := hP
        have hD : va_D A (ws_CY cs a u51) := hD
        refine lv_aload_n hx hb dX3_arrive_54 rfl (lv_at hl 0 rfl) ?_
        refine va_get (D := D) (ci := 3) (v := .int (g_CY_crateCount u51)) (C := RX3) (T := TX3) (N := 12) hx hb hts hinX3 hown hK hP 0 rfl rfl 6 (by decide) hf40 (fun _ h9 => h9) rfl dX3_arrive_55 ?_
        refine lv_istore (lv' := [(4, .int (g_CY_crateCount u51)), (0, .ref (a 0)), (1, .int p1), (2, .int p2), (3, .int p3)]) hx hb dX3_arrive_58 hl (by decide) rfl (fun ls hl => ?_)
        refine lv_aload_n hx hb dX3_arrive_60 rfl (lv_at hl 1 rfl) ?_
        refine lv_dup hx hb dX3_arrive_61 rfl ?_
        refine va_get (D := D) (ci := 3) (v := .int (g_CY_crateCount u51)) (C := RX3) (T := TX3) (N := 12) hx hb hts hinX3 hown hK hP 0 rfl rfl 6 (by decide) hf40 (fun _ h9 => h9) rfl dX3_arrive_62 ?_
        refine lv_iconst (v := (1 : Int32)) hx hb dX3_arrive_65 (by decide) ?_
        refine lv_iadd hx hb dX3_arrive_66 ?_
        refine lv_topi (fun y1 ey1 => ?_)
        have hw := hw y1 ey1
        refine va_put (D := D) (ci := 3) (v := .int y1) (ty := .int) (C := RX3) (T := TX3) (N := 12) hx hb hts hinX3 tyX3 tyX3_ok nmX3 hown hK hP hD hS 0 rfl rfl 6 (by decide) hf40 (fun _ h9 => h9) rfl (by decide +kernel) rfl rfl (Nat.le_of_ble_eq_true rfl) dX3_arrive_67 (fun H locs hP hD hS => ?_)
        have hP : va_P D vwCl (ws_CY cs a (s_CY_crateCount u51 y1)) H := hP
        have hD : va_D A (ws_CY cs a (s_CY_crateCount u51 y1)) := hD
        obtain ⟨z2, ez2⟩ : ∃ z : CY, z = (s_CY_crateCount u51 y1) := ⟨_, rfl⟩
        have hw := hw z2 ez2
        rw [← ez2] at hP hD
        refine lv_aload_n hx hb dX3_arrive_70 rfl (lv_at hl 1 rfl) ?_
        refine va_get (D := D) (ci := 3) (v := .ref (a 19)) (C := RX3) (T := TX3) (N := 12) hx hb hts hinX3 hown hK hP 0 rfl rfl 4 (by decide) hf33 (fun _ h9 => h9) rfl dX3_arrive_71 ?_
        refine lv_iload hx hb dX3_arrive_74 (lv_at hl 0 rfl) ?_
        refine lv_iload_n hx hb dX3_arrive_76 rfl (lv_at hl 3 rfl) ?_
        have hi77 := hw.1
        have hw := hw.2
        refine va_iast (f := (g_CY_letters z2)) (n := 30) (x := p2) hx hb hK hP hD hS 19 0 rfl rfl hi77 dX3_arrive_77 (fun H locs hP hD hS => ?_)
        have hP : va_P D vwCl (ws_CY cs a (s_CY_letters z2 (upd (g_CY_letters z2) ((g_CY_crateCount u51)).toNatClampNeg p2))) H := hP
        have hD : va_D A (ws_CY cs a (s_CY_letters z2 (upd (g_CY_letters z2) ((g_CY_crateCount u51)).toNatClampNeg p2))) := hD
        obtain ⟨z3, ez3⟩ : ∃ z : CY, z = (s_CY_letters z2 (upd (g_CY_letters z2) ((g_CY_crateCount u51)).toNatClampNeg p2)) := ⟨_, rfl⟩
        have hw := hw z3 ez3
        rw [← ez3] at hP hD
        refine lv_aload_n hx hb dX3_arrive_78 rfl (lv_at hl 1 rfl) ?_
        refine va_get (D := D) (ci := 3) (v := .ref (a 1)) (C := RX3) (T := TX3) (N := 12) hx hb hts hinX3 hown hK hP 0 rfl rfl 0 (by decide) hf10 (fun _ h9 => h9) rfl dX3_arrive_79 ?_
        refine lv_iload hx hb dX3_arrive_82 (lv_at hl 0 rfl) ?_
        refine lv_iload_n hx hb dX3_arrive_84 rfl (lv_at hl 2 rfl) ?_
        refine kVv (As := [.int (g_CY_crateCount u51), .int p1]) (rest := []) ⟨hx, hb, hml, hown, hts⟩ (c_S_setWeight l D cs (sh a 1) _ (g_CY_st z3) (g_CY_crateCount u51) p1 hw) (cwV 2 hts gX3_arrive_X1_setWeight rfl rfl rfl (by decide +kernel) ⟨Nat.le_of_ble_eq_true rfl, Nat.le_of_ble_eq_true rfl⟩) (pt_CY_st cs a z3) hK hP hD hS hA (ci := 1) rfl rfl rfl rfl hl.1 rfl (Nat.le_of_ble_eq_true rfl) dX3_arrive_85 ⟨Nat.zero_le _, Nat.zero_le _⟩ (fun u85 H locs hw hP hD hS => ?_)
        have hP : va_P D vwCl (ws_CY cs a (s_CY_st z3 u85)) H := hP
        have hD : va_D A (ws_CY cs a (s_CY_st z3 u85)) := hD
        refine lv_aload_n hx hb dX3_arrive_88 rfl (lv_at hl 1 rfl) ?_
        refine va_get (D := D) (ci := 3) (v := .ref (a 1)) (C := RX3) (T := TX3) (N := 12) hx hb hts hinX3 hown hK hP 0 rfl rfl 0 (by decide) hf10 (fun _ h9 => h9) rfl dX3_arrive_89 ?_
        refine lv_iload_n hx hb dX3_arrive_92 rfl (lv_at hl 4 rfl) ?_
        refine lv_iload hx hb dX3_arrive_93 (lv_at hl 0 rfl) ?_
        refine kVv (As := [.int p3, .int (g_CY_crateCount u51)]) (rest := []) ⟨hx, hb, hml, hown, hts⟩ (c_S_put l D cs (sh a 1) _ (g_CY_st (s_CY_st z3 u85)) p3 (g_CY_crateCount u51) hw) (cwV 2 hts gX3_arrive_X1_put rfl rfl rfl (by decide +kernel) ⟨Nat.le_of_ble_eq_true rfl, Nat.le_of_ble_eq_true rfl⟩) (pt_CY_st cs a (s_CY_st z3 u85)) hK hP hD hS hA (ci := 1) rfl rfl rfl rfl hl.1 rfl (Nat.le_of_ble_eq_true rfl) dX3_arrive_95 ⟨Nat.zero_le _, Nat.zero_le _⟩ (fun u95 H locs hw hP hD hS => ?_)
        have hP : va_P D vwCl (ws_CY cs a (s_CY_st (s_CY_st z3 u85) u95)) H := hP
        have hD : va_D A (ws_CY cs a (s_CY_st (s_CY_st z3 u85) u95)) := hD
        refine lv_aload_n hx hb dX3_arrive_98 rfl (lv_at hl 1 rfl) ?_
        refine kVv (As := []) (rest := []) ⟨hx, hb, hml, hown, hts⟩ (c_C_payWords l D cs a _ (s_CY_st (s_CY_st z3 u85) u95) hw) (cwV 0 hts gX3_arrive_X3_payWords rfl rfl rfl (by decide +kernel) ⟨Nat.le_of_ble_eq_true rfl, Nat.le_of_ble_eq_true rfl⟩) (pt_self_CY cs a (s_CY_st (s_CY_st z3 u85) u95)) hK hP hD hS hA (ci := 3) rfl rfl rfl rfl hl.1 rfl (Nat.le_of_ble_eq_true rfl) dX3_arrive_99 ⟨Nat.zero_le _, Nat.zero_le _⟩ (fun u99 H locs hw hP hD hS => ?_)
        have hP : va_P D vwCl (ws_CY cs a u99) H := hP
        have hD : va_D A (ws_CY cs a u99) := hD
        refine lv_iload hx hb dX3_arrive_102 (lv_at hl 0 rfl) ?_
        exact xI (wf := (ws_CY cs a)) (u := u99) hx hb hr hlocks hK hP hD hS hw dX3_arrive_104
      · have hw := hw.2 c35
        exact tS (wf := (ws_CY cs a)) (u := σ) (ik := 74) (ic := 78) (text := "30 crates have arrived") (cls := "java/lang/IllegalStateException") hx hb hfl hown (by decide +kernel) hk74 hi74 (fun w h => hts w (List.mem_cons_of_mem _ (List.mem_append_right _ h))) ng_78 gd_78 (by decide) (by decide) hE hK hP hD hS (by rw [hml]; exact hl.1) dX3_arrive_38 dX3_arrive_41 dX3_arrive_42 dX3_arrive_44 dX3_arrive_47 hout (Nat.le_of_ble_eq_true rfl) (Nat.le_of_ble_eq_true rfl) (Nat.le_of_ble_eq_true rfl) (Nat.le_of_ble_eq_true rfl) hlocks hw
    · have hw := hw.2 c8
      exact B11 _ hw _ _ ls (lv_sub hl [] rfl) hP hD hS
abbrev rm_C_requireEmptyCrane : Room := { frames := 6, cells := 1, slots := 6, locals := 92 }
set_option maxHeartbeats 4000000 in
set_option maxRecDepth 100000 in
theorem c_C_requireEmptyCrane (l : Launch) (hfl : l.stackTraces = false) (D : va_G) (cs : CS) (a : Nat → Nat) (sz : Nat) (σ : CY) {Φ : CY → Prop} {Ξ : String → CY → Prop} (hw : w_C_requireEmptyCrane σ Φ Ξ) : vx_Met l yX3_requireEmptyCrane wsX3_requireEmptyCrane rm_C_requireEmptyCrane (PcX [.ref (a 0)] D cs (ws_CY cs a σ) sz) (va_Qv Φ (BG D cs (va_A (ws_CY cs a σ) sz) sz (ws_CY cs a)) (va_A (ws_CY cs a σ) sz)) (XG D cs (va_A (ws_CY cs a σ) sz) (ws_CY cs a) Ξ) 1 6 (va_A (ws_CY cs a σ) sz) := by
  refine vx_ofW (cc := cX3_requireEmptyCrane) (maxL := 1) (ret := none) (by decide) rfl ?_
  intro p e s m args below meth c s₁ B hml hout hv
  obtain ⟨rfl, hsz, hP, hK, hD0, hE⟩ := hv
  have hx := B.exec
  have hb := B.bytes
  have hr := B.returns
  have hts := atoms_spec (ws := wsX3_requireEmptyCrane) B.pre
  have hown : s.vm.findClass RX3 = some m.cls := findClass_of_methodNamed B.named
  have hlocks := B.notSynchronized
  subst hsz
  have hD := hD0.self (sz := s.heap.size)
  generalize hAe : va_A (ws_CY cs a σ) s.heap.size = A at hD hE ⊢
  have hA : ∀ q : Nat, s.heap.size ≤ q → A q := fun q h => by rw [← hAe]; exact Or.inr h
  have hS : va_S A s.heap s.heap [] := va_S.rf
  have hf44 : (Cond.fieldLink RX3 44 "CraneYard" "craneCrate" "I").before ([.ref (a 0)] : List Value).toArray s = true := hts _ (List.mem_of_getElem? (i := 3) rfl)
  have hi74 : (Cond.initialized "java/lang/IllegalStateException").before ([.ref (a 0)] : List Value).toArray s = true := hts _ (List.mem_of_getElem? (i := 2) rfl)
  have hinX3 : ∀ w ∈ wsX30, w ∈ wsX3_requireEmptyCrane := fun _ h => List.mem_cons_of_mem _ (List.mem_append_left _ (List.mem_append_right _ h))
  have hk74 : (Cond.classLink RX3 74 "java/lang/IllegalStateException").before ([.ref (a 0)] : List Value).toArray s = true := hts _ (List.mem_of_getElem? (i := 1) rfl)
  have hP : va_P D vwCl (ws_CY cs a σ) s.heap := hP
  have hl := lv_entry ([.ref (a 0)]) (n := 1) (Nat.le_of_ble_eq_true rfl)
  rw [lg_entry_eq]
  generalize (lg_sl ([.ref (a 0)]) ++ List.replicate (1 - (lg_sl ([.ref (a 0)])).length) Slot.unset).toArray = ls at hl ⊢
  have hl : lv_has ls 1 [(0, .ref (a 0))] := hl
  unfold w_C_requireEmptyCrane at hw
  refine lv_aload_n hx hb dX3_requireEmptyCrane_0 rfl (lv_at hl 0 rfl) ?_
  refine va_get (D := D) (ci := 3) (v := .int (g_CY_craneCrate σ)) (C := RX3) (T := TX3) (N := 12) hx hb hts hinX3 hown hK hP 0 rfl rfl 7 (by decide) hf44 (fun _ h9 => h9) rfl dX3_requireEmptyCrane_1 ?_
  refine lv_iconst (v := (-1 : Int32)) hx hb dX3_requireEmptyCrane_4 (by decide) ?_
  refine lv_icmp_eq (tgt := 18) hx hb dX3_requireEmptyCrane_5 (by decide) (fun c5 => ?_) (fun c5 => ?_)
  · have hw := hw.1 c5
    exact xV (wf := (ws_CY cs a)) (u := σ) hx hb hr hlocks hK hP hD hS hw dX3_requireEmptyCrane_18
  · have hw := hw.2 c5
    exact tS (wf := (ws_CY cs a)) (u := σ) (ik := 74) (ic := 78) (text := "the crane is not empty") (cls := "java/lang/IllegalStateException") hx hb hfl hown (by decide +kernel) hk74 hi74 (fun w h => hts w (List.mem_cons_of_mem _ (List.mem_append_right _ h))) ng_78 gd_78 (by decide) (by decide) hE hK hP hD hS (by rw [hml]; exact hl.1) dX3_requireEmptyCrane_8 dX3_requireEmptyCrane_11 dX3_requireEmptyCrane_12 dX3_requireEmptyCrane_14 dX3_requireEmptyCrane_17 hout (Nat.le_of_ble_eq_true rfl) (Nat.le_of_ble_eq_true rfl) (Nat.le_of_ble_eq_true rfl) (Nat.le_of_ble_eq_true rfl) hlocks hw
abbrev rm_C_lift : Room := { frames := 7, cells := 1, slots := 6, locals := 112 }
set_option maxHeartbeats 4000000 in
set_option maxRecDepth 100000 in
theorem c_C_lift (l : Launch) (hfl : l.stackTraces = false) (D : va_G) (cs : CS) (a : Nat → Nat) (sz : Nat) (σ : CY) (p1 : Int32) {Φ : Int32 → CY → Prop} {Ξ : String → CY → Prop} (hw : w_C_lift σ p1 Φ Ξ) : vx_Met l yX3_lift wsX3_lift rm_C_lift (PcX [.ref (a 0), .int p1] D cs (ws_CY cs a σ) sz) (va_Qi Φ (BG D cs (va_A (ws_CY cs a σ) sz) sz (ws_CY cs a)) (va_A (ws_CY cs a σ) sz)) (XG D cs (va_A (ws_CY cs a σ) sz) (ws_CY cs a) Ξ) 1 6 (va_A (ws_CY cs a σ) sz) := by
  refine vx_ofW (cc := cX3_lift) (maxL := 2) (ret := (some .int)) (by decide) rfl ?_
  intro p e s m args below meth c s₁ B hml hout hv
  obtain ⟨rfl, hsz, hP, hK, hD0, hE⟩ := hv
  have hx := B.exec
  have hb := B.bytes
  have hr := B.returns
  have hts := atoms_spec (ws := wsX3_lift) B.pre
  have hown : s.vm.findClass RX3 = some m.cls := findClass_of_methodNamed B.named
  have hlocks := B.notSynchronized
  subst hsz
  have hD := hD0.self (sz := s.heap.size)
  generalize hAe : va_A (ws_CY cs a σ) s.heap.size = A at hD hE ⊢
  have hA : ∀ q : Nat, s.heap.size ≤ q → A q := fun q h => by rw [← hAe]; exact Or.inr h
  have hS : va_S A s.heap s.heap [] := va_S.rf
  have hf10 : (Cond.fieldLink RX3 10 "CraneYard" "stacks" "LCraneYard$Stacks;").before ([.ref (a 0), .int p1] : List Value).toArray s = true := hts _ (List.mem_of_getElem? (i := 3) rfl)
  have hf44 : (Cond.fieldLink RX3 44 "CraneYard" "craneCrate" "I").before ([.ref (a 0), .int p1] : List Value).toArray s = true := hts _ (List.mem_of_getElem? (i := 4) rfl)
  have hf47 : (Cond.fieldLink RX3 47 "CraneYard" "liftCount" "I").before ([.ref (a 0), .int p1] : List Value).toArray s = true := hts _ (List.mem_of_getElem? (i := 5) rfl)
  have hi74 : (Cond.initialized "java/lang/IllegalStateException").before ([.ref (a 0), .int p1] : List Value).toArray s = true := hts _ (List.mem_of_getElem? (i := 2) rfl)
  have hinX3 : ∀ w ∈ wsX30, w ∈ wsX3_lift := fun _ h => List.mem_cons_of_mem _ (List.mem_append_left _ (List.mem_append_left _ (List.mem_append_left _ (List.mem_append_left _ (List.mem_append_right _ h)))))
  have hk74 : (Cond.classLink RX3 74 "java/lang/IllegalStateException").before ([.ref (a 0), .int p1] : List Value).toArray s = true := hts _ (List.mem_of_getElem? (i := 1) rfl)
  have hP : va_P D vwCl (ws_CY cs a σ) s.heap := hP
  have hl := lv_entry ([.ref (a 0), .int p1]) (n := 2) (Nat.le_of_ble_eq_true rfl)
  rw [lg_entry_eq]
  generalize (lg_sl ([.ref (a 0), .int p1]) ++ List.replicate (2 - (lg_sl ([.ref (a 0), .int p1])).length) Slot.unset).toArray = ls at hl ⊢
  have hl : lv_has ls 2 [(0, .ref (a 0)), (1, .int p1)] := hl
  unfold w_C_lift at hw
  refine lv_iload_n hx hb dX3_lift_0 rfl (lv_at hl 1 rfl) ?_
  refine kxSv (As := [.int p1]) (rest := []) ⟨hx, hb, hml, hown, hts⟩ hE (c_C_requireStack l hfl D cs a _ p1 hw) (va_cwS 1 hts gX3_lift_X3_requireStack rfl rfl rfl (by decide +kernel) ⟨Nat.le_of_ble_eq_true rfl, Nat.le_of_ble_eq_true rfl⟩) (pt_un_CY cs a σ) hK hP hD hS hA rfl hl.1 rfl (Nat.le_of_ble_eq_true rfl) dX3_lift_1 ⟨Nat.le_of_ble_eq_true rfl, Nat.le_of_ble_eq_true rfl⟩ (fun E u1 H locs q9 ce hw hP hD hS hcell hv hcl => tX (wf := (ws_CY cs a)) (u := σ) hout hlocks hK hP hD hS hw hcell hv hcl) (fun u1 H locs hw hP hD hS => ?_)
  have hP : va_P D vwCl (ws_CY cs a σ) H := hP
  have hD : va_D A (ws_CY cs a σ) := hD
  refine lv_aload_n hx hb dX3_lift_4 rfl (lv_at hl 0 rfl) ?_
  refine kxVv (As := []) (rest := []) ⟨hx, hb, hml, hown, hts⟩ hE (c_C_requireEmptyCrane l hfl D cs a _ σ hw) (cwV 0 hts gX3_lift_X3_requireEmptyCrane rfl rfl rfl (by decide +kernel) ⟨Nat.le_of_ble_eq_true rfl, Nat.le_of_ble_eq_true rfl⟩) (pt_self_CY cs a σ) hK hP hD hS hA (ci := 3) rfl rfl rfl rfl hl.1 rfl (Nat.le_of_ble_eq_true rfl) dX3_lift_5 ⟨Nat.le_of_ble_eq_true rfl, Nat.le_of_ble_eq_true rfl⟩ (fun E u5 H locs q9 ce hw hP hD hS hcell hv hcl => tX (wf := (ws_CY cs a)) (u := u5) hout hlocks hK hP hD hS hw hcell hv hcl) (fun u5 H locs hw hP hD hS => ?_)
  have hP : va_P D vwCl (ws_CY cs a u5) H := hP
  have hD : va_D A (ws_CY cs a u5) := hD
  refine lv_aload_n hx hb dX3_lift_8 rfl (lv_at hl 0 rfl) ?_
  refine va_get (D := D) (ci := 3) (v := .ref (a 1)) (C := RX3) (T := TX3) (N := 12) hx hb hts hinX3 hown hK hP 0 rfl rfl 0 (by decide) hf10 (fun _ h9 => h9) rfl dX3_lift_9 ?_
  refine lv_iload_n hx hb dX3_lift_12 rfl (lv_at hl 1 rfl) ?_
  refine kVi (As := [.int p1]) (rest := []) ⟨hx, hb, hml, hown, hts⟩ (c_S_heightOf l D cs (sh a 1) _ (g_CY_st u5) p1 hw) (cwV 1 hts gX3_lift_X1_heightOf rfl rfl rfl (by decide +kernel) ⟨Nat.le_of_ble_eq_true rfl, Nat.le_of_ble_eq_true rfl⟩) (pt_CY_st cs a u5) hK hP hD hS hA (ci := 1) rfl rfl rfl rfl hl.1 rfl (Nat.le_of_ble_eq_true rfl) dX3_lift_13 ⟨Nat.zero_le _, Nat.zero_le _⟩ (fun r13 u13 H locs hw hP hD hS => ?_)
  have hP : va_P D vwCl (ws_CY cs a (s_CY_st u5 u13)) H := hP
  have hD : va_D A (ws_CY cs a (s_CY_st u5 u13)) := hD
  refine lv_if_ne (tgt := 29) hx hb dX3_lift_16 (by decide) (fun c16 => ?_) (fun c16 => ?_)
  · have hw := hw.2 c16
    refine lv_aload_n hx hb dX3_lift_29 rfl (lv_at hl 0 rfl) ?_
    refine lv_aload_n hx hb dX3_lift_30 rfl (lv_at hl 0 rfl) ?_
    refine va_get (D := D) (ci := 3) (v := .ref (a 1)) (C := RX3) (T := TX3) (N := 12) hx hb hts hinX3 hown hK hP 0 rfl rfl 0 (by decide) hf10 (fun _ h9 => h9) rfl dX3_lift_31 ?_
    refine lv_iload_n hx hb dX3_lift_34 rfl (lv_at hl 1 rfl) ?_
    refine kVi (As := [.int p1]) (rest := [.ref (a 0)]) ⟨hx, hb, hml, hown, hts⟩ (c_S_takeTop l D cs (sh a 1) _ (g_CY_st (s_CY_st u5 u13)) p1 hw) (cwV 1 hts gX3_lift_X1_takeTop rfl rfl rfl (by decide +kernel) ⟨Nat.le_of_ble_eq_true rfl, Nat.le_of_ble_eq_true rfl⟩) (pt_CY_st cs a (s_CY_st u5 u13)) hK hP hD hS hA (ci := 1) rfl rfl rfl rfl hl.1 rfl (Nat.le_of_ble_eq_true rfl) dX3_lift_35 ⟨Nat.zero_le _, Nat.zero_le _⟩ (fun r35 u35 H locs hw hP hD hS => ?_)
    have hP : va_P D vwCl (ws_CY cs a (s_CY_st (s_CY_st u5 u13) u35)) H := hP
    have hD : va_D A (ws_CY cs a (s_CY_st (s_CY_st u5 u13) u35)) := hD
    refine va_put (D := D) (ci := 3) (v := .int r35) (ty := .int) (C := RX3) (T := TX3) (N := 12) hx hb hts hinX3 tyX3 tyX3_ok nmX3 hown hK hP hD hS 0 rfl rfl 7 (by decide) hf44 (fun _ h9 => h9) rfl (by decide +kernel) rfl rfl (Nat.le_of_ble_eq_true rfl) dX3_lift_38 (fun H locs hP hD hS => ?_)
    have hP : va_P D vwCl (ws_CY cs a (s_CY_craneCrate (s_CY_st (s_CY_st u5 u13) u35) r35)) H := hP
    have hD : va_D A (ws_CY cs a (s_CY_craneCrate (s_CY_st (s_CY_st u5 u13) u35) r35)) := hD
    obtain ⟨z1, ez1⟩ : ∃ z : CY, z = (s_CY_craneCrate (s_CY_st (s_CY_st u5 u13) u35) r35) := ⟨_, rfl⟩
    have hw := hw z1 ez1
    rw [← ez1] at hP hD
    refine lv_aload_n hx hb dX3_lift_41 rfl (lv_at hl 0 rfl) ?_
    refine lv_dup hx hb dX3_lift_42 rfl ?_
    refine va_get (D := D) (ci := 3) (v := .int (g_CY_liftCount z1)) (C := RX3) (T := TX3) (N := 12) hx hb hts hinX3 hown hK hP 0 rfl rfl 8 (by decide) hf47 (fun _ h9 => h9) rfl dX3_lift_43 ?_
    refine lv_iconst (v := (1 : Int32)) hx hb dX3_lift_46 (by decide) ?_
    refine lv_iadd hx hb dX3_lift_47 ?_
    refine lv_topi (fun y2 ey2 => ?_)
    have hw := hw y2 ey2
    refine va_put (D := D) (ci := 3) (v := .int y2) (ty := .int) (C := RX3) (T := TX3) (N := 12) hx hb hts hinX3 tyX3 tyX3_ok nmX3 hown hK hP hD hS 0 rfl rfl 8 (by decide) hf47 (fun _ h9 => h9) rfl (by decide +kernel) rfl rfl (Nat.le_of_ble_eq_true rfl) dX3_lift_48 (fun H locs hP hD hS => ?_)
    have hP : va_P D vwCl (ws_CY cs a (s_CY_liftCount z1 y2)) H := hP
    have hD : va_D A (ws_CY cs a (s_CY_liftCount z1 y2)) := hD
    obtain ⟨z3, ez3⟩ : ∃ z : CY, z = (s_CY_liftCount z1 y2) := ⟨_, rfl⟩
    have hw := hw z3 ez3
    rw [← ez3] at hP hD
    refine lv_aload_n hx hb dX3_lift_51 rfl (lv_at hl 0 rfl) ?_
    refine kVv (As := []) (rest := []) ⟨hx, hb, hml, hown, hts⟩ (c_C_payWords l D cs a _ z3 hw) (cwV 0 hts gX3_lift_X3_payWords rfl rfl rfl (by decide +kernel) ⟨Nat.le_of_ble_eq_true rfl, Nat.le_of_ble_eq_true rfl⟩) (pt_self_CY cs a z3) hK hP hD hS hA (ci := 3) rfl rfl rfl rfl hl.1 rfl (Nat.le_of_ble_eq_true rfl) dX3_lift_52 ⟨Nat.zero_le _, Nat.zero_le _⟩ (fun u52 H locs hw hP hD hS => ?_)
    have hP : va_P D vwCl (ws_CY cs a u52) H := hP
    have hD : va_D A (ws_CY cs a u52) := hD
    refine lv_aload_n hx hb dX3_lift_55 rfl (lv_at hl 0 rfl) ?_
    refine va_get (D := D) (ci := 3) (v := .int (g_CY_craneCrate u52)) (C := RX3) (T := TX3) (N := 12) hx hb hts hinX3 hown hK hP 0 rfl rfl 7 (by decide) hf44 (fun _ h9 => h9) rfl dX3_lift_56 ?_
    exact xI (wf := (ws_CY cs a)) (u := u52) hx hb hr hlocks hK hP hD hS hw dX3_lift_59
  · have hw := hw.1 c16
    exact tS (wf := (ws_CY cs a)) (u := (s_CY_st u5 u13)) (ik := 74) (ic := 78) (text := "the stack is empty") (cls := "java/lang/IllegalStateException") hx hb hfl hown (by decide +kernel) hk74 hi74 (fun w h => hts w (List.mem_cons_of_mem _ (List.mem_append_left _ (List.mem_append_right _ h)))) ng_78 gd_78 (by decide) (by decide) hE hK hP hD hS (by rw [hml]; exact hl.1) dX3_lift_19 dX3_lift_22 dX3_lift_23 dX3_lift_25 dX3_lift_28 hout (Nat.le_of_ble_eq_true rfl) (Nat.le_of_ble_eq_true rfl) (Nat.le_of_ble_eq_true rfl) (Nat.le_of_ble_eq_true rfl) hlocks hw
abbrev rm_C_requireFullCrane : Room := { frames := 6, cells := 1, slots := 6, locals := 92 }
set_option maxHeartbeats 4000000 in
set_option maxRecDepth 100000 in
theorem c_C_requireFullCrane (l : Launch) (hfl : l.stackTraces = false) (D : va_G) (cs : CS) (a : Nat → Nat) (sz : Nat) (σ : CY) {Φ : CY → Prop} {Ξ : String → CY → Prop} (hw : w_C_requireFullCrane σ Φ Ξ) : vx_Met l yX3_requireFullCrane wsX3_requireFullCrane rm_C_requireFullCrane (PcX [.ref (a 0)] D cs (ws_CY cs a σ) sz) (va_Qv Φ (BG D cs (va_A (ws_CY cs a σ) sz) sz (ws_CY cs a)) (va_A (ws_CY cs a σ) sz)) (XG D cs (va_A (ws_CY cs a σ) sz) (ws_CY cs a) Ξ) 1 6 (va_A (ws_CY cs a σ) sz) := by
  refine vx_ofW (cc := cX3_requireFullCrane) (maxL := 1) (ret := none) (by decide) rfl ?_
  intro p e s m args below meth c s₁ B hml hout hv
  obtain ⟨rfl, hsz, hP, hK, hD0, hE⟩ := hv
  have hx := B.exec
  have hb := B.bytes
  have hr := B.returns
  have hts := atoms_spec (ws := wsX3_requireFullCrane) B.pre
  have hown : s.vm.findClass RX3 = some m.cls := findClass_of_methodNamed B.named
  have hlocks := B.notSynchronized
  subst hsz
  have hD := hD0.self (sz := s.heap.size)
  generalize hAe : va_A (ws_CY cs a σ) s.heap.size = A at hD hE ⊢
  have hA : ∀ q : Nat, s.heap.size ≤ q → A q := fun q h => by rw [← hAe]; exact Or.inr h
  have hS : va_S A s.heap s.heap [] := va_S.rf
  have hf44 : (Cond.fieldLink RX3 44 "CraneYard" "craneCrate" "I").before ([.ref (a 0)] : List Value).toArray s = true := hts _ (List.mem_of_getElem? (i := 3) rfl)
  have hi74 : (Cond.initialized "java/lang/IllegalStateException").before ([.ref (a 0)] : List Value).toArray s = true := hts _ (List.mem_of_getElem? (i := 2) rfl)
  have hinX3 : ∀ w ∈ wsX30, w ∈ wsX3_requireFullCrane := fun _ h => List.mem_cons_of_mem _ (List.mem_append_left _ (List.mem_append_right _ h))
  have hk74 : (Cond.classLink RX3 74 "java/lang/IllegalStateException").before ([.ref (a 0)] : List Value).toArray s = true := hts _ (List.mem_of_getElem? (i := 1) rfl)
  have hP : va_P D vwCl (ws_CY cs a σ) s.heap := hP
  have hl := lv_entry ([.ref (a 0)]) (n := 1) (Nat.le_of_ble_eq_true rfl)
  rw [lg_entry_eq]
  generalize (lg_sl ([.ref (a 0)]) ++ List.replicate (1 - (lg_sl ([.ref (a 0)])).length) Slot.unset).toArray = ls at hl ⊢
  have hl : lv_has ls 1 [(0, .ref (a 0))] := hl
  unfold w_C_requireFullCrane at hw
  refine lv_aload_n hx hb dX3_requireFullCrane_0 rfl (lv_at hl 0 rfl) ?_
  refine va_get (D := D) (ci := 3) (v := .int (g_CY_craneCrate σ)) (C := RX3) (T := TX3) (N := 12) hx hb hts hinX3 hown hK hP 0 rfl rfl 7 (by decide) hf44 (fun _ h9 => h9) rfl dX3_requireFullCrane_1 ?_
  refine lv_iconst (v := (-1 : Int32)) hx hb dX3_requireFullCrane_4 (by decide) ?_
  refine lv_icmp_ne (tgt := 18) hx hb dX3_requireFullCrane_5 (by decide) (fun c5 => ?_) (fun c5 => ?_)
  · have hw := hw.2 c5
    exact xV (wf := (ws_CY cs a)) (u := σ) hx hb hr hlocks hK hP hD hS hw dX3_requireFullCrane_18
  · have hw := hw.1 c5
    exact tS (wf := (ws_CY cs a)) (u := σ) (ik := 74) (ic := 78) (text := "the crane is empty") (cls := "java/lang/IllegalStateException") hx hb hfl hown (by decide +kernel) hk74 hi74 (fun w h => hts w (List.mem_cons_of_mem _ (List.mem_append_right _ h))) ng_78 gd_78 (by decide) (by decide) hE hK hP hD hS (by rw [hml]; exact hl.1) dX3_requireFullCrane_8 dX3_requireFullCrane_11 dX3_requireFullCrane_12 dX3_requireFullCrane_14 dX3_requireFullCrane_17 hout (Nat.le_of_ble_eq_true rfl) (Nat.le_of_ble_eq_true rfl) (Nat.le_of_ble_eq_true rfl) (Nat.le_of_ble_eq_true rfl) hlocks hw
abbrev rm_C_drop : Room := { frames := 7, cells := 1, slots := 6, locals := 114 }
set_option maxHeartbeats 4000000 in
set_option maxRecDepth 100000 in
theorem c_C_drop (l : Launch) (hfl : l.stackTraces = false) (D : va_G) (cs : CS) (a : Nat → Nat) (sz : Nat) (σ : CY) (p1 : Int32) {Φ : Int32 → CY → Prop} {Ξ : String → CY → Prop} (hw : w_C_drop σ p1 Φ Ξ) : vx_Met l yX3_drop wsX3_drop rm_C_drop (PcX [.ref (a 0), .int p1] D cs (ws_CY cs a σ) sz) (va_Qi Φ (BG D cs (va_A (ws_CY cs a σ) sz) sz (ws_CY cs a)) (va_A (ws_CY cs a σ) sz)) (XG D cs (va_A (ws_CY cs a σ) sz) (ws_CY cs a) Ξ) 1 6 (va_A (ws_CY cs a σ) sz) := by
  refine vx_ofW (cc := cX3_drop) (maxL := 2) (ret := (some .int)) (by decide) rfl ?_
  intro p e s m args below meth c s₁ B hml hout hv
  obtain ⟨rfl, hsz, hP, hK, hD0, hE⟩ := hv
  have hx := B.exec
  have hb := B.bytes
  have hr := B.returns
  have hts := atoms_spec (ws := wsX3_drop) B.pre
  have hown : s.vm.findClass RX3 = some m.cls := findClass_of_methodNamed B.named
  have hlocks := B.notSynchronized
  subst hsz
  have hD := hD0.self (sz := s.heap.size)
  generalize hAe : va_A (ws_CY cs a σ) s.heap.size = A at hD hE ⊢
  have hA : ∀ q : Nat, s.heap.size ≤ q → A q := fun q h => by rw [← hAe]; exact Or.inr h
  have hS : va_S A s.heap s.heap [] := va_S.rf
  have hf10 : (Cond.fieldLink RX3 10 "CraneYard" "stacks" "LCraneYard$Stacks;").before ([.ref (a 0), .int p1] : List Value).toArray s = true := hts _ (List.mem_of_getElem? (i := 1) rfl)
  have hf44 : (Cond.fieldLink RX3 44 "CraneYard" "craneCrate" "I").before ([.ref (a 0), .int p1] : List Value).toArray s = true := hts _ (List.mem_of_getElem? (i := 2) rfl)
  have hinX3 : ∀ w ∈ wsX30, w ∈ wsX3_drop := fun _ h => List.mem_cons_of_mem _ (List.mem_append_left _ (List.mem_append_left _ (List.mem_append_left _ (List.mem_append_left _ (List.mem_append_right _ h)))))
  have hP : va_P D vwCl (ws_CY cs a σ) s.heap := hP
  have hl := lv_entry ([.ref (a 0), .int p1]) (n := 2) (Nat.le_of_ble_eq_true rfl)
  rw [lg_entry_eq]
  generalize (lg_sl ([.ref (a 0), .int p1]) ++ List.replicate (2 - (lg_sl ([.ref (a 0), .int p1])).length) Slot.unset).toArray = ls at hl ⊢
  have hl : lv_has ls 2 [(0, .ref (a 0)), (1, .int p1)] := hl
  unfold w_C_drop at hw
  refine lv_iload_n hx hb dX3_drop_0 rfl (lv_at hl 1 rfl) ?_
  refine kxSv (As := [.int p1]) (rest := []) ⟨hx, hb, hml, hown, hts⟩ hE (c_C_requireStack l hfl D cs a _ p1 hw) (va_cwS 1 hts gX3_drop_X3_requireStack rfl rfl rfl (by decide +kernel) ⟨Nat.le_of_ble_eq_true rfl, Nat.le_of_ble_eq_true rfl⟩) (pt_un_CY cs a σ) hK hP hD hS hA rfl hl.1 rfl (Nat.le_of_ble_eq_true rfl) dX3_drop_1 ⟨Nat.le_of_ble_eq_true rfl, Nat.le_of_ble_eq_true rfl⟩ (fun E u1 H locs q9 ce hw hP hD hS hcell hv hcl => tX (wf := (ws_CY cs a)) (u := σ) hout hlocks hK hP hD hS hw hcell hv hcl) (fun u1 H locs hw hP hD hS => ?_)
  have hP : va_P D vwCl (ws_CY cs a σ) H := hP
  have hD : va_D A (ws_CY cs a σ) := hD
  refine lv_aload_n hx hb dX3_drop_4 rfl (lv_at hl 0 rfl) ?_
  refine kxVv (As := []) (rest := []) ⟨hx, hb, hml, hown, hts⟩ hE (c_C_requireFullCrane l hfl D cs a _ σ hw) (cwV 0 hts gX3_drop_X3_requireFullCrane rfl rfl rfl (by decide +kernel) ⟨Nat.le_of_ble_eq_true rfl, Nat.le_of_ble_eq_true rfl⟩) (pt_self_CY cs a σ) hK hP hD hS hA (ci := 3) rfl rfl rfl rfl hl.1 rfl (Nat.le_of_ble_eq_true rfl) dX3_drop_5 ⟨Nat.le_of_ble_eq_true rfl, Nat.le_of_ble_eq_true rfl⟩ (fun E u5 H locs q9 ce hw hP hD hS hcell hv hcl => tX (wf := (ws_CY cs a)) (u := u5) hout hlocks hK hP hD hS hw hcell hv hcl) (fun u5 H locs hw hP hD hS => ?_)
  have hP : va_P D vwCl (ws_CY cs a u5) H := hP
  have hD : va_D A (ws_CY cs a u5) := hD
  refine lv_aload_n hx hb dX3_drop_8 rfl (lv_at hl 0 rfl) ?_
  refine lv_iload_n hx hb dX3_drop_9 rfl (lv_at hl 1 rfl) ?_
  refine lv_aload_n hx hb dX3_drop_10 rfl (lv_at hl 0 rfl) ?_
  refine va_get (D := D) (ci := 3) (v := .ref (a 1)) (C := RX3) (T := TX3) (N := 12) hx hb hts hinX3 hown hK hP 0 rfl rfl 0 (by decide) hf10 (fun _ h9 => h9) rfl dX3_drop_11 ?_
  refine lv_aload_n hx hb dX3_drop_14 rfl (lv_at hl 0 rfl) ?_
  refine va_get (D := D) (ci := 3) (v := .int (g_CY_craneCrate u5)) (C := RX3) (T := TX3) (N := 12) hx hb hts hinX3 hown hK hP 0 rfl rfl 7 (by decide) hf44 (fun _ h9 => h9) rfl dX3_drop_15 ?_
  refine kVi (As := [.int (g_CY_craneCrate u5)]) (rest := [.int p1, .ref (a 0)]) ⟨hx, hb, hml, hown, hts⟩ (c_S_weightOf l D cs (sh a 1) _ (g_CY_st u5) (g_CY_craneCrate u5) hw) (cwV 1 hts gX3_drop_X1_weightOf rfl rfl rfl (by decide +kernel) ⟨Nat.le_of_ble_eq_true rfl, Nat.le_of_ble_eq_true rfl⟩) (pt_CY_st cs a u5) hK hP hD hS hA (ci := 1) rfl rfl rfl rfl hl.1 rfl (Nat.le_of_ble_eq_true rfl) dX3_drop_18 ⟨Nat.zero_le _, Nat.zero_le _⟩ (fun r18 u18 H locs hw hP hD hS => ?_)
  have hP : va_P D vwCl (ws_CY cs a (s_CY_st u5 u18)) H := hP
  have hD : va_D A (ws_CY cs a (s_CY_st u5 u18)) := hD
  refine kxVv (As := [.int p1, .int r18]) (rest := []) ⟨hx, hb, hml, hown, hts⟩ hE (c_C_requireRoom l hfl D cs a _ (s_CY_st u5 u18) p1 r18 hw) (cwV 2 hts gX3_drop_X3_requireRoom rfl rfl rfl (by decide +kernel) ⟨Nat.le_of_ble_eq_true rfl, Nat.le_of_ble_eq_true rfl⟩) (pt_self_CY cs a (s_CY_st u5 u18)) hK hP hD hS hA (ci := 3) rfl rfl rfl rfl hl.1 rfl (Nat.le_of_ble_eq_true rfl) dX3_drop_21 ⟨Nat.le_of_ble_eq_true rfl, Nat.le_of_ble_eq_true rfl⟩ (fun E u21 H locs q9 ce hw hP hD hS hcell hv hcl => tX (wf := (ws_CY cs a)) (u := u21) hout hlocks hK hP hD hS hw hcell hv hcl) (fun u21 H locs hw hP hD hS => ?_)
  have hP : va_P D vwCl (ws_CY cs a u21) H := hP
  have hD : va_D A (ws_CY cs a u21) := hD
  refine lv_aload_n hx hb dX3_drop_24 rfl (lv_at hl 0 rfl) ?_
  refine va_get (D := D) (ci := 3) (v := .ref (a 1)) (C := RX3) (T := TX3) (N := 12) hx hb hts hinX3 hown hK hP 0 rfl rfl 0 (by decide) hf10 (fun _ h9 => h9) rfl dX3_drop_25 ?_
  refine lv_iload_n hx hb dX3_drop_28 rfl (lv_at hl 1 rfl) ?_
  refine lv_aload_n hx hb dX3_drop_29 rfl (lv_at hl 0 rfl) ?_
  refine va_get (D := D) (ci := 3) (v := .int (g_CY_craneCrate u21)) (C := RX3) (T := TX3) (N := 12) hx hb hts hinX3 hown hK hP 0 rfl rfl 7 (by decide) hf44 (fun _ h9 => h9) rfl dX3_drop_30 ?_
  refine kVv (As := [.int p1, .int (g_CY_craneCrate u21)]) (rest := []) ⟨hx, hb, hml, hown, hts⟩ (c_S_put l D cs (sh a 1) _ (g_CY_st u21) p1 (g_CY_craneCrate u21) hw) (cwV 2 hts gX3_drop_X1_put rfl rfl rfl (by decide +kernel) ⟨Nat.le_of_ble_eq_true rfl, Nat.le_of_ble_eq_true rfl⟩) (pt_CY_st cs a u21) hK hP hD hS hA (ci := 1) rfl rfl rfl rfl hl.1 rfl (Nat.le_of_ble_eq_true rfl) dX3_drop_33 ⟨Nat.zero_le _, Nat.zero_le _⟩ (fun u33 H locs hw hP hD hS => ?_)
  have hP : va_P D vwCl (ws_CY cs a (s_CY_st u21 u33)) H := hP
  have hD : va_D A (ws_CY cs a (s_CY_st u21 u33)) := hD
  refine lv_aload_n hx hb dX3_drop_36 rfl (lv_at hl 0 rfl) ?_
  refine lv_iconst (v := (-1 : Int32)) hx hb dX3_drop_37 (by decide) ?_
  refine va_put (D := D) (ci := 3) (v := .int (-1 : Int32)) (ty := .int) (C := RX3) (T := TX3) (N := 12) hx hb hts hinX3 tyX3 tyX3_ok nmX3 hown hK hP hD hS 0 rfl rfl 7 (by decide) hf44 (fun _ h9 => h9) rfl (by decide +kernel) rfl rfl (Nat.le_of_ble_eq_true rfl) dX3_drop_38 (fun H locs hP hD hS => ?_)
  have hP : va_P D vwCl (ws_CY cs a (s_CY_craneCrate (s_CY_st u21 u33) (-1 : Int32))) H := hP
  have hD : va_D A (ws_CY cs a (s_CY_craneCrate (s_CY_st u21 u33) (-1 : Int32))) := hD
  obtain ⟨z1, ez1⟩ : ∃ z : CY, z = (s_CY_craneCrate (s_CY_st u21 u33) (-1 : Int32)) := ⟨_, rfl⟩
  have hw := hw z1 ez1
  rw [← ez1] at hP hD
  refine lv_aload_n hx hb dX3_drop_41 rfl (lv_at hl 0 rfl) ?_
  refine kVv (As := []) (rest := []) ⟨hx, hb, hml, hown, hts⟩ (c_C_payWords l D cs a _ z1 hw) (cwV 0 hts gX3_drop_X3_payWords rfl rfl rfl (by decide +kernel) ⟨Nat.le_of_ble_eq_true rfl, Nat.le_of_ble_eq_true rfl⟩) (pt_self_CY cs a z1) hK hP hD hS hA (ci := 3) rfl rfl rfl rfl hl.1 rfl (Nat.le_of_ble_eq_true rfl) dX3_drop_42 ⟨Nat.zero_le _, Nat.zero_le _⟩ (fun u42 H locs hw hP hD hS => ?_)
  have hP : va_P D vwCl (ws_CY cs a u42) H := hP
  have hD : va_D A (ws_CY cs a u42) := hD
  refine lv_aload_n hx hb dX3_drop_45 rfl (lv_at hl 0 rfl) ?_
  refine va_get (D := D) (ci := 3) (v := .ref (a 1)) (C := RX3) (T := TX3) (N := 12) hx hb hts hinX3 hown hK hP 0 rfl rfl 0 (by decide) hf10 (fun _ h9 => h9) rfl dX3_drop_46 ?_
  refine lv_iload_n hx hb dX3_drop_49 rfl (lv_at hl 1 rfl) ?_
  refine kVi (As := [.int p1]) (rest := []) ⟨hx, hb, hml, hown, hts⟩ (c_S_heightOf l D cs (sh a 1) _ (g_CY_st u42) p1 hw) (cwV 1 hts gX3_drop_X1_heightOf rfl rfl rfl (by decide +kernel) ⟨Nat.le_of_ble_eq_true rfl, Nat.le_of_ble_eq_true rfl⟩) (pt_CY_st cs a u42) hK hP hD hS hA (ci := 1) rfl rfl rfl rfl hl.1 rfl (Nat.le_of_ble_eq_true rfl) dX3_drop_50 ⟨Nat.zero_le _, Nat.zero_le _⟩ (fun r50 u50 H locs hw hP hD hS => ?_)
  have hP : va_P D vwCl (ws_CY cs a (s_CY_st u42 u50)) H := hP
  have hD : va_D A (ws_CY cs a (s_CY_st u42 u50)) := hD
  exact xI (wf := (ws_CY cs a)) (u := (s_CY_st u42 u50)) hx hb hr hlocks hK hP hD hS hw dX3_drop_53
abbrev rm_C_requireCrate : Room := { frames := 6, cells := 1, slots := 6, locals := 92 }
set_option maxHeartbeats 4000000 in
set_option maxRecDepth 100000 in
theorem c_C_requireCrate (l : Launch) (hfl : l.stackTraces = false) (D : va_G) (cs : CS) (a : Nat → Nat) (sz : Nat) (σ : CY) (p1 : Int32) {Φ : CY → Prop} {Ξ : String → CY → Prop} (hw : w_C_requireCrate σ p1 Φ Ξ) : vx_Met l yX3_requireCrate wsX3_requireCrate rm_C_requireCrate (PcX [.ref (a 0), .int p1] D cs (ws_CY cs a σ) sz) (va_Qv Φ (BG D cs (va_A (ws_CY cs a σ) sz) sz (ws_CY cs a)) (va_A (ws_CY cs a σ) sz)) (XG D cs (va_A (ws_CY cs a σ) sz) (ws_CY cs a) Ξ) 1 6 (va_A (ws_CY cs a σ) sz) := by
  refine vx_ofW (cc := cX3_requireCrate) (maxL := 2) (ret := none) (by decide) rfl ?_
  intro p e s m args below meth c s₁ B hml hout hv
  obtain ⟨rfl, hsz, hP, hK, hD0, hE⟩ := hv
  have hx := B.exec
  have hb := B.bytes
  have hr := B.returns
  have hts := atoms_spec (ws := wsX3_requireCrate) B.pre
  have hown : s.vm.findClass RX3 = some m.cls := findClass_of_methodNamed B.named
  have hlocks := B.notSynchronized
  subst hsz
  have hD := hD0.self (sz := s.heap.size)
  generalize hAe : va_A (ws_CY cs a σ) s.heap.size = A at hD hE ⊢
  have hA : ∀ q : Nat, s.heap.size ≤ q → A q := fun q h => by rw [← hAe]; exact Or.inr h
  have hS : va_S A s.heap s.heap [] := va_S.rf
  have hf40 : (Cond.fieldLink RX3 40 "CraneYard" "crateCount" "I").before ([.ref (a 0), .int p1] : List Value).toArray s = true := hts _ (List.mem_of_getElem? (i := 3) rfl)
  have hi166 : (Cond.initialized "java/lang/IndexOutOfBoundsException").before ([.ref (a 0), .int p1] : List Value).toArray s = true := hts _ (List.mem_of_getElem? (i := 2) rfl)
  have hinX3 : ∀ w ∈ wsX30, w ∈ wsX3_requireCrate := fun _ h => List.mem_cons_of_mem _ (List.mem_append_left _ (List.mem_append_right _ h))
  have hk166 : (Cond.classLink RX3 166 "java/lang/IndexOutOfBoundsException").before ([.ref (a 0), .int p1] : List Value).toArray s = true := hts _ (List.mem_of_getElem? (i := 1) rfl)
  have hP : va_P D vwCl (ws_CY cs a σ) s.heap := hP
  have B12 : ∀ (σ : CY), b_C_requireCrate_12 Φ Ξ σ → At p l e (headSpec wsX3_requireCrate rm_C_requireCrate).room s m ([.ref (a 0), .int p1] : List Value).toArray below meth c (vx_MQ below (va_Qv Φ (BG D cs A s.heap.size (ws_CY cs a)) A) (XG D cs A (ws_CY cs a) Ξ) ([.ref (a 0), .int p1] : List Value).toArray s 1 6 A) D A 2 [] (ws_CY cs a σ) 12 [] := by
    intro σ hw H locs ls hl hP hD hS
    unfold b_C_requireCrate_12 at hw
    exact tS (wf := (ws_CY cs a)) (u := σ) (ik := 166) (ic := 170) (text := "there is no such crate") (cls := "java/lang/IndexOutOfBoundsException") hx hb hfl hown (by decide +kernel) hk166 hi166 (fun w h => hts w (List.mem_cons_of_mem _ (List.mem_append_right _ h))) ng_170 gd_170 (by decide) (by decide) hE hK hP hD hS (by rw [hml]; exact hl.1) dX3_requireCrate_12 dX3_requireCrate_15 dX3_requireCrate_16 dX3_requireCrate_18 dX3_requireCrate_21 hout (Nat.le_of_ble_eq_true rfl) (Nat.le_of_ble_eq_true rfl) (Nat.le_of_ble_eq_true rfl) (Nat.le_of_ble_eq_true rfl) hlocks hw
  have hl := lv_entry ([.ref (a 0), .int p1]) (n := 2) (Nat.le_of_ble_eq_true rfl)
  rw [lg_entry_eq]
  generalize (lg_sl ([.ref (a 0), .int p1]) ++ List.replicate (2 - (lg_sl ([.ref (a 0), .int p1])).length) Slot.unset).toArray = ls at hl ⊢
  have hl : lv_has ls 2 [(0, .ref (a 0)), (1, .int p1)] := hl
  unfold w_C_requireCrate at hw
  refine lv_iload_n hx hb dX3_requireCrate_0 rfl (lv_at hl 1 rfl) ?_
  refine lv_if_lt (tgt := 12) hx hb dX3_requireCrate_1 (by decide) (fun c1 => ?_) (fun c1 => ?_)
  · have hw := hw.1 c1
    exact B12 _ hw _ _ ls (lv_sub hl [] rfl) hP hD hS
  · have hw := hw.2 c1
    refine lv_iload_n hx hb dX3_requireCrate_4 rfl (lv_at hl 1 rfl) ?_
    refine lv_aload_n hx hb dX3_requireCrate_5 rfl (lv_at hl 0 rfl) ?_
    refine va_get (D := D) (ci := 3) (v := .int (g_CY_crateCount σ)) (C := RX3) (T := TX3) (N := 12) hx hb hts hinX3 hown hK hP 0 rfl rfl 6 (by decide) hf40 (fun _ h9 => h9) rfl dX3_requireCrate_6 ?_
    refine lv_icmp_lt (tgt := 22) hx hb dX3_requireCrate_9 (by decide) (fun c9 => ?_) (fun c9 => ?_)
    · have hw := hw.1 c9
      exact xV (wf := (ws_CY cs a)) (u := σ) hx hb hr hlocks hK hP hD hS hw dX3_requireCrate_22
    · have hw := hw.2 c9
      exact B12 _ hw _ _ ls (lv_sub hl [] rfl) hP hD hS
abbrev rm_C_requireInStack : Room := { frames := 6, cells := 1, slots := 6, locals := 92 }
set_option maxHeartbeats 4000000 in
set_option maxRecDepth 100000 in
theorem c_C_requireInStack (l : Launch) (hfl : l.stackTraces = false) (D : va_G) (cs : CS) (a : Nat → Nat) (sz : Nat) (σ : CY) (p1 : Int32) {Φ : CY → Prop} {Ξ : String → CY → Prop} (hw : w_C_requireInStack σ p1 Φ Ξ) : vx_Met l yX3_requireInStack wsX3_requireInStack rm_C_requireInStack (PcX [.ref (a 0), .int p1] D cs (ws_CY cs a σ) sz) (va_Qv Φ (BG D cs (va_A (ws_CY cs a σ) sz) sz (ws_CY cs a)) (va_A (ws_CY cs a σ) sz)) (XG D cs (va_A (ws_CY cs a σ) sz) (ws_CY cs a) Ξ) 1 6 (va_A (ws_CY cs a σ) sz) := by
  refine vx_ofW (cc := cX3_requireInStack) (maxL := 2) (ret := none) (by decide) rfl ?_
  intro p e s m args below meth c s₁ B hml hout hv
  obtain ⟨rfl, hsz, hP, hK, hD0, hE⟩ := hv
  have hx := B.exec
  have hb := B.bytes
  have hr := B.returns
  have hts := atoms_spec (ws := wsX3_requireInStack) B.pre
  have hown : s.vm.findClass RX3 = some m.cls := findClass_of_methodNamed B.named
  have hlocks := B.notSynchronized
  subst hsz
  have hD := hD0.self (sz := s.heap.size)
  generalize hAe : va_A (ws_CY cs a σ) s.heap.size = A at hD hE ⊢
  have hA : ∀ q : Nat, s.heap.size ≤ q → A q := fun q h => by rw [← hAe]; exact Or.inr h
  have hS : va_S A s.heap s.heap [] := va_S.rf
  have hf10 : (Cond.fieldLink RX3 10 "CraneYard" "stacks" "LCraneYard$Stacks;").before ([.ref (a 0), .int p1] : List Value).toArray s = true := hts _ (List.mem_of_getElem? (i := 3) rfl)
  have hi74 : (Cond.initialized "java/lang/IllegalStateException").before ([.ref (a 0), .int p1] : List Value).toArray s = true := hts _ (List.mem_of_getElem? (i := 2) rfl)
  have hinX3 : ∀ w ∈ wsX30, w ∈ wsX3_requireInStack := fun _ h => List.mem_cons_of_mem _ (List.mem_append_left _ (List.mem_append_left _ (List.mem_append_right _ h)))
  have hk74 : (Cond.classLink RX3 74 "java/lang/IllegalStateException").before ([.ref (a 0), .int p1] : List Value).toArray s = true := hts _ (List.mem_of_getElem? (i := 1) rfl)
  have hP : va_P D vwCl (ws_CY cs a σ) s.heap := hP
  have hl := lv_entry ([.ref (a 0), .int p1]) (n := 2) (Nat.le_of_ble_eq_true rfl)
  rw [lg_entry_eq]
  generalize (lg_sl ([.ref (a 0), .int p1]) ++ List.replicate (2 - (lg_sl ([.ref (a 0), .int p1])).length) Slot.unset).toArray = ls at hl ⊢
  have hl : lv_has ls 2 [(0, .ref (a 0)), (1, .int p1)] := hl
  unfold w_C_requireInStack at hw
  refine lv_aload_n hx hb dX3_requireInStack_0 rfl (lv_at hl 0 rfl) ?_
  refine va_get (D := D) (ci := 3) (v := .ref (a 1)) (C := RX3) (T := TX3) (N := 12) hx hb hts hinX3 hown hK hP 0 rfl rfl 0 (by decide) hf10 (fun _ h9 => h9) rfl dX3_requireInStack_1 ?_
  refine lv_iload_n hx hb dX3_requireInStack_4 rfl (lv_at hl 1 rfl) ?_
  refine kVi (As := [.int p1]) (rest := []) ⟨hx, hb, hml, hown, hts⟩ (c_S_stackHolding l D cs (sh a 1) _ (g_CY_st σ) p1 hw) (cwV 1 hts gX3_requireInStack_X1_stackHolding rfl rfl rfl (by decide +kernel) ⟨Nat.le_of_ble_eq_true rfl, Nat.le_of_ble_eq_true rfl⟩) (pt_CY_st cs a σ) hK hP hD hS hA (ci := 1) rfl rfl rfl rfl hl.1 rfl (Nat.le_of_ble_eq_true rfl) dX3_requireInStack_5 ⟨Nat.zero_le _, Nat.zero_le _⟩ (fun r5 u5 H locs hw hP hD hS => ?_)
  have hP : va_P D vwCl (ws_CY cs a (s_CY_st σ u5)) H := hP
  have hD : va_D A (ws_CY cs a (s_CY_st σ u5)) := hD
  refine lv_iconst (v := (-1 : Int32)) hx hb dX3_requireInStack_8 (by decide) ?_
  refine lv_icmp_ne (tgt := 22) hx hb dX3_requireInStack_9 (by decide) (fun c9 => ?_) (fun c9 => ?_)
  · have hw := hw.2 c9
    exact xV (wf := (ws_CY cs a)) (u := (s_CY_st σ u5)) hx hb hr hlocks hK hP hD hS hw dX3_requireInStack_22
  · have hw := hw.1 c9
    exact tS (wf := (ws_CY cs a)) (u := (s_CY_st σ u5)) (ik := 74) (ic := 78) (text := "the crate is in no stack") (cls := "java/lang/IllegalStateException") hx hb hfl hown (by decide +kernel) hk74 hi74 (fun w h => hts w (List.mem_cons_of_mem _ (List.mem_append_right _ h))) ng_78 gd_78 (by decide) (by decide) hE hK hP hD hS (by rw [hml]; exact hl.1) dX3_requireInStack_12 dX3_requireInStack_15 dX3_requireInStack_16 dX3_requireInStack_18 dX3_requireInStack_21 hout (Nat.le_of_ble_eq_true rfl) (Nat.le_of_ble_eq_true rfl) (Nat.le_of_ble_eq_true rfl) (Nat.le_of_ble_eq_true rfl) hlocks hw
abbrev rm_C_dig : Room := { frames := 7, cells := 1, slots := 6, locals := 118 }
set_option maxHeartbeats 4000000 in
set_option maxRecDepth 100000 in
theorem c_C_dig (l : Launch) (hfl : l.stackTraces = false) (D : va_G) (cs : CS) (a : Nat → Nat) (sz : Nat) (σ : CY) (p1 : Int32) {Φ : Int32 → CY → Prop} {Ξ : String → CY → Prop} (hw : w_C_dig σ p1 Φ Ξ) : vx_Met l yX3_dig wsX3_dig rm_C_dig (PcX [.ref (a 0), .int p1] D cs (ws_CY cs a σ) sz) (va_Qi Φ (BG D cs (va_A (ws_CY cs a σ) sz) sz (ws_CY cs a)) (va_A (ws_CY cs a σ) sz)) (XG D cs (va_A (ws_CY cs a σ) sz) (ws_CY cs a) Ξ) 1 6 (va_A (ws_CY cs a σ) sz) := by
  refine vx_ofW (cc := cX3_dig) (maxL := 3) (ret := (some .int)) (by decide) rfl ?_
  intro p e s m args below meth c s₁ B hml hout hv
  obtain ⟨rfl, hsz, hP, hK, hD0, hE⟩ := hv
  have hx := B.exec
  have hb := B.bytes
  have hr := B.returns
  have hts := atoms_spec (ws := wsX3_dig) B.pre
  have hown : s.vm.findClass RX3 = some m.cls := findClass_of_methodNamed B.named
  have hlocks := B.notSynchronized
  subst hsz
  have hD := hD0.self (sz := s.heap.size)
  generalize hAe : va_A (ws_CY cs a σ) s.heap.size = A at hD hE ⊢
  have hA : ∀ q : Nat, s.heap.size ≤ q → A q := fun q h => by rw [← hAe]; exact Or.inr h
  have hS : va_S A s.heap s.heap [] := va_S.rf
  have hf10 : (Cond.fieldLink RX3 10 "CraneYard" "stacks" "LCraneYard$Stacks;").before ([.ref (a 0), .int p1] : List Value).toArray s = true := hts _ (List.mem_of_getElem? (i := 4) rfl)
  have hf16 : (Cond.fieldLink RX3 16 "CraneYard" "trial" "LCraneYard$Stacks;").before ([.ref (a 0), .int p1] : List Value).toArray s = true := hts _ (List.mem_of_getElem? (i := 3) rfl)
  have hf44 : (Cond.fieldLink RX3 44 "CraneYard" "craneCrate" "I").before ([.ref (a 0), .int p1] : List Value).toArray s = true := hts _ (List.mem_of_getElem? (i := 5) rfl)
  have hf47 : (Cond.fieldLink RX3 47 "CraneYard" "liftCount" "I").before ([.ref (a 0), .int p1] : List Value).toArray s = true := hts _ (List.mem_of_getElem? (i := 6) rfl)
  have hi74 : (Cond.initialized "java/lang/IllegalStateException").before ([.ref (a 0), .int p1] : List Value).toArray s = true := hts _ (List.mem_of_getElem? (i := 2) rfl)
  have hinX3 : ∀ w ∈ wsX30, w ∈ wsX3_dig := fun _ h => List.mem_cons_of_mem _ (List.mem_append_left _ (List.mem_append_left _ (List.mem_append_left _ (List.mem_append_left _ (List.mem_append_right _ h)))))
  have hk74 : (Cond.classLink RX3 74 "java/lang/IllegalStateException").before ([.ref (a 0), .int p1] : List Value).toArray s = true := hts _ (List.mem_of_getElem? (i := 1) rfl)
  have hP : va_P D vwCl (ws_CY cs a σ) s.heap := hP
  have hl := lv_entry ([.ref (a 0), .int p1]) (n := 3) (Nat.le_of_ble_eq_true rfl)
  rw [lg_entry_eq]
  generalize (lg_sl ([.ref (a 0), .int p1]) ++ List.replicate (3 - (lg_sl ([.ref (a 0), .int p1])).length) Slot.unset).toArray = ls at hl ⊢
  have hl : lv_has ls 3 [(0, .ref (a 0)), (1, .int p1)] := hl
  unfold w_C_dig at hw
  refine lv_aload_n hx hb dX3_dig_0 rfl (lv_at hl 0 rfl) ?_
  refine lv_iload_n hx hb dX3_dig_1 rfl (lv_at hl 1 rfl) ?_
  refine kxVv (As := [.int p1]) (rest := []) ⟨hx, hb, hml, hown, hts⟩ hE (c_C_requireCrate l hfl D cs a _ σ p1 hw) (cwV 1 hts gX3_dig_X3_requireCrate rfl rfl rfl (by decide +kernel) ⟨Nat.le_of_ble_eq_true rfl, Nat.le_of_ble_eq_true rfl⟩) (pt_self_CY cs a σ) hK hP hD hS hA (ci := 3) rfl rfl rfl rfl hl.1 rfl (Nat.le_of_ble_eq_true rfl) dX3_dig_2 ⟨Nat.le_of_ble_eq_true rfl, Nat.le_of_ble_eq_true rfl⟩ (fun E u2 H locs q9 ce hw hP hD hS hcell hv hcl => tX (wf := (ws_CY cs a)) (u := u2) hout hlocks hK hP hD hS hw hcell hv hcl) (fun u2 H locs hw hP hD hS => ?_)
  have hP : va_P D vwCl (ws_CY cs a u2) H := hP
  have hD : va_D A (ws_CY cs a u2) := hD
  refine lv_aload_n hx hb dX3_dig_5 rfl (lv_at hl 0 rfl) ?_
  refine kxVv (As := []) (rest := []) ⟨hx, hb, hml, hown, hts⟩ hE (c_C_requireEmptyCrane l hfl D cs a _ u2 hw) (cwV 0 hts gX3_dig_X3_requireEmptyCrane rfl rfl rfl (by decide +kernel) ⟨Nat.le_of_ble_eq_true rfl, Nat.le_of_ble_eq_true rfl⟩) (pt_self_CY cs a u2) hK hP hD hS hA (ci := 3) rfl rfl rfl rfl hl.1 rfl (Nat.le_of_ble_eq_true rfl) dX3_dig_6 ⟨Nat.le_of_ble_eq_true rfl, Nat.le_of_ble_eq_true rfl⟩ (fun E u6 H locs q9 ce hw hP hD hS hcell hv hcl => tX (wf := (ws_CY cs a)) (u := u6) hout hlocks hK hP hD hS hw hcell hv hcl) (fun u6 H locs hw hP hD hS => ?_)
  have hP : va_P D vwCl (ws_CY cs a u6) H := hP
  have hD : va_D A (ws_CY cs a u6) := hD
  refine lv_aload_n hx hb dX3_dig_9 rfl (lv_at hl 0 rfl) ?_
  refine lv_iload_n hx hb dX3_dig_10 rfl (lv_at hl 1 rfl) ?_
  refine kxVv (As := [.int p1]) (rest := []) ⟨hx, hb, hml, hown, hts⟩ hE (c_C_requireInStack l hfl D cs a _ u6 p1 hw) (cwV 1 hts gX3_dig_X3_requireInStack rfl rfl rfl (by decide +kernel) ⟨Nat.le_of_ble_eq_true rfl, Nat.le_of_ble_eq_true rfl⟩) (pt_self_CY cs a u6) hK hP hD hS hA (ci := 3) rfl rfl rfl rfl hl.1 rfl (Nat.le_of_ble_eq_true rfl) dX3_dig_11 ⟨Nat.le_of_ble_eq_true rfl, Nat.le_of_ble_eq_true rfl⟩ (fun E u11 H locs q9 ce hw hP hD hS hcell hv hcl => tX (wf := (ws_CY cs a)) (u := u11) hout hlocks hK hP hD hS hw hcell hv hcl) (fun u11 H locs hw hP hD hS => ?_)
  have hP : va_P D vwCl (ws_CY cs a u11) H := hP
  have hD : va_D A (ws_CY cs a u11) := hD
  refine lv_aload_n hx hb dX3_dig_14 rfl (lv_at hl 0 rfl) ?_
  refine va_get (D := D) (ci := 3) (v := .ref (a 5)) (C := RX3) (T := TX3) (N := 12) hx hb hts hinX3 hown hK hP 0 rfl rfl 1 (by decide) hf16 (fun _ h9 => h9) rfl dX3_dig_15 ?_
  refine lv_aload_n hx hb dX3_dig_18 rfl (lv_at hl 0 rfl) ?_
  refine va_get (D := D) (ci := 3) (v := .ref (a 1)) (C := RX3) (T := TX3) (N := 12) hx hb hts hinX3 hown hK hP 0 rfl rfl 0 (by decide) hf10 (fun _ h9 => h9) rfl dX3_dig_19 ?_
  refine kVv (As := [.ref (a 1)]) (rest := []) ⟨hx, hb, hml, hown, hts⟩ (c_S_copyFrom l D cs (ad_CY_ts a) _ (gCY_ts u11) hw) (cwV 1 hts gX3_dig_X1_copyFrom rfl rfl rfl (by decide +kernel) ⟨Nat.le_of_ble_eq_true rfl, Nat.le_of_ble_eq_true rfl⟩) (pt_CY_ts cs a u11) hK hP hD hS hA (ci := 1) rfl rfl rfl rfl hl.1 rfl (Nat.le_of_ble_eq_true rfl) dX3_dig_22 ⟨Nat.zero_le _, Nat.zero_le _⟩ (fun u22 H locs hw hP hD hS => ?_)
  have hP : va_P D vwCl (ws_CY cs a (sCY_ts u11 u22)) H := hP
  have hD : va_D A (ws_CY cs a (sCY_ts u11 u22)) := hD
  refine lv_aload_n hx hb dX3_dig_25 rfl (lv_at hl 0 rfl) ?_
  refine va_get (D := D) (ci := 3) (v := .ref (a 5)) (C := RX3) (T := TX3) (N := 12) hx hb hts hinX3 hown hK hP 0 rfl rfl 1 (by decide) hf16 (fun _ h9 => h9) rfl dX3_dig_26 ?_
  refine lv_iload_n hx hb dX3_dig_29 rfl (lv_at hl 1 rfl) ?_
  refine lv_aload_n hx hb dX3_dig_30 rfl (lv_at hl 0 rfl) ?_
  refine kVi (As := []) (rest := [.int p1, .ref (a 5)]) ⟨hx, hb, hml, hown, hts⟩ (c_C_mostPlaces l D cs a _ (sCY_ts u11 u22) hw) (cwV 0 hts gX3_dig_X3_mostPlaces rfl rfl rfl (by decide +kernel) ⟨Nat.le_of_ble_eq_true rfl, Nat.le_of_ble_eq_true rfl⟩) (pt_self_CY cs a (sCY_ts u11 u22)) hK hP hD hS hA (ci := 3) rfl rfl rfl rfl hl.1 rfl (Nat.le_of_ble_eq_true rfl) dX3_dig_31 ⟨Nat.zero_le _, Nat.zero_le _⟩ (fun r31 u31 H locs hw hP hD hS => ?_)
  have hP : va_P D vwCl (ws_CY cs a u31) H := hP
  have hD : va_D A (ws_CY cs a u31) := hD
  refine kVi (As := [.int p1, .int r31]) (rest := []) ⟨hx, hb, hml, hown, hts⟩ (c_S_digOut l D cs (sh a 5) _ (g_CY_tr u31) p1 r31 hw) (cwV 2 hts gX3_dig_X1_digOut rfl rfl rfl (by decide +kernel) ⟨Nat.le_of_ble_eq_true rfl, Nat.le_of_ble_eq_true rfl⟩) (pt_CY_tr cs a u31) hK hP hD hS hA (ci := 1) rfl rfl rfl rfl hl.1 rfl (Nat.le_of_ble_eq_true rfl) dX3_dig_34 ⟨Nat.zero_le _, Nat.zero_le _⟩ (fun r34 u34 H locs hw hP hD hS => ?_)
  have hP : va_P D vwCl (ws_CY cs a (s_CY_tr u31 u34)) H := hP
  have hD : va_D A (ws_CY cs a (s_CY_tr u31 u34)) := hD
  refine lv_istore_n (lv' := [(2, .int r34), (0, .ref (a 0)), (1, .int p1)]) hx hb dX3_dig_37 rfl hl (by decide) rfl (fun ls hl => ?_)
  refine lv_iload_n hx hb dX3_dig_38 rfl (lv_at hl 0 rfl) ?_
  refine lv_iconst (v := (-1 : Int32)) hx hb dX3_dig_39 (by decide) ?_
  refine lv_icmp_ne (tgt := 53) hx hb dX3_dig_40 (by decide) (fun c40 => ?_) (fun c40 => ?_)
  · have hw := hw.2 c40
    refine lv_aload_n hx hb dX3_dig_53 rfl (lv_at hl 1 rfl) ?_
    refine va_get (D := D) (ci := 3) (v := .ref (a 1)) (C := RX3) (T := TX3) (N := 12) hx hb hts hinX3 hown hK hP 0 rfl rfl 0 (by decide) hf10 (fun _ h9 => h9) rfl dX3_dig_54 ?_
    refine lv_aload_n hx hb dX3_dig_57 rfl (lv_at hl 1 rfl) ?_
    refine va_get (D := D) (ci := 3) (v := .ref (a 5)) (C := RX3) (T := TX3) (N := 12) hx hb hts hinX3 hown hK hP 0 rfl rfl 1 (by decide) hf16 (fun _ h9 => h9) rfl dX3_dig_58 ?_
    refine kVv (As := [.ref (a 5)]) (rest := []) ⟨hx, hb, hml, hown, hts⟩ (c_S_copyFrom l D cs (sh a 1) _ (gCY_st2 (s_CY_tr u31 u34)) hw) (cwV 1 hts gX3_dig_X1_copyFrom rfl rfl rfl (by decide +kernel) ⟨Nat.le_of_ble_eq_true rfl, Nat.le_of_ble_eq_true rfl⟩) (pt_CY_st2 cs a (s_CY_tr u31 u34)) hK hP hD hS hA (ci := 1) rfl rfl rfl rfl hl.1 rfl (Nat.le_of_ble_eq_true rfl) dX3_dig_61 ⟨Nat.zero_le _, Nat.zero_le _⟩ (fun u61 H locs hw hP hD hS => ?_)
    have hP : va_P D vwCl (ws_CY cs a (sCY_st2 (s_CY_tr u31 u34) u61)) H := hP
    have hD : va_D A (ws_CY cs a (sCY_st2 (s_CY_tr u31 u34) u61)) := hD
    refine lv_aload_n hx hb dX3_dig_64 rfl (lv_at hl 1 rfl) ?_
    refine lv_iload_n hx hb dX3_dig_65 rfl (lv_at hl 2 rfl) ?_
    refine va_put (D := D) (ci := 3) (v := .int p1) (ty := .int) (C := RX3) (T := TX3) (N := 12) hx hb hts hinX3 tyX3 tyX3_ok nmX3 hown hK hP hD hS 0 rfl rfl 7 (by decide) hf44 (fun _ h9 => h9) rfl (by decide +kernel) rfl rfl (Nat.le_of_ble_eq_true rfl) dX3_dig_66 (fun H locs hP hD hS => ?_)
    have hP : va_P D vwCl (ws_CY cs a (s_CY_craneCrate (sCY_st2 (s_CY_tr u31 u34) u61) p1)) H := hP
    have hD : va_D A (ws_CY cs a (s_CY_craneCrate (sCY_st2 (s_CY_tr u31 u34) u61) p1)) := hD
    obtain ⟨z1, ez1⟩ : ∃ z : CY, z = (s_CY_craneCrate (sCY_st2 (s_CY_tr u31 u34) u61) p1) := ⟨_, rfl⟩
    have hw := hw z1 ez1
    rw [← ez1] at hP hD
    refine lv_aload_n hx hb dX3_dig_69 rfl (lv_at hl 1 rfl) ?_
    refine lv_dup hx hb dX3_dig_70 rfl ?_
    refine va_get (D := D) (ci := 3) (v := .int (g_CY_liftCount z1)) (C := RX3) (T := TX3) (N := 12) hx hb hts hinX3 hown hK hP 0 rfl rfl 8 (by decide) hf47 (fun _ h9 => h9) rfl dX3_dig_71 ?_
    refine lv_iload_n hx hb dX3_dig_74 rfl (lv_at hl 0 rfl) ?_
    refine lv_iadd hx hb dX3_dig_75 ?_
    refine lv_topi (fun y2 ey2 => ?_)
    have hw := hw y2 ey2
    refine va_put (D := D) (ci := 3) (v := .int y2) (ty := .int) (C := RX3) (T := TX3) (N := 12) hx hb hts hinX3 tyX3 tyX3_ok nmX3 hown hK hP hD hS 0 rfl rfl 8 (by decide) hf47 (fun _ h9 => h9) rfl (by decide +kernel) rfl rfl (Nat.le_of_ble_eq_true rfl) dX3_dig_76 (fun H locs hP hD hS => ?_)
    have hP : va_P D vwCl (ws_CY cs a (s_CY_liftCount z1 y2)) H := hP
    have hD : va_D A (ws_CY cs a (s_CY_liftCount z1 y2)) := hD
    obtain ⟨z3, ez3⟩ : ∃ z : CY, z = (s_CY_liftCount z1 y2) := ⟨_, rfl⟩
    have hw := hw z3 ez3
    rw [← ez3] at hP hD
    refine lv_aload_n hx hb dX3_dig_79 rfl (lv_at hl 1 rfl) ?_
    refine kVv (As := []) (rest := []) ⟨hx, hb, hml, hown, hts⟩ (c_C_payWords l D cs a _ z3 hw) (cwV 0 hts gX3_dig_X3_payWords rfl rfl rfl (by decide +kernel) ⟨Nat.le_of_ble_eq_true rfl, Nat.le_of_ble_eq_true rfl⟩) (pt_self_CY cs a z3) hK hP hD hS hA (ci := 3) rfl rfl rfl rfl hl.1 rfl (Nat.le_of_ble_eq_true rfl) dX3_dig_80 ⟨Nat.zero_le _, Nat.zero_le _⟩ (fun u80 H locs hw hP hD hS => ?_)
    have hP : va_P D vwCl (ws_CY cs a u80) H := hP
    have hD : va_D A (ws_CY cs a u80) := hD
    refine lv_iload_n hx hb dX3_dig_83 rfl (lv_at hl 0 rfl) ?_
    exact xI (wf := (ws_CY cs a)) (u := u80) hx hb hr hlocks hK hP hD hS hw dX3_dig_84
  · have hw := hw.1 c40
    exact tS (wf := (ws_CY cs a)) (u := (s_CY_tr u31 u34)) (ik := 74) (ic := 78) (text := "the crate cannot be dug out") (cls := "java/lang/IllegalStateException") hx hb hfl hown (by decide +kernel) hk74 hi74 (fun w h => hts w (List.mem_cons_of_mem _ (List.mem_append_left _ (List.mem_append_right _ h)))) ng_78 gd_78 (by decide) (by decide) hE hK hP hD hS (by rw [hml]; exact hl.1) dX3_dig_43 dX3_dig_46 dX3_dig_47 dX3_dig_49 dX3_dig_52 hout (Nat.le_of_ble_eq_true rfl) (Nat.le_of_ble_eq_true rfl) (Nat.le_of_ble_eq_true rfl) (Nat.le_of_ble_eq_true rfl) hlocks hw
abbrev rm_C_crane : Room := { frames := 0, cells := 0, slots := 0, locals := 0 }
set_option maxHeartbeats 4000000 in
set_option maxRecDepth 100000 in
theorem c_C_crane (l : Launch) (D : va_G) (cs : CS) (a : Nat → Nat) (sz : Nat) (σ : CY) {Φ : Int32 → CY → Prop} (hw : w_C_crane σ Φ) : Met l yX3_crane wsX3_crane rm_C_crane (PcG [.ref (a 0)] D cs (ws_CY cs a σ) sz) (va_Qi Φ (BG D cs (va_A (ws_CY cs a σ) sz) sz (ws_CY cs a)) (va_A (ws_CY cs a σ) sz)) 0 0 (va_A (ws_CY cs a σ) sz) := by
  refine Met.ofW (cc := cX3_crane) (maxL := 1) (ret := (some .int)) (by decide) rfl ?_
  intro p e s m args below meth c s₁ B hml hv
  obtain ⟨rfl, hsz, hP, hK, hD0⟩ := hv
  have hx := B.exec
  have hb := B.bytes
  have hr := B.returns
  have hts := atoms_spec (ws := wsX3_crane) B.pre
  have hown : s.vm.findClass RX3 = some m.cls := findClass_of_methodNamed B.named
  have hlocks := B.notSynchronized
  subst hsz
  have hD := hD0.self (sz := s.heap.size)
  generalize hAe : va_A (ws_CY cs a σ) s.heap.size = A at hD ⊢
  have hA : ∀ q : Nat, s.heap.size ≤ q → A q := fun q h => by rw [← hAe]; exact Or.inr h
  have hS : va_S A s.heap s.heap [] := va_S.rf
  have hf44 : (Cond.fieldLink RX3 44 "CraneYard" "craneCrate" "I").before ([.ref (a 0)] : List Value).toArray s = true := hts _ (List.mem_of_getElem? (i := 1) rfl)
  have hinX3 : ∀ w ∈ wsX30, w ∈ wsX3_crane := fun _ h => List.mem_cons_of_mem _ (List.mem_append_right _ h)
  have hP : va_P D vwCl (ws_CY cs a σ) s.heap := hP
  have hl := lv_entry ([.ref (a 0)]) (n := 1) (Nat.le_of_ble_eq_true rfl)
  rw [lg_entry_eq]
  generalize (lg_sl ([.ref (a 0)]) ++ List.replicate (1 - (lg_sl ([.ref (a 0)])).length) Slot.unset).toArray = ls at hl ⊢
  have hl : lv_has ls 1 [(0, .ref (a 0))] := hl
  unfold w_C_crane at hw
  refine lv_aload_n hx hb dX3_crane_0 rfl (lv_at hl 0 rfl) ?_
  refine va_get (D := D) (ci := 3) (v := .int (g_CY_craneCrate σ)) (C := RX3) (T := TX3) (N := 12) hx hb hts hinX3 hown hK hP 0 rfl rfl 7 (by decide) hf44 (fun _ h9 => h9) rfl dX3_crane_1 ?_
  exact rI (wf := (ws_CY cs a)) (u := σ) hx hb hr hlocks hK hP hD hS hw dX3_crane_4
abbrev rm_C_height : Room := { frames := 7, cells := 1, slots := 6, locals := 112 }
set_option maxHeartbeats 4000000 in
set_option maxRecDepth 100000 in
theorem c_C_height (l : Launch) (hfl : l.stackTraces = false) (D : va_G) (cs : CS) (a : Nat → Nat) (sz : Nat) (σ : CY) (p1 : Int32) {Φ : Int32 → CY → Prop} {Ξ : String → CY → Prop} (hw : w_C_height σ p1 Φ Ξ) : vx_Met l yX3_height wsX3_height rm_C_height (PcX [.ref (a 0), .int p1] D cs (ws_CY cs a σ) sz) (va_Qi Φ (BG D cs (va_A (ws_CY cs a σ) sz) sz (ws_CY cs a)) (va_A (ws_CY cs a σ) sz)) (XG D cs (va_A (ws_CY cs a σ) sz) (ws_CY cs a) Ξ) 1 6 (va_A (ws_CY cs a σ) sz) := by
  refine vx_ofW (cc := cX3_height) (maxL := 2) (ret := (some .int)) (by decide) rfl ?_
  intro p e s m args below meth c s₁ B hml hout hv
  obtain ⟨rfl, hsz, hP, hK, hD0, hE⟩ := hv
  have hx := B.exec
  have hb := B.bytes
  have hr := B.returns
  have hts := atoms_spec (ws := wsX3_height) B.pre
  have hown : s.vm.findClass RX3 = some m.cls := findClass_of_methodNamed B.named
  have hlocks := B.notSynchronized
  subst hsz
  have hD := hD0.self (sz := s.heap.size)
  generalize hAe : va_A (ws_CY cs a σ) s.heap.size = A at hD hE ⊢
  have hA : ∀ q : Nat, s.heap.size ≤ q → A q := fun q h => by rw [← hAe]; exact Or.inr h
  have hS : va_S A s.heap s.heap [] := va_S.rf
  have hf10 : (Cond.fieldLink RX3 10 "CraneYard" "stacks" "LCraneYard$Stacks;").before ([.ref (a 0), .int p1] : List Value).toArray s = true := hts _ (List.mem_of_getElem? (i := 1) rfl)
  have hinX3 : ∀ w ∈ wsX30, w ∈ wsX3_height := fun _ h => List.mem_cons_of_mem _ (List.mem_append_left _ (List.mem_append_left _ (List.mem_append_right _ h)))
  have hP : va_P D vwCl (ws_CY cs a σ) s.heap := hP
  have hl := lv_entry ([.ref (a 0), .int p1]) (n := 2) (Nat.le_of_ble_eq_true rfl)
  rw [lg_entry_eq]
  generalize (lg_sl ([.ref (a 0), .int p1]) ++ List.replicate (2 - (lg_sl ([.ref (a 0), .int p1])).length) Slot.unset).toArray = ls at hl ⊢
  have hl : lv_has ls 2 [(0, .ref (a 0)), (1, .int p1)] := hl
  unfold w_C_height at hw
  refine lv_iload_n hx hb dX3_height_0 rfl (lv_at hl 1 rfl) ?_
  refine kxSv (As := [.int p1]) (rest := []) ⟨hx, hb, hml, hown, hts⟩ hE (c_C_requireStack l hfl D cs a _ p1 hw) (va_cwS 1 hts gX3_height_X3_requireStack rfl rfl rfl (by decide +kernel) ⟨Nat.le_of_ble_eq_true rfl, Nat.le_of_ble_eq_true rfl⟩) (pt_un_CY cs a σ) hK hP hD hS hA rfl hl.1 rfl (Nat.le_of_ble_eq_true rfl) dX3_height_1 ⟨Nat.le_of_ble_eq_true rfl, Nat.le_of_ble_eq_true rfl⟩ (fun E u1 H locs q9 ce hw hP hD hS hcell hv hcl => tX (wf := (ws_CY cs a)) (u := σ) hout hlocks hK hP hD hS hw hcell hv hcl) (fun u1 H locs hw hP hD hS => ?_)
  have hP : va_P D vwCl (ws_CY cs a σ) H := hP
  have hD : va_D A (ws_CY cs a σ) := hD
  refine lv_aload_n hx hb dX3_height_4 rfl (lv_at hl 0 rfl) ?_
  refine va_get (D := D) (ci := 3) (v := .ref (a 1)) (C := RX3) (T := TX3) (N := 12) hx hb hts hinX3 hown hK hP 0 rfl rfl 0 (by decide) hf10 (fun _ h9 => h9) rfl dX3_height_5 ?_
  refine lv_iload_n hx hb dX3_height_8 rfl (lv_at hl 1 rfl) ?_
  refine kVi (As := [.int p1]) (rest := []) ⟨hx, hb, hml, hown, hts⟩ (c_S_heightOf l D cs (sh a 1) _ (g_CY_st σ) p1 hw) (cwV 1 hts gX3_height_X1_heightOf rfl rfl rfl (by decide +kernel) ⟨Nat.le_of_ble_eq_true rfl, Nat.le_of_ble_eq_true rfl⟩) (pt_CY_st cs a σ) hK hP hD hS hA (ci := 1) rfl rfl rfl rfl hl.1 rfl (Nat.le_of_ble_eq_true rfl) dX3_height_9 ⟨Nat.zero_le _, Nat.zero_le _⟩ (fun r9 u9 H locs hw hP hD hS => ?_)
  have hP : va_P D vwCl (ws_CY cs a (s_CY_st σ u9)) H := hP
  have hD : va_D A (ws_CY cs a (s_CY_st σ u9)) := hD
  exact xI (wf := (ws_CY cs a)) (u := (s_CY_st σ u9)) hx hb hr hlocks hK hP hD hS hw dX3_height_12
abbrev rm_C_at : Room := { frames := 7, cells := 1, slots := 6, locals := 112 }
set_option maxHeartbeats 4000000 in
set_option maxRecDepth 100000 in
theorem c_C_at (l : Launch) (hfl : l.stackTraces = false) (D : va_G) (cs : CS) (a : Nat → Nat) (sz : Nat) (σ : CY) (p1 : Int32) (p2 : Int32) {Φ : Int32 → CY → Prop} {Ξ : String → CY → Prop} (hw : w_C_at σ p1 p2 Φ Ξ) : vx_Met l yX3_at wsX3_at rm_C_at (PcX [.ref (a 0), .int p1, .int p2] D cs (ws_CY cs a σ) sz) (va_Qi Φ (BG D cs (va_A (ws_CY cs a σ) sz) sz (ws_CY cs a)) (va_A (ws_CY cs a σ) sz)) (XG D cs (va_A (ws_CY cs a σ) sz) (ws_CY cs a) Ξ) 1 6 (va_A (ws_CY cs a σ) sz) := by
  refine vx_ofW (cc := cX3_at) (maxL := 3) (ret := (some .int)) (by decide) rfl ?_
  intro p e s m args below meth c s₁ B hml hout hv
  obtain ⟨rfl, hsz, hP, hK, hD0, hE⟩ := hv
  have hx := B.exec
  have hb := B.bytes
  have hr := B.returns
  have hts := atoms_spec (ws := wsX3_at) B.pre
  have hown : s.vm.findClass RX3 = some m.cls := findClass_of_methodNamed B.named
  have hlocks := B.notSynchronized
  subst hsz
  have hD := hD0.self (sz := s.heap.size)
  generalize hAe : va_A (ws_CY cs a σ) s.heap.size = A at hD hE ⊢
  have hA : ∀ q : Nat, s.heap.size ≤ q → A q := fun q h => by rw [← hAe]; exact Or.inr h
  have hS : va_S A s.heap s.heap [] := va_S.rf
  have hf10 : (Cond.fieldLink RX3 10 "CraneYard" "stacks" "LCraneYard$Stacks;").before ([.ref (a 0), .int p1, .int p2] : List Value).toArray s = true := hts _ (List.mem_of_getElem? (i := 3) rfl)
  have hi60 : (Cond.initialized "java/lang/IllegalArgumentException").before ([.ref (a 0), .int p1, .int p2] : List Value).toArray s = true := hts _ (List.mem_of_getElem? (i := 2) rfl)
  have hinX3 : ∀ w ∈ wsX30, w ∈ wsX3_at := fun _ h => List.mem_cons_of_mem _ (List.mem_append_left _ (List.mem_append_left _ (List.mem_append_right _ h)))
  have hk60 : (Cond.classLink RX3 60 "java/lang/IllegalArgumentException").before ([.ref (a 0), .int p1, .int p2] : List Value).toArray s = true := hts _ (List.mem_of_getElem? (i := 1) rfl)
  have hP : va_P D vwCl (ws_CY cs a σ) s.heap := hP
  have B13 : ∀ (σ : CY), b_C_at_13 Φ Ξ σ → At p l e (headSpec wsX3_at rm_C_at).room s m ([.ref (a 0), .int p1, .int p2] : List Value).toArray below meth c (vx_MQ below (va_Qi Φ (BG D cs A s.heap.size (ws_CY cs a)) A) (XG D cs A (ws_CY cs a) Ξ) ([.ref (a 0), .int p1, .int p2] : List Value).toArray s 1 6 A) D A 3 [] (ws_CY cs a σ) 13 [] := by
    intro σ hw H locs ls hl hP hD hS
    unfold b_C_at_13 at hw
    exact tS (wf := (ws_CY cs a)) (u := σ) (ik := 60) (ic := 64) (text := "the place is not 0 to 4") (cls := "java/lang/IllegalArgumentException") hx hb hfl hown (by decide +kernel) hk60 hi60 (fun w h => hts w (List.mem_cons_of_mem _ (List.mem_append_right _ h))) ng_64 gd_64 (by decide) (by decide) hE hK hP hD hS (by rw [hml]; exact hl.1) dX3_at_13 dX3_at_16 dX3_at_17 dX3_at_19 dX3_at_22 hout (Nat.le_of_ble_eq_true rfl) (Nat.le_of_ble_eq_true rfl) (Nat.le_of_ble_eq_true rfl) (Nat.le_of_ble_eq_true rfl) hlocks hw
  have hl := lv_entry ([.ref (a 0), .int p1, .int p2]) (n := 3) (Nat.le_of_ble_eq_true rfl)
  rw [lg_entry_eq]
  generalize (lg_sl ([.ref (a 0), .int p1, .int p2]) ++ List.replicate (3 - (lg_sl ([.ref (a 0), .int p1, .int p2])).length) Slot.unset).toArray = ls at hl ⊢
  have hl : lv_has ls 3 [(0, .ref (a 0)), (1, .int p1), (2, .int p2)] := hl
  unfold w_C_at at hw
  refine lv_iload_n hx hb dX3_at_0 rfl (lv_at hl 1 rfl) ?_
  refine kxSv (As := [.int p1]) (rest := []) ⟨hx, hb, hml, hown, hts⟩ hE (c_C_requireStack l hfl D cs a _ p1 hw) (va_cwS 1 hts gX3_at_X3_requireStack rfl rfl rfl (by decide +kernel) ⟨Nat.le_of_ble_eq_true rfl, Nat.le_of_ble_eq_true rfl⟩) (pt_un_CY cs a σ) hK hP hD hS hA rfl hl.1 rfl (Nat.le_of_ble_eq_true rfl) dX3_at_1 ⟨Nat.le_of_ble_eq_true rfl, Nat.le_of_ble_eq_true rfl⟩ (fun E u1 H locs q9 ce hw hP hD hS hcell hv hcl => tX (wf := (ws_CY cs a)) (u := σ) hout hlocks hK hP hD hS hw hcell hv hcl) (fun u1 H locs hw hP hD hS => ?_)
  have hP : va_P D vwCl (ws_CY cs a σ) H := hP
  have hD : va_D A (ws_CY cs a σ) := hD
  refine lv_iload_n hx hb dX3_at_4 rfl (lv_at hl 2 rfl) ?_
  refine lv_if_lt (tgt := 13) hx hb dX3_at_5 (by decide) (fun c5 => ?_) (fun c5 => ?_)
  · have hw := hw.1 c5
    exact B13 _ hw _ _ ls (lv_sub hl [] rfl) hP hD hS
  · have hw := hw.2 c5
    refine lv_iload_n hx hb dX3_at_8 rfl (lv_at hl 2 rfl) ?_
    refine lv_iconst (v := (5 : Int32)) hx hb dX3_at_9 (by decide) ?_
    refine lv_icmp_lt (tgt := 23) hx hb dX3_at_10 (by decide) (fun c10 => ?_) (fun c10 => ?_)
    · have hw := hw.1 c10
      refine lv_aload_n hx hb dX3_at_23 rfl (lv_at hl 0 rfl) ?_
      refine va_get (D := D) (ci := 3) (v := .ref (a 1)) (C := RX3) (T := TX3) (N := 12) hx hb hts hinX3 hown hK hP 0 rfl rfl 0 (by decide) hf10 (fun _ h9 => h9) rfl dX3_at_24 ?_
      refine lv_iload_n hx hb dX3_at_27 rfl (lv_at hl 1 rfl) ?_
      refine lv_iload_n hx hb dX3_at_28 rfl (lv_at hl 2 rfl) ?_
      refine kVi (As := [.int p1, .int p2]) (rest := []) ⟨hx, hb, hml, hown, hts⟩ (c_S_crateAt l D cs (sh a 1) _ (g_CY_st σ) p1 p2 hw) (cwV 2 hts gX3_at_X1_crateAt rfl rfl rfl (by decide +kernel) ⟨Nat.le_of_ble_eq_true rfl, Nat.le_of_ble_eq_true rfl⟩) (pt_CY_st cs a σ) hK hP hD hS hA (ci := 1) rfl rfl rfl rfl hl.1 rfl (Nat.le_of_ble_eq_true rfl) dX3_at_29 ⟨Nat.zero_le _, Nat.zero_le _⟩ (fun r29 u29 H locs hw hP hD hS => ?_)
      have hP : va_P D vwCl (ws_CY cs a (s_CY_st σ u29)) H := hP
      have hD : va_D A (ws_CY cs a (s_CY_st σ u29)) := hD
      exact xI (wf := (ws_CY cs a)) (u := (s_CY_st σ u29)) hx hb hr hlocks hK hP hD hS hw dX3_at_32
    · have hw := hw.2 c10
      exact B13 _ hw _ _ ls (lv_sub hl [] rfl) hP hD hS
abbrev rm_C_stackOf : Room := { frames := 7, cells := 1, slots := 6, locals := 113 }
set_option maxHeartbeats 4000000 in
set_option maxRecDepth 100000 in
theorem c_C_stackOf (l : Launch) (hfl : l.stackTraces = false) (D : va_G) (cs : CS) (a : Nat → Nat) (sz : Nat) (σ : CY) (p1 : Int32) {Φ : Int32 → CY → Prop} {Ξ : String → CY → Prop} (hw : w_C_stackOf σ p1 Φ Ξ) : vx_Met l yX3_stackOf wsX3_stackOf rm_C_stackOf (PcX [.ref (a 0), .int p1] D cs (ws_CY cs a σ) sz) (va_Qi Φ (BG D cs (va_A (ws_CY cs a σ) sz) sz (ws_CY cs a)) (va_A (ws_CY cs a σ) sz)) (XG D cs (va_A (ws_CY cs a σ) sz) (ws_CY cs a) Ξ) 1 6 (va_A (ws_CY cs a σ) sz) := by
  refine vx_ofW (cc := cX3_stackOf) (maxL := 2) (ret := (some .int)) (by decide) rfl ?_
  intro p e s m args below meth c s₁ B hml hout hv
  obtain ⟨rfl, hsz, hP, hK, hD0, hE⟩ := hv
  have hx := B.exec
  have hb := B.bytes
  have hr := B.returns
  have hts := atoms_spec (ws := wsX3_stackOf) B.pre
  have hown : s.vm.findClass RX3 = some m.cls := findClass_of_methodNamed B.named
  have hlocks := B.notSynchronized
  subst hsz
  have hD := hD0.self (sz := s.heap.size)
  generalize hAe : va_A (ws_CY cs a σ) s.heap.size = A at hD hE ⊢
  have hA : ∀ q : Nat, s.heap.size ≤ q → A q := fun q h => by rw [← hAe]; exact Or.inr h
  have hS : va_S A s.heap s.heap [] := va_S.rf
  have hf10 : (Cond.fieldLink RX3 10 "CraneYard" "stacks" "LCraneYard$Stacks;").before ([.ref (a 0), .int p1] : List Value).toArray s = true := hts _ (List.mem_of_getElem? (i := 1) rfl)
  have hinX3 : ∀ w ∈ wsX30, w ∈ wsX3_stackOf := fun _ h => List.mem_cons_of_mem _ (List.mem_append_left _ (List.mem_append_left _ (List.mem_append_right _ h)))
  have hP : va_P D vwCl (ws_CY cs a σ) s.heap := hP
  have hl := lv_entry ([.ref (a 0), .int p1]) (n := 2) (Nat.le_of_ble_eq_true rfl)
  rw [lg_entry_eq]
  generalize (lg_sl ([.ref (a 0), .int p1]) ++ List.replicate (2 - (lg_sl ([.ref (a 0), .int p1])).length) Slot.unset).toArray = ls at hl ⊢
  have hl : lv_has ls 2 [(0, .ref (a 0)), (1, .int p1)] := hl
  unfold w_C_stackOf at hw
  refine lv_aload_n hx hb dX3_stackOf_0 rfl (lv_at hl 0 rfl) ?_
  refine lv_iload_n hx hb dX3_stackOf_1 rfl (lv_at hl 1 rfl) ?_
  refine kxVv (As := [.int p1]) (rest := []) ⟨hx, hb, hml, hown, hts⟩ hE (c_C_requireCrate l hfl D cs a _ σ p1 hw) (cwV 1 hts gX3_stackOf_X3_requireCrate rfl rfl rfl (by decide +kernel) ⟨Nat.le_of_ble_eq_true rfl, Nat.le_of_ble_eq_true rfl⟩) (pt_self_CY cs a σ) hK hP hD hS hA (ci := 3) rfl rfl rfl rfl hl.1 rfl (Nat.le_of_ble_eq_true rfl) dX3_stackOf_2 ⟨Nat.le_of_ble_eq_true rfl, Nat.le_of_ble_eq_true rfl⟩ (fun E u2 H locs q9 ce hw hP hD hS hcell hv hcl => tX (wf := (ws_CY cs a)) (u := u2) hout hlocks hK hP hD hS hw hcell hv hcl) (fun u2 H locs hw hP hD hS => ?_)
  have hP : va_P D vwCl (ws_CY cs a u2) H := hP
  have hD : va_D A (ws_CY cs a u2) := hD
  refine lv_aload_n hx hb dX3_stackOf_5 rfl (lv_at hl 0 rfl) ?_
  refine va_get (D := D) (ci := 3) (v := .ref (a 1)) (C := RX3) (T := TX3) (N := 12) hx hb hts hinX3 hown hK hP 0 rfl rfl 0 (by decide) hf10 (fun _ h9 => h9) rfl dX3_stackOf_6 ?_
  refine lv_iload_n hx hb dX3_stackOf_9 rfl (lv_at hl 1 rfl) ?_
  refine kVi (As := [.int p1]) (rest := []) ⟨hx, hb, hml, hown, hts⟩ (c_S_stackHolding l D cs (sh a 1) _ (g_CY_st u2) p1 hw) (cwV 1 hts gX3_stackOf_X1_stackHolding rfl rfl rfl (by decide +kernel) ⟨Nat.le_of_ble_eq_true rfl, Nat.le_of_ble_eq_true rfl⟩) (pt_CY_st cs a u2) hK hP hD hS hA (ci := 1) rfl rfl rfl rfl hl.1 rfl (Nat.le_of_ble_eq_true rfl) dX3_stackOf_10 ⟨Nat.zero_le _, Nat.zero_le _⟩ (fun r10 u10 H locs hw hP hD hS => ?_)
  have hP : va_P D vwCl (ws_CY cs a (s_CY_st u2 u10)) H := hP
  have hD : va_D A (ws_CY cs a (s_CY_st u2 u10)) := hD
  exact xI (wf := (ws_CY cs a)) (u := (s_CY_st u2 u10)) hx hb hr hlocks hK hP hD hS hw dX3_stackOf_13
abbrev rm_C_lifts : Room := { frames := 0, cells := 0, slots := 0, locals := 0 }
set_option maxHeartbeats 4000000 in
set_option maxRecDepth 100000 in
theorem c_C_lifts (l : Launch) (D : va_G) (cs : CS) (a : Nat → Nat) (sz : Nat) (σ : CY) {Φ : Int32 → CY → Prop} (hw : w_C_lifts σ Φ) : Met l yX3_lifts wsX3_lifts rm_C_lifts (PcG [.ref (a 0)] D cs (ws_CY cs a σ) sz) (va_Qi Φ (BG D cs (va_A (ws_CY cs a σ) sz) sz (ws_CY cs a)) (va_A (ws_CY cs a σ) sz)) 0 0 (va_A (ws_CY cs a σ) sz) := by
  refine Met.ofW (cc := cX3_lifts) (maxL := 1) (ret := (some .int)) (by decide) rfl ?_
  intro p e s m args below meth c s₁ B hml hv
  obtain ⟨rfl, hsz, hP, hK, hD0⟩ := hv
  have hx := B.exec
  have hb := B.bytes
  have hr := B.returns
  have hts := atoms_spec (ws := wsX3_lifts) B.pre
  have hown : s.vm.findClass RX3 = some m.cls := findClass_of_methodNamed B.named
  have hlocks := B.notSynchronized
  subst hsz
  have hD := hD0.self (sz := s.heap.size)
  generalize hAe : va_A (ws_CY cs a σ) s.heap.size = A at hD ⊢
  have hA : ∀ q : Nat, s.heap.size ≤ q → A q := fun q h => by rw [← hAe]; exact Or.inr h
  have hS : va_S A s.heap s.heap [] := va_S.rf
  have hf47 : (Cond.fieldLink RX3 47 "CraneYard" "liftCount" "I").before ([.ref (a 0)] : List Value).toArray s = true := hts _ (List.mem_of_getElem? (i := 1) rfl)
  have hinX3 : ∀ w ∈ wsX30, w ∈ wsX3_lifts := fun _ h => List.mem_cons_of_mem _ (List.mem_append_right _ h)
  have hP : va_P D vwCl (ws_CY cs a σ) s.heap := hP
  have hl := lv_entry ([.ref (a 0)]) (n := 1) (Nat.le_of_ble_eq_true rfl)
  rw [lg_entry_eq]
  generalize (lg_sl ([.ref (a 0)]) ++ List.replicate (1 - (lg_sl ([.ref (a 0)])).length) Slot.unset).toArray = ls at hl ⊢
  have hl : lv_has ls 1 [(0, .ref (a 0))] := hl
  unfold w_C_lifts at hw
  refine lv_aload_n hx hb dX3_lifts_0 rfl (lv_at hl 0 rfl) ?_
  refine va_get (D := D) (ci := 3) (v := .int (g_CY_liftCount σ)) (C := RX3) (T := TX3) (N := 12) hx hb hts hinX3 hown hK hP 0 rfl rfl 8 (by decide) hf47 (fun _ h9 => h9) rfl dX3_lifts_1 ?_
  exact rI (wf := (ws_CY cs a)) (u := σ) hx hb hr hlocks hK hP hD hS hw dX3_lifts_4
