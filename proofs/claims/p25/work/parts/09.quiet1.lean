abbrev rm0_C_height : Room := { frames := 7, cells := 0, slots := 0, locals := 112 }
set_option maxHeartbeats 4000000 in
set_option maxRecDepth 100000 in
theorem c0_C_height (l : Launch) (D : va_G) (cs : CS) (a : Nat → Nat) (sz : Nat) (σ : CY) (p1 : Int32) {Φ : Int32 → CY → Prop} (hw : w_C_height σ p1 Φ (fun _ _ => False)) : Met l yX3_height wsX3_height rm0_C_height (PcG [.ref (a 0), .int p1] D cs (ws_CY cs a σ) sz) (va_Qi Φ (BG D cs (va_A (ws_CY cs a σ) sz) sz (ws_CY cs a)) (va_A (ws_CY cs a σ) sz)) 0 0 (va_A (ws_CY cs a σ) sz) := by
  refine Met.ofW (cc := cX3_height) (maxL := 2) (ret := (some .int)) (by decide) rfl ?_
  intro p e s m args below meth c s₁ B hml hv
  obtain ⟨rfl, hsz, hP, hK, hD0⟩ := hv
  have hx := B.exec
  have hb := B.bytes
  have hr := B.returns
  have hts := atoms_spec (ws := wsX3_height) B.pre
  have hown : s.vm.findClass RX3 = some m.cls := findClass_of_methodNamed B.named
  have hlocks := B.notSynchronized
  subst hsz
  have hD := hD0.self (sz := s.heap.size)
  generalize hAe : va_A (ws_CY cs a σ) s.heap.size = A at hD ⊢
  have hA : ∀ q : Nat, s.heap.size ≤ q → A q := fun q h => by rw [← hAe]; exact Or.inr h
  have hS : va_S A s.heap s.heap [] := va_S.rf
  have hf10 : (Cond.fieldLink RX3 10 "CraneYard" "stacks" "LCraneYard$Stacks;").before ([.ref (a 0), .int p1] : List Value).toArray s = true := hts _ (List.mem_of_getElem? (i := 1) rfl)
  have hinX3 : ∀ w ∈ wsX30, w ∈ wsX3_height := fun _ h => List.mem_cons_of_mem _ (List.mem_append_left _ (List.mem_append_left _ (List.mem_append_right _ h)))
  have hP : va_P D vwCl (ws_CY cs a σ) s.heap := hP
  have hl := lv_entry ([.ref (a 0), .int p1]) (n := 2) (Nat.le_of_ble_eq_true rfl)
  rw [lg_entry_eq]
  generalize (lg_sl ([.ref (a 0), .int p1]) ++ List.replicate (2 - (lg_sl ([.ref (a 0), .int p1])).length) Slot.unset).toArray = ls at hl ⊢
  have hl : lv_has ls 2 [(0, .ref (a 0)), (1, .int p1)] := hl
  unfold w_C_height at hw
  refine lv_iload_n hx hb dX3_height_0 rfl (lv_at hl 1 rfl) ?_
  refine kSv (As := [.int p1]) (rest := []) ⟨hx, hb, hml, hown, hts⟩ (c0_C_requireStack l D cs a _ p1 hw) (va_cwS 1 hts gX3_height_X3_requireStack rfl rfl rfl (by decide +kernel) ⟨Nat.le_of_ble_eq_true rfl, Nat.le_of_ble_eq_true rfl⟩) (pt_un_CY cs a σ) hK hP hD hS hA rfl hl.1 rfl (Nat.le_of_ble_eq_true rfl) dX3_height_1 ⟨Nat.zero_le _, Nat.zero_le _⟩ (fun u1 H locs hw hP hD hS => ?_)
  have hP : va_P D vwCl (ws_CY cs a σ) H := hP
  have hD : va_D A (ws_CY cs a σ) := hD
  refine lv_aload_n hx hb dX3_height_4 rfl (lv_at hl 0 rfl) ?_
  refine va_get (D := D) (ci := 3) (v := .ref (a 1)) (C := RX3) (T := TX3) (N := 12) hx hb hts hinX3 hown hK hP 0 rfl rfl 0 (by decide) hf10 (fun _ h9 => h9) rfl dX3_height_5 ?_
  refine lv_iload_n hx hb dX3_height_8 rfl (lv_at hl 1 rfl) ?_
  refine kVi (As := [.int p1]) (rest := []) ⟨hx, hb, hml, hown, hts⟩ (c_S_heightOf l D cs (sh a 1) _ (g_CY_st σ) p1 hw) (cwV 1 hts gX3_height_X1_heightOf rfl rfl rfl (by decide +kernel) ⟨Nat.le_of_ble_eq_true rfl, Nat.le_of_ble_eq_true rfl⟩) (pt_CY_st cs a σ) hK hP hD hS hA (ci := 1) rfl rfl rfl rfl hl.1 rfl (Nat.le_of_ble_eq_true rfl) dX3_height_9 ⟨Nat.zero_le _, Nat.zero_le _⟩ (fun r9 u9 H locs hw hP hD hS => ?_)
  have hP : va_P D vwCl (ws_CY cs a (s_CY_st σ u9)) H := hP
  have hD : va_D A (ws_CY cs a (s_CY_st σ u9)) := hD
  exact rI (wf := (ws_CY cs a)) (u := (s_CY_st σ u9)) hx hb hr hlocks hK hP hD hS hw dX3_height_12
abbrev rm0_C_at : Room := { frames := 7, cells := 0, slots := 0, locals := 112 }
set_option maxHeartbeats 4000000 in
set_option maxRecDepth 100000 in
theorem c0_C_at (l : Launch) (D : va_G) (cs : CS) (a : Nat → Nat) (sz : Nat) (σ : CY) (p1 : Int32) (p2 : Int32) {Φ : Int32 → CY → Prop} (hw : w_C_at σ p1 p2 Φ (fun _ _ => False)) : Met l yX3_at wsX3_at rm0_C_at (PcG [.ref (a 0), .int p1, .int p2] D cs (ws_CY cs a σ) sz) (va_Qi Φ (BG D cs (va_A (ws_CY cs a σ) sz) sz (ws_CY cs a)) (va_A (ws_CY cs a σ) sz)) 0 0 (va_A (ws_CY cs a σ) sz) := by
  refine Met.ofW (cc := cX3_at) (maxL := 3) (ret := (some .int)) (by decide) rfl ?_
  intro p e s m args below meth c s₁ B hml hv
  obtain ⟨rfl, hsz, hP, hK, hD0⟩ := hv
  have hx := B.exec
  have hb := B.bytes
  have hr := B.returns
  have hts := atoms_spec (ws := wsX3_at) B.pre
  have hown : s.vm.findClass RX3 = some m.cls := findClass_of_methodNamed B.named
  have hlocks := B.notSynchronized
  subst hsz
  have hD := hD0.self (sz := s.heap.size)
  generalize hAe : va_A (ws_CY cs a σ) s.heap.size = A at hD ⊢
  have hA : ∀ q : Nat, s.heap.size ≤ q → A q := fun q h => by rw [← hAe]; exact Or.inr h
  have hS : va_S A s.heap s.heap [] := va_S.rf
  have hf10 : (Cond.fieldLink RX3 10 "CraneYard" "stacks" "LCraneYard$Stacks;").before ([.ref (a 0), .int p1, .int p2] : List Value).toArray s = true := hts _ (List.mem_of_getElem? (i := 3) rfl)
  have hinX3 : ∀ w ∈ wsX30, w ∈ wsX3_at := fun _ h => List.mem_cons_of_mem _ (List.mem_append_left _ (List.mem_append_left _ (List.mem_append_right _ h)))
  have hP : va_P D vwCl (ws_CY cs a σ) s.heap := hP
  have B13 : ∀ (σ : CY), b_C_at_13 Φ (fun _ _ => False) σ → At p l e (headSpec wsX3_at rm0_C_at).room s m ([.ref (a 0), .int p1, .int p2] : List Value).toArray below meth c (MQ below (va_Qi Φ (BG D cs A s.heap.size (ws_CY cs a)) A) ([.ref (a 0), .int p1, .int p2] : List Value).toArray s 0 0 A) D A 3 [] (ws_CY cs a σ) 13 [] := by
    intro σ hw H locs ls hl hP hD hS
    unfold b_C_at_13 at hw
    exact (show False from hw).elim
  have hl := lv_entry ([.ref (a 0), .int p1, .int p2]) (n := 3) (Nat.le_of_ble_eq_true rfl)
  rw [lg_entry_eq]
  generalize (lg_sl ([.ref (a 0), .int p1, .int p2]) ++ List.replicate (3 - (lg_sl ([.ref (a 0), .int p1, .int p2])).length) Slot.unset).toArray = ls at hl ⊢
  have hl : lv_has ls 3 [(0, .ref (a 0)), (1, .int p1), (2, .int p2)] := hl
  unfold w_C_at at hw
  refine lv_iload_n hx hb dX3_at_0 rfl (lv_at hl 1 rfl) ?_
  refine kSv (As := [.int p1]) (rest := []) ⟨hx, hb, hml, hown, hts⟩ (c0_C_requireStack l D cs a _ p1 hw) (va_cwS 1 hts gX3_at_X3_requireStack rfl rfl rfl (by decide +kernel) ⟨Nat.le_of_ble_eq_true rfl, Nat.le_of_ble_eq_true rfl⟩) (pt_un_CY cs a σ) hK hP hD hS hA rfl hl.1 rfl (Nat.le_of_ble_eq_true rfl) dX3_at_1 ⟨Nat.zero_le _, Nat.zero_le _⟩ (fun u1 H locs hw hP hD hS => ?_)
  have hP : va_P D vwCl (ws_CY cs a σ) H := hP
  have hD : va_D A (ws_CY cs a σ) := hD
  refine lv_iload_n hx hb dX3_at_4 rfl (lv_at hl 2 rfl) ?_
  refine lv_if_lt (tgt := 13) hx hb dX3_at_5 (by decide) (fun c5 => ?_) (fun c5 => ?_)
  · have hw := hw.1 c5
    exact B13 _ hw _ _ ls (lv_sub hl [] rfl) hP hD hS
  · have hw := hw.2 c5
    refine lv_iload_n hx hb dX3_at_8 rfl (lv_at hl 2 rfl) ?_
    refine lv_iconst (v := (5 : Int32)) hx hb dX3_at_9 (by decide) ?_
    refine lv_icmp_lt (tgt := 23) hx hb dX3_at_10 (by decide) (fun c10 => ?_) (fun c10 => ?_)
    · have hw := hw.1 c10
      refine lv_aload_n hx hb dX3_at_23 rfl (lv_at hl 0 rfl) ?_
      refine va_get (D := D) (ci := 3) (v := .ref (a 1)) (C := RX3) (T := TX3) (N := 12) hx hb hts hinX3 hown hK hP 0 rfl rfl 0 (by decide) hf10 (fun _ h9 => h9) rfl dX3_at_24 ?_
      refine lv_iload_n hx hb dX3_at_27 rfl (lv_at hl 1 rfl) ?_
      refine lv_iload_n hx hb dX3_at_28 rfl (lv_at hl 2 rfl) ?_
      refine kVi (As := [.int p1, .int p2]) (rest := []) ⟨hx, hb, hml, hown, hts⟩ (c_S_crateAt l D cs (sh a 1) _ (g_CY_st σ) p1 p2 hw) (cwV 2 hts gX3_at_X1_crateAt rfl rfl rfl (by decide +kernel) ⟨Nat.le_of_ble_eq_true rfl, Nat.le_of_ble_eq_true rfl⟩) (pt_CY_st cs a σ) hK hP hD hS hA (ci := 1) rfl rfl rfl rfl hl.1 rfl (Nat.le_of_ble_eq_true rfl) dX3_at_29 ⟨Nat.zero_le _, Nat.zero_le _⟩ (fun r29 u29 H locs hw hP hD hS => ?_)
      have hP : va_P D vwCl (ws_CY cs a (s_CY_st σ u29)) H := hP
      have hD : va_D A (ws_CY cs a (s_CY_st σ u29)) := hD
      exact rI (wf := (ws_CY cs a)) (u := (s_CY_st σ u29)) hx hb hr hlocks hK hP hD hS hw dX3_at_32
    · have hw := hw.2 c10
      exact B13 _ hw _ _ ls (lv_sub hl [] rfl) hP hD hS
abbrev rm0_C_stackOf : Room := { frames := 7, cells := 0, slots := 0, locals := 113 }
set_option maxHeartbeats 4000000 in
set_option maxRecDepth 100000 in
theorem c0_C_stackOf (l : Launch) (D : va_G) (cs : CS) (a : Nat → Nat) (sz : Nat) (σ : CY) (p1 : Int32) {Φ : Int32 → CY → Prop} (hw : w_C_stackOf σ p1 Φ (fun _ _ => False)) : Met l yX3_stackOf wsX3_stackOf rm0_C_stackOf (PcG [.ref (a 0), .int p1] D cs (ws_CY cs a σ) sz) (va_Qi Φ (BG D cs (va_A (ws_CY cs a σ) sz) sz (ws_CY cs a)) (va_A (ws_CY cs a σ) sz)) 0 0 (va_A (ws_CY cs a σ) sz) := by
  refine Met.ofW (cc := cX3_stackOf) (maxL := 2) (ret := (some .int)) (by decide) rfl ?_
  intro p e s m args below meth c s₁ B hml hv
  obtain ⟨rfl, hsz, hP, hK, hD0⟩ := hv
  have hx := B.exec
  have hb := B.bytes
  have hr := B.returns
  have hts := atoms_spec (ws := wsX3_stackOf) B.pre
  have hown : s.vm.findClass RX3 = some m.cls := findClass_of_methodNamed B.named
  have hlocks := B.notSynchronized
  subst hsz
  have hD := hD0.self (sz := s.heap.size)
  generalize hAe : va_A (ws_CY cs a σ) s.heap.size = A at hD ⊢
  have hA : ∀ q : Nat, s.heap.size ≤ q → A q := fun q h => by rw [← hAe]; exact Or.inr h
  have hS : va_S A s.heap s.heap [] := va_S.rf
  have hf10 : (Cond.fieldLink RX3 10 "CraneYard" "stacks" "LCraneYard$Stacks;").before ([.ref (a 0), .int p1] : List Value).toArray s = true := hts _ (List.mem_of_getElem? (i := 1) rfl)
  have hinX3 : ∀ w ∈ wsX30, w ∈ wsX3_stackOf := fun _ h => List.mem_cons_of_mem _ (List.mem_append_left _ (List.mem_append_left _ (List.mem_append_right _ h)))
  have hP : va_P D vwCl (ws_CY cs a σ) s.heap := hP
  have hl := lv_entry ([.ref (a 0), .int p1]) (n := 2) (Nat.le_of_ble_eq_true rfl)
  rw [lg_entry_eq]
  generalize (lg_sl ([.ref (a 0), .int p1]) ++ List.replicate (2 - (lg_sl ([.ref (a 0), .int p1])).length) Slot.unset).toArray = ls at hl ⊢
  have hl : lv_has ls 2 [(0, .ref (a 0)), (1, .int p1)] := hl
  unfold w_C_stackOf at hw
  refine lv_aload_n hx hb dX3_stackOf_0 rfl (lv_at hl 0 rfl) ?_
  refine lv_iload_n hx hb dX3_stackOf_1 rfl (lv_at hl 1 rfl) ?_
  refine kVv (As := [.int p1]) (rest := []) ⟨hx, hb, hml, hown, hts⟩ (c0_C_requireCrate l D cs a _ σ p1 hw) (cwV 1 hts gX3_stackOf_X3_requireCrate rfl rfl rfl (by decide +kernel) ⟨Nat.le_of_ble_eq_true rfl, Nat.le_of_ble_eq_true rfl⟩) (pt_self_CY cs a σ) hK hP hD hS hA (ci := 3) rfl rfl rfl rfl hl.1 rfl (Nat.le_of_ble_eq_true rfl) dX3_stackOf_2 ⟨Nat.zero_le _, Nat.zero_le _⟩ (fun u2 H locs hw hP hD hS => ?_)
  have hP : va_P D vwCl (ws_CY cs a u2) H := hP
  have hD : va_D A (ws_CY cs a u2) := hD
  refine lv_aload_n hx hb dX3_stackOf_5 rfl (lv_at hl 0 rfl) ?_
  refine va_get (D := D) (ci := 3) (v := .ref (a 1)) (C := RX3) (T := TX3) (N := 12) hx hb hts hinX3 hown hK hP 0 rfl rfl 0 (by decide) hf10 (fun _ h9 => h9) rfl dX3_stackOf_6 ?_
  refine lv_iload_n hx hb dX3_stackOf_9 rfl (lv_at hl 1 rfl) ?_
  refine kVi (As := [.int p1]) (rest := []) ⟨hx, hb, hml, hown, hts⟩ (c_S_stackHolding l D cs (sh a 1) _ (g_CY_st u2) p1 hw) (cwV 1 hts gX3_stackOf_X1_stackHolding rfl rfl rfl (by decide +kernel) ⟨Nat.le_of_ble_eq_true rfl, Nat.le_of_ble_eq_true rfl⟩) (pt_CY_st cs a u2) hK hP hD hS hA (ci := 1) rfl rfl rfl rfl hl.1 rfl (Nat.le_of_ble_eq_true rfl) dX3_stackOf_10 ⟨Nat.zero_le _, Nat.zero_le _⟩ (fun r10 u10 H locs hw hP hD hS => ?_)
  have hP : va_P D vwCl (ws_CY cs a (s_CY_st u2 u10)) H := hP
  have hD : va_D A (ws_CY cs a (s_CY_st u2 u10)) := hD
  exact rI (wf := (ws_CY cs a)) (u := (s_CY_st u2 u10)) hx hb hr hlocks hK hP hD hS hw dX3_stackOf_13
abbrev rm0_C_tell : Room := { frames := 7, cells := 0, slots := 0, locals := 112 }
set_option maxHeartbeats 4000000 in
set_option maxRecDepth 100000 in
theorem c0_C_tell (l : Launch) (D : va_G) (cs : CS) (a : Nat → Nat) (sz : Nat) (σ : CY) (p1 : Int32) (p2 : Int32) (p3 : Int32) (p4 : Int32) {Φ : Int32 → CY → Prop} (hw : w_C_tell σ p1 p2 p3 p4 Φ (fun _ _ => False)) : Met l yX3_tell wsX3_tell rm0_C_tell (PcG [.ref (a 0), .int p1, .int p2, .int p3, .int p4] D cs (ws_CY cs a σ) sz) (va_Qi Φ (BG D cs (va_A (ws_CY cs a σ) sz) sz (ws_CY cs a)) (va_A (ws_CY cs a σ) sz)) 0 0 (va_A (ws_CY cs a σ) sz) := by
  refine Met.ofW (cc := cX3_tell) (maxL := 6) (ret := (some .int)) (by decide) rfl ?_
  intro p e s m args below meth c s₁ B hml hv
  obtain ⟨rfl, hsz, hP, hK, hD0⟩ := hv
  have hx := B.exec
  have hb := B.bytes
  have hr := B.returns
  have hts := atoms_spec (ws := wsX3_tell) B.pre
  have hown : s.vm.findClass RX3 = some m.cls := findClass_of_methodNamed B.named
  have hlocks := B.notSynchronized
  subst hsz
  have hD := hD0.self (sz := s.heap.size)
  generalize hAe : va_A (ws_CY cs a σ) s.heap.size = A at hD ⊢
  have hA : ∀ q : Nat, s.heap.size ≤ q → A q := fun q h => by rw [← hAe]; exact Or.inr h
  have hS : va_S A s.heap s.heap [] := va_S.rf
  have hf22 : (Cond.fieldLink RX3 22 "CraneYard" "words" "LCraneYard$Words;").before ([.ref (a 0), .int p1, .int p2, .int p3, .int p4] : List Value).toArray s = true := hts _ (List.mem_of_getElem? (i := 5) rfl)
  have hinX3 : ∀ w ∈ wsX30, w ∈ wsX3_tell := fun _ h => List.mem_cons_of_mem _ (List.mem_append_left _ (List.mem_append_left _ (List.mem_append_left _ (List.mem_append_left _ (List.mem_append_right _ h)))))
  have hP : va_P D vwCl (ws_CY cs a σ) s.heap := hP
  have B43 : ∀ (x1 : Int32) (x2 : Int32) (x3 : Int32) (x4 : Int32) (σ : CY), b_C_tell_43 Φ (fun _ _ => False) x1 x2 x3 x4 σ → At p l e (headSpec wsX3_tell rm0_C_tell).room s m ([.ref (a 0), .int p1, .int p2, .int p3, .int p4] : List Value).toArray below meth c (MQ below (va_Qi Φ (BG D cs A s.heap.size (ws_CY cs a)) A) ([.ref (a 0), .int p1, .int p2, .int p3, .int p4] : List Value).toArray s 0 0 A) D A 6 [(0, .ref (a 0)), (1, .int x1), (2, .int x2), (3, .int x3), (4, .int x4)] (ws_CY cs a σ) 43 [] := by
    intro x1 x2 x3 x4 σ hw H locs ls hl hP hD hS
    unfold b_C_tell_43 at hw
    refine lv_aload_n hx hb dX3_tell_43 rfl (lv_at hl 0 rfl) ?_
    refine va_get (D := D) (ci := 3) (v := .ref (a 9)) (C := RX3) (T := TX3) (N := 12) hx hb hts hinX3 hown hK hP 0 rfl rfl 2 (by decide) hf22 (fun _ h9 => h9) rfl dX3_tell_44 ?_
    refine kVi (As := []) (rest := []) ⟨hx, hb, hml, hown, hts⟩ (c_W_number l D cs (sh a 9) _ (g_CY_wd σ) hw) (cwV 0 hts gX3_tell_X2_number rfl rfl rfl (by decide +kernel) ⟨Nat.le_of_ble_eq_true rfl, Nat.le_of_ble_eq_true rfl⟩) (pt_CY_wd cs a σ) hK hP hD hS hA (ci := 2) rfl rfl rfl rfl hl.1 rfl (Nat.le_of_ble_eq_true rfl) dX3_tell_47 ⟨Nat.zero_le _, Nat.zero_le _⟩ (fun r47 u47 H locs hw hP hD hS => ?_)
    have hP : va_P D vwCl (ws_CY cs a (s_CY_wd σ u47)) H := hP
    have hD : va_D A (ws_CY cs a (s_CY_wd σ u47)) := hD
    refine lv_bipush (v := (8 : Int32)) hx hb dX3_tell_50 (by decide) ?_
    refine lv_icmp_lt (tgt := 65) hx hb dX3_tell_52 (by decide) (fun c52 => ?_) (fun c52 => ?_)
    · have hw := hw.1 c52
      refine lv_aload_n hx hb dX3_tell_65 rfl (lv_at hl 0 rfl) ?_
      refine va_get (D := D) (ci := 3) (v := .ref (a 9)) (C := RX3) (T := TX3) (N := 12) hx hb hts hinX3 hown hK hP 0 rfl rfl 2 (by decide) hf22 (fun _ h9 => h9) rfl dX3_tell_66 ?_
      refine lv_iload_n hx hb dX3_tell_69 rfl (lv_at hl 1 rfl) ?_
      refine lv_iload_n hx hb dX3_tell_70 rfl (lv_at hl 2 rfl) ?_
      refine lv_iload_n hx hb dX3_tell_71 rfl (lv_at hl 3 rfl) ?_
      refine lv_iload hx hb dX3_tell_72 (lv_at hl 4 rfl) ?_
      refine kVi (As := [.int x1, .int x2, .int x3, .int x4]) (rest := []) ⟨hx, hb, hml, hown, hts⟩ (c_W_add l D cs (sh a 9) _ (g_CY_wd (s_CY_wd σ u47)) x1 x2 x3 x4 hw) (cwV 4 hts gX3_tell_X2_add rfl rfl rfl (by decide +kernel) ⟨Nat.le_of_ble_eq_true rfl, Nat.le_of_ble_eq_true rfl⟩) (pt_CY_wd cs a (s_CY_wd σ u47)) hK hP hD hS hA (ci := 2) rfl rfl rfl rfl hl.1 rfl (Nat.le_of_ble_eq_true rfl) dX3_tell_74 ⟨Nat.zero_le _, Nat.zero_le _⟩ (fun r74 u74 H locs hw hP hD hS => ?_)
      have hP : va_P D vwCl (ws_CY cs a (s_CY_wd (s_CY_wd σ u47) u74)) H := hP
      have hD : va_D A (ws_CY cs a (s_CY_wd (s_CY_wd σ u47) u74)) := hD
      refine lv_istore (lv' := [(5, .int r74), (0, .ref (a 0)), (1, .int x1), (2, .int x2), (3, .int x3), (4, .int x4)]) hx hb dX3_tell_77 hl (by decide) rfl (fun ls hl => ?_)
      refine lv_aload_n hx hb dX3_tell_79 rfl (lv_at hl 1 rfl) ?_
      refine kVv (As := []) (rest := []) ⟨hx, hb, hml, hown, hts⟩ (c_C_payWords l D cs a _ (s_CY_wd (s_CY_wd σ u47) u74) hw) (cwV 0 hts gX3_tell_X3_payWords rfl rfl rfl (by decide +kernel) ⟨Nat.le_of_ble_eq_true rfl, Nat.le_of_ble_eq_true rfl⟩) (pt_self_CY cs a (s_CY_wd (s_CY_wd σ u47) u74)) hK hP hD hS hA (ci := 3) rfl rfl rfl rfl hl.1 rfl (Nat.le_of_ble_eq_true rfl) dX3_tell_80 ⟨Nat.zero_le _, Nat.zero_le _⟩ (fun u80 H locs hw hP hD hS => ?_)
      have hP : va_P D vwCl (ws_CY cs a u80) H := hP
      have hD : va_D A (ws_CY cs a u80) := hD
      refine lv_iload hx hb dX3_tell_83 (lv_at hl 0 rfl) ?_
      exact rI (wf := (ws_CY cs a)) (u := u80) hx hb hr hlocks hK hP hD hS hw dX3_tell_85
    · have hw := hw.2 c52
      exact (show False from hw).elim
  have B17 : ∀ (x1 : Int32) (x2 : Int32) (x3 : Int32) (x4 : Int32) (σ : CY), b_C_tell_17 Φ (fun _ _ => False) x1 x2 x3 x4 σ → At p l e (headSpec wsX3_tell rm0_C_tell).room s m ([.ref (a 0), .int p1, .int p2, .int p3, .int p4] : List Value).toArray below meth c (MQ below (va_Qi Φ (BG D cs A s.heap.size (ws_CY cs a)) A) ([.ref (a 0), .int p1, .int p2, .int p3, .int p4] : List Value).toArray s 0 0 A) D A 6 [(0, .ref (a 0)), (1, .int x1), (2, .int x2), (3, .int x3), (4, .int x4)] (ws_CY cs a σ) 17 [] := by
    intro x1 x2 x3 x4 σ hw H locs ls hl hP hD hS
    unfold b_C_tell_17 at hw
    refine lv_iload hx hb dX3_tell_17 (lv_at hl 4 rfl) ?_
    refine lv_iconst (v := (-1 : Int32)) hx hb dX3_tell_19 (by decide) ?_
    refine lv_icmp_eq (tgt := 43) hx hb dX3_tell_20 (by decide) (fun c20 => ?_) (fun c20 => ?_)
    · have hw := hw.1 c20
      exact B43 _ _ _ _ _ hw _ _ ls (lv_sub hl [0, 1, 2, 3, 4] rfl) hP hD hS
    · have hw := hw.2 c20
      refine lv_iload hx hb dX3_tell_23 (lv_at hl 4 rfl) ?_
      refine kSv (As := [.int x4]) (rest := []) ⟨hx, hb, hml, hown, hts⟩ (c0_C_requireLetter l D cs a _ x4 hw) (va_cwS 1 hts gX3_tell_X3_requireLetter rfl rfl rfl (by decide +kernel) ⟨Nat.le_of_ble_eq_true rfl, Nat.le_of_ble_eq_true rfl⟩) (pt_un_CY cs a σ) hK hP hD hS hA rfl hl.1 rfl (Nat.le_of_ble_eq_true rfl) dX3_tell_25 ⟨Nat.zero_le _, Nat.zero_le _⟩ (fun u25 H locs hw hP hD hS => ?_)
      have hP : va_P D vwCl (ws_CY cs a σ) H := hP
      have hD : va_D A (ws_CY cs a σ) := hD
      refine lv_iload_n hx hb dX3_tell_28 rfl (lv_at hl 3 rfl) ?_
      refine lv_iconst (v := (-1 : Int32)) hx hb dX3_tell_29 (by decide) ?_
      refine lv_icmp_ne (tgt := 43) hx hb dX3_tell_30 (by decide) (fun c30 => ?_) (fun c30 => ?_)
      · have hw := hw.2 c30
        exact B43 _ _ _ _ _ hw _ _ ls (lv_sub hl [0, 1, 2, 3, 4] rfl) hP hD hS
      · have hw := hw.1 c30
        exact (show False from hw).elim
  have hl := lv_entry ([.ref (a 0), .int p1, .int p2, .int p3, .int p4]) (n := 6) (Nat.le_of_ble_eq_true rfl)
  rw [lg_entry_eq]
  generalize (lg_sl ([.ref (a 0), .int p1, .int p2, .int p3, .int p4]) ++ List.replicate (6 - (lg_sl ([.ref (a 0), .int p1, .int p2, .int p3, .int p4])).length) Slot.unset).toArray = ls at hl ⊢
  have hl : lv_has ls 6 [(0, .ref (a 0)), (1, .int p1), (2, .int p2), (3, .int p3), (4, .int p4)] := hl
  unfold w_C_tell at hw
  refine lv_iload_n hx hb dX3_tell_0 rfl (lv_at hl 1 rfl) ?_
  refine kSv (As := [.int p1]) (rest := []) ⟨hx, hb, hml, hown, hts⟩ (c0_C_requireLetter l D cs a _ p1 hw) (va_cwS 1 hts gX3_tell_X3_requireLetter rfl rfl rfl (by decide +kernel) ⟨Nat.le_of_ble_eq_true rfl, Nat.le_of_ble_eq_true rfl⟩) (pt_un_CY cs a σ) hK hP hD hS hA rfl hl.1 rfl (Nat.le_of_ble_eq_true rfl) dX3_tell_1 ⟨Nat.zero_le _, Nat.zero_le _⟩ (fun u1 H locs hw hP hD hS => ?_)
  have hP : va_P D vwCl (ws_CY cs a σ) H := hP
  have hD : va_D A (ws_CY cs a σ) := hD
  refine lv_iload_n hx hb dX3_tell_4 rfl (lv_at hl 2 rfl) ?_
  refine kSv (As := [.int p2]) (rest := []) ⟨hx, hb, hml, hown, hts⟩ (c0_C_requireLetter l D cs a _ p2 hw) (va_cwS 1 hts gX3_tell_X3_requireLetter rfl rfl rfl (by decide +kernel) ⟨Nat.le_of_ble_eq_true rfl, Nat.le_of_ble_eq_true rfl⟩) (pt_un_CY cs a σ) hK hP hD hS hA rfl hl.1 rfl (Nat.le_of_ble_eq_true rfl) dX3_tell_5 ⟨Nat.zero_le _, Nat.zero_le _⟩ (fun u5 H locs hw hP hD hS => ?_)
  have hP : va_P D vwCl (ws_CY cs a σ) H := hP
  have hD : va_D A (ws_CY cs a σ) := hD
  refine lv_iload_n hx hb dX3_tell_8 rfl (lv_at hl 3 rfl) ?_
  refine lv_iconst (v := (-1 : Int32)) hx hb dX3_tell_9 (by decide) ?_
  refine lv_icmp_eq (tgt := 17) hx hb dX3_tell_10 (by decide) (fun c10 => ?_) (fun c10 => ?_)
  · have hw := hw.1 c10
    exact B17 _ _ _ _ _ hw _ _ ls (lv_sub hl [0, 1, 2, 3, 4] rfl) hP hD hS
  · have hw := hw.2 c10
    refine lv_iload_n hx hb dX3_tell_13 rfl (lv_at hl 3 rfl) ?_
    refine kSv (As := [.int p3]) (rest := []) ⟨hx, hb, hml, hown, hts⟩ (c0_C_requireLetter l D cs a _ p3 hw) (va_cwS 1 hts gX3_tell_X3_requireLetter rfl rfl rfl (by decide +kernel) ⟨Nat.le_of_ble_eq_true rfl, Nat.le_of_ble_eq_true rfl⟩) (pt_un_CY cs a σ) hK hP hD hS hA rfl hl.1 rfl (Nat.le_of_ble_eq_true rfl) dX3_tell_14 ⟨Nat.zero_le _, Nat.zero_le _⟩ (fun u14 H locs hw hP hD hS => ?_)
    have hP : va_P D vwCl (ws_CY cs a σ) H := hP
    have hD : va_D A (ws_CY cs a σ) := hD
    exact B17 _ _ _ _ _ hw H locs ls (lv_sub hl [0, 1, 2, 3, 4] rfl) hP hD hS
abbrev rm0_C_offer : Room := { frames := 7, cells := 0, slots := 0, locals := 113 }
set_option maxHeartbeats 4000000 in
set_option maxRecDepth 100000 in
theorem c0_C_offer (l : Launch) (D : va_G) (cs : CS) (a : Nat → Nat) (sz : Nat) (σ : CY) (p1 : Int32) (p2 : Int32) {Φ : Int32 → CY → Prop} (hw : w_C_offer σ p1 p2 Φ (fun _ _ => False)) : Met l yX3_offer wsX3_offer rm0_C_offer (PcG [.ref (a 0), .int p1, .int p2] D cs (ws_CY cs a σ) sz) (va_Qi Φ (BG D cs (va_A (ws_CY cs a σ) sz) sz (ws_CY cs a)) (va_A (ws_CY cs a σ) sz)) 0 0 (va_A (ws_CY cs a σ) sz) := by
  refine Met.ofW (cc := cX3_offer) (maxL := 3) (ret := (some .int)) (by decide) rfl ?_
  intro p e s m args below meth c s₁ B hml hv
  obtain ⟨rfl, hsz, hP, hK, hD0⟩ := hv
  have hx := B.exec
  have hb := B.bytes
  have hr := B.returns
  have hts := atoms_spec (ws := wsX3_offer) B.pre
  have hown : s.vm.findClass RX3 = some m.cls := findClass_of_methodNamed B.named
  have hlocks := B.notSynchronized
  subst hsz
  have hD := hD0.self (sz := s.heap.size)
  generalize hAe : va_A (ws_CY cs a σ) s.heap.size = A at hD ⊢
  have hA : ∀ q : Nat, s.heap.size ≤ q → A q := fun q h => by rw [← hAe]; exact Or.inr h
  have hS : va_S A s.heap s.heap [] := va_S.rf
  have hf29 : (Cond.fieldLink RX3 29 "CraneYard" "hauls" "LCraneYard$Hauls;").before ([.ref (a 0), .int p1, .int p2] : List Value).toArray s = true := hts _ (List.mem_of_getElem? (i := 6) rfl)
  have hf50 : (Cond.fieldLink RX3 50 "CraneYard" "day" "I").before ([.ref (a 0), .int p1, .int p2] : List Value).toArray s = true := hts _ (List.mem_of_getElem? (i := 5) rfl)
  have hinX3 : ∀ w ∈ wsX30, w ∈ wsX3_offer := fun _ h => List.mem_cons_of_mem _ (List.mem_append_left _ (List.mem_append_left _ (List.mem_append_left _ (List.mem_append_left _ (List.mem_append_left _ (List.mem_append_right _ h))))))
  have hP : va_P D vwCl (ws_CY cs a σ) s.heap := hP
  have B24 : ∀ (σ : CY), b_C_offer_24 Φ (fun _ _ => False) σ → At p l e (headSpec wsX3_offer rm0_C_offer).room s m ([.ref (a 0), .int p1, .int p2] : List Value).toArray below meth c (MQ below (va_Qi Φ (BG D cs A s.heap.size (ws_CY cs a)) A) ([.ref (a 0), .int p1, .int p2] : List Value).toArray s 0 0 A) D A 3 [] (ws_CY cs a σ) 24 [] := by
    intro σ hw H locs ls hl hP hD hS
    unfold b_C_offer_24 at hw
    exact (show False from hw).elim
  have hl := lv_entry ([.ref (a 0), .int p1, .int p2]) (n := 3) (Nat.le_of_ble_eq_true rfl)
  rw [lg_entry_eq]
  generalize (lg_sl ([.ref (a 0), .int p1, .int p2]) ++ List.replicate (3 - (lg_sl ([.ref (a 0), .int p1, .int p2])).length) Slot.unset).toArray = ls at hl ⊢
  have hl : lv_has ls 3 [(0, .ref (a 0)), (1, .int p1), (2, .int p2)] := hl
  unfold w_C_offer at hw
  refine lv_aload_n hx hb dX3_offer_0 rfl (lv_at hl 0 rfl) ?_
  refine lv_iload_n hx hb dX3_offer_1 rfl (lv_at hl 1 rfl) ?_
  refine kVv (As := [.int p1]) (rest := []) ⟨hx, hb, hml, hown, hts⟩ (c0_C_requireCrate l D cs a _ σ p1 hw) (cwV 1 hts gX3_offer_X3_requireCrate rfl rfl rfl (by decide +kernel) ⟨Nat.le_of_ble_eq_true rfl, Nat.le_of_ble_eq_true rfl⟩) (pt_self_CY cs a σ) hK hP hD hS hA (ci := 3) rfl rfl rfl rfl hl.1 rfl (Nat.le_of_ble_eq_true rfl) dX3_offer_2 ⟨Nat.zero_le _, Nat.zero_le _⟩ (fun u2 H locs hw hP hD hS => ?_)
  have hP : va_P D vwCl (ws_CY cs a u2) H := hP
  have hD : va_D A (ws_CY cs a u2) := hD
  refine lv_iload_n hx hb dX3_offer_5 rfl (lv_at hl 2 rfl) ?_
  refine lv_aload_n hx hb dX3_offer_6 rfl (lv_at hl 0 rfl) ?_
  refine va_get (D := D) (ci := 3) (v := .int (g_CY_day u2)) (C := RX3) (T := TX3) (N := 12) hx hb hts hinX3 hown hK hP 0 rfl rfl 9 (by decide) hf50 (fun _ h9 => h9) rfl dX3_offer_7 ?_
  refine lv_icmp_lt (tgt := 24) hx hb dX3_offer_10 (by decide) (fun c10 => ?_) (fun c10 => ?_)
  · have hw := hw.1 c10
    exact B24 _ hw _ _ ls (lv_sub hl [] rfl) hP hD hS
  · have hw := hw.2 c10
    refine lv_iload_n hx hb dX3_offer_13 rfl (lv_at hl 2 rfl) ?_
    refine lv_aload_n hx hb dX3_offer_14 rfl (lv_at hl 0 rfl) ?_
    refine va_get (D := D) (ci := 3) (v := .int (g_CY_day u2)) (C := RX3) (T := TX3) (N := 12) hx hb hts hinX3 hown hK hP 0 rfl rfl 9 (by decide) hf50 (fun _ h9 => h9) rfl dX3_offer_15 ?_
    refine lv_bipush (v := (100 : Int32)) hx hb dX3_offer_18 (by decide) ?_
    refine lv_iadd hx hb dX3_offer_20 ?_
    refine lv_icmp_le (tgt := 34) hx hb dX3_offer_21 (by decide) (fun c21 => ?_) (fun c21 => ?_)
    · have hw := hw.1 c21
      refine lv_aload_n hx hb dX3_offer_34 rfl (lv_at hl 0 rfl) ?_
      refine lv_iload_n hx hb dX3_offer_35 rfl (lv_at hl 1 rfl) ?_
      refine kVv (As := [.int p1]) (rest := []) ⟨hx, hb, hml, hown, hts⟩ (c0_C_requireInStack l D cs a _ u2 p1 hw) (cwV 1 hts gX3_offer_X3_requireInStack rfl rfl rfl (by decide +kernel) ⟨Nat.le_of_ble_eq_true rfl, Nat.le_of_ble_eq_true rfl⟩) (pt_self_CY cs a u2) hK hP hD hS hA (ci := 3) rfl rfl rfl rfl hl.1 rfl (Nat.le_of_ble_eq_true rfl) dX3_offer_36 ⟨Nat.zero_le _, Nat.zero_le _⟩ (fun u36 H locs hw hP hD hS => ?_)
      have hP : va_P D vwCl (ws_CY cs a u36) H := hP
      have hD : va_D A (ws_CY cs a u36) := hD
      refine lv_aload_n hx hb dX3_offer_39 rfl (lv_at hl 0 rfl) ?_
      refine va_get (D := D) (ci := 3) (v := .ref (a 13)) (C := RX3) (T := TX3) (N := 12) hx hb hts hinX3 hown hK hP 0 rfl rfl 3 (by decide) hf29 (fun _ h9 => h9) rfl dX3_offer_40 ?_
      refine lv_iload_n hx hb dX3_offer_43 rfl (lv_at hl 1 rfl) ?_
      refine kVi (As := [.int p1]) (rest := []) ⟨hx, hb, hml, hown, hts⟩ (c_H_openHaulOf l D cs (sh a 13) _ (g_CY_hl u36) p1 hw) (cwV 1 hts gX3_offer_X0_openHaulOf rfl rfl rfl (by decide +kernel) ⟨Nat.le_of_ble_eq_true rfl, Nat.le_of_ble_eq_true rfl⟩) (pt_CY_hl cs a u36) hK hP hD hS hA (ci := 0) rfl rfl rfl rfl hl.1 rfl (Nat.le_of_ble_eq_true rfl) dX3_offer_44 ⟨Nat.zero_le _, Nat.zero_le _⟩ (fun r44 u44 H locs hw hP hD hS => ?_)
      have hP : va_P D vwCl (ws_CY cs a (s_CY_hl u36 u44)) H := hP
      have hD : va_D A (ws_CY cs a (s_CY_hl u36 u44)) := hD
      refine lv_iconst (v := (-1 : Int32)) hx hb dX3_offer_47 (by decide) ?_
      refine lv_icmp_eq (tgt := 61) hx hb dX3_offer_48 (by decide) (fun c48 => ?_) (fun c48 => ?_)
      · have hw := hw.1 c48
        refine lv_aload_n hx hb dX3_offer_61 rfl (lv_at hl 0 rfl) ?_
        refine va_get (D := D) (ci := 3) (v := .ref (a 13)) (C := RX3) (T := TX3) (N := 12) hx hb hts hinX3 hown hK hP 0 rfl rfl 3 (by decide) hf29 (fun _ h9 => h9) rfl dX3_offer_62 ?_
        refine kVi (As := []) (rest := []) ⟨hx, hb, hml, hown, hts⟩ (c_H_number l D cs (sh a 13) _ (g_CY_hl (s_CY_hl u36 u44)) hw) (cwV 0 hts gX3_offer_X0_number rfl rfl rfl (by decide +kernel) ⟨Nat.le_of_ble_eq_true rfl, Nat.le_of_ble_eq_true rfl⟩) (pt_CY_hl cs a (s_CY_hl u36 u44)) hK hP hD hS hA (ci := 0) rfl rfl rfl rfl hl.1 rfl (Nat.le_of_ble_eq_true rfl) dX3_offer_65 ⟨Nat.zero_le _, Nat.zero_le _⟩ (fun r65 u65 H locs hw hP hD hS => ?_)
        have hP : va_P D vwCl (ws_CY cs a (s_CY_hl (s_CY_hl u36 u44) u65)) H := hP
        have hD : va_D A (ws_CY cs a (s_CY_hl (s_CY_hl u36 u44) u65)) := hD
        refine lv_bipush (v := (20 : Int32)) hx hb dX3_offer_68 (by decide) ?_
        refine lv_icmp_lt (tgt := 83) hx hb dX3_offer_70 (by decide) (fun c70 => ?_) (fun c70 => ?_)
        · have hw := hw.1 c70
          refine lv_aload_n hx hb dX3_offer_83 rfl (lv_at hl 0 rfl) ?_
          refine va_get (D := D) (ci := 3) (v := .ref (a 13)) (C := RX3) (T := TX3) (N := 12) hx hb hts hinX3 hown hK hP 0 rfl rfl 3 (by decide) hf29 (fun _ h9 => h9) rfl dX3_offer_84 ?_
          refine lv_iload_n hx hb dX3_offer_87 rfl (lv_at hl 1 rfl) ?_
          refine lv_iload_n hx hb dX3_offer_88 rfl (lv_at hl 2 rfl) ?_
          refine kVi (As := [.int p1, .int p2]) (rest := []) ⟨hx, hb, hml, hown, hts⟩ (c_H_add l D cs (sh a 13) _ (g_CY_hl (s_CY_hl (s_CY_hl u36 u44) u65)) p1 p2 hw) (cwV 2 hts gX3_offer_X0_add rfl rfl rfl (by decide +kernel) ⟨Nat.le_of_ble_eq_true rfl, Nat.le_of_ble_eq_true rfl⟩) (pt_CY_hl cs a (s_CY_hl (s_CY_hl u36 u44) u65)) hK hP hD hS hA (ci := 0) rfl rfl rfl rfl hl.1 rfl (Nat.le_of_ble_eq_true rfl) dX3_offer_89 ⟨Nat.zero_le _, Nat.zero_le _⟩ (fun r89 u89 H locs hw hP hD hS => ?_)
          have hP : va_P D vwCl (ws_CY cs a (s_CY_hl (s_CY_hl (s_CY_hl u36 u44) u65) u89)) H := hP
          have hD : va_D A (ws_CY cs a (s_CY_hl (s_CY_hl (s_CY_hl u36 u44) u65) u89)) := hD
          exact rI (wf := (ws_CY cs a)) (u := (s_CY_hl (s_CY_hl (s_CY_hl u36 u44) u65) u89)) hx hb hr hlocks hK hP hD hS hw dX3_offer_92
        · have hw := hw.2 c70
          exact (show False from hw).elim
      · have hw := hw.2 c48
        exact (show False from hw).elim
    · have hw := hw.2 c21
      exact B24 _ hw _ _ ls (lv_sub hl [] rfl) hP hD hS
abbrev rm0_C_requireHaul : Room := { frames := 6, cells := 0, slots := 0, locals := 92 }
set_option maxHeartbeats 4000000 in
set_option maxRecDepth 100000 in
theorem c0_C_requireHaul (l : Launch) (D : va_G) (cs : CS) (a : Nat → Nat) (sz : Nat) (σ : CY) (p1 : Int32) {Φ : CY → Prop} (hw : w_C_requireHaul σ p1 Φ (fun _ _ => False)) : Met l yX3_requireHaul wsX3_requireHaul rm0_C_requireHaul (PcG [.ref (a 0), .int p1] D cs (ws_CY cs a σ) sz) (va_Qv Φ (BG D cs (va_A (ws_CY cs a σ) sz) sz (ws_CY cs a)) (va_A (ws_CY cs a σ) sz)) 0 0 (va_A (ws_CY cs a σ) sz) := by
  refine Met.ofW (cc := cX3_requireHaul) (maxL := 2) (ret := none) (by decide) rfl ?_
  intro p e s m args below meth c s₁ B hml hv
  obtain ⟨rfl, hsz, hP, hK, hD0⟩ := hv
  have hx := B.exec
  have hb := B.bytes
  have hr := B.returns
  have hts := atoms_spec (ws := wsX3_requireHaul) B.pre
  have hown : s.vm.findClass RX3 = some m.cls := findClass_of_methodNamed B.named
  have hlocks := B.notSynchronized
  subst hsz
  have hD := hD0.self (sz := s.heap.size)
  generalize hAe : va_A (ws_CY cs a σ) s.heap.size = A at hD ⊢
  have hA : ∀ q : Nat, s.heap.size ≤ q → A q := fun q h => by rw [← hAe]; exact Or.inr h
  have hS : va_S A s.heap s.heap [] := va_S.rf
  have hf29 : (Cond.fieldLink RX3 29 "CraneYard" "hauls" "LCraneYard$Hauls;").before ([.ref (a 0), .int p1] : List Value).toArray s = true := hts _ (List.mem_of_getElem? (i := 3) rfl)
  have hinX3 : ∀ w ∈ wsX30, w ∈ wsX3_requireHaul := fun _ h => List.mem_cons_of_mem _ (List.mem_append_left _ (List.mem_append_left _ (List.mem_append_right _ h)))
  have hP : va_P D vwCl (ws_CY cs a σ) s.heap := hP
  have B15 : ∀ (σ : CY), b_C_requireHaul_15 Φ (fun _ _ => False) σ → At p l e (headSpec wsX3_requireHaul rm0_C_requireHaul).room s m ([.ref (a 0), .int p1] : List Value).toArray below meth c (MQ below (va_Qv Φ (BG D cs A s.heap.size (ws_CY cs a)) A) ([.ref (a 0), .int p1] : List Value).toArray s 0 0 A) D A 2 [] (ws_CY cs a σ) 15 [] := by
    intro σ hw H locs ls hl hP hD hS
    unfold b_C_requireHaul_15 at hw
    exact (show False from hw).elim
  have hl := lv_entry ([.ref (a 0), .int p1]) (n := 2) (Nat.le_of_ble_eq_true rfl)
  rw [lg_entry_eq]
  generalize (lg_sl ([.ref (a 0), .int p1]) ++ List.replicate (2 - (lg_sl ([.ref (a 0), .int p1])).length) Slot.unset).toArray = ls at hl ⊢
  have hl : lv_has ls 2 [(0, .ref (a 0)), (1, .int p1)] := hl
  unfold w_C_requireHaul at hw
  refine lv_iload_n hx hb dX3_requireHaul_0 rfl (lv_at hl 1 rfl) ?_
  refine lv_if_lt (tgt := 15) hx hb dX3_requireHaul_1 (by decide) (fun c1 => ?_) (fun c1 => ?_)
  · have hw := hw.1 c1
    exact B15 _ hw _ _ ls (lv_sub hl [] rfl) hP hD hS
  · have hw := hw.2 c1
    refine lv_iload_n hx hb dX3_requireHaul_4 rfl (lv_at hl 1 rfl) ?_
    refine lv_aload_n hx hb dX3_requireHaul_5 rfl (lv_at hl 0 rfl) ?_
    refine va_get (D := D) (ci := 3) (v := .ref (a 13)) (C := RX3) (T := TX3) (N := 12) hx hb hts hinX3 hown hK hP 0 rfl rfl 3 (by decide) hf29 (fun _ h9 => h9) rfl dX3_requireHaul_6 ?_
    refine kVi (As := []) (rest := [.int p1]) ⟨hx, hb, hml, hown, hts⟩ (c_H_number l D cs (sh a 13) _ (g_CY_hl σ) hw) (cwV 0 hts gX3_requireHaul_X0_number rfl rfl rfl (by decide +kernel) ⟨Nat.le_of_ble_eq_true rfl, Nat.le_of_ble_eq_true rfl⟩) (pt_CY_hl cs a σ) hK hP hD hS hA (ci := 0) rfl rfl rfl rfl hl.1 rfl (Nat.le_of_ble_eq_true rfl) dX3_requireHaul_9 ⟨Nat.zero_le _, Nat.zero_le _⟩ (fun r9 u9 H locs hw hP hD hS => ?_)
    have hP : va_P D vwCl (ws_CY cs a (s_CY_hl σ u9)) H := hP
    have hD : va_D A (ws_CY cs a (s_CY_hl σ u9)) := hD
    refine lv_icmp_lt (tgt := 25) hx hb dX3_requireHaul_12 (by decide) (fun c12 => ?_) (fun c12 => ?_)
    · have hw := hw.1 c12
      exact rV (wf := (ws_CY cs a)) (u := (s_CY_hl σ u9)) hx hb hr hlocks hK hP hD hS hw dX3_requireHaul_25
    · have hw := hw.2 c12
      exact B15 _ hw _ _ ls (lv_sub hl [] rfl) hP hD hS
abbrev rm0_C_requireOffered : Room := { frames := 6, cells := 0, slots := 0, locals := 92 }
set_option maxHeartbeats 4000000 in
set_option maxRecDepth 100000 in
theorem c0_C_requireOffered (l : Launch) (D : va_G) (cs : CS) (a : Nat → Nat) (sz : Nat) (σ : CY) (p1 : Int32) {Φ : CY → Prop} (hw : w_C_requireOffered σ p1 Φ (fun _ _ => False)) : Met l yX3_requireOffered wsX3_requireOffered rm0_C_requireOffered (PcG [.ref (a 0), .int p1] D cs (ws_CY cs a σ) sz) (va_Qv Φ (BG D cs (va_A (ws_CY cs a σ) sz) sz (ws_CY cs a)) (va_A (ws_CY cs a σ) sz)) 0 0 (va_A (ws_CY cs a σ) sz) := by
  refine Met.ofW (cc := cX3_requireOffered) (maxL := 2) (ret := none) (by decide) rfl ?_
  intro p e s m args below meth c s₁ B hml hv
  obtain ⟨rfl, hsz, hP, hK, hD0⟩ := hv
  have hx := B.exec
  have hb := B.bytes
  have hr := B.returns
  have hts := atoms_spec (ws := wsX3_requireOffered) B.pre
  have hown : s.vm.findClass RX3 = some m.cls := findClass_of_methodNamed B.named
  have hlocks := B.notSynchronized
  subst hsz
  have hD := hD0.self (sz := s.heap.size)
  generalize hAe : va_A (ws_CY cs a σ) s.heap.size = A at hD ⊢
  have hA : ∀ q : Nat, s.heap.size ≤ q → A q := fun q h => by rw [← hAe]; exact Or.inr h
  have hS : va_S A s.heap s.heap [] := va_S.rf
  have hf29 : (Cond.fieldLink RX3 29 "CraneYard" "hauls" "LCraneYard$Hauls;").before ([.ref (a 0), .int p1] : List Value).toArray s = true := hts _ (List.mem_of_getElem? (i := 3) rfl)
  have hinX3 : ∀ w ∈ wsX30, w ∈ wsX3_requireOffered := fun _ h => List.mem_cons_of_mem _ (List.mem_append_left _ (List.mem_append_left _ (List.mem_append_right _ h)))
  have hP : va_P D vwCl (ws_CY cs a σ) s.heap := hP
  have hl := lv_entry ([.ref (a 0), .int p1]) (n := 2) (Nat.le_of_ble_eq_true rfl)
  rw [lg_entry_eq]
  generalize (lg_sl ([.ref (a 0), .int p1]) ++ List.replicate (2 - (lg_sl ([.ref (a 0), .int p1])).length) Slot.unset).toArray = ls at hl ⊢
  have hl : lv_has ls 2 [(0, .ref (a 0)), (1, .int p1)] := hl
  unfold w_C_requireOffered at hw
  refine lv_aload_n hx hb dX3_requireOffered_0 rfl (lv_at hl 0 rfl) ?_
  refine va_get (D := D) (ci := 3) (v := .ref (a 13)) (C := RX3) (T := TX3) (N := 12) hx hb hts hinX3 hown hK hP 0 rfl rfl 3 (by decide) hf29 (fun _ h9 => h9) rfl dX3_requireOffered_1 ?_
  refine lv_iload_n hx hb dX3_requireOffered_4 rfl (lv_at hl 1 rfl) ?_
  refine kVi (As := [.int p1]) (rest := []) ⟨hx, hb, hml, hown, hts⟩ (c_H_stateOf l D cs (sh a 13) _ (g_CY_hl σ) p1 hw) (cwV 1 hts gX3_requireOffered_X0_stateOf rfl rfl rfl (by decide +kernel) ⟨Nat.le_of_ble_eq_true rfl, Nat.le_of_ble_eq_true rfl⟩) (pt_CY_hl cs a σ) hK hP hD hS hA (ci := 0) rfl rfl rfl rfl hl.1 rfl (Nat.le_of_ble_eq_true rfl) dX3_requireOffered_5 ⟨Nat.zero_le _, Nat.zero_le _⟩ (fun r5 u5 H locs hw hP hD hS => ?_)
  have hP : va_P D vwCl (ws_CY cs a (s_CY_hl σ u5)) H := hP
  have hD : va_D A (ws_CY cs a (s_CY_hl σ u5)) := hD
  refine lv_if_eq (tgt := 21) hx hb dX3_requireOffered_8 (by decide) (fun c8 => ?_) (fun c8 => ?_)
  · have hw := hw.1 c8
    exact rV (wf := (ws_CY cs a)) (u := (s_CY_hl σ u5)) hx hb hr hlocks hK hP hD hS hw dX3_requireOffered_21
  · have hw := hw.2 c8
    exact (show False from hw).elim
abbrev rm0_C_bid : Room := { frames := 7, cells := 0, slots := 0, locals := 113 }
set_option maxHeartbeats 4000000 in
set_option maxRecDepth 100000 in
theorem c0_C_bid (l : Launch) (D : va_G) (cs : CS) (a : Nat → Nat) (sz : Nat) (σ : CY) (p1 : Int32) (p2 : Int32) (p3 : Int32) {Φ : CY → Prop} (hw : w_C_bid σ p1 p2 p3 Φ (fun _ _ => False)) : Met l yX3_bid wsX3_bid rm0_C_bid (PcG [.ref (a 0), .int p1, .int p2, .int p3] D cs (ws_CY cs a σ) sz) (va_Qv Φ (BG D cs (va_A (ws_CY cs a σ) sz) sz (ws_CY cs a)) (va_A (ws_CY cs a σ) sz)) 0 0 (va_A (ws_CY cs a σ) sz) := by
  refine Met.ofW (cc := cX3_bid) (maxL := 4) (ret := none) (by decide) rfl ?_
  intro p e s m args below meth c s₁ B hml hv
  obtain ⟨rfl, hsz, hP, hK, hD0⟩ := hv
  have hx := B.exec
  have hb := B.bytes
  have hr := B.returns
  have hts := atoms_spec (ws := wsX3_bid) B.pre
  have hown : s.vm.findClass RX3 = some m.cls := findClass_of_methodNamed B.named
  have hlocks := B.notSynchronized
  subst hsz
  have hD := hD0.self (sz := s.heap.size)
  generalize hAe : va_A (ws_CY cs a σ) s.heap.size = A at hD ⊢
  have hA : ∀ q : Nat, s.heap.size ≤ q → A q := fun q h => by rw [← hAe]; exact Or.inr h
  have hS : va_S A s.heap s.heap [] := va_S.rf
  have hf29 : (Cond.fieldLink RX3 29 "CraneYard" "hauls" "LCraneYard$Hauls;").before ([.ref (a 0), .int p1, .int p2, .int p3] : List Value).toArray s = true := hts _ (List.mem_of_getElem? (i := 5) rfl)
  have hinX3 : ∀ w ∈ wsX30, w ∈ wsX3_bid := fun _ h => List.mem_cons_of_mem _ (List.mem_append_left _ (List.mem_append_left _ (List.mem_append_left _ (List.mem_append_left _ (List.mem_append_right _ h)))))
  have hP : va_P D vwCl (ws_CY cs a σ) s.heap := hP
  have B36 : ∀ (σ : CY), b_C_bid_36 Φ (fun _ _ => False) σ → At p l e (headSpec wsX3_bid rm0_C_bid).room s m ([.ref (a 0), .int p1, .int p2, .int p3] : List Value).toArray below meth c (MQ below (va_Qv Φ (BG D cs A s.heap.size (ws_CY cs a)) A) ([.ref (a 0), .int p1, .int p2, .int p3] : List Value).toArray s 0 0 A) D A 4 [] (ws_CY cs a σ) 36 [] := by
    intro σ hw H locs ls hl hP hD hS
    unfold b_C_bid_36 at hw
    exact (show False from hw).elim
  have B14 : ∀ (σ : CY), b_C_bid_14 Φ (fun _ _ => False) σ → At p l e (headSpec wsX3_bid rm0_C_bid).room s m ([.ref (a 0), .int p1, .int p2, .int p3] : List Value).toArray below meth c (MQ below (va_Qv Φ (BG D cs A s.heap.size (ws_CY cs a)) A) ([.ref (a 0), .int p1, .int p2, .int p3] : List Value).toArray s 0 0 A) D A 4 [] (ws_CY cs a σ) 14 [] := by
    intro σ hw H locs ls hl hP hD hS
    unfold b_C_bid_14 at hw
    exact (show False from hw).elim
  have hl := lv_entry ([.ref (a 0), .int p1, .int p2, .int p3]) (n := 4) (Nat.le_of_ble_eq_true rfl)
  rw [lg_entry_eq]
  generalize (lg_sl ([.ref (a 0), .int p1, .int p2, .int p3]) ++ List.replicate (4 - (lg_sl ([.ref (a 0), .int p1, .int p2, .int p3])).length) Slot.unset).toArray = ls at hl ⊢
  have hl : lv_has ls 4 [(0, .ref (a 0)), (1, .int p1), (2, .int p2), (3, .int p3)] := hl
  unfold w_C_bid at hw
  refine lv_aload_n hx hb dX3_bid_0 rfl (lv_at hl 0 rfl) ?_
  refine lv_iload_n hx hb dX3_bid_1 rfl (lv_at hl 1 rfl) ?_
  refine kVv (As := [.int p1]) (rest := []) ⟨hx, hb, hml, hown, hts⟩ (c0_C_requireHaul l D cs a _ σ p1 hw) (cwV 1 hts gX3_bid_X3_requireHaul rfl rfl rfl (by decide +kernel) ⟨Nat.le_of_ble_eq_true rfl, Nat.le_of_ble_eq_true rfl⟩) (pt_self_CY cs a σ) hK hP hD hS hA (ci := 3) rfl rfl rfl rfl hl.1 rfl (Nat.le_of_ble_eq_true rfl) dX3_bid_2 ⟨Nat.zero_le _, Nat.zero_le _⟩ (fun u2 H locs hw hP hD hS => ?_)
  have hP : va_P D vwCl (ws_CY cs a u2) H := hP
  have hD : va_D A (ws_CY cs a u2) := hD
  refine lv_iload_n hx hb dX3_bid_5 rfl (lv_at hl 2 rfl) ?_
  refine lv_if_lt (tgt := 14) hx hb dX3_bid_6 (by decide) (fun c6 => ?_) (fun c6 => ?_)
  · have hw := hw.1 c6
    exact B14 _ hw _ _ ls (lv_sub hl [] rfl) hP hD hS
  · have hw := hw.2 c6
    refine lv_iload_n hx hb dX3_bid_9 rfl (lv_at hl 2 rfl) ?_
    refine lv_iconst (v := (4 : Int32)) hx hb dX3_bid_10 (by decide) ?_
    refine lv_icmp_lt (tgt := 24) hx hb dX3_bid_11 (by decide) (fun c11 => ?_) (fun c11 => ?_)
    · have hw := hw.1 c11
      refine lv_iload_n hx hb dX3_bid_24 rfl (lv_at hl 3 rfl) ?_
      refine lv_iconst (v := (1 : Int32)) hx hb dX3_bid_25 (by decide) ?_
      refine lv_icmp_lt (tgt := 36) hx hb dX3_bid_26 (by decide) (fun c26 => ?_) (fun c26 => ?_)
      · have hw := hw.1 c26
        exact B36 _ hw _ _ ls (lv_sub hl [] rfl) hP hD hS
      · have hw := hw.2 c26
        refine lv_iload_n hx hb dX3_bid_29 rfl (lv_at hl 3 rfl) ?_
        refine lv_sipush (v := (1000 : Int32)) hx hb dX3_bid_30 (by decide) ?_
        refine lv_icmp_le (tgt := 46) hx hb dX3_bid_33 (by decide) (fun c33 => ?_) (fun c33 => ?_)
        · have hw := hw.1 c33
          refine lv_aload_n hx hb dX3_bid_46 rfl (lv_at hl 0 rfl) ?_
          refine lv_iload_n hx hb dX3_bid_47 rfl (lv_at hl 1 rfl) ?_
          refine kVv (As := [.int p1]) (rest := []) ⟨hx, hb, hml, hown, hts⟩ (c0_C_requireOffered l D cs a _ u2 p1 hw) (cwV 1 hts gX3_bid_X3_requireOffered rfl rfl rfl (by decide +kernel) ⟨Nat.le_of_ble_eq_true rfl, Nat.le_of_ble_eq_true rfl⟩) (pt_self_CY cs a u2) hK hP hD hS hA (ci := 3) rfl rfl rfl rfl hl.1 rfl (Nat.le_of_ble_eq_true rfl) dX3_bid_48 ⟨Nat.zero_le _, Nat.zero_le _⟩ (fun u48 H locs hw hP hD hS => ?_)
          have hP : va_P D vwCl (ws_CY cs a u48) H := hP
          have hD : va_D A (ws_CY cs a u48) := hD
          refine lv_aload_n hx hb dX3_bid_51 rfl (lv_at hl 0 rfl) ?_
          refine va_get (D := D) (ci := 3) (v := .ref (a 13)) (C := RX3) (T := TX3) (N := 12) hx hb hts hinX3 hown hK hP 0 rfl rfl 3 (by decide) hf29 (fun _ h9 => h9) rfl dX3_bid_52 ?_
          refine lv_iload_n hx hb dX3_bid_55 rfl (lv_at hl 1 rfl) ?_
          refine lv_iload_n hx hb dX3_bid_56 rfl (lv_at hl 2 rfl) ?_
          refine kVi (As := [.int p1, .int p2]) (rest := []) ⟨hx, hb, hml, hown, hts⟩ (c_H_priceAsked l D cs (sh a 13) _ (g_CY_hl u48) p1 p2 hw) (cwV 2 hts gX3_bid_X0_priceAsked rfl rfl rfl (by decide +kernel) ⟨Nat.le_of_ble_eq_true rfl, Nat.le_of_ble_eq_true rfl⟩) (pt_CY_hl cs a u48) hK hP hD hS hA (ci := 0) rfl rfl rfl rfl hl.1 rfl (Nat.le_of_ble_eq_true rfl) dX3_bid_57 ⟨Nat.zero_le _, Nat.zero_le _⟩ (fun r57 u57 H locs hw hP hD hS => ?_)
          have hP : va_P D vwCl (ws_CY cs a (s_CY_hl u48 u57)) H := hP
          have hD : va_D A (ws_CY cs a (s_CY_hl u48 u57)) := hD
          refine lv_iconst (v := (-1 : Int32)) hx hb dX3_bid_60 (by decide) ?_
          refine lv_icmp_eq (tgt := 74) hx hb dX3_bid_61 (by decide) (fun c61 => ?_) (fun c61 => ?_)
          · have hw := hw.1 c61
            refine lv_aload_n hx hb dX3_bid_74 rfl (lv_at hl 0 rfl) ?_
            refine va_get (D := D) (ci := 3) (v := .ref (a 13)) (C := RX3) (T := TX3) (N := 12) hx hb hts hinX3 hown hK hP 0 rfl rfl 3 (by decide) hf29 (fun _ h9 => h9) rfl dX3_bid_75 ?_
            refine lv_iload_n hx hb dX3_bid_78 rfl (lv_at hl 1 rfl) ?_
            refine lv_iload_n hx hb dX3_bid_79 rfl (lv_at hl 2 rfl) ?_
            refine lv_iload_n hx hb dX3_bid_80 rfl (lv_at hl 3 rfl) ?_
            refine kVv (As := [.int p1, .int p2, .int p3]) (rest := []) ⟨hx, hb, hml, hown, hts⟩ (c_H_enterBid l D cs (sh a 13) _ (g_CY_hl (s_CY_hl u48 u57)) p1 p2 p3 hw) (cwV 3 hts gX3_bid_X0_enterBid rfl rfl rfl (by decide +kernel) ⟨Nat.le_of_ble_eq_true rfl, Nat.le_of_ble_eq_true rfl⟩) (pt_CY_hl cs a (s_CY_hl u48 u57)) hK hP hD hS hA (ci := 0) rfl rfl rfl rfl hl.1 rfl (Nat.le_of_ble_eq_true rfl) dX3_bid_81 ⟨Nat.zero_le _, Nat.zero_le _⟩ (fun u81 H locs hw hP hD hS => ?_)
            have hP : va_P D vwCl (ws_CY cs a (s_CY_hl (s_CY_hl u48 u57) u81)) H := hP
            have hD : va_D A (ws_CY cs a (s_CY_hl (s_CY_hl u48 u57) u81)) := hD
            exact rV (wf := (ws_CY cs a)) (u := (s_CY_hl (s_CY_hl u48 u57) u81)) hx hb hr hlocks hK hP hD hS hw dX3_bid_84
          · have hw := hw.2 c61
            exact (show False from hw).elim
        · have hw := hw.2 c33
          exact B36 _ hw _ _ ls (lv_sub hl [] rfl) hP hD hS
    · have hw := hw.2 c11
      exact B14 _ hw _ _ ls (lv_sub hl [] rfl) hP hD hS
abbrev rm0_C_give : Room := { frames := 7, cells := 0, slots := 0, locals := 113 }
set_option maxHeartbeats 4000000 in
set_option maxRecDepth 100000 in
theorem c0_C_give (l : Launch) (D : va_G) (cs : CS) (a : Nat → Nat) (sz : Nat) (σ : CY) (p1 : Int32) {Φ : Int32 → CY → Prop} (hw : w_C_give σ p1 Φ (fun _ _ => False)) : Met l yX3_give wsX3_give rm0_C_give (PcG [.ref (a 0), .int p1] D cs (ws_CY cs a σ) sz) (va_Qi Φ (BG D cs (va_A (ws_CY cs a σ) sz) sz (ws_CY cs a)) (va_A (ws_CY cs a σ) sz)) 0 0 (va_A (ws_CY cs a σ) sz) := by
  refine Met.ofW (cc := cX3_give) (maxL := 3) (ret := (some .int)) (by decide) rfl ?_
  intro p e s m args below meth c s₁ B hml hv
  obtain ⟨rfl, hsz, hP, hK, hD0⟩ := hv
  have hx := B.exec
  have hb := B.bytes
  have hr := B.returns
  have hts := atoms_spec (ws := wsX3_give) B.pre
  have hown : s.vm.findClass RX3 = some m.cls := findClass_of_methodNamed B.named
  have hlocks := B.notSynchronized
  subst hsz
  have hD := hD0.self (sz := s.heap.size)
  generalize hAe : va_A (ws_CY cs a σ) s.heap.size = A at hD ⊢
  have hA : ∀ q : Nat, s.heap.size ≤ q → A q := fun q h => by rw [← hAe]; exact Or.inr h
  have hS : va_S A s.heap s.heap [] := va_S.rf
  have hf29 : (Cond.fieldLink RX3 29 "CraneYard" "hauls" "LCraneYard$Hauls;").before ([.ref (a 0), .int p1] : List Value).toArray s = true := hts _ (List.mem_of_getElem? (i := 3) rfl)
  have hinX3 : ∀ w ∈ wsX30, w ∈ wsX3_give := fun _ h => List.mem_cons_of_mem _ (List.mem_append_left _ (List.mem_append_left _ (List.mem_append_left _ (List.mem_append_right _ h))))
  have hP : va_P D vwCl (ws_CY cs a σ) s.heap := hP
  have hl := lv_entry ([.ref (a 0), .int p1]) (n := 3) (Nat.le_of_ble_eq_true rfl)
  rw [lg_entry_eq]
  generalize (lg_sl ([.ref (a 0), .int p1]) ++ List.replicate (3 - (lg_sl ([.ref (a 0), .int p1])).length) Slot.unset).toArray = ls at hl ⊢
  have hl : lv_has ls 3 [(0, .ref (a 0)), (1, .int p1)] := hl
  unfold w_C_give at hw
  refine lv_aload_n hx hb dX3_give_0 rfl (lv_at hl 0 rfl) ?_
  refine lv_iload_n hx hb dX3_give_1 rfl (lv_at hl 1 rfl) ?_
  refine kVv (As := [.int p1]) (rest := []) ⟨hx, hb, hml, hown, hts⟩ (c0_C_requireHaul l D cs a _ σ p1 hw) (cwV 1 hts gX3_give_X3_requireHaul rfl rfl rfl (by decide +kernel) ⟨Nat.le_of_ble_eq_true rfl, Nat.le_of_ble_eq_true rfl⟩) (pt_self_CY cs a σ) hK hP hD hS hA (ci := 3) rfl rfl rfl rfl hl.1 rfl (Nat.le_of_ble_eq_true rfl) dX3_give_2 ⟨Nat.zero_le _, Nat.zero_le _⟩ (fun u2 H locs hw hP hD hS => ?_)
  have hP : va_P D vwCl (ws_CY cs a u2) H := hP
  have hD : va_D A (ws_CY cs a u2) := hD
  refine lv_aload_n hx hb dX3_give_5 rfl (lv_at hl 0 rfl) ?_
  refine lv_iload_n hx hb dX3_give_6 rfl (lv_at hl 1 rfl) ?_
  refine kVv (As := [.int p1]) (rest := []) ⟨hx, hb, hml, hown, hts⟩ (c0_C_requireOffered l D cs a _ u2 p1 hw) (cwV 1 hts gX3_give_X3_requireOffered rfl rfl rfl (by decide +kernel) ⟨Nat.le_of_ble_eq_true rfl, Nat.le_of_ble_eq_true rfl⟩) (pt_self_CY cs a u2) hK hP hD hS hA (ci := 3) rfl rfl rfl rfl hl.1 rfl (Nat.le_of_ble_eq_true rfl) dX3_give_7 ⟨Nat.zero_le _, Nat.zero_le _⟩ (fun u7 H locs hw hP hD hS => ?_)
  have hP : va_P D vwCl (ws_CY cs a u7) H := hP
  have hD : va_D A (ws_CY cs a u7) := hD
  refine lv_aload_n hx hb dX3_give_10 rfl (lv_at hl 0 rfl) ?_
  refine va_get (D := D) (ci := 3) (v := .ref (a 13)) (C := RX3) (T := TX3) (N := 12) hx hb hts hinX3 hown hK hP 0 rfl rfl 3 (by decide) hf29 (fun _ h9 => h9) rfl dX3_give_11 ?_
  refine lv_iload_n hx hb dX3_give_14 rfl (lv_at hl 1 rfl) ?_
  refine kVi (As := [.int p1]) (rest := []) ⟨hx, hb, hml, hown, hts⟩ (c_H_cheapestHaulier l D cs (sh a 13) _ (g_CY_hl u7) p1 hw) (cwV 1 hts gX3_give_X0_cheapestHaulier rfl rfl rfl (by decide +kernel) ⟨Nat.le_of_ble_eq_true rfl, Nat.le_of_ble_eq_true rfl⟩) (pt_CY_hl cs a u7) hK hP hD hS hA (ci := 0) rfl rfl rfl rfl hl.1 rfl (Nat.le_of_ble_eq_true rfl) dX3_give_15 ⟨Nat.zero_le _, Nat.zero_le _⟩ (fun r15 u15 H locs hw hP hD hS => ?_)
  have hP : va_P D vwCl (ws_CY cs a (s_CY_hl u7 u15)) H := hP
  have hD : va_D A (ws_CY cs a (s_CY_hl u7 u15)) := hD
  refine lv_istore_n (lv' := [(2, .int r15), (0, .ref (a 0)), (1, .int p1)]) hx hb dX3_give_18 rfl hl (by decide) rfl (fun ls hl => ?_)
  refine lv_iload_n hx hb dX3_give_19 rfl (lv_at hl 0 rfl) ?_
  refine lv_iconst (v := (-1 : Int32)) hx hb dX3_give_20 (by decide) ?_
  refine lv_icmp_ne (tgt := 34) hx hb dX3_give_21 (by decide) (fun c21 => ?_) (fun c21 => ?_)
  · have hw := hw.2 c21
    refine lv_aload_n hx hb dX3_give_34 rfl (lv_at hl 1 rfl) ?_
    refine va_get (D := D) (ci := 3) (v := .ref (a 13)) (C := RX3) (T := TX3) (N := 12) hx hb hts hinX3 hown hK hP 0 rfl rfl 3 (by decide) hf29 (fun _ h9 => h9) rfl dX3_give_35 ?_
    refine lv_iload_n hx hb dX3_give_38 rfl (lv_at hl 2 rfl) ?_
    refine lv_iload_n hx hb dX3_give_39 rfl (lv_at hl 0 rfl) ?_
    refine kVv (As := [.int p1, .int r15]) (rest := []) ⟨hx, hb, hml, hown, hts⟩ (c_H_giveTo l D cs (sh a 13) _ (g_CY_hl (s_CY_hl u7 u15)) p1 r15 hw) (cwV 2 hts gX3_give_X0_giveTo rfl rfl rfl (by decide +kernel) ⟨Nat.le_of_ble_eq_true rfl, Nat.le_of_ble_eq_true rfl⟩) (pt_CY_hl cs a (s_CY_hl u7 u15)) hK hP hD hS hA (ci := 0) rfl rfl rfl rfl hl.1 rfl (Nat.le_of_ble_eq_true rfl) dX3_give_40 ⟨Nat.zero_le _, Nat.zero_le _⟩ (fun u40 H locs hw hP hD hS => ?_)
    have hP : va_P D vwCl (ws_CY cs a (s_CY_hl (s_CY_hl u7 u15) u40)) H := hP
    have hD : va_D A (ws_CY cs a (s_CY_hl (s_CY_hl u7 u15) u40)) := hD
    refine lv_iload_n hx hb dX3_give_43 rfl (lv_at hl 0 rfl) ?_
    exact rI (wf := (ws_CY cs a)) (u := (s_CY_hl (s_CY_hl u7 u15) u40)) hx hb hr hlocks hK hP hD hS hw dX3_give_44
  · have hw := hw.1 c21
    exact (show False from hw).elim
abbrev rm0_C_load : Room := { frames := 7, cells := 0, slots := 0, locals := 112 }
set_option maxHeartbeats 4000000 in
set_option maxRecDepth 100000 in
theorem c0_C_load (l : Launch) (D : va_G) (cs : CS) (a : Nat → Nat) (sz : Nat) (σ : CY) {Φ : Int32 → CY → Prop} (hw : w_C_load σ Φ (fun _ _ => False)) : Met l yX3_load wsX3_load rm0_C_load (PcG [.ref (a 0)] D cs (ws_CY cs a σ) sz) (va_Qi Φ (BG D cs (va_A (ws_CY cs a σ) sz) sz (ws_CY cs a)) (va_A (ws_CY cs a σ) sz)) 0 0 (va_A (ws_CY cs a σ) sz) := by
  refine Met.ofW (cc := cX3_load) (maxL := 2) (ret := (some .int)) (by decide) rfl ?_
  intro p e s m args below meth c s₁ B hml hv
  obtain ⟨rfl, hsz, hP, hK, hD0⟩ := hv
  have hx := B.exec
  have hb := B.bytes
  have hr := B.returns
  have hts := atoms_spec (ws := wsX3_load) B.pre
  have hown : s.vm.findClass RX3 = some m.cls := findClass_of_methodNamed B.named
  have hlocks := B.notSynchronized
  subst hsz
  have hD := hD0.self (sz := s.heap.size)
  generalize hAe : va_A (ws_CY cs a σ) s.heap.size = A at hD ⊢
  have hA : ∀ q : Nat, s.heap.size ≤ q → A q := fun q h => by rw [← hAe]; exact Or.inr h
  have hS : va_S A s.heap s.heap [] := va_S.rf
  have hf29 : (Cond.fieldLink RX3 29 "CraneYard" "hauls" "LCraneYard$Hauls;").before ([.ref (a 0)] : List Value).toArray s = true := hts _ (List.mem_of_getElem? (i := 3) rfl)
  have hf44 : (Cond.fieldLink RX3 44 "CraneYard" "craneCrate" "I").before ([.ref (a 0)] : List Value).toArray s = true := hts _ (List.mem_of_getElem? (i := 4) rfl)
  have hinX3 : ∀ w ∈ wsX30, w ∈ wsX3_load := fun _ h => List.mem_cons_of_mem _ (List.mem_append_left _ (List.mem_append_left _ (List.mem_append_right _ h)))
  have hP : va_P D vwCl (ws_CY cs a σ) s.heap := hP
  have B33 : ∀ (σ : CY), b_C_load_33 Φ (fun _ _ => False) σ → At p l e (headSpec wsX3_load rm0_C_load).room s m ([.ref (a 0)] : List Value).toArray below meth c (MQ below (va_Qi Φ (BG D cs A s.heap.size (ws_CY cs a)) A) ([.ref (a 0)] : List Value).toArray s 0 0 A) D A 2 [] (ws_CY cs a σ) 33 [] := by
    intro σ hw H locs ls hl hP hD hS
    unfold b_C_load_33 at hw
    exact (show False from hw).elim
  have hl := lv_entry ([.ref (a 0)]) (n := 2) (Nat.le_of_ble_eq_true rfl)
  rw [lg_entry_eq]
  generalize (lg_sl ([.ref (a 0)]) ++ List.replicate (2 - (lg_sl ([.ref (a 0)])).length) Slot.unset).toArray = ls at hl ⊢
  have hl : lv_has ls 2 [(0, .ref (a 0))] := hl
  unfold w_C_load at hw
  refine lv_aload_n hx hb dX3_load_0 rfl (lv_at hl 0 rfl) ?_
  refine kVv (As := []) (rest := []) ⟨hx, hb, hml, hown, hts⟩ (c0_C_requireFullCrane l D cs a _ σ hw) (cwV 0 hts gX3_load_X3_requireFullCrane rfl rfl rfl (by decide +kernel) ⟨Nat.le_of_ble_eq_true rfl, Nat.le_of_ble_eq_true rfl⟩) (pt_self_CY cs a σ) hK hP hD hS hA (ci := 3) rfl rfl rfl rfl hl.1 rfl (Nat.le_of_ble_eq_true rfl) dX3_load_1 ⟨Nat.zero_le _, Nat.zero_le _⟩ (fun u1 H locs hw hP hD hS => ?_)
  have hP : va_P D vwCl (ws_CY cs a u1) H := hP
  have hD : va_D A (ws_CY cs a u1) := hD
  refine lv_aload_n hx hb dX3_load_4 rfl (lv_at hl 0 rfl) ?_
  refine va_get (D := D) (ci := 3) (v := .ref (a 13)) (C := RX3) (T := TX3) (N := 12) hx hb hts hinX3 hown hK hP 0 rfl rfl 3 (by decide) hf29 (fun _ h9 => h9) rfl dX3_load_5 ?_
  refine lv_aload_n hx hb dX3_load_8 rfl (lv_at hl 0 rfl) ?_
  refine va_get (D := D) (ci := 3) (v := .int (g_CY_craneCrate u1)) (C := RX3) (T := TX3) (N := 12) hx hb hts hinX3 hown hK hP 0 rfl rfl 7 (by decide) hf44 (fun _ h9 => h9) rfl dX3_load_9 ?_
  refine kVi (As := [.int (g_CY_craneCrate u1)]) (rest := []) ⟨hx, hb, hml, hown, hts⟩ (c_H_openHaulOf l D cs (sh a 13) _ (g_CY_hl u1) (g_CY_craneCrate u1) hw) (cwV 1 hts gX3_load_X0_openHaulOf rfl rfl rfl (by decide +kernel) ⟨Nat.le_of_ble_eq_true rfl, Nat.le_of_ble_eq_true rfl⟩) (pt_CY_hl cs a u1) hK hP hD hS hA (ci := 0) rfl rfl rfl rfl hl.1 rfl (Nat.le_of_ble_eq_true rfl) dX3_load_12 ⟨Nat.zero_le _, Nat.zero_le _⟩ (fun r12 u12 H locs hw hP hD hS => ?_)
  have hP : va_P D vwCl (ws_CY cs a (s_CY_hl u1 u12)) H := hP
  have hD : va_D A (ws_CY cs a (s_CY_hl u1 u12)) := hD
  refine lv_istore_n (lv' := [(1, .int r12), (0, .ref (a 0))]) hx hb dX3_load_15 rfl hl (by decide) rfl (fun ls hl => ?_)
  refine lv_iload_n hx hb dX3_load_16 rfl (lv_at hl 0 rfl) ?_
  refine lv_iconst (v := (-1 : Int32)) hx hb dX3_load_17 (by decide) ?_
  refine lv_icmp_eq (tgt := 33) hx hb dX3_load_18 (by decide) (fun c18 => ?_) (fun c18 => ?_)
  · have hw := hw.1 c18
    exact B33 _ hw _ _ ls (lv_sub hl [] rfl) hP hD hS
  · have hw := hw.2 c18
    refine lv_aload_n hx hb dX3_load_21 rfl (lv_at hl 1 rfl) ?_
    refine va_get (D := D) (ci := 3) (v := .ref (a 13)) (C := RX3) (T := TX3) (N := 12) hx hb hts hinX3 hown hK hP 0 rfl rfl 3 (by decide) hf29 (fun _ h9 => h9) rfl dX3_load_22 ?_
    refine lv_iload_n hx hb dX3_load_25 rfl (lv_at hl 0 rfl) ?_
    refine kVi (As := [.int r12]) (rest := []) ⟨hx, hb, hml, hown, hts⟩ (c_H_stateOf l D cs (sh a 13) _ (g_CY_hl (s_CY_hl u1 u12)) r12 hw) (cwV 1 hts gX3_load_X0_stateOf rfl rfl rfl (by decide +kernel) ⟨Nat.le_of_ble_eq_true rfl, Nat.le_of_ble_eq_true rfl⟩) (pt_CY_hl cs a (s_CY_hl u1 u12)) hK hP hD hS hA (ci := 0) rfl rfl rfl rfl hl.1 rfl (Nat.le_of_ble_eq_true rfl) dX3_load_26 ⟨Nat.zero_le _, Nat.zero_le _⟩ (fun r26 u26 H locs hw hP hD hS => ?_)
    have hP : va_P D vwCl (ws_CY cs a (s_CY_hl (s_CY_hl u1 u12) u26)) H := hP
    have hD : va_D A (ws_CY cs a (s_CY_hl (s_CY_hl u1 u12) u26)) := hD
    refine lv_iconst (v := (1 : Int32)) hx hb dX3_load_29 (by decide) ?_
    refine lv_icmp_eq (tgt := 43) hx hb dX3_load_30 (by decide) (fun c30 => ?_) (fun c30 => ?_)
    · have hw := hw.1 c30
      refine lv_aload_n hx hb dX3_load_43 rfl (lv_at hl 1 rfl) ?_
      refine lv_iconst (v := (-1 : Int32)) hx hb dX3_load_44 (by decide) ?_
      refine va_put (D := D) (ci := 3) (v := .int (-1 : Int32)) (ty := .int) (C := RX3) (T := TX3) (N := 12) hx hb hts hinX3 tyX3 tyX3_ok nmX3 hown hK hP hD hS 0 rfl rfl 7 (by decide) hf44 (fun _ h9 => h9) rfl (by decide +kernel) rfl rfl (Nat.le_of_ble_eq_true rfl) dX3_load_45 (fun H locs hP hD hS => ?_)
      have hP : va_P D vwCl (ws_CY cs a (s_CY_craneCrate (s_CY_hl (s_CY_hl u1 u12) u26) (-1 : Int32))) H := hP
      have hD : va_D A (ws_CY cs a (s_CY_craneCrate (s_CY_hl (s_CY_hl u1 u12) u26) (-1 : Int32))) := hD
      obtain ⟨z1, ez1⟩ : ∃ z : CY, z = (s_CY_craneCrate (s_CY_hl (s_CY_hl u1 u12) u26) (-1 : Int32)) := ⟨_, rfl⟩
      have hw := hw z1 ez1
      rw [← ez1] at hP hD
      refine lv_aload_n hx hb dX3_load_48 rfl (lv_at hl 1 rfl) ?_
      refine va_get (D := D) (ci := 3) (v := .ref (a 13)) (C := RX3) (T := TX3) (N := 12) hx hb hts hinX3 hown hK hP 0 rfl rfl 3 (by decide) hf29 (fun _ h9 => h9) rfl dX3_load_49 ?_
      refine lv_iload_n hx hb dX3_load_52 rfl (lv_at hl 0 rfl) ?_
      refine kVi (As := [.int r12]) (rest := []) ⟨hx, hb, hml, hown, hts⟩ (c_H_finish l D cs (sh a 13) _ (g_CY_hl z1) r12 hw) (cwV 1 hts gX3_load_X0_finish rfl rfl rfl (by decide +kernel) ⟨Nat.le_of_ble_eq_true rfl, Nat.le_of_ble_eq_true rfl⟩) (pt_CY_hl cs a z1) hK hP hD hS hA (ci := 0) rfl rfl rfl rfl hl.1 rfl (Nat.le_of_ble_eq_true rfl) dX3_load_53 ⟨Nat.zero_le _, Nat.zero_le _⟩ (fun r53 u53 H locs hw hP hD hS => ?_)
      have hP : va_P D vwCl (ws_CY cs a (s_CY_hl z1 u53)) H := hP
      have hD : va_D A (ws_CY cs a (s_CY_hl z1 u53)) := hD
      exact rI (wf := (ws_CY cs a)) (u := (s_CY_hl z1 u53)) hx hb hr hlocks hK hP hD hS hw dX3_load_56
    · have hw := hw.2 c30
      exact B33 _ hw _ _ ls (lv_sub hl [] rfl) hP hD hS
abbrev rm0_C_pass : Room := { frames := 6, cells := 0, slots := 0, locals := 92 }
set_option maxHeartbeats 4000000 in
set_option maxRecDepth 100000 in
theorem c0_C_pass (l : Launch) (D : va_G) (cs : CS) (a : Nat → Nat) (sz : Nat) (σ : CY) (p1 : Int32) {Φ : Int32 → CY → Prop} (hw : w_C_pass σ p1 Φ (fun _ _ => False)) : Met l yX3_pass wsX3_pass rm0_C_pass (PcG [.ref (a 0), .int p1] D cs (ws_CY cs a σ) sz) (va_Qi Φ (BG D cs (va_A (ws_CY cs a σ) sz) sz (ws_CY cs a)) (va_A (ws_CY cs a σ) sz)) 0 0 (va_A (ws_CY cs a σ) sz) := by
  refine Met.ofW (cc := cX3_pass) (maxL := 4) (ret := (some .int)) (by decide) rfl ?_
  intro p e s m args below meth c s₁ B hml hv
  obtain ⟨rfl, hsz, hP, hK, hD0⟩ := hv
  have hx := B.exec
  have hb := B.bytes
  have hr := B.returns
  have hts := atoms_spec (ws := wsX3_pass) B.pre
  have hown : s.vm.findClass RX3 = some m.cls := findClass_of_methodNamed B.named
  have hlocks := B.notSynchronized
  subst hsz
  have hD := hD0.self (sz := s.heap.size)
  generalize hAe : va_A (ws_CY cs a σ) s.heap.size = A at hD ⊢
  have hA : ∀ q : Nat, s.heap.size ≤ q → A q := fun q h => by rw [← hAe]; exact Or.inr h
  have hS : va_S A s.heap s.heap [] := va_S.rf
  have hf50 : (Cond.fieldLink RX3 50 "CraneYard" "day" "I").before ([.ref (a 0), .int p1] : List Value).toArray s = true := hts _ (List.mem_of_getElem? (i := 5) rfl)
  have hf57 : (Cond.fieldLink RX3 57 "CraneYard" "fees" "I").before ([.ref (a 0), .int p1] : List Value).toArray s = true := hts _ (List.mem_of_getElem? (i := 6) rfl)
  have hinX3 : ∀ w ∈ wsX30, w ∈ wsX3_pass := fun _ h => List.mem_cons_of_mem _ (List.mem_append_left _ (List.mem_append_left _ (List.mem_append_left _ (List.mem_append_left _ (List.mem_append_right _ h)))))
  have hP : va_P D vwCl (ws_CY cs a σ) s.heap := hP
  have B50 : ∀ (n : Nat) (x1 : Int32) (x2 : Int32) (x3 : Int32) (σ : CY), it4 (b_C_pass_50 Φ (fun _ _ => False)) n x1 x2 x3 σ → At p l e (headSpec wsX3_pass rm0_C_pass).room s m ([.ref (a 0), .int p1] : List Value).toArray below meth c (MQ below (va_Qi Φ (BG D cs A s.heap.size (ws_CY cs a)) A) ([.ref (a 0), .int p1] : List Value).toArray s 0 0 A) D A 4 [(0, .ref (a 0)), (1, .int x1), (2, .int x2), (3, .int x3)] (ws_CY cs a σ) 50 [] := by
    intro n
    induction n with
    | zero => intro x1 x2 x3 σ hw; exact absurd hw id
    | succ n ih =>
      intro x1 x2 x3 σ hw H locs ls hl hP hD hS
      have hw : b_C_pass_50 Φ (fun _ _ => False) (it4 (b_C_pass_50 Φ (fun _ _ => False)) n) x1 x2 x3 σ := hw
      unfold b_C_pass_50 at hw
      refine lv_iload_n hx hb dX3_pass_50 rfl (lv_at hl 3 rfl) ?_
      refine lv_iload_n hx hb dX3_pass_51 rfl (lv_at hl 1 rfl) ?_
      refine lv_icmp_ge (tgt := 65) hx hb dX3_pass_52 (by decide) (fun c52 => ?_) (fun c52 => ?_)
      · have hw := hw.1 c52
        refine lv_aload_n hx hb dX3_pass_65 rfl (lv_at hl 0 rfl) ?_
        refine va_get (D := D) (ci := 3) (v := .int (g_CY_fees σ)) (C := RX3) (T := TX3) (N := 12) hx hb hts hinX3 hown hK hP 0 rfl rfl 11 (by decide) hf57 (fun _ h9 => h9) rfl dX3_pass_66 ?_
        refine lv_iload_n hx hb dX3_pass_69 rfl (lv_at hl 2 rfl) ?_
        refine lv_isub hx hb dX3_pass_70 ?_
        exact rI (wf := (ws_CY cs a)) (u := σ) hx hb hr hlocks hK hP hD hS hw dX3_pass_71
      · have hw := hw.2 c52
        refine lv_aload_n hx hb dX3_pass_55 rfl (lv_at hl 0 rfl) ?_
        refine kVv (As := []) (rest := []) ⟨hx, hb, hml, hown, hts⟩ (c_C_endDay l D cs a _ σ hw) (cwV 0 hts gX3_pass_X3_endDay rfl rfl rfl (by decide +kernel) ⟨Nat.le_of_ble_eq_true rfl, Nat.le_of_ble_eq_true rfl⟩) (pt_self_CY cs a σ) hK hP hD hS hA (ci := 3) rfl rfl rfl rfl hl.1 rfl (Nat.le_of_ble_eq_true rfl) dX3_pass_56 ⟨Nat.zero_le _, Nat.zero_le _⟩ (fun u56 H locs hw hP hD hS => ?_)
        have hP : va_P D vwCl (ws_CY cs a u56) H := hP
        have hD : va_D A (ws_CY cs a u56) := hD
        refine lv_iinc (v := (x3 + (1 : Int32))) (lv' := [(3, .int (x3 + (1 : Int32))), (0, .ref (a 0)), (1, .int x1), (2, .int x2)]) hx hb dX3_pass_59 hl (k := 3) rfl rfl (by decide) rfl (fun ls hl => ?_)
        refine lv_goto (tgt := 50) hx hb dX3_pass_62 (by decide) ?_
        exact ih _ _ _ _ hw H locs ls (lv_sub hl [1, 2, 3, 0] rfl) hP hD hS
  have B11 : ∀ (σ : CY), b_C_pass_11 Φ (fun _ _ => False) σ → At p l e (headSpec wsX3_pass rm0_C_pass).room s m ([.ref (a 0), .int p1] : List Value).toArray below meth c (MQ below (va_Qi Φ (BG D cs A s.heap.size (ws_CY cs a)) A) ([.ref (a 0), .int p1] : List Value).toArray s 0 0 A) D A 4 [] (ws_CY cs a σ) 11 [] := by
    intro σ hw H locs ls hl hP hD hS
    unfold b_C_pass_11 at hw
    exact (show False from hw).elim
  have hl := lv_entry ([.ref (a 0), .int p1]) (n := 4) (Nat.le_of_ble_eq_true rfl)
  rw [lg_entry_eq]
  generalize (lg_sl ([.ref (a 0), .int p1]) ++ List.replicate (4 - (lg_sl ([.ref (a 0), .int p1])).length) Slot.unset).toArray = ls at hl ⊢
  have hl : lv_has ls 4 [(0, .ref (a 0)), (1, .int p1)] := hl
  unfold w_C_pass at hw
  refine lv_iload_n hx hb dX3_pass_0 rfl (lv_at hl 1 rfl) ?_
  refine lv_iconst (v := (1 : Int32)) hx hb dX3_pass_1 (by decide) ?_
  refine lv_icmp_lt (tgt := 11) hx hb dX3_pass_2 (by decide) (fun c2 => ?_) (fun c2 => ?_)
  · have hw := hw.1 c2
    exact B11 _ hw _ _ ls (lv_sub hl [] rfl) hP hD hS
  · have hw := hw.2 c2
    refine lv_iload_n hx hb dX3_pass_5 rfl (lv_at hl 1 rfl) ?_
    refine lv_bipush (v := (100 : Int32)) hx hb dX3_pass_6 (by decide) ?_
    refine lv_icmp_le (tgt := 21) hx hb dX3_pass_8 (by decide) (fun c8 => ?_) (fun c8 => ?_)
    · have hw := hw.1 c8
      refine lv_aload_n hx hb dX3_pass_21 rfl (lv_at hl 0 rfl) ?_
      refine va_get (D := D) (ci := 3) (v := .int (g_CY_day σ)) (C := RX3) (T := TX3) (N := 12) hx hb hts hinX3 hown hK hP 0 rfl rfl 9 (by decide) hf50 (fun _ h9 => h9) rfl dX3_pass_22 ?_
      refine lv_iload_n hx hb dX3_pass_25 rfl (lv_at hl 1 rfl) ?_
      refine lv_iadd hx hb dX3_pass_26 ?_
      refine lv_sipush (v := (10000 : Int32)) hx hb dX3_pass_27 (by decide) ?_
      refine lv_icmp_le (tgt := 43) hx hb dX3_pass_30 (by decide) (fun c30 => ?_) (fun c30 => ?_)
      · have hw := hw.1 c30
        refine lv_aload_n hx hb dX3_pass_43 rfl (lv_at hl 0 rfl) ?_
        refine va_get (D := D) (ci := 3) (v := .int (g_CY_fees σ)) (C := RX3) (T := TX3) (N := 12) hx hb hts hinX3 hown hK hP 0 rfl rfl 11 (by decide) hf57 (fun _ h9 => h9) rfl dX3_pass_44 ?_
        refine lv_istore_n (lv' := [(2, .int (g_CY_fees σ)), (0, .ref (a 0)), (1, .int p1)]) hx hb dX3_pass_47 rfl hl (by decide) rfl (fun ls hl => ?_)
        refine lv_iconst (v := (0 : Int32)) hx hb dX3_pass_48 (by decide) ?_
        refine lv_istore_n (lv' := [(3, .int (0 : Int32)), (2, .int (g_CY_fees σ)), (0, .ref (a 0)), (1, .int p1)]) hx hb dX3_pass_49 rfl hl (by decide) rfl (fun ls hl => ?_)
        obtain ⟨n, hw⟩ := hw
        exact B50 n _ _ _ _ hw _ _ ls (lv_sub hl [2, 3, 1, 0] rfl) hP hD hS
      · have hw := hw.2 c30
        exact (show False from hw).elim
    · have hw := hw.2 c8
      exact B11 _ hw _ _ ls (lv_sub hl [] rfl) hP hD hS
