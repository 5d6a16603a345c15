abbrev rm_C_contains : Room := { frames := 0, cells := 0, slots := 0, locals := 0 }
set_option maxHeartbeats 4000000 in
set_option maxRecDepth 100000 in
theorem c_C_contains (l : Launch) (D : va_G) (cs : CS) (a : Nat → Nat) (sz : Nat) (p0 : Int32) (p1 : Int32) {Φ : Int32 → Unit → Prop} (hw : w_C_contains p0 p1 Φ) : Met l yX3_contains wsX3_contains rm_C_contains (PcG [.int p0, .int p1] D cs ([] : va_W) sz) (va_Qi Φ (BG D cs (va_A ([] : va_W) sz) sz (fun _ : Unit => ([] : va_W))) (va_A ([] : va_W) sz)) 0 0 (va_A ([] : va_W) sz) := by
  refine Met.ofW (cc := cX3_contains) (maxL := 2) (ret := (some .boolean)) (by decide) rfl ?_
  intro p e s m args below meth c s₁ B hml hv
  obtain ⟨rfl, hsz, hP, hK, hD0⟩ := hv
  have hx := B.exec
  have hb := B.bytes
  have hr := B.returns
  have hts := atoms_spec (ws := wsX3_contains) B.pre
  have hown : s.vm.findClass RX3 = some m.cls := findClass_of_methodNamed B.named
  have hlocks := B.notSynchronized
  subst hsz
  have hD := hD0.self (sz := s.heap.size)
  generalize hAe : va_A ([] : va_W) s.heap.size = A at hD ⊢
  have hA : ∀ q : Nat, s.heap.size ≤ q → A q := fun q h => by rw [← hAe]; exact Or.inr h
  have hS : va_S A s.heap s.heap [] := va_S.rf
  have hP : va_P D vwCl ([] : va_W) s.heap := hP
  have B14 : ∀ (t0 : Int32), b_C_contains_14 Φ t0 → At p l e (headSpec wsX3_contains rm_C_contains).room s m ([.int p0, .int p1] : List Value).toArray below meth c (MQ below (va_Qi Φ (BG D cs A s.heap.size (fun _ : Unit => ([] : va_W))) A) ([.int p0, .int p1] : List Value).toArray s 0 0 A) D A 2 [] ([] : va_W) 14 [.int t0] := by
    intro t0 hw H locs ls hl hP hD hS
    unfold b_C_contains_14 at hw
    exact rZ (wf := (fun _ : Unit => ([] : va_W))) (u := ()) hx hb hr hlocks hK hP hD hS hw dX3_contains_14
  have hl := lv_entry ([.int p0, .int p1]) (n := 2) (Nat.le_of_ble_eq_true rfl)
  rw [lg_entry_eq]
  generalize (lg_sl ([.int p0, .int p1]) ++ List.replicate (2 - (lg_sl ([.int p0, .int p1])).length) Slot.unset).toArray = ls at hl ⊢
  have hl : lv_has ls 2 [(0, .int p0), (1, .int p1)] := hl
  unfold w_C_contains at hw
  refine lv_iload_n hx hb dX3_contains_0 rfl (lv_at hl 0 rfl) ?_
  refine lv_iload_n hx hb dX3_contains_1 rfl (lv_at hl 1 rfl) ?_
  refine lv_iushr hx hb dX3_contains_2 rfl ?_
  refine lv_iconst (v := (1 : Int32)) hx hb dX3_contains_3 (by decide) ?_
  refine lv_iand hx hb dX3_contains_4 ?_
  refine lv_iconst (v := (1 : Int32)) hx hb dX3_contains_5 (by decide) ?_
  refine lv_icmp_ne (tgt := 13) hx hb dX3_contains_6 (by decide) (fun c6 => ?_) (fun c6 => ?_)
  · have hw := hw.2 c6
    refine lv_iconst (v := (0 : Int32)) hx hb dX3_contains_13 (by decide) ?_
    exact B14 _ hw _ _ ls (lv_sub hl [] rfl) hP hD hS
  · have hw := hw.1 c6
    refine lv_iconst (v := (1 : Int32)) hx hb dX3_contains_9 (by decide) ?_
    refine lv_goto (tgt := 14) hx hb dX3_contains_10 (by decide) ?_
    exact B14 _ hw _ _ ls (lv_sub hl [] rfl) hP hD hS
abbrev rm_C_areInStacks : Room := { frames := 1, cells := 0, slots := 0, locals := 23 }
set_option maxHeartbeats 4000000 in
set_option maxRecDepth 100000 in
theorem c_C_areInStacks (l : Launch) (D : va_G) (cs : CS) (a : Nat → Nat) (sz : Nat) (σ : CY) (p1 : Int32) {Φ : Int32 → CY → Prop} (hw : w_C_areInStacks σ p1 Φ) : Met l yX3_areInStacks wsX3_areInStacks rm_C_areInStacks (PcG [.ref (a 0), .int p1] D cs (ws_CY cs a σ) sz) (va_Qi Φ (BG D cs (va_A (ws_CY cs a σ) sz) sz (ws_CY cs a)) (va_A (ws_CY cs a σ) sz)) 0 0 (va_A (ws_CY cs a σ) sz) := by
  refine Met.ofW (cc := cX3_areInStacks) (maxL := 4) (ret := (some .boolean)) (by decide) rfl ?_
  intro p e s m args below meth c s₁ B hml hv
  obtain ⟨rfl, hsz, hP, hK, hD0⟩ := hv
  have hx := B.exec
  have hb := B.bytes
  have hr := B.returns
  have hts := atoms_spec (ws := wsX3_areInStacks) B.pre
  have hown : s.vm.findClass RX3 = some m.cls := findClass_of_methodNamed B.named
  have hlocks := B.notSynchronized
  subst hsz
  have hD := hD0.self (sz := s.heap.size)
  generalize hAe : va_A (ws_CY cs a σ) s.heap.size = A at hD ⊢
  have hA : ∀ q : Nat, s.heap.size ≤ q → A q := fun q h => by rw [← hAe]; exact Or.inr h
  have hS : va_S A s.heap s.heap [] := va_S.rf
  have hf10 : (Cond.fieldLink RX3 10 "CraneYard" "stacks" "LCraneYard$Stacks;").before ([.ref (a 0), .int p1] : List Value).toArray s = true := hts _ (List.mem_of_getElem? (i := 1) rfl)
  have hinX3 : ∀ w ∈ wsX30, w ∈ wsX3_areInStacks := fun _ h => List.mem_cons_of_mem _ (List.mem_append_left _ (List.mem_append_right _ h))
  have hP : va_P D vwCl (ws_CY cs a σ) s.heap := hP
  have B47 : ∀ (K19 : (Int32 → Int32 → CY → Prop)) (hK19 : ∀ (x1 : Int32) (x3 : Int32) (σ : CY), K19 x1 x3 σ → At p l e (headSpec wsX3_areInStacks rm_C_areInStacks).room s m ([.ref (a 0), .int p1] : List Value).toArray below meth c (MQ below (va_Qi Φ (BG D cs A s.heap.size (ws_CY cs a)) A) ([.ref (a 0), .int p1] : List Value).toArray s 0 0 A) D A 4 [(0, .ref (a 0)), (1, .int x1), (3, .int x3)] (ws_CY cs a σ) 19 []) (x1 : Int32) (x3 : Int32) (σ : CY), b_C_areInStacks_47 K19 Φ x1 x3 σ → At p l e (headSpec wsX3_areInStacks rm_C_areInStacks).room s m ([.ref (a 0), .int p1] : List Value).toArray below meth c (MQ below (va_Qi Φ (BG D cs A s.heap.size (ws_CY cs a)) A) ([.ref (a 0), .int p1] : List Value).toArray s 0 0 A) D A 4 [(0, .ref (a 0)), (1, .int x1), (3, .int x3)] (ws_CY cs a σ) 47 [] := by
    intro K19 hK19 x1 x3 σ hw H locs ls hl hP hD hS
    unfold b_C_areInStacks_47 at hw
    refine lv_iinc (v := (x3 + (1 : Int32))) (lv' := [(3, .int (x3 + (1 : Int32))), (0, .ref (a 0)), (1, .int x1)]) hx hb dX3_areInStacks_47 hl (k := 2) rfl rfl (by decide) rfl (fun ls hl => ?_)
    refine lv_goto (tgt := 19) hx hb dX3_areInStacks_50 (by decide) ?_
    exact hK19 _ _ _ hw _ _ ls (lv_sub hl [1, 2, 0] rfl) hP hD hS
  have B19 : ∀ (n : Nat) (x1 : Int32) (x3 : Int32) (σ : CY), it3 (b_C_areInStacks_19 Φ) n x1 x3 σ → At p l e (headSpec wsX3_areInStacks rm_C_areInStacks).room s m ([.ref (a 0), .int p1] : List Value).toArray below meth c (MQ below (va_Qi Φ (BG D cs A s.heap.size (ws_CY cs a)) A) ([.ref (a 0), .int p1] : List Value).toArray s 0 0 A) D A 4 [(0, .ref (a 0)), (1, .int x1), (3, .int x3)] (ws_CY cs a σ) 19 [] := by
    intro n
    induction n with
    | zero => intro x1 x3 σ hw; exact absurd hw id
    | succ n ih =>
      intro x1 x3 σ hw H locs ls hl hP hD hS
      have hw : b_C_areInStacks_19 Φ (it3 (b_C_areInStacks_19 Φ) n) x1 x3 σ := hw
      unfold b_C_areInStacks_19 at hw
      refine lv_iload_n hx hb dX3_areInStacks_19 rfl (lv_at hl 2 rfl) ?_
      refine lv_bipush (v := (32 : Int32)) hx hb dX3_areInStacks_20 (by decide) ?_
      refine lv_icmp_ge (tgt := 53) hx hb dX3_areInStacks_22 (by decide) (fun c22 => ?_) (fun c22 => ?_)
      · have hw := hw.1 c22
        refine lv_iconst (v := (1 : Int32)) hx hb dX3_areInStacks_53 (by decide) ?_
        exact rZ (wf := (ws_CY cs a)) (u := σ) hx hb hr hlocks hK hP hD hS hw dX3_areInStacks_54
      · have hw := hw.2 c22
        refine lv_iload_n hx hb dX3_areInStacks_25 rfl (lv_at hl 1 rfl) ?_
        refine lv_iload_n hx hb dX3_areInStacks_26 rfl (lv_at hl 2 rfl) ?_
        refine kSi (As := [.int x1, .int x3]) (rest := []) ⟨hx, hb, hml, hown, hts⟩ (c_C_contains l D cs a _ x1 x3 hw) (va_cwS 2 hts gX3_areInStacks_X3_contains rfl rfl rfl (by decide +kernel) ⟨Nat.le_of_ble_eq_true rfl, Nat.le_of_ble_eq_true rfl⟩) (pt_un_CY cs a σ) hK hP hD hS hA rfl hl.1 rfl (Nat.le_of_ble_eq_true rfl) dX3_areInStacks_27 ⟨Nat.zero_le _, Nat.zero_le _⟩ (fun r27 u27 H locs hw hP hD hS => ?_)
        have hP : va_P D vwCl (ws_CY cs a σ) H := hP
        have hD : va_D A (ws_CY cs a σ) := hD
        refine lv_if_eq (tgt := 47) hx hb dX3_areInStacks_30 (by decide) (fun c30 => ?_) (fun c30 => ?_)
        · have hw := hw.1 c30
          exact B47 _ ih _ _ _ hw _ _ ls (lv_sub hl [0, 1, 2] rfl) hP hD hS
        · have hw := hw.2 c30
          refine lv_aload_n hx hb dX3_areInStacks_33 rfl (lv_at hl 0 rfl) ?_
          refine va_get (D := D) (ci := 3) (v := .ref (a 1)) (C := RX3) (T := TX3) (N := 12) hx hb hts hinX3 hown hK hP 0 rfl rfl 0 (by decide) hf10 (fun _ h9 => h9) rfl dX3_areInStacks_34 ?_
          refine lv_iload_n hx hb dX3_areInStacks_37 rfl (lv_at hl 2 rfl) ?_
          refine kVi (As := [.int x3]) (rest := []) ⟨hx, hb, hml, hown, hts⟩ (c_S_stackHolding l D cs (sh a 1) _ (g_CY_st σ) x3 hw) (cwV 1 hts gX3_areInStacks_X1_stackHolding rfl rfl rfl (by decide +kernel) ⟨Nat.le_of_ble_eq_true rfl, Nat.le_of_ble_eq_true rfl⟩) (pt_CY_st cs a σ) hK hP hD hS hA (ci := 1) rfl rfl rfl rfl hl.1 rfl (Nat.le_of_ble_eq_true rfl) dX3_areInStacks_38 ⟨Nat.zero_le _, Nat.zero_le _⟩ (fun r38 u38 H locs hw hP hD hS => ?_)
          have hP : va_P D vwCl (ws_CY cs a (s_CY_st σ u38)) H := hP
          have hD : va_D A (ws_CY cs a (s_CY_st σ u38)) := hD
          refine lv_iconst (v := (-1 : Int32)) hx hb dX3_areInStacks_41 (by decide) ?_
          refine lv_icmp_ne (tgt := 47) hx hb dX3_areInStacks_42 (by decide) (fun c42 => ?_) (fun c42 => ?_)
          · have hw := hw.2 c42
            exact B47 _ ih _ _ _ hw _ _ ls (lv_sub hl [0, 1, 2] rfl) hP hD hS
          · have hw := hw.1 c42
            refine lv_iconst (v := (0 : Int32)) hx hb dX3_areInStacks_45 (by decide) ?_
            exact rZ (wf := (ws_CY cs a)) (u := (s_CY_st σ u38)) hx hb hr hlocks hK hP hD hS hw dX3_areInStacks_46
  have B15 : ∀ (σ : CY), b_C_areInStacks_15 Φ σ → At p l e (headSpec wsX3_areInStacks rm_C_areInStacks).room s m ([.ref (a 0), .int p1] : List Value).toArray below meth c (MQ below (va_Qi Φ (BG D cs A s.heap.size (ws_CY cs a)) A) ([.ref (a 0), .int p1] : List Value).toArray s 0 0 A) D A 4 [] (ws_CY cs a σ) 15 [] := by
    intro σ hw H locs ls hl hP hD hS
    unfold b_C_areInStacks_15 at hw
    refine lv_iconst (v := (0 : Int32)) hx hb dX3_areInStacks_15 (by decide) ?_
    exact rZ (wf := (ws_CY cs a)) (u := σ) hx hb hr hlocks hK hP hD hS hw dX3_areInStacks_16
  have hl := lv_entry ([.ref (a 0), .int p1]) (n := 4) (Nat.le_of_ble_eq_true rfl)
  rw [lg_entry_eq]
  generalize (lg_sl ([.ref (a 0), .int p1]) ++ List.replicate (4 - (lg_sl ([.ref (a 0), .int p1])).length) Slot.unset).toArray = ls at hl ⊢
  have hl : lv_has ls 4 [(0, .ref (a 0)), (1, .int p1)] := hl
  unfold w_C_areInStacks at hw
  refine lv_iload_n hx hb dX3_areInStacks_0 rfl (lv_at hl 1 rfl) ?_
  refine kSi (As := [.int p1]) (rest := []) ⟨hx, hb, hml, hown, hts⟩ (c_J_bitCount l D cs a _ p1 hw) (va_cwS 1 hts gX3_areInStacks_J6_bitCount_0f7a4 rfl rfl rfl (by decide +kernel) ⟨Nat.le_of_ble_eq_true rfl, Nat.le_of_ble_eq_true rfl⟩) (pt_un_CY cs a σ) hK hP hD hS hA rfl hl.1 rfl (Nat.le_of_ble_eq_true rfl) dX3_areInStacks_1 ⟨Nat.zero_le _, Nat.zero_le _⟩ (fun r1 u1 H locs hw hP hD hS => ?_)
  have hP : va_P D vwCl (ws_CY cs a σ) H := hP
  have hD : va_D A (ws_CY cs a σ) := hD
  refine lv_istore_n (lv' := [(2, .int r1), (0, .ref (a 0)), (1, .int p1)]) hx hb dX3_areInStacks_4 rfl hl (by decide) rfl (fun ls hl => ?_)
  refine lv_iload_n hx hb dX3_areInStacks_5 rfl (lv_at hl 0 rfl) ?_
  refine lv_iconst (v := (1 : Int32)) hx hb dX3_areInStacks_6 (by decide) ?_
  refine lv_icmp_lt (tgt := 15) hx hb dX3_areInStacks_7 (by decide) (fun c7 => ?_) (fun c7 => ?_)
  · have hw := hw.1 c7
    exact B15 _ hw _ _ ls (lv_sub hl [] rfl) hP hD hS
  · have hw := hw.2 c7
    refine lv_iload_n hx hb dX3_areInStacks_10 rfl (lv_at hl 0 rfl) ?_
    refine lv_iconst (v := (4 : Int32)) hx hb dX3_areInStacks_11 (by decide) ?_
    refine lv_icmp_le (tgt := 17) hx hb dX3_areInStacks_12 (by decide) (fun c12 => ?_) (fun c12 => ?_)
    · have hw := hw.1 c12
      refine lv_iconst (v := (0 : Int32)) hx hb dX3_areInStacks_17 (by decide) ?_
      refine lv_istore_n (lv' := [(3, .int (0 : Int32)), (2, .int r1), (0, .ref (a 0)), (1, .int p1)]) hx hb dX3_areInStacks_18 rfl hl (by decide) rfl (fun ls hl => ?_)
      obtain ⟨n, hw⟩ := hw
      exact B19 n _ _ _ hw _ _ ls (lv_sub hl [2, 3, 0] rfl) hP hD hS
    · have hw := hw.2 c12
      exact B15 _ hw _ _ ls (lv_sub hl [] rfl) hP hD hS
abbrev rm_C_ordersOf : Room := { frames := 0, cells := 0, slots := 0, locals := 0 }
set_option maxHeartbeats 4000000 in
set_option maxRecDepth 100000 in
theorem c_C_ordersOf (l : Launch) (D : va_G) (cs : CS) (a : Nat → Nat) (sz : Nat) (p0 : Int32) {Φ : Int32 → Unit → Prop} (hw : w_C_ordersOf p0 Φ) : Met l yX3_ordersOf wsX3_ordersOf rm_C_ordersOf (PcG [.int p0] D cs ([] : va_W) sz) (va_Qi Φ (BG D cs (va_A ([] : va_W) sz) sz (fun _ : Unit => ([] : va_W))) (va_A ([] : va_W) sz)) 0 0 (va_A ([] : va_W) sz) := by
  refine Met.ofW (cc := cX3_ordersOf) (maxL := 3) (ret := (some .int)) (by decide) rfl ?_
  intro p e s m args below meth c s₁ B hml hv
  obtain ⟨rfl, hsz, hP, hK, hD0⟩ := hv
  have hx := B.exec
  have hb := B.bytes
  have hr := B.returns
  have hts := atoms_spec (ws := wsX3_ordersOf) B.pre
  have hown : s.vm.findClass RX3 = some m.cls := findClass_of_methodNamed B.named
  have hlocks := B.notSynchronized
  subst hsz
  have hD := hD0.self (sz := s.heap.size)
  generalize hAe : va_A ([] : va_W) s.heap.size = A at hD ⊢
  have hA : ∀ q : Nat, s.heap.size ≤ q → A q := fun q h => by rw [← hAe]; exact Or.inr h
  have hS : va_S A s.heap s.heap [] := va_S.rf
  have hP : va_P D vwCl ([] : va_W) s.heap := hP
  have B4 : ∀ (n : Nat) (x0 : Int32) (x1 : Int32) (x2 : Int32), it3 (b_C_ordersOf_4 Φ) n x0 x1 x2 → At p l e (headSpec wsX3_ordersOf rm_C_ordersOf).room s m ([.int p0] : List Value).toArray below meth c (MQ below (va_Qi Φ (BG D cs A s.heap.size (fun _ : Unit => ([] : va_W))) A) ([.int p0] : List Value).toArray s 0 0 A) D A 3 [(0, .int x0), (1, .int x1), (2, .int x2)] ([] : va_W) 4 [] := by
    intro n
    induction n with
    | zero => intro x0 x1 x2 hw; exact absurd hw id
    | succ n ih =>
      intro x0 x1 x2 hw H locs ls hl hP hD hS
      have hw : b_C_ordersOf_4 Φ (it3 (b_C_ordersOf_4 Φ) n) x0 x1 x2 := hw
      unfold b_C_ordersOf_4 at hw
      refine lv_iload_n hx hb dX3_ordersOf_4 rfl (lv_at hl 2 rfl) ?_
      refine lv_iload_n hx hb dX3_ordersOf_5 rfl (lv_at hl 0 rfl) ?_
      refine lv_icmp_gt (tgt := 19) hx hb dX3_ordersOf_6 (by decide) (fun c6 => ?_) (fun c6 => ?_)
      · have hw := hw.1 c6
        refine lv_iload_n hx hb dX3_ordersOf_19 rfl (lv_at hl 1 rfl) ?_
        exact rI (wf := (fun _ : Unit => ([] : va_W))) (u := ()) hx hb hr hlocks hK hP hD hS hw dX3_ordersOf_20
      · have hw := hw.2 c6
        refine lv_iload_n hx hb dX3_ordersOf_9 rfl (lv_at hl 1 rfl) ?_
        refine lv_iload_n hx hb dX3_ordersOf_10 rfl (lv_at hl 2 rfl) ?_
        refine lv_imul hx hb dX3_ordersOf_11 ?_
        refine lv_istore_n (lv' := [(1, .int (x1 * x2)), (0, .int x0), (2, .int x2)]) hx hb dX3_ordersOf_12 rfl hl (by decide) rfl (fun ls hl => ?_)
        refine lv_iinc (v := (x2 + (1 : Int32))) (lv' := [(2, .int (x2 + (1 : Int32))), (1, .int (x1 * x2)), (0, .int x0)]) hx hb dX3_ordersOf_13 hl (k := 2) rfl rfl (by decide) rfl (fun ls hl => ?_)
        refine lv_goto (tgt := 4) hx hb dX3_ordersOf_16 (by decide) ?_
        exact ih _ _ _ hw _ _ ls (lv_sub hl [2, 1, 0] rfl) hP hD hS
  have hl := lv_entry ([.int p0]) (n := 3) (Nat.le_of_ble_eq_true rfl)
  rw [lg_entry_eq]
  generalize (lg_sl ([.int p0]) ++ List.replicate (3 - (lg_sl ([.int p0])).length) Slot.unset).toArray = ls at hl ⊢
  have hl : lv_has ls 3 [(0, .int p0)] := hl
  unfold w_C_ordersOf at hw
  refine lv_iconst (v := (1 : Int32)) hx hb dX3_ordersOf_0 (by decide) ?_
  refine lv_istore_n (lv' := [(1, .int (1 : Int32)), (0, .int p0)]) hx hb dX3_ordersOf_1 rfl hl (by decide) rfl (fun ls hl => ?_)
  refine lv_iconst (v := (2 : Int32)) hx hb dX3_ordersOf_2 (by decide) ?_
  refine lv_istore_n (lv' := [(2, .int (2 : Int32)), (1, .int (1 : Int32)), (0, .int p0)]) hx hb dX3_ordersOf_3 rfl hl (by decide) rfl (fun ls hl => ?_)
  obtain ⟨n, hw⟩ := hw
  exact B4 n _ _ _ hw _ _ ls (lv_sub hl [2, 1, 0] rfl) hP hD hS
abbrev rm_C_memberOf : Room := { frames := 1, cells := 0, slots := 0, locals := 21 }
set_option maxHeartbeats 4000000 in
set_option maxRecDepth 100000 in
theorem c_C_memberOf (l : Launch) (D : va_G) (cs : CS) (a : Nat → Nat) (sz : Nat) (p0 : Int32) (p1 : Int32) {Φ : Int32 → Unit → Prop} (hw : w_C_memberOf p0 p1 Φ) : Met l yX3_memberOf wsX3_memberOf rm_C_memberOf (PcG [.int p0, .int p1] D cs ([] : va_W) sz) (va_Qi Φ (BG D cs (va_A ([] : va_W) sz) sz (fun _ : Unit => ([] : va_W))) (va_A ([] : va_W) sz)) 0 0 (va_A ([] : va_W) sz) := by
  refine Met.ofW (cc := cX3_memberOf) (maxL := 4) (ret := (some .int)) (by decide) rfl ?_
  intro p e s m args below meth c s₁ B hml hv
  obtain ⟨rfl, hsz, hP, hK, hD0⟩ := hv
  have hx := B.exec
  have hb := B.bytes
  have hr := B.returns
  have hts := atoms_spec (ws := wsX3_memberOf) B.pre
  have hown : s.vm.findClass RX3 = some m.cls := findClass_of_methodNamed B.named
  have hlocks := B.notSynchronized
  subst hsz
  have hD := hD0.self (sz := s.heap.size)
  generalize hAe : va_A ([] : va_W) s.heap.size = A at hD ⊢
  have hA : ∀ q : Nat, s.heap.size ≤ q → A q := fun q h => by rw [← hAe]; exact Or.inr h
  have hS : va_S A s.heap s.heap [] := va_S.rf
  have hP : va_P D vwCl ([] : va_W) s.heap := hP
  have B28 : ∀ (K4 : (Int32 → Int32 → Int32 → Int32 → Prop)) (hK4 : ∀ (x0 : Int32) (x1 : Int32) (x2 : Int32) (x3 : Int32), K4 x0 x1 x2 x3 → At p l e (headSpec wsX3_memberOf rm_C_memberOf).room s m ([.int p0, .int p1] : List Value).toArray below meth c (MQ below (va_Qi Φ (BG D cs A s.heap.size (fun _ : Unit => ([] : va_W))) A) ([.int p0, .int p1] : List Value).toArray s 0 0 A) D A 4 [(0, .int x0), (1, .int x1), (2, .int x2), (3, .int x3)] ([] : va_W) 4 []) (x0 : Int32) (x1 : Int32) (x2 : Int32) (x3 : Int32), b_C_memberOf_28 K4 Φ x0 x1 x2 x3 → At p l e (headSpec wsX3_memberOf rm_C_memberOf).room s m ([.int p0, .int p1] : List Value).toArray below meth c (MQ below (va_Qi Φ (BG D cs A s.heap.size (fun _ : Unit => ([] : va_W))) A) ([.int p0, .int p1] : List Value).toArray s 0 0 A) D A 4 [(0, .int x0), (1, .int x1), (2, .int x2), (3, .int x3)] ([] : va_W) 28 [] := by
    intro K4 hK4 x0 x1 x2 x3 hw H locs ls hl hP hD hS
    unfold b_C_memberOf_28 at hw
    refine lv_iinc (v := (x3 + (1 : Int32))) (lv' := [(3, .int (x3 + (1 : Int32))), (0, .int x0), (1, .int x1), (2, .int x2)]) hx hb dX3_memberOf_28 hl (k := 3) rfl rfl (by decide) rfl (fun ls hl => ?_)
    refine lv_goto (tgt := 4) hx hb dX3_memberOf_31 (by decide) ?_
    exact hK4 _ _ _ _ hw _ _ ls (lv_sub hl [1, 2, 3, 0] rfl) hP hD hS
  have B4 : ∀ (n : Nat) (x0 : Int32) (x1 : Int32) (x2 : Int32) (x3 : Int32), it4 (b_C_memberOf_4 Φ) n x0 x1 x2 x3 → At p l e (headSpec wsX3_memberOf rm_C_memberOf).room s m ([.int p0, .int p1] : List Value).toArray below meth c (MQ below (va_Qi Φ (BG D cs A s.heap.size (fun _ : Unit => ([] : va_W))) A) ([.int p0, .int p1] : List Value).toArray s 0 0 A) D A 4 [(0, .int x0), (1, .int x1), (2, .int x2), (3, .int x3)] ([] : va_W) 4 [] := by
    intro n
    induction n with
    | zero => intro x0 x1 x2 x3 hw; exact absurd hw id
    | succ n ih =>
      intro x0 x1 x2 x3 hw H locs ls hl hP hD hS
      have hw : b_C_memberOf_4 Φ (it4 (b_C_memberOf_4 Φ) n) x0 x1 x2 x3 := hw
      unfold b_C_memberOf_4 at hw
      refine lv_iload_n hx hb dX3_memberOf_4 rfl (lv_at hl 3 rfl) ?_
      refine lv_bipush (v := (30 : Int32)) hx hb dX3_memberOf_5 (by decide) ?_
      refine lv_icmp_ge (tgt := 34) hx hb dX3_memberOf_7 (by decide) (fun c7 => ?_) (fun c7 => ?_)
      · have hw := hw.1 c7
        refine lv_iconst (v := (-1 : Int32)) hx hb dX3_memberOf_34 (by decide) ?_
        exact rI (wf := (fun _ : Unit => ([] : va_W))) (u := ()) hx hb hr hlocks hK hP hD hS hw dX3_memberOf_35
      · have hw := hw.2 c7
        refine lv_iload_n hx hb dX3_memberOf_10 rfl (lv_at hl 0 rfl) ?_
        refine lv_iload_n hx hb dX3_memberOf_11 rfl (lv_at hl 3 rfl) ?_
        refine kSi (As := [.int x0, .int x3]) (rest := []) ⟨hx, hb, hml, hown, hts⟩ (c_C_contains l D cs a _ x0 x3 hw) (va_cwS 2 hts gX3_memberOf_X3_contains rfl rfl rfl (by decide +kernel) ⟨Nat.le_of_ble_eq_true rfl, Nat.le_of_ble_eq_true rfl⟩) (pt_un_UN cs a) hK hP hD hS hA rfl hl.1 rfl (Nat.le_of_ble_eq_true rfl) dX3_memberOf_12 ⟨Nat.zero_le _, Nat.zero_le _⟩ (fun r12 u12 H locs hw hP hD hS => ?_)
        have hP : va_P D vwCl ([] : va_W) H := hP
        have hD : va_D A ([] : va_W) := hD
        refine lv_if_eq (tgt := 28) hx hb dX3_memberOf_15 (by decide) (fun c15 => ?_) (fun c15 => ?_)
        · have hw := hw.1 c15
          exact B28 _ ih _ _ _ _ hw _ _ ls (lv_sub hl [0, 1, 2, 3] rfl) hP hD hS
        · have hw := hw.2 c15
          refine lv_iload_n hx hb dX3_memberOf_18 rfl (lv_at hl 2 rfl) ?_
          refine lv_iload_n hx hb dX3_memberOf_19 rfl (lv_at hl 1 rfl) ?_
          refine lv_icmp_ne (tgt := 25) hx hb dX3_memberOf_20 (by decide) (fun c20 => ?_) (fun c20 => ?_)
          · have hw := hw.2 c20
            refine lv_iinc (v := (x2 + (1 : Int32))) (lv' := [(2, .int (x2 + (1 : Int32))), (0, .int x0), (1, .int x1), (3, .int x3)]) hx hb dX3_memberOf_25 hl (k := 2) rfl rfl (by decide) rfl (fun ls hl => ?_)
            exact B28 _ ih _ _ _ _ hw _ _ ls (lv_sub hl [1, 2, 0, 3] rfl) hP hD hS
          · have hw := hw.1 c20
            refine lv_iload_n hx hb dX3_memberOf_23 rfl (lv_at hl 3 rfl) ?_
            exact rI (wf := (fun _ : Unit => ([] : va_W))) (u := ()) hx hb hr hlocks hK hP hD hS hw dX3_memberOf_24
  have hl := lv_entry ([.int p0, .int p1]) (n := 4) (Nat.le_of_ble_eq_true rfl)
  rw [lg_entry_eq]
  generalize (lg_sl ([.int p0, .int p1]) ++ List.replicate (4 - (lg_sl ([.int p0, .int p1])).length) Slot.unset).toArray = ls at hl ⊢
  have hl : lv_has ls 4 [(0, .int p0), (1, .int p1)] := hl
  unfold w_C_memberOf at hw
  refine lv_iconst (v := (0 : Int32)) hx hb dX3_memberOf_0 (by decide) ?_
  refine lv_istore_n (lv' := [(2, .int (0 : Int32)), (0, .int p0), (1, .int p1)]) hx hb dX3_memberOf_1 rfl hl (by decide) rfl (fun ls hl => ?_)
  refine lv_iconst (v := (0 : Int32)) hx hb dX3_memberOf_2 (by decide) ?_
  refine lv_istore_n (lv' := [(3, .int (0 : Int32)), (2, .int (0 : Int32)), (0, .int p0), (1, .int p1)]) hx hb dX3_memberOf_3 rfl hl (by decide) rfl (fun ls hl => ?_)
  obtain ⟨n, hw⟩ := hw
  exact B4 n _ _ _ _ hw _ _ ls (lv_sub hl [2, 3, 1, 0] rfl) hP hD hS
abbrev rm_C_liftsInOrder : Room := { frames := 5, cells := 0, slots := 0, locals := 118 }
set_option maxHeartbeats 4000000 in
set_option maxRecDepth 100000 in
theorem c_C_liftsInOrder (l : Launch) (D : va_G) (cs : CS) (a : Nat → Nat) (sz : Nat) (σ : CY) (p1 : Int32) (p2 : Int32) {Φ : Int32 → CY → Prop} (hw : w_C_liftsInOrder σ p1 p2 Φ) : Met l yX3_liftsInOrder wsX3_liftsInOrder rm_C_liftsInOrder (PcG [.ref (a 0), .int p1, .int p2] D cs (ws_CY cs a σ) sz) (va_Qi Φ (BG D cs (va_A (ws_CY cs a σ) sz) sz (ws_CY cs a)) (va_A (ws_CY cs a σ) sz)) 0 0 (va_A (ws_CY cs a σ) sz) := by
  refine Met.ofW (cc := cX3_liftsInOrder) (maxL := 9) (ret := (some .int)) (by decide) rfl ?_
  intro p e s m args below meth c s₁ B hml hv
  obtain ⟨rfl, hsz, hP, hK, hD0⟩ := hv
  have hx := B.exec
  have hb := B.bytes
  have hr := B.returns
  have hts := atoms_spec (ws := wsX3_liftsInOrder) B.pre
  have hown : s.vm.findClass RX3 = some m.cls := findClass_of_methodNamed B.named
  have hlocks := B.notSynchronized
  subst hsz
  have hD := hD0.self (sz := s.heap.size)
  generalize hAe : va_A (ws_CY cs a σ) s.heap.size = A at hD ⊢
  have hA : ∀ q : Nat, s.heap.size ≤ q → A q := fun q h => by rw [← hAe]; exact Or.inr h
  have hS : va_S A s.heap s.heap [] := va_S.rf
  have hf10 : (Cond.fieldLink RX3 10 "CraneYard" "stacks" "LCraneYard$Stacks;").before ([.ref (a 0), .int p1, .int p2] : List Value).toArray s = true := hts _ (List.mem_of_getElem? (i := 2) rfl)
  have hf16 : (Cond.fieldLink RX3 16 "CraneYard" "trial" "LCraneYard$Stacks;").before ([.ref (a 0), .int p1, .int p2] : List Value).toArray s = true := hts _ (List.mem_of_getElem? (i := 1) rfl)
  have hinX3 : ∀ w ∈ wsX30, w ∈ wsX3_liftsInOrder := fun _ h => List.mem_cons_of_mem _ (List.mem_append_left _ (List.mem_append_right _ h))
  have hP : va_P D vwCl (ws_CY cs a σ) s.heap := hP
  have B25 : ∀ (n : Nat) (x3 : Int32) (x4 : Int32) (x5 : Int32) (x6 : Int32) (σ : CY), it5 (b_C_liftsInOrder_25 Φ) n x3 x4 x5 x6 σ → At p l e (headSpec wsX3_liftsInOrder rm_C_liftsInOrder).room s m ([.ref (a 0), .int p1, .int p2] : List Value).toArray below meth c (MQ below (va_Qi Φ (BG D cs A s.heap.size (ws_CY cs a)) A) ([.ref (a 0), .int p1, .int p2] : List Value).toArray s 0 0 A) D A 9 [(0, .ref (a 0)), (3, .int x3), (4, .int x4), (5, .int x5), (6, .int x6)] (ws_CY cs a σ) 25 [] := by
    intro n
    induction n with
    | zero => intro x3 x4 x5 x6 σ hw; exact absurd hw id
    | succ n ih =>
      intro x3 x4 x5 x6 σ hw H locs ls hl hP hD hS
      have hw : b_C_liftsInOrder_25 Φ (it5 (b_C_liftsInOrder_25 Φ) n) x3 x4 x5 x6 σ := hw
      unfold b_C_liftsInOrder_25 at hw
      refine lv_iload hx hb dX3_liftsInOrder_25 (lv_at hl 4 rfl) ?_
      refine lv_if_le (tgt := 93) hx hb dX3_liftsInOrder_27 (by decide) (fun c27 => ?_) (fun c27 => ?_)
      · have hw := hw.1 c27
        refine lv_iload hx hb dX3_liftsInOrder_93 (lv_at hl 3 rfl) ?_
        exact rI (wf := (ws_CY cs a)) (u := σ) hx hb hr hlocks hK hP hD hS hw dX3_liftsInOrder_95
      · have hw := hw.2 c27
        refine lv_iload_n hx hb dX3_liftsInOrder_30 rfl (lv_at hl 1 rfl) ?_
        refine lv_iload hx hb dX3_liftsInOrder_31 (lv_at hl 2 rfl) ?_
        refine lv_iload hx hb dX3_liftsInOrder_33 (lv_at hl 4 rfl) ?_
        have hq35 := hw.1
        have hw := hw.2
        refine lv_irem hx hb dX3_liftsInOrder_35 hq35 ?_
        refine kSi (As := [.int x3, .int (x4 - x4 / x6 * x6)]) (rest := []) ⟨hx, hb, hml, hown, hts⟩ (c_C_memberOf l D cs a _ x3 (x4 - x4 / x6 * x6) hw) (va_cwS 2 hts gX3_liftsInOrder_X3_memberOf rfl rfl rfl (by decide +kernel) ⟨Nat.le_of_ble_eq_true rfl, Nat.le_of_ble_eq_true rfl⟩) (pt_un_CY cs a σ) hK hP hD hS hA rfl hl.1 rfl (Nat.le_of_ble_eq_true rfl) dX3_liftsInOrder_36 ⟨Nat.zero_le _, Nat.zero_le _⟩ (fun r36 u36 H locs hw hP hD hS => ?_)
        have hP : va_P D vwCl (ws_CY cs a σ) H := hP
        have hD : va_D A (ws_CY cs a σ) := hD
        refine lv_istore (lv' := [(7, .int r36), (0, .ref (a 0)), (3, .int x3), (4, .int x4), (5, .int x5), (6, .int x6)]) hx hb dX3_liftsInOrder_39 hl (by decide) rfl (fun ls hl => ?_)
        refine lv_aload_n hx hb dX3_liftsInOrder_41 rfl (lv_at hl 1 rfl) ?_
        refine va_get (D := D) (ci := 3) (v := .ref (a 5)) (C := RX3) (T := TX3) (N := 12) hx hb hts hinX3 hown hK hP 0 rfl rfl 1 (by decide) hf16 (fun _ h9 => h9) rfl dX3_liftsInOrder_42 ?_
        refine lv_iload hx hb dX3_liftsInOrder_45 (lv_at hl 0 rfl) ?_
        refine lv_aload_n hx hb dX3_liftsInOrder_47 rfl (lv_at hl 1 rfl) ?_
        refine kVi (As := []) (rest := [.int r36, .ref (a 5)]) ⟨hx, hb, hml, hown, hts⟩ (c_C_mostPlaces l D cs a _ σ hw) (cwV 0 hts gX3_liftsInOrder_X3_mostPlaces rfl rfl rfl (by decide +kernel) ⟨Nat.le_of_ble_eq_true rfl, Nat.le_of_ble_eq_true rfl⟩) (pt_self_CY cs a σ) hK hP hD hS hA (ci := 3) rfl rfl rfl rfl hl.1 rfl (Nat.le_of_ble_eq_true rfl) dX3_liftsInOrder_48 ⟨Nat.zero_le _, Nat.zero_le _⟩ (fun r48 u48 H locs hw hP hD hS => ?_)
        have hP : va_P D vwCl (ws_CY cs a u48) H := hP
        have hD : va_D A (ws_CY cs a u48) := hD
        refine kVi (As := [.int r36, .int r48]) (rest := []) ⟨hx, hb, hml, hown, hts⟩ (c_S_digOut l D cs (sh a 5) _ (g_CY_tr u48) r36 r48 hw) (cwV 2 hts gX3_liftsInOrder_X1_digOut rfl rfl rfl (by decide +kernel) ⟨Nat.le_of_ble_eq_true rfl, Nat.le_of_ble_eq_true rfl⟩) (pt_CY_tr cs a u48) hK hP hD hS hA (ci := 1) rfl rfl rfl rfl hl.1 rfl (Nat.le_of_ble_eq_true rfl) dX3_liftsInOrder_51 ⟨Nat.zero_le _, Nat.zero_le _⟩ (fun r51 u51 H locs hw hP hD hS => ?_)
        have hP : va_P D vwCl (ws_CY cs a (s_CY_tr u48 u51)) H := hP
        have hD : va_D A (ws_CY cs a (s_CY_tr u48 u51)) := hD
        refine lv_istore (lv' := [(8, .int r51), (7, .int r36), (0, .ref (a 0)), (3, .int x3), (4, .int x4), (5, .int x5), (6, .int x6)]) hx hb dX3_liftsInOrder_54 hl (by decide) rfl (fun ls hl => ?_)
        refine lv_iload hx hb dX3_liftsInOrder_56 (lv_at hl 0 rfl) ?_
        refine lv_iconst (v := (-1 : Int32)) hx hb dX3_liftsInOrder_58 (by decide) ?_
        refine lv_icmp_ne (tgt := 64) hx hb dX3_liftsInOrder_59 (by decide) (fun c59 => ?_) (fun c59 => ?_)
        · have hw := hw.2 c59
          refine lv_iload hx hb dX3_liftsInOrder_64 (lv_at hl 5 rfl) ?_
          refine lv_iload hx hb dX3_liftsInOrder_66 (lv_at hl 0 rfl) ?_
          refine lv_iadd hx hb dX3_liftsInOrder_68 ?_
          refine lv_istore (lv' := [(5, .int (x5 + r51)), (8, .int r51), (7, .int r36), (0, .ref (a 0)), (3, .int x3), (4, .int x4), (6, .int x6)]) hx hb dX3_liftsInOrder_69 hl (by decide) rfl (fun ls hl => ?_)
          refine lv_iload_n hx hb dX3_liftsInOrder_71 rfl (lv_at hl 4 rfl) ?_
          refine lv_iconst (v := (1 : Int32)) hx hb dX3_liftsInOrder_72 (by decide) ?_
          refine lv_iload hx hb dX3_liftsInOrder_73 (lv_at hl 2 rfl) ?_
          refine lv_ishl hx hb dX3_liftsInOrder_75 ?_
          refine lv_iconst (v := (-1 : Int32)) hx hb dX3_liftsInOrder_76 (by decide) ?_
          refine lv_ixor hx hb dX3_liftsInOrder_77 ?_
          refine lv_iand hx hb dX3_liftsInOrder_78 ?_
          refine lv_topi (fun y1 ey1 => ?_)
          have hw := hw y1 ey1
          refine lv_istore_n (lv' := [(3, .int y1), (5, .int (x5 + r51)), (8, .int r51), (7, .int r36), (0, .ref (a 0)), (4, .int x4), (6, .int x6)]) hx hb dX3_liftsInOrder_79 rfl hl (by decide) rfl (fun ls hl => ?_)
          refine lv_iload hx hb dX3_liftsInOrder_80 (lv_at hl 5 rfl) ?_
          refine lv_iload hx hb dX3_liftsInOrder_82 (lv_at hl 6 rfl) ?_
          have hq84 := hw.1
          have hw := hw.2
          refine lv_idiv hx hb dX3_liftsInOrder_84 hq84 ?_
          refine lv_istore (lv' := [(4, .int (x4 / x6)), (3, .int y1), (5, .int (x5 + r51)), (8, .int r51), (7, .int r36), (0, .ref (a 0)), (6, .int x6)]) hx hb dX3_liftsInOrder_85 hl (by decide) rfl (fun ls hl => ?_)
          refine lv_iinc (v := (x6 + (-1 : Int32))) (lv' := [(6, .int (x6 + (-1 : Int32))), (4, .int (x4 / x6)), (3, .int y1), (5, .int (x5 + r51)), (8, .int r51), (7, .int r36), (0, .ref (a 0))]) hx hb dX3_liftsInOrder_87 hl (k := 6) rfl rfl (by decide) rfl (fun ls hl => ?_)
          refine lv_goto (tgt := 25) hx hb dX3_liftsInOrder_90 (by decide) ?_
          exact ih _ _ _ _ _ hw _ _ ls (lv_sub hl [6, 2, 1, 3, 0] rfl) hP hD hS
        · have hw := hw.1 c59
          refine lv_iconst (v := (-1 : Int32)) hx hb dX3_liftsInOrder_62 (by decide) ?_
          exact rI (wf := (ws_CY cs a)) (u := (s_CY_tr u48 u51)) hx hb hr hlocks hK hP hD hS hw dX3_liftsInOrder_63
  have hl := lv_entry ([.ref (a 0), .int p1, .int p2]) (n := 9) (Nat.le_of_ble_eq_true rfl)
  rw [lg_entry_eq]
  generalize (lg_sl ([.ref (a 0), .int p1, .int p2]) ++ List.replicate (9 - (lg_sl ([.ref (a 0), .int p1, .int p2])).length) Slot.unset).toArray = ls at hl ⊢
  have hl : lv_has ls 9 [(0, .ref (a 0)), (1, .int p1), (2, .int p2)] := hl
  unfold w_C_liftsInOrder at hw
  refine lv_aload_n hx hb dX3_liftsInOrder_0 rfl (lv_at hl 0 rfl) ?_
  refine va_get (D := D) (ci := 3) (v := .ref (a 5)) (C := RX3) (T := TX3) (N := 12) hx hb hts hinX3 hown hK hP 0 rfl rfl 1 (by decide) hf16 (fun _ h9 => h9) rfl dX3_liftsInOrder_1 ?_
  refine lv_aload_n hx hb dX3_liftsInOrder_4 rfl (lv_at hl 0 rfl) ?_
  refine va_get (D := D) (ci := 3) (v := .ref (a 1)) (C := RX3) (T := TX3) (N := 12) hx hb hts hinX3 hown hK hP 0 rfl rfl 0 (by decide) hf10 (fun _ h9 => h9) rfl dX3_liftsInOrder_5 ?_
  refine kVv (As := [.ref (a 1)]) (rest := []) ⟨hx, hb, hml, hown, hts⟩ (c_S_copyFrom l D cs (ad_CY_ts a) _ (gCY_ts σ) hw) (cwV 1 hts gX3_liftsInOrder_X1_copyFrom rfl rfl rfl (by decide +kernel) ⟨Nat.le_of_ble_eq_true rfl, Nat.le_of_ble_eq_true rfl⟩) (pt_CY_ts cs a σ) hK hP hD hS hA (ci := 1) rfl rfl rfl rfl hl.1 rfl (Nat.le_of_ble_eq_true rfl) dX3_liftsInOrder_8 ⟨Nat.zero_le _, Nat.zero_le _⟩ (fun u8 H locs hw hP hD hS => ?_)
  have hP : va_P D vwCl (ws_CY cs a (sCY_ts σ u8)) H := hP
  have hD : va_D A (ws_CY cs a (sCY_ts σ u8)) := hD
  refine lv_iload_n hx hb dX3_liftsInOrder_11 rfl (lv_at hl 1 rfl) ?_
  refine lv_istore_n (lv' := [(3, .int p1), (0, .ref (a 0)), (1, .int p1), (2, .int p2)]) hx hb dX3_liftsInOrder_12 rfl hl (by decide) rfl (fun ls hl => ?_)
  refine lv_iload_n hx hb dX3_liftsInOrder_13 rfl (lv_at hl 3 rfl) ?_
  refine lv_istore (lv' := [(4, .int p2), (3, .int p1), (0, .ref (a 0)), (1, .int p1), (2, .int p2)]) hx hb dX3_liftsInOrder_14 hl (by decide) rfl (fun ls hl => ?_)
  refine lv_iconst (v := (0 : Int32)) hx hb dX3_liftsInOrder_16 (by decide) ?_
  refine lv_istore (lv' := [(5, .int (0 : Int32)), (4, .int p2), (3, .int p1), (0, .ref (a 0)), (1, .int p1), (2, .int p2)]) hx hb dX3_liftsInOrder_17 hl (by decide) rfl (fun ls hl => ?_)
  refine lv_iload_n hx hb dX3_liftsInOrder_19 rfl (lv_at hl 4 rfl) ?_
  refine kSi (As := [.int p1]) (rest := []) ⟨hx, hb, hml, hown, hts⟩ (c_J_bitCount l D cs a _ p1 hw) (va_cwS 1 hts gX3_liftsInOrder_J6_bitCount_0f7a4 rfl rfl rfl (by decide +kernel) ⟨Nat.le_of_ble_eq_true rfl, Nat.le_of_ble_eq_true rfl⟩) (pt_un_CY cs a (sCY_ts σ u8)) hK hP hD hS hA rfl hl.1 rfl (Nat.le_of_ble_eq_true rfl) dX3_liftsInOrder_20 ⟨Nat.zero_le _, Nat.zero_le _⟩ (fun r20 u20 H locs hw hP hD hS => ?_)
  have hP : va_P D vwCl (ws_CY cs a (sCY_ts σ u8)) H := hP
  have hD : va_D A (ws_CY cs a (sCY_ts σ u8)) := hD
  refine lv_istore (lv' := [(6, .int r20), (5, .int (0 : Int32)), (4, .int p2), (3, .int p1), (0, .ref (a 0)), (1, .int p1), (2, .int p2)]) hx hb dX3_liftsInOrder_23 hl (by decide) rfl (fun ls hl => ?_)
  obtain ⟨n, hw⟩ := hw
  exact B25 n _ _ _ _ _ hw H locs ls (lv_sub hl [4, 3, 2, 1, 0] rfl) hP hD hS
abbrev rm_C_fewestLifts : Room := { frames := 7, cells := 1, slots := 6, locals := 146 }
set_option maxHeartbeats 4000000 in
set_option maxRecDepth 100000 in
theorem c_C_fewestLifts (l : Launch) (hfl : l.stackTraces = false) (D : va_G) (cs : CS) (a : Nat → Nat) (sz : Nat) (σ : CY) (p1 : Int32) {Φ : Int32 → CY → Prop} {Ξ : String → CY → Prop} (hw : w_C_fewestLifts σ p1 Φ Ξ) : vx_Met l yX3_fewestLifts wsX3_fewestLifts rm_C_fewestLifts (PcX [.ref (a 0), .int p1] D cs (ws_CY cs a σ) sz) (va_Qi Φ (BG D cs (va_A (ws_CY cs a σ) sz) sz (ws_CY cs a)) (va_A (ws_CY cs a σ) sz)) (XG D cs (va_A (ws_CY cs a σ) sz) (ws_CY cs a) Ξ) 1 6 (va_A (ws_CY cs a σ) sz) := by
  refine vx_ofW (cc := cX3_fewestLifts) (maxL := 6) (ret := (some .int)) (by decide) rfl ?_
  intro p e s m args below meth c s₁ B hml hout hv
  obtain ⟨rfl, hsz, hP, hK, hD0, hE⟩ := hv
  have hx := B.exec
  have hb := B.bytes
  have hr := B.returns
  have hts := atoms_spec (ws := wsX3_fewestLifts) B.pre
  have hown : s.vm.findClass RX3 = some m.cls := findClass_of_methodNamed B.named
  have hlocks := B.notSynchronized
  subst hsz
  have hD := hD0.self (sz := s.heap.size)
  generalize hAe : va_A (ws_CY cs a σ) s.heap.size = A at hD hE ⊢
  have hA : ∀ q : Nat, s.heap.size ≤ q → A q := fun q h => by rw [← hAe]; exact Or.inr h
  have hS : va_S A s.heap s.heap [] := va_S.rf
  have hi60 : (Cond.initialized "java/lang/IllegalArgumentException").before ([.ref (a 0), .int p1] : List Value).toArray s = true := hts _ (List.mem_of_getElem? (i := 2) rfl)
  have hk60 : (Cond.classLink RX3 60 "java/lang/IllegalArgumentException").before ([.ref (a 0), .int p1] : List Value).toArray s = true := hts _ (List.mem_of_getElem? (i := 1) rfl)
  have hP : va_P D vwCl (ws_CY cs a σ) s.heap := hP
  have B70 : ∀ (K35 : (Int32 → Int32 → Int32 → Int32 → CY → Prop)) (hK35 : ∀ (x1 : Int32) (x2 : Int32) (x3 : Int32) (x4 : Int32) (σ : CY), K35 x1 x2 x3 x4 σ → At p l e (headSpec wsX3_fewestLifts rm_C_fewestLifts).room s m ([.ref (a 0), .int p1] : List Value).toArray below meth c (vx_MQ below (va_Qi Φ (BG D cs A s.heap.size (ws_CY cs a)) A) (XG D cs A (ws_CY cs a) Ξ) ([.ref (a 0), .int p1] : List Value).toArray s 1 6 A) D A 6 [(0, .ref (a 0)), (1, .int x1), (2, .int x2), (3, .int x3), (4, .int x4)] (ws_CY cs a σ) 35 []) (x1 : Int32) (x2 : Int32) (x3 : Int32) (x4 : Int32) (σ : CY), b_C_fewestLifts_70 K35 Φ Ξ x1 x2 x3 x4 σ → At p l e (headSpec wsX3_fewestLifts rm_C_fewestLifts).room s m ([.ref (a 0), .int p1] : List Value).toArray below meth c (vx_MQ below (va_Qi Φ (BG D cs A s.heap.size (ws_CY cs a)) A) (XG D cs A (ws_CY cs a) Ξ) ([.ref (a 0), .int p1] : List Value).toArray s 1 6 A) D A 6 [(0, .ref (a 0)), (1, .int x1), (2, .int x2), (3, .int x3), (4, .int x4)] (ws_CY cs a σ) 70 [] := by
    intro K35 hK35 x1 x2 x3 x4 σ hw H locs ls hl hP hD hS
    unfold b_C_fewestLifts_70 at hw
    refine lv_iinc (v := (x4 + (1 : Int32))) (lv' := [(4, .int (x4 + (1 : Int32))), (0, .ref (a 0)), (1, .int x1), (2, .int x2), (3, .int x3)]) hx hb dX3_fewestLifts_70 hl (k := 4) rfl rfl (by decide) rfl (fun ls hl => ?_)
    refine lv_goto (tgt := 35) hx hb dX3_fewestLifts_73 (by decide) ?_
    exact hK35 _ _ _ _ _ hw _ _ ls (lv_sub hl [1, 2, 3, 4, 0] rfl) hP hD hS
  have B67 : ∀ (K35 : (Int32 → Int32 → Int32 → Int32 → CY → Prop)) (hK35 : ∀ (x1 : Int32) (x2 : Int32) (x3 : Int32) (x4 : Int32) (σ : CY), K35 x1 x2 x3 x4 σ → At p l e (headSpec wsX3_fewestLifts rm_C_fewestLifts).room s m ([.ref (a 0), .int p1] : List Value).toArray below meth c (vx_MQ below (va_Qi Φ (BG D cs A s.heap.size (ws_CY cs a)) A) (XG D cs A (ws_CY cs a) Ξ) ([.ref (a 0), .int p1] : List Value).toArray s 1 6 A) D A 6 [(0, .ref (a 0)), (1, .int x1), (2, .int x2), (3, .int x3), (4, .int x4)] (ws_CY cs a σ) 35 []) (x1 : Int32) (x2 : Int32) (x4 : Int32) (x5 : Int32) (σ : CY), b_C_fewestLifts_67 K35 Φ Ξ x1 x2 x4 x5 σ → At p l e (headSpec wsX3_fewestLifts rm_C_fewestLifts).room s m ([.ref (a 0), .int p1] : List Value).toArray below meth c (vx_MQ below (va_Qi Φ (BG D cs A s.heap.size (ws_CY cs a)) A) (XG D cs A (ws_CY cs a) Ξ) ([.ref (a 0), .int p1] : List Value).toArray s 1 6 A) D A 6 [(0, .ref (a 0)), (1, .int x1), (2, .int x2), (4, .int x4), (5, .int x5)] (ws_CY cs a σ) 67 [] := by
    intro K35 hK35 x1 x2 x4 x5 σ hw H locs ls hl hP hD hS
    unfold b_C_fewestLifts_67 at hw
    refine lv_iload hx hb dX3_fewestLifts_67 (lv_at hl 4 rfl) ?_
    refine lv_istore_n (lv' := [(3, .int x5), (0, .ref (a 0)), (1, .int x1), (2, .int x2), (4, .int x4), (5, .int x5)]) hx hb dX3_fewestLifts_69 rfl hl (by decide) rfl (fun ls hl => ?_)
    exact B70 _ hK35 _ _ _ _ _ hw _ _ ls (lv_sub hl [1, 2, 3, 0, 4] rfl) hP hD hS
  have B35 : ∀ (n : Nat) (x1 : Int32) (x2 : Int32) (x3 : Int32) (x4 : Int32) (σ : CY), it5 (b_C_fewestLifts_35 Φ Ξ) n x1 x2 x3 x4 σ → At p l e (headSpec wsX3_fewestLifts rm_C_fewestLifts).room s m ([.ref (a 0), .int p1] : List Value).toArray below meth c (vx_MQ below (va_Qi Φ (BG D cs A s.heap.size (ws_CY cs a)) A) (XG D cs A (ws_CY cs a) Ξ) ([.ref (a 0), .int p1] : List Value).toArray s 1 6 A) D A 6 [(0, .ref (a 0)), (1, .int x1), (2, .int x2), (3, .int x3), (4, .int x4)] (ws_CY cs a σ) 35 [] := by
    intro n
    induction n with
    | zero => intro x1 x2 x3 x4 σ hw; exact absurd hw id
    | succ n ih =>
      intro x1 x2 x3 x4 σ hw H locs ls hl hP hD hS
      have hw : b_C_fewestLifts_35 Φ Ξ (it5 (b_C_fewestLifts_35 Φ Ξ) n) x1 x2 x3 x4 σ := hw
      unfold b_C_fewestLifts_35 at hw
      refine lv_iload hx hb dX3_fewestLifts_35 (lv_at hl 4 rfl) ?_
      refine lv_iload_n hx hb dX3_fewestLifts_37 rfl (lv_at hl 2 rfl) ?_
      refine lv_icmp_ge (tgt := 76) hx hb dX3_fewestLifts_38 (by decide) (fun c38 => ?_) (fun c38 => ?_)
      · have hw := hw.1 c38
        refine lv_iload_n hx hb dX3_fewestLifts_76 rfl (lv_at hl 3 rfl) ?_
        exact xI (wf := (ws_CY cs a)) (u := σ) hx hb hr hlocks hK hP hD hS hw dX3_fewestLifts_77
      · have hw := hw.2 c38
        refine lv_aload_n hx hb dX3_fewestLifts_41 rfl (lv_at hl 0 rfl) ?_
        refine lv_iload_n hx hb dX3_fewestLifts_42 rfl (lv_at hl 1 rfl) ?_
        refine lv_iload hx hb dX3_fewestLifts_43 (lv_at hl 4 rfl) ?_
        refine kVi (As := [.int x1, .int x4]) (rest := []) ⟨hx, hb, hml, hown, hts⟩ (c_C_liftsInOrder l D cs a _ σ x1 x4 hw) (cwV 2 hts gX3_fewestLifts_X3_liftsInOrder rfl rfl rfl (by decide +kernel) ⟨Nat.le_of_ble_eq_true rfl, Nat.le_of_ble_eq_true rfl⟩) (pt_self_CY cs a σ) hK hP hD hS hA (ci := 3) rfl rfl rfl rfl hl.1 rfl (Nat.le_of_ble_eq_true rfl) dX3_fewestLifts_45 ⟨Nat.zero_le _, Nat.zero_le _⟩ (fun r45 u45 H locs hw hP hD hS => ?_)
        have hP : va_P D vwCl (ws_CY cs a u45) H := hP
        have hD : va_D A (ws_CY cs a u45) := hD
        refine lv_istore (lv' := [(5, .int r45), (0, .ref (a 0)), (1, .int x1), (2, .int x2), (3, .int x3), (4, .int x4)]) hx hb dX3_fewestLifts_48 hl (by decide) rfl (fun ls hl => ?_)
        refine lv_iload hx hb dX3_fewestLifts_50 (lv_at hl 0 rfl) ?_
        refine lv_iconst (v := (-1 : Int32)) hx hb dX3_fewestLifts_52 (by decide) ?_
        refine lv_icmp_eq (tgt := 70) hx hb dX3_fewestLifts_53 (by decide) (fun c53 => ?_) (fun c53 => ?_)
        · have hw := hw.1 c53
          exact B70 _ ih _ _ _ _ _ hw _ _ ls (lv_sub hl [1, 2, 3, 4, 5] rfl) hP hD hS
        · have hw := hw.2 c53
          refine lv_iload_n hx hb dX3_fewestLifts_56 rfl (lv_at hl 4 rfl) ?_
          refine lv_iconst (v := (-1 : Int32)) hx hb dX3_fewestLifts_57 (by decide) ?_
          refine lv_icmp_eq (tgt := 67) hx hb dX3_fewestLifts_58 (by decide) (fun c58 => ?_) (fun c58 => ?_)
          · have hw := hw.1 c58
            exact B67 _ ih _ _ _ _ _ hw _ _ ls (lv_sub hl [1, 2, 3, 5, 0] rfl) hP hD hS
          · have hw := hw.2 c58
            refine lv_iload hx hb dX3_fewestLifts_61 (lv_at hl 0 rfl) ?_
            refine lv_iload_n hx hb dX3_fewestLifts_63 rfl (lv_at hl 4 rfl) ?_
            refine lv_icmp_ge (tgt := 70) hx hb dX3_fewestLifts_64 (by decide) (fun c64 => ?_) (fun c64 => ?_)
            · have hw := hw.1 c64
              exact B70 _ ih _ _ _ _ _ hw _ _ ls (lv_sub hl [1, 2, 3, 4, 5] rfl) hP hD hS
            · have hw := hw.2 c64
              exact B67 _ ih _ _ _ _ _ hw _ _ ls (lv_sub hl [1, 2, 3, 5, 0] rfl) hP hD hS
  have hl := lv_entry ([.ref (a 0), .int p1]) (n := 6) (Nat.le_of_ble_eq_true rfl)
  rw [lg_entry_eq]
  generalize (lg_sl ([.ref (a 0), .int p1]) ++ List.replicate (6 - (lg_sl ([.ref (a 0), .int p1])).length) Slot.unset).toArray = ls at hl ⊢
  have hl : lv_has ls 6 [(0, .ref (a 0)), (1, .int p1)] := hl
  unfold w_C_fewestLifts at hw
  refine lv_aload_n hx hb dX3_fewestLifts_0 rfl (lv_at hl 0 rfl) ?_
  refine lv_iload_n hx hb dX3_fewestLifts_1 rfl (lv_at hl 1 rfl) ?_
  refine kVi (As := [.int p1]) (rest := []) ⟨hx, hb, hml, hown, hts⟩ (c_C_areInStacks l D cs a _ σ p1 hw) (cwV 1 hts gX3_fewestLifts_X3_areInStacks rfl rfl rfl (by decide +kernel) ⟨Nat.le_of_ble_eq_true rfl, Nat.le_of_ble_eq_true rfl⟩) (pt_self_CY cs a σ) hK hP hD hS hA (ci := 3) rfl rfl rfl rfl hl.1 rfl (Nat.le_of_ble_eq_true rfl) dX3_fewestLifts_2 ⟨Nat.zero_le _, Nat.zero_le _⟩ (fun r2 u2 H locs hw hP hD hS => ?_)
  have hP : va_P D vwCl (ws_CY cs a u2) H := hP
  have hD : va_D A (ws_CY cs a u2) := hD
  refine lv_if_ne (tgt := 18) hx hb dX3_fewestLifts_5 (by decide) (fun c5 => ?_) (fun c5 => ?_)
  · have hw := hw.2 c5
    refine lv_aload_n hx hb dX3_fewestLifts_18 rfl (lv_at hl 0 rfl) ?_
    refine kxVv (As := []) (rest := []) ⟨hx, hb, hml, hown, hts⟩ hE (c_C_requireEmptyCrane l hfl D cs a _ u2 hw) (cwV 0 hts gX3_fewestLifts_X3_requireEmptyCrane rfl rfl rfl (by decide +kernel) ⟨Nat.le_of_ble_eq_true rfl, Nat.le_of_ble_eq_true rfl⟩) (pt_self_CY cs a u2) hK hP hD hS hA (ci := 3) rfl rfl rfl rfl hl.1 rfl (Nat.le_of_ble_eq_true rfl) dX3_fewestLifts_19 ⟨Nat.le_of_ble_eq_true rfl, Nat.le_of_ble_eq_true rfl⟩ (fun E u19 H locs q9 ce hw hP hD hS hcell hv hcl => tX (wf := (ws_CY cs a)) (u := u19) hout hlocks hK hP hD hS hw hcell hv hcl) (fun u19 H locs hw hP hD hS => ?_)
    have hP : va_P D vwCl (ws_CY cs a u19) H := hP
    have hD : va_D A (ws_CY cs a u19) := hD
    refine lv_iload_n hx hb dX3_fewestLifts_22 rfl (lv_at hl 1 rfl) ?_
    refine kSi (As := [.int p1]) (rest := []) ⟨hx, hb, hml, hown, hts⟩ (c_J_bitCount l D cs a _ p1 hw) (va_cwS 1 hts gX3_fewestLifts_J6_bitCount_0f7a4 rfl rfl rfl (by decide +kernel) ⟨Nat.le_of_ble_eq_true rfl, Nat.le_of_ble_eq_true rfl⟩) (pt_un_CY cs a u19) hK hP hD hS hA rfl hl.1 rfl (Nat.le_of_ble_eq_true rfl) dX3_fewestLifts_23 ⟨Nat.zero_le _, Nat.zero_le _⟩ (fun r23 u23 H locs hw hP hD hS => ?_)
    have hP : va_P D vwCl (ws_CY cs a u19) H := hP
    have hD : va_D A (ws_CY cs a u19) := hD
    refine kSi (As := [.int r23]) (rest := []) ⟨hx, hb, hml, hown, hts⟩ (c_C_ordersOf l D cs a _ r23 hw) (va_cwS 1 hts gX3_fewestLifts_X3_ordersOf rfl rfl rfl (by decide +kernel) ⟨Nat.le_of_ble_eq_true rfl, Nat.le_of_ble_eq_true rfl⟩) (pt_un_CY cs a u19) hK hP hD hS hA rfl hl.1 rfl (Nat.le_of_ble_eq_true rfl) dX3_fewestLifts_26 ⟨Nat.zero_le _, Nat.zero_le _⟩ (fun r26 u26 H locs hw hP hD hS => ?_)
    have hP : va_P D vwCl (ws_CY cs a u19) H := hP
    have hD : va_D A (ws_CY cs a u19) := hD
    refine lv_istore_n (lv' := [(2, .int r26), (0, .ref (a 0)), (1, .int p1)]) hx hb dX3_fewestLifts_29 rfl hl (by decide) rfl (fun ls hl => ?_)
    refine lv_iconst (v := (-1 : Int32)) hx hb dX3_fewestLifts_30 (by decide) ?_
    refine lv_istore_n (lv' := [(3, .int (-1 : Int32)), (2, .int r26), (0, .ref (a 0)), (1, .int p1)]) hx hb dX3_fewestLifts_31 rfl hl (by decide) rfl (fun ls hl => ?_)
    refine lv_iconst (v := (0 : Int32)) hx hb dX3_fewestLifts_32 (by decide) ?_
    refine lv_istore (lv' := [(4, .int (0 : Int32)), (3, .int (-1 : Int32)), (2, .int r26), (0, .ref (a 0)), (1, .int p1)]) hx hb dX3_fewestLifts_33 hl (by decide) rfl (fun ls hl => ?_)
    obtain ⟨n, hw⟩ := hw
    exact B35 n _ _ _ _ _ hw H locs ls (lv_sub hl [3, 4, 2, 1, 0] rfl) hP hD hS
  · have hw := hw.1 c5
    exact tS (wf := (ws_CY cs a)) (u := u2) (ik := 60) (ic := 64) (text := "that is no set of 1 to 4 crates in stacks") (cls := "java/lang/IllegalArgumentException") hx hb hfl hown (by decide +kernel) hk60 hi60 (fun w h => hts w (List.mem_cons_of_mem _ (List.mem_append_left _ (List.mem_append_right _ h)))) ng_64 gd_64 (by decide) (by decide) hE hK hP hD hS (by rw [hml]; exact hl.1) dX3_fewestLifts_8 dX3_fewestLifts_11 dX3_fewestLifts_12 dX3_fewestLifts_14 dX3_fewestLifts_17 hout (Nat.le_of_ble_eq_true rfl) (Nat.le_of_ble_eq_true rfl) (Nat.le_of_ble_eq_true rfl) (Nat.le_of_ble_eq_true rfl) hlocks hw
abbrev rm_C_tell : Room := { frames := 7, cells := 1, slots := 6, locals := 112 }
set_option maxHeartbeats 4000000 in
set_option maxRecDepth 100000 in
theorem c_C_tell (l : Launch) (hfl : l.stackTraces = false) (D : va_G) (cs : CS) (a : Nat → Nat) (sz : Nat) (σ : CY) (p1 : Int32) (p2 : Int32) (p3 : Int32) (p4 : Int32) {Φ : Int32 → CY → Prop} {Ξ : String → CY → Prop} (hw : w_C_tell σ p1 p2 p3 p4 Φ Ξ) : vx_Met l yX3_tell wsX3_tell rm_C_tell (PcX [.ref (a 0), .int p1, .int p2, .int p3, .int p4] D cs (ws_CY cs a σ) sz) (va_Qi Φ (BG D cs (va_A (ws_CY cs a σ) sz) sz (ws_CY cs a)) (va_A (ws_CY cs a σ) sz)) (XG D cs (va_A (ws_CY cs a σ) sz) (ws_CY cs a) Ξ) 1 6 (va_A (ws_CY cs a σ) sz) := by
  refine vx_ofW (cc := cX3_tell) (maxL := 6) (ret := (some .int)) (by decide) rfl ?_
  intro p e s m args below meth c s₁ B hml hout hv
  obtain ⟨rfl, hsz, hP, hK, hD0, hE⟩ := hv
  have hx := B.exec
  have hb := B.bytes
  have hr := B.returns
  have hts := atoms_spec (ws := wsX3_tell) B.pre
  have hown : s.vm.findClass RX3 = some m.cls := findClass_of_methodNamed B.named
  have hlocks := B.notSynchronized
  subst hsz
  have hD := hD0.self (sz := s.heap.size)
  generalize hAe : va_A (ws_CY cs a σ) s.heap.size = A at hD hE ⊢
  have hA : ∀ q : Nat, s.heap.size ≤ q → A q := fun q h => by rw [← hAe]; exact Or.inr h
  have hS : va_S A s.heap s.heap [] := va_S.rf
  have hf22 : (Cond.fieldLink RX3 22 "CraneYard" "words" "LCraneYard$Words;").before ([.ref (a 0), .int p1, .int p2, .int p3, .int p4] : List Value).toArray s = true := hts _ (List.mem_of_getElem? (i := 5) rfl)
  have hi60 : (Cond.initialized "java/lang/IllegalArgumentException").before ([.ref (a 0), .int p1, .int p2, .int p3, .int p4] : List Value).toArray s = true := hts _ (List.mem_of_getElem? (i := 2) rfl)
  have hi74 : (Cond.initialized "java/lang/IllegalStateException").before ([.ref (a 0), .int p1, .int p2, .int p3, .int p4] : List Value).toArray s = true := hts _ (List.mem_of_getElem? (i := 4) rfl)
  have hinX3 : ∀ w ∈ wsX30, w ∈ wsX3_tell := fun _ h => List.mem_cons_of_mem _ (List.mem_append_left _ (List.mem_append_left _ (List.mem_append_left _ (List.mem_append_left _ (List.mem_append_right _ h)))))
  have hk60 : (Cond.classLink RX3 60 "java/lang/IllegalArgumentException").before ([.ref (a 0), .int p1, .int p2, .int p3, .int p4] : List Value).toArray s = true := hts _ (List.mem_of_getElem? (i := 1) rfl)
  have hk74 : (Cond.classLink RX3 74 "java/lang/IllegalStateException").before ([.ref (a 0), .int p1, .int p2, .int p3, .int p4] : List Value).toArray s = true := hts _ (List.mem_of_getElem? (i := 3) rfl)
  have hP : va_P D vwCl (ws_CY cs a σ) s.heap := hP
  have B43 : ∀ (x1 : Int32) (x2 : Int32) (x3 : Int32) (x4 : Int32) (σ : CY), b_C_tell_43 Φ Ξ x1 x2 x3 x4 σ → At p l e (headSpec wsX3_tell rm_C_tell).room s m ([.ref (a 0), .int p1, .int p2, .int p3, .int p4] : List Value).toArray below meth c (vx_MQ below (va_Qi Φ (BG D cs A s.heap.size (ws_CY cs a)) A) (XG D cs A (ws_CY cs a) Ξ) ([.ref (a 0), .int p1, .int p2, .int p3, .int p4] : List Value).toArray s 1 6 A) D A 6 [(0, .ref (a 0)), (1, .int x1), (2, .int x2), (3, .int x3), (4, .int x4)] (ws_CY cs a σ) 43 [] := by
    intro x1 x2 x3 x4 σ hw H locs ls hl hP hD hS
    unfold b_C_tell_43 at hw
    refine lv_aload_n hx hb dX3_tell_43 rfl (lv_at hl 0 rfl) ?_
    refine va_get (D := D) (ci := 3) (v := .ref (a 9)) (C := RX3) (T := TX3) (N := 12) hx hb hts hinX3 hown hK hP 0 rfl rfl 2 (by decide) hf22 (fun _ h9 => h9) rfl dX3_tell_44 ?_
    refine kVi (As := []) (rest := []) ⟨hx, hb, hml, hown, hts⟩ (c_W_number l D cs (sh a 9) _ (g_CY_wd σ) hw) (cwV 0 hts gX3_tell_X2_number rfl rfl rfl (by decide +kernel) ⟨Nat.le_of_ble_eq_true rfl, Nat.le_of_ble_eq_true rfl⟩) (pt_CY_wd cs a σ) hK hP hD hS hA (ci := 2) rfl rfl rfl rfl hl.1 rfl (Nat.le_of_ble_eq_true rfl) dX3_tell_47 ⟨Nat.zero_le _, Nat.zero_le _⟩ (fun r47 u47 H locs hw hP hD hS => ?_)
    have hP : va_P D vwCl (ws_CY cs a (s_CY_wd σ u47)) H := hP
    have hD : va_D A (ws_CY cs a (s_CY_wd σ u47)) := hD
    refine lv_bipush (v := (8 : Int32)) hx hb dX3_tell_50 (by decide) ?_
    refine lv_icmp_lt (tgt := 65) hx hb dX3_tell_52 (by decide) (fun c52 => ?_) (fun c52 => ?_)
    · have hw := hw.1 c52
      refine lv_aload_n hx hb dX3_tell_65 rfl (lv_at hl 0 rfl) ?_
      refine va_get (D := D) (ci := 3) (v := .ref (a 9)) (C := RX3) (T := TX3) (N := 12) hx hb hts hinX3 hown hK hP 0 rfl rfl 2 (by decide) hf22 (fun _ h9 => h9) rfl dX3_tell_66 ?_
      refine lv_iload_n hx hb dX3_tell_69 rfl (lv_at hl 1 rfl) ?_
      refine lv_iload_n hx hb dX3_tell_70 rfl (lv_at hl 2 rfl) ?_
      refine lv_iload_n hx hb dX3_tell_71 rfl (lv_at hl 3 rfl) ?_
      refine lv_iload hx hb dX3_tell_72 (lv_at hl 4 rfl) ?_
      refine kVi (As := [.int x1, .int x2, .int x3, .int x4]) (rest := []) ⟨hx, hb, hml, hown, hts⟩ (c_W_add l D cs (sh a 9) _ (g_CY_wd (s_CY_wd σ u47)) x1 x2 x3 x4 hw) (cwV 4 hts gX3_tell_X2_add rfl rfl rfl (by decide +kernel) ⟨Nat.le_of_ble_eq_true rfl, Nat.le_of_ble_eq_true rfl⟩) (pt_CY_wd cs a (s_CY_wd σ u47)) hK hP hD hS hA (ci := 2) rfl rfl rfl rfl hl.1 rfl (Nat.le_of_ble_eq_true rfl) dX3_tell_74 ⟨Nat.zero_le _, Nat.zero_le _⟩ (fun r74 u74 H locs hw hP hD hS => ?_)
      have hP : va_P D vwCl (ws_CY cs a (s_CY_wd (s_CY_wd σ u47) u74)) H := hP
      have hD : va_D A (ws_CY cs a (s_CY_wd (s_CY_wd σ u47) u74)) := hD
      refine lv_istore (lv' := [(5, .int r74), (0, .ref (a 0)), (1, .int x1), (2, .int x2), (3, .int x3), (4, .int x4)]) hx hb dX3_tell_77 hl (by decide) rfl (fun ls hl => ?_)
      refine lv_aload_n hx hb dX3_tell_79 rfl (lv_at hl 1 rfl) ?_
      refine kVv (As := []) (rest := []) ⟨hx, hb, hml, hown, hts⟩ (c_C_payWords l D cs a _ (s_CY_wd (s_CY_wd σ u47) u74) hw) (cwV 0 hts gX3_tell_X3_payWords rfl rfl rfl (by decide +kernel) ⟨Nat.le_of_ble_eq_true rfl, Nat.le_of_ble_eq_true rfl⟩) (pt_self_CY cs a (s_CY_wd (s_CY_wd σ u47) u74)) hK hP hD hS hA (ci := 3) rfl rfl rfl rfl hl.1 rfl (Nat.le_of_ble_eq_true rfl) dX3_tell_80 ⟨Nat.zero_le _, Nat.zero_le _⟩ (fun u80 H locs hw hP hD hS => ?_)
      have hP : va_P D vwCl (ws_CY cs a u80) H := hP
      have hD : va_D A (ws_CY cs a u80) := hD
      refine lv_iload hx hb dX3_tell_83 (lv_at hl 0 rfl) ?_
      exact xI (wf := (ws_CY cs a)) (u := u80) hx hb hr hlocks hK hP hD hS hw dX3_tell_85
    · have hw := hw.2 c52
      exact tS (wf := (ws_CY cs a)) (u := (s_CY_wd σ u47)) (ik := 74) (ic := 78) (text := "there are 8 words") (cls := "java/lang/IllegalStateException") hx hb hfl hown (by decide +kernel) hk74 hi74 (fun w h => hts w (List.mem_cons_of_mem _ (List.mem_append_right _ h))) ng_78 gd_78 (by decide) (by decide) hE hK hP hD hS (by rw [hml]; exact hl.1) dX3_tell_55 dX3_tell_58 dX3_tell_59 dX3_tell_61 dX3_tell_64 hout (Nat.le_of_ble_eq_true rfl) (Nat.le_of_ble_eq_true rfl) (Nat.le_of_ble_eq_true rfl) (Nat.le_of_ble_eq_true rfl) hlocks hw
  have B17 : ∀ (x1 : Int32) (x2 : Int32) (x3 : Int32) (x4 : Int32) (σ : CY), b_C_tell_17 Φ Ξ x1 x2 x3 x4 σ → At p l e (headSpec wsX3_tell rm_C_tell).room s m ([.ref (a 0), .int p1, .int p2, .int p3, .int p4] : List Value).toArray below meth c (vx_MQ below (va_Qi Φ (BG D cs A s.heap.size (ws_CY cs a)) A) (XG D cs A (ws_CY cs a) Ξ) ([.ref (a 0), .int p1, .int p2, .int p3, .int p4] : List Value).toArray s 1 6 A) D A 6 [(0, .ref (a 0)), (1, .int x1), (2, .int x2), (3, .int x3), (4, .int x4)] (ws_CY cs a σ) 17 [] := by
    intro x1 x2 x3 x4 σ hw H locs ls hl hP hD hS
    unfold b_C_tell_17 at hw
    refine lv_iload hx hb dX3_tell_17 (lv_at hl 4 rfl) ?_
    refine lv_iconst (v := (-1 : Int32)) hx hb dX3_tell_19 (by decide) ?_
    refine lv_icmp_eq (tgt := 43) hx hb dX3_tell_20 (by decide) (fun c20 => ?_) (fun c20 => ?_)
    · have hw := hw.1 c20
      exact B43 _ _ _ _ _ hw _ _ ls (lv_sub hl [0, 1, 2, 3, 4] rfl) hP hD hS
    · have hw := hw.2 c20
      refine lv_iload hx hb dX3_tell_23 (lv_at hl 4 rfl) ?_
      refine kxSv (As := [.int x4]) (rest := []) ⟨hx, hb, hml, hown, hts⟩ hE (c_C_requireLetter l hfl D cs a _ x4 hw) (va_cwS 1 hts gX3_tell_X3_requireLetter rfl rfl rfl (by decide +kernel) ⟨Nat.le_of_ble_eq_true rfl, Nat.le_of_ble_eq_true rfl⟩) (pt_un_CY cs a σ) hK hP hD hS hA rfl hl.1 rfl (Nat.le_of_ble_eq_true rfl) dX3_tell_25 ⟨Nat.le_of_ble_eq_true rfl, Nat.le_of_ble_eq_true rfl⟩ (fun E u25 H locs q9 ce hw hP hD hS hcell hv hcl => tX (wf := (ws_CY cs a)) (u := σ) hout hlocks hK hP hD hS hw hcell hv hcl) (fun u25 H locs hw hP hD hS => ?_)
      have hP : va_P D vwCl (ws_CY cs a σ) H := hP
      have hD : va_D A (ws_CY cs a σ) := hD
      refine lv_iload_n hx hb dX3_tell_28 rfl (lv_at hl 3 rfl) ?_
      refine lv_iconst (v := (-1 : Int32)) hx hb dX3_tell_29 (by decide) ?_
      refine lv_icmp_ne (tgt := 43) hx hb dX3_tell_30 (by decide) (fun c30 => ?_) (fun c30 => ?_)
      · have hw := hw.2 c30
        exact B43 _ _ _ _ _ hw _ _ ls (lv_sub hl [0, 1, 2, 3, 4] rfl) hP hD hS
      · have hw := hw.1 c30
        exact tS (wf := (ws_CY cs a)) (u := σ) (ik := 60) (ic := 64) (text := "a fourth letter without a third one") (cls := "java/lang/IllegalArgumentException") hx hb hfl hown (by decide +kernel) hk60 hi60 (fun w h => hts w (List.mem_cons_of_mem _ (List.mem_append_left _ (List.mem_append_right _ h)))) ng_64 gd_64 (by decide) (by decide) hE hK hP hD hS (by rw [hml]; exact hl.1) dX3_tell_33 dX3_tell_36 dX3_tell_37 dX3_tell_39 dX3_tell_42 hout (Nat.le_of_ble_eq_true rfl) (Nat.le_of_ble_eq_true rfl) (Nat.le_of_ble_eq_true rfl) (Nat.le_of_ble_eq_true rfl) hlocks hw
  have hl := lv_entry ([.ref (a 0), .int p1, .int p2, .int p3, .int p4]) (n := 6) (Nat.le_of_ble_eq_true rfl)
  rw [lg_entry_eq]
  generalize (lg_sl ([.ref (a 0), .int p1, .int p2, .int p3, .int p4]) ++ List.replicate (6 - (lg_sl ([.ref (a 0), .int p1, .int p2, .int p3, .int p4])).length) Slot.unset).toArray = ls at hl ⊢
  have hl : lv_has ls 6 [(0, .ref (a 0)), (1, .int p1), (2, .int p2), (3, .int p3), (4, .int p4)] := hl
  unfold w_C_tell at hw
  refine lv_iload_n hx hb dX3_tell_0 rfl (lv_at hl 1 rfl) ?_
  refine kxSv (As := [.int p1]) (rest := []) ⟨hx, hb, hml, hown, hts⟩ hE (c_C_requireLetter l hfl D cs a _ p1 hw) (va_cwS 1 hts gX3_tell_X3_requireLetter rfl rfl rfl (by decide +kernel) ⟨Nat.le_of_ble_eq_true rfl, Nat.le_of_ble_eq_true rfl⟩) (pt_un_CY cs a σ) hK hP hD hS hA rfl hl.1 rfl (Nat.le_of_ble_eq_true rfl) dX3_tell_1 ⟨Nat.le_of_ble_eq_true rfl, Nat.le_of_ble_eq_true rfl⟩ (fun E u1 H locs q9 ce hw hP hD hS hcell hv hcl => tX (wf := (ws_CY cs a)) (u := σ) hout hlocks hK hP hD hS hw hcell hv hcl) (fun u1 H locs hw hP hD hS => ?_)
  have hP : va_P D vwCl (ws_CY cs a σ) H := hP
  have hD : va_D A (ws_CY cs a σ) := hD
  refine lv_iload_n hx hb dX3_tell_4 rfl (lv_at hl 2 rfl) ?_
  refine kxSv (As := [.int p2]) (rest := []) ⟨hx, hb, hml, hown, hts⟩ hE (c_C_requireLetter l hfl D cs a _ p2 hw) (va_cwS 1 hts gX3_tell_X3_requireLetter rfl rfl rfl (by decide +kernel) ⟨Nat.le_of_ble_eq_true rfl, Nat.le_of_ble_eq_true rfl⟩) (pt_un_CY cs a σ) hK hP hD hS hA rfl hl.1 rfl (Nat.le_of_ble_eq_true rfl) dX3_tell_5 ⟨Nat.le_of_ble_eq_true rfl, Nat.le_of_ble_eq_true rfl⟩ (fun E u5 H locs q9 ce hw hP hD hS hcell hv hcl => tX (wf := (ws_CY cs a)) (u := σ) hout hlocks hK hP hD hS hw hcell hv hcl) (fun u5 H locs hw hP hD hS => ?_)
  have hP : va_P D vwCl (ws_CY cs a σ) H := hP
  have hD : va_D A (ws_CY cs a σ) := hD
  refine lv_iload_n hx hb dX3_tell_8 rfl (lv_at hl 3 rfl) ?_
  refine lv_iconst (v := (-1 : Int32)) hx hb dX3_tell_9 (by decide) ?_
  refine lv_icmp_eq (tgt := 17) hx hb dX3_tell_10 (by decide) (fun c10 => ?_) (fun c10 => ?_)
  · have hw := hw.1 c10
    exact B17 _ _ _ _ _ hw _ _ ls (lv_sub hl [0, 1, 2, 3, 4] rfl) hP hD hS
  · have hw := hw.2 c10
    refine lv_iload_n hx hb dX3_tell_13 rfl (lv_at hl 3 rfl) ?_
    refine kxSv (As := [.int p3]) (rest := []) ⟨hx, hb, hml, hown, hts⟩ hE (c_C_requireLetter l hfl D cs a _ p3 hw) (va_cwS 1 hts gX3_tell_X3_requireLetter rfl rfl rfl (by decide +kernel) ⟨Nat.le_of_ble_eq_true rfl, Nat.le_of_ble_eq_true rfl⟩) (pt_un_CY cs a σ) hK hP hD hS hA rfl hl.1 rfl (Nat.le_of_ble_eq_true rfl) dX3_tell_14 ⟨Nat.le_of_ble_eq_true rfl, Nat.le_of_ble_eq_true rfl⟩ (fun E u14 H locs q9 ce hw hP hD hS hcell hv hcl => tX (wf := (ws_CY cs a)) (u := σ) hout hlocks hK hP hD hS hw hcell hv hcl) (fun u14 H locs hw hP hD hS => ?_)
    have hP : va_P D vwCl (ws_CY cs a σ) H := hP
    have hD : va_D A (ws_CY cs a σ) := hD
    exact B17 _ _ _ _ _ hw H locs ls (lv_sub hl [0, 1, 2, 3, 4] rfl) hP hD hS
abbrev rm_C_bonus : Room := { frames := 1, cells := 0, slots := 0, locals := 20 }
set_option maxHeartbeats 4000000 in
set_option maxRecDepth 100000 in
theorem c_C_bonus (l : Launch) (D : va_G) (cs : CS) (a : Nat → Nat) (sz : Nat) (σ : CY) {Φ : Int32 → CY → Prop} (hw : w_C_bonus σ Φ) : Met l yX3_bonus wsX3_bonus rm_C_bonus (PcG [.ref (a 0)] D cs (ws_CY cs a σ) sz) (va_Qi Φ (BG D cs (va_A (ws_CY cs a σ) sz) sz (ws_CY cs a)) (va_A (ws_CY cs a σ) sz)) 0 0 (va_A (ws_CY cs a σ) sz) := by
  refine Met.ofW (cc := cX3_bonus) (maxL := 1) (ret := (some .int)) (by decide) rfl ?_
  intro p e s m args below meth c s₁ B hml hv
  obtain ⟨rfl, hsz, hP, hK, hD0⟩ := hv
  have hx := B.exec
  have hb := B.bytes
  have hr := B.returns
  have hts := atoms_spec (ws := wsX3_bonus) B.pre
  have hown : s.vm.findClass RX3 = some m.cls := findClass_of_methodNamed B.named
  have hlocks := B.notSynchronized
  subst hsz
  have hD := hD0.self (sz := s.heap.size)
  generalize hAe : va_A (ws_CY cs a σ) s.heap.size = A at hD ⊢
  have hA : ∀ q : Nat, s.heap.size ≤ q → A q := fun q h => by rw [← hAe]; exact Or.inr h
  have hS : va_S A s.heap s.heap [] := va_S.rf
  have hf22 : (Cond.fieldLink RX3 22 "CraneYard" "words" "LCraneYard$Words;").before ([.ref (a 0)] : List Value).toArray s = true := hts _ (List.mem_of_getElem? (i := 1) rfl)
  have hinX3 : ∀ w ∈ wsX30, w ∈ wsX3_bonus := fun _ h => List.mem_cons_of_mem _ (List.mem_append_left _ (List.mem_append_right _ h))
  have hP : va_P D vwCl (ws_CY cs a σ) s.heap := hP
  have hl := lv_entry ([.ref (a 0)]) (n := 1) (Nat.le_of_ble_eq_true rfl)
  rw [lg_entry_eq]
  generalize (lg_sl ([.ref (a 0)]) ++ List.replicate (1 - (lg_sl ([.ref (a 0)])).length) Slot.unset).toArray = ls at hl ⊢
  have hl : lv_has ls 1 [(0, .ref (a 0))] := hl
  unfold w_C_bonus at hw
  refine lv_aload_n hx hb dX3_bonus_0 rfl (lv_at hl 0 rfl) ?_
  refine va_get (D := D) (ci := 3) (v := .ref (a 9)) (C := RX3) (T := TX3) (N := 12) hx hb hts hinX3 hown hK hP 0 rfl rfl 2 (by decide) hf22 (fun _ h9 => h9) rfl dX3_bonus_1 ?_
  refine kVi (As := []) (rest := []) ⟨hx, hb, hml, hown, hts⟩ (c_W_paidInAll l D cs (sh a 9) _ (g_CY_wd σ) hw) (cwV 0 hts gX3_bonus_X2_paidInAll rfl rfl rfl (by decide +kernel) ⟨Nat.le_of_ble_eq_true rfl, Nat.le_of_ble_eq_true rfl⟩) (pt_CY_wd cs a σ) hK hP hD hS hA (ci := 2) rfl rfl rfl rfl hl.1 rfl (Nat.le_of_ble_eq_true rfl) dX3_bonus_4 ⟨Nat.zero_le _, Nat.zero_le _⟩ (fun r4 u4 H locs hw hP hD hS => ?_)
  have hP : va_P D vwCl (ws_CY cs a (s_CY_wd σ u4)) H := hP
  have hD : va_D A (ws_CY cs a (s_CY_wd σ u4)) := hD
  exact rI (wf := (ws_CY cs a)) (u := (s_CY_wd σ u4)) hx hb hr hlocks hK hP hD hS hw dX3_bonus_7
abbrev rm_C_offer : Room := { frames := 7, cells := 1, slots := 6, locals := 113 }
set_option maxHeartbeats 4000000 in
set_option maxRecDepth 100000 in
theorem c_C_offer (l : Launch) (hfl : l.stackTraces = false) (D : va_G) (cs : CS) (a : Nat → Nat) (sz : Nat) (σ : CY) (p1 : Int32) (p2 : Int32) {Φ : Int32 → CY → Prop} {Ξ : String → CY → Prop} (hw : w_C_offer σ p1 p2 Φ Ξ) : vx_Met l yX3_offer wsX3_offer rm_C_offer (PcX [.ref (a 0), .int p1, .int p2] D cs (ws_CY cs a σ) sz) (va_Qi Φ (BG D cs (va_A (ws_CY cs a σ) sz) sz (ws_CY cs a)) (va_A (ws_CY cs a σ) sz)) (XG D cs (va_A (ws_CY cs a σ) sz) (ws_CY cs a) Ξ) 1 6 (va_A (ws_CY cs a σ) sz) := by
  refine vx_ofW (cc := cX3_offer) (maxL := 3) (ret := (some .int)) (by decide) rfl ?_
  intro p e s m args below meth c s₁ B hml hout hv
  obtain ⟨rfl, hsz, hP, hK, hD0, hE⟩ := hv
  have hx := B.exec
  have hb := B.bytes
  have hr := B.returns
  have hts := atoms_spec (ws := wsX3_offer) B.pre
  have hown : s.vm.findClass RX3 = some m.cls := findClass_of_methodNamed B.named
  have hlocks := B.notSynchronized
  subst hsz
  have hD := hD0.self (sz := s.heap.size)
  generalize hAe : va_A (ws_CY cs a σ) s.heap.size = A at hD hE ⊢
  have hA : ∀ q : Nat, s.heap.size ≤ q → A q := fun q h => by rw [← hAe]; exact Or.inr h
  have hS : va_S A s.heap s.heap [] := va_S.rf
  have hf29 : (Cond.fieldLink RX3 29 "CraneYard" "hauls" "LCraneYard$Hauls;").before ([.ref (a 0), .int p1, .int p2] : List Value).toArray s = true := hts _ (List.mem_of_getElem? (i := 6) rfl)
  have hf50 : (Cond.fieldLink RX3 50 "CraneYard" "day" "I").before ([.ref (a 0), .int p1, .int p2] : List Value).toArray s = true := hts _ (List.mem_of_getElem? (i := 5) rfl)
  have hi60 : (Cond.initialized "java/lang/IllegalArgumentException").before ([.ref (a 0), .int p1, .int p2] : List Value).toArray s = true := hts _ (List.mem_of_getElem? (i := 2) rfl)
  have hi74 : (Cond.initialized "java/lang/IllegalStateException").before ([.ref (a 0), .int p1, .int p2] : List Value).toArray s = true := hts _ (List.mem_of_getElem? (i := 4) rfl)
  have hinX3 : ∀ w ∈ wsX30, w ∈ wsX3_offer := fun _ h => List.mem_cons_of_mem _ (List.mem_append_left _ (List.mem_append_left _ (List.mem_append_left _ (List.mem_append_left _ (List.mem_append_left _ (List.mem_append_right _ h))))))
  have hk60 : (Cond.classLink RX3 60 "java/lang/IllegalArgumentException").before ([.ref (a 0), .int p1, .int p2] : List Value).toArray s = true := hts _ (List.mem_of_getElem? (i := 1) rfl)
  have hk74 : (Cond.classLink RX3 74 "java/lang/IllegalStateException").before ([.ref (a 0), .int p1, .int p2] : List Value).toArray s = true := hts _ (List.mem_of_getElem? (i := 3) rfl)
  have hP : va_P D vwCl (ws_CY cs a σ) s.heap := hP
  have B24 : ∀ (σ : CY), b_C_offer_24 Φ Ξ σ → At p l e (headSpec wsX3_offer rm_C_offer).room s m ([.ref (a 0), .int p1, .int p2] : List Value).toArray below meth c (vx_MQ below (va_Qi Φ (BG D cs A s.heap.size (ws_CY cs a)) A) (XG D cs A (ws_CY cs a) Ξ) ([.ref (a 0), .int p1, .int p2] : List Value).toArray s 1 6 A) D A 3 [] (ws_CY cs a σ) 24 [] := by
    intro σ hw H locs ls hl hP hD hS
    unfold b_C_offer_24 at hw
    exact tS (wf := (ws_CY cs a)) (u := σ) (ik := 60) (ic := 64) (text := "the last day is not today to today + 100") (cls := "java/lang/IllegalArgumentException") hx hb hfl hown (by decide +kernel) hk60 hi60 (fun w h => hts w (List.mem_cons_of_mem _ (List.mem_append_left _ (List.mem_append_left _ (List.mem_append_right _ h))))) ng_64 gd_64 (by decide) (by decide) hE hK hP hD hS (by rw [hml]; exact hl.1) dX3_offer_24 dX3_offer_27 dX3_offer_28 dX3_offer_30 dX3_offer_33 hout (Nat.le_of_ble_eq_true rfl) (Nat.le_of_ble_eq_true rfl) (Nat.le_of_ble_eq_true rfl) (Nat.le_of_ble_eq_true rfl) hlocks hw
  have hl := lv_entry ([.ref (a 0), .int p1, .int p2]) (n := 3) (Nat.le_of_ble_eq_true rfl)
  rw [lg_entry_eq]
  generalize (lg_sl ([.ref (a 0), .int p1, .int p2]) ++ List.replicate (3 - (lg_sl ([.ref (a 0), .int p1, .int p2])).length) Slot.unset).toArray = ls at hl ⊢
  have hl : lv_has ls 3 [(0, .ref (a 0)), (1, .int p1), (2, .int p2)] := hl
  unfold w_C_offer at hw
  refine lv_aload_n hx hb dX3_offer_0 rfl (lv_at hl 0 rfl) ?_
  refine lv_iload_n hx hb dX3_offer_1 rfl (lv_at hl 1 rfl) ?_
  refine kxVv (As := [.int p1]) (rest := []) ⟨hx, hb, hml, hown, hts⟩ hE (c_C_requireCrate l hfl D cs a _ σ p1 hw) (cwV 1 hts gX3_offer_X3_requireCrate rfl rfl rfl (by decide +kernel) ⟨Nat.le_of_ble_eq_true rfl, Nat.le_of_ble_eq_true rfl⟩) (pt_self_CY cs a σ) hK hP hD hS hA (ci := 3) rfl rfl rfl rfl hl.1 rfl (Nat.le_of_ble_eq_true rfl) dX3_offer_2 ⟨Nat.le_of_ble_eq_true rfl, Nat.le_of_ble_eq_true rfl⟩ (fun E u2 H locs q9 ce hw hP hD hS hcell hv hcl => tX (wf := (ws_CY cs a)) (u := u2) hout hlocks hK hP hD hS hw hcell hv hcl) (fun u2 H locs hw hP hD hS => ?_)
  have hP : va_P D vwCl (ws_CY cs a u2) H := hP
  have hD : va_D A (ws_CY cs a u2) := hD
  refine lv_iload_n hx hb dX3_offer_5 rfl (lv_at hl 2 rfl) ?_
  refine lv_aload_n hx hb dX3_offer_6 rfl (lv_at hl 0 rfl) ?_
  refine va_get (D := D) (ci := 3) (v := .int (g_CY_day u2)) (C := RX3) (T := TX3) (N := 12) hx hb hts hinX3 hown hK hP 0 rfl rfl 9 (by decide) hf50 (fun _ h9 => h9) rfl dX3_offer_7 ?_
  refine lv_icmp_lt (tgt := 24) hx hb dX3_offer_10 (by decide) (fun c10 => ?_) (fun c10 => ?_)
  · have hw := hw.1 c10
    exact B24 _ hw _ _ ls (lv_sub hl [] rfl) hP hD hS
  · have hw := hw.2 c10
    refine lv_iload_n hx hb dX3_offer_13 rfl (lv_at hl 2 rfl) ?_
    refine lv_aload_n hx hb dX3_offer_14 rfl (lv_at hl 0 rfl) ?_
    refine va_get (D := D) (ci := 3) (v := .int (g_CY_day u2)) (C := RX3) (T := TX3) (N := 12) hx hb hts hinX3 hown hK hP 0 rfl rfl 9 (by decide) hf50 (fun _ h9 => h9) rfl dX3_offer_15 ?_
    refine lv_bipush (v := (100 : Int32)) hx hb dX3_offer_18 (by decide) ?_
    refine lv_iadd hx hb dX3_offer_20 ?_
    refine lv_icmp_le (tgt := 34) hx hb dX3_offer_21 (by decide) (fun c21 => ?_) (fun c21 => ?_)
    · have hw := hw.1 c21
      refine lv_aload_n hx hb dX3_offer_34 rfl (lv_at hl 0 rfl) ?_
      refine lv_iload_n hx hb dX3_offer_35 rfl (lv_at hl 1 rfl) ?_
      refine kxVv (As := [.int p1]) (rest := []) ⟨hx, hb, hml, hown, hts⟩ hE (c_C_requireInStack l hfl D cs a _ u2 p1 hw) (cwV 1 hts gX3_offer_X3_requireInStack rfl rfl rfl (by decide +kernel) ⟨Nat.le_of_ble_eq_true rfl, Nat.le_of_ble_eq_true rfl⟩) (pt_self_CY cs a u2) hK hP hD hS hA (ci := 3) rfl rfl rfl rfl hl.1 rfl (Nat.le_of_ble_eq_true rfl) dX3_offer_36 ⟨Nat.le_of_ble_eq_true rfl, Nat.le_of_ble_eq_true rfl⟩ (fun E u36 H locs q9 ce hw hP hD hS hcell hv hcl => tX (wf := (ws_CY cs a)) (u := u36) hout hlocks hK hP hD hS hw hcell hv hcl) (fun u36 H locs hw hP hD hS => ?_)
      have hP : va_P D vwCl (ws_CY cs a u36) H := hP
      have hD : va_D A (ws_CY cs a u36) := hD
      refine lv_aload_n hx hb dX3_offer_39 rfl (lv_at hl 0 rfl) ?_
      refine va_get (D := D) (ci := 3) (v := .ref (a 13)) (C := RX3) (T := TX3) (N := 12) hx hb hts hinX3 hown hK hP 0 rfl rfl 3 (by decide) hf29 (fun _ h9 => h9) rfl dX3_offer_40 ?_
      refine lv_iload_n hx hb dX3_offer_43 rfl (lv_at hl 1 rfl) ?_
      refine kVi (As := [.int p1]) (rest := []) ⟨hx, hb, hml, hown, hts⟩ (c_H_openHaulOf l D cs (sh a 13) _ (g_CY_hl u36) p1 hw) (cwV 1 hts gX3_offer_X0_openHaulOf rfl rfl rfl (by decide +kernel) ⟨Nat.le_of_ble_eq_true rfl, Nat.le_of_ble_eq_true rfl⟩) (pt_CY_hl cs a u36) hK hP hD hS hA (ci := 0) rfl rfl rfl rfl hl.1 rfl (Nat.le_of_ble_eq_true rfl) dX3_offer_44 ⟨Nat.zero_le _, Nat.zero_le _⟩ (fun r44 u44 H locs hw hP hD hS => ?_)
      have hP : va_P D vwCl (ws_CY cs a (s_CY_hl u36 u44)) H := hP
      have hD : va_D A (ws_CY cs a (s_CY_hl u36 u44)) := hD
      refine lv_iconst (v := (-1 : Int32)) hx hb dX3_offer_47 (by decide) ?_
      refine lv_icmp_eq (tgt := 61) hx hb dX3_offer_48 (by decide) (fun c48 => ?_) (fun c48 => ?_)
      · have hw := hw.1 c48
        refine lv_aload_n hx hb dX3_offer_61 rfl (lv_at hl 0 rfl) ?_
        refine va_get (D := D) (ci := 3) (v := .ref (a 13)) (C := RX3) (T := TX3) (N := 12) hx hb hts hinX3 hown hK hP 0 rfl rfl 3 (by decide) hf29 (fun _ h9 => h9) rfl dX3_offer_62 ?_
        refine kVi (As := []) (rest := []) ⟨hx, hb, hml, hown, hts⟩ (c_H_number l D cs (sh a 13) _ (g_CY_hl (s_CY_hl u36 u44)) hw) (cwV 0 hts gX3_offer_X0_number rfl rfl rfl (by decide +kernel) ⟨Nat.le_of_ble_eq_true rfl, Nat.le_of_ble_eq_true rfl⟩) (pt_CY_hl cs a (s_CY_hl u36 u44)) hK hP hD hS hA (ci := 0) rfl rfl rfl rfl hl.1 rfl (Nat.le_of_ble_eq_true rfl) dX3_offer_65 ⟨Nat.zero_le _, Nat.zero_le _⟩ (fun r65 u65 H locs hw hP hD hS => ?_)
        have hP : va_P D vwCl (ws_CY cs a (s_CY_hl (s_CY_hl u36 u44) u65)) H := hP
        have hD : va_D A (ws_CY cs a (s_CY_hl (s_CY_hl u36 u44) u65)) := hD
        refine lv_bipush (v := (20 : Int32)) hx hb dX3_offer_68 (by decide) ?_
        refine lv_icmp_lt (tgt := 83) hx hb dX3_offer_70 (by decide) (fun c70 => ?_) (fun c70 => ?_)
        · have hw := hw.1 c70
          refine lv_aload_n hx hb dX3_offer_83 rfl (lv_at hl 0 rfl) ?_
          refine va_get (D := D) (ci := 3) (v := .ref (a 13)) (C := RX3) (T := TX3) (N := 12) hx hb hts hinX3 hown hK hP 0 rfl rfl 3 (by decide) hf29 (fun _ h9 => h9) rfl dX3_offer_84 ?_
          refine lv_iload_n hx hb dX3_offer_87 rfl (lv_at hl 1 rfl) ?_
          refine lv_iload_n hx hb dX3_offer_88 rfl (lv_at hl 2 rfl) ?_
          refine kVi (As := [.int p1, .int p2]) (rest := []) ⟨hx, hb, hml, hown, hts⟩ (c_H_add l D cs (sh a 13) _ (g_CY_hl (s_CY_hl (s_CY_hl u36 u44) u65)) p1 p2 hw) (cwV 2 hts gX3_offer_X0_add rfl rfl rfl (by decide +kernel) ⟨Nat.le_of_ble_eq_true rfl, Nat.le_of_ble_eq_true rfl⟩) (pt_CY_hl cs a (s_CY_hl (s_CY_hl u36 u44) u65)) hK hP hD hS hA (ci := 0) rfl rfl rfl rfl hl.1 rfl (Nat.le_of_ble_eq_true rfl) dX3_offer_89 ⟨Nat.zero_le _, Nat.zero_le _⟩ (fun r89 u89 H locs hw hP hD hS => ?_)
          have hP : va_P D vwCl (ws_CY cs a (s_CY_hl (s_CY_hl (s_CY_hl u36 u44) u65) u89)) H := hP
          have hD : va_D A (ws_CY cs a (s_CY_hl (s_CY_hl (s_CY_hl u36 u44) u65) u89)) := hD
          exact xI (wf := (ws_CY cs a)) (u := (s_CY_hl (s_CY_hl (s_CY_hl u36 u44) u65) u89)) hx hb hr hlocks hK hP hD hS hw dX3_offer_92
        · have hw := hw.2 c70
          exact tS (wf := (ws_CY cs a)) (u := (s_CY_hl (s_CY_hl u36 u44) u65)) (ik := 74) (ic := 78) (text := "there are 20 hauls") (cls := "java/lang/IllegalStateException") hx hb hfl hown (by decide +kernel) hk74 hi74 (fun w h => hts w (List.mem_cons_of_mem _ (List.mem_append_left _ (List.mem_append_right _ h)))) ng_78 gd_78 (by decide) (by decide) hE hK hP hD hS (by rw [hml]; exact hl.1) dX3_offer_73 dX3_offer_76 dX3_offer_77 dX3_offer_79 dX3_offer_82 hout (Nat.le_of_ble_eq_true rfl) (Nat.le_of_ble_eq_true rfl) (Nat.le_of_ble_eq_true rfl) (Nat.le_of_ble_eq_true rfl) hlocks hw
      · have hw := hw.2 c48
        exact tS (wf := (ws_CY cs a)) (u := (s_CY_hl u36 u44)) (ik := 74) (ic := 78) (text := "the crate is in a haul") (cls := "java/lang/IllegalStateException") hx hb hfl hown (by decide +kernel) hk74 hi74 (fun w h => hts w (List.mem_cons_of_mem _ (List.mem_append_left _ (List.mem_append_right _ h)))) ng_78 gd_78 (by decide) (by decide) hE hK hP hD hS (by rw [hml]; exact hl.1) dX3_offer_51 dX3_offer_54 dX3_offer_55 dX3_offer_57 dX3_offer_60 hout (Nat.le_of_ble_eq_true rfl) (Nat.le_of_ble_eq_true rfl) (Nat.le_of_ble_eq_true rfl) (Nat.le_of_ble_eq_true rfl) hlocks hw
    · have hw := hw.2 c21
      exact B24 _ hw _ _ ls (lv_sub hl [] rfl) hP hD hS
abbrev rm_C_requireHaul : Room := { frames := 6, cells := 1, slots := 6, locals := 92 }
set_option maxHeartbeats 4000000 in
set_option maxRecDepth 100000 in
theorem c_C_requireHaul (l : Launch) (hfl : l.stackTraces = false) (D : va_G) (cs : CS) (a : Nat → Nat) (sz : Nat) (σ : CY) (p1 : Int32) {Φ : CY → Prop} {Ξ : String → CY → Prop} (hw : w_C_requireHaul σ p1 Φ Ξ) : vx_Met l yX3_requireHaul wsX3_requireHaul rm_C_requireHaul (PcX [.ref (a 0), .int p1] D cs (ws_CY cs a σ) sz) (va_Qv Φ (BG D cs (va_A (ws_CY cs a σ) sz) sz (ws_CY cs a)) (va_A (ws_CY cs a σ) sz)) (XG D cs (va_A (ws_CY cs a σ) sz) (ws_CY cs a) Ξ) 1 6 (va_A (ws_CY cs a σ) sz) := by
  refine vx_ofW (cc := cX3_requireHaul) (maxL := 2) (ret := none) (by decide) rfl ?_
  intro p e s m args below meth c s₁ B hml hout hv
  obtain ⟨rfl, hsz, hP, hK, hD0, hE⟩ := hv
  have hx := B.exec
  have hb := B.bytes
  have hr := B.returns
  have hts := atoms_spec (ws := wsX3_requireHaul) B.pre
  have hown : s.vm.findClass RX3 = some m.cls := findClass_of_methodNamed B.named
  have hlocks := B.notSynchronized
  subst hsz
  have hD := hD0.self (sz := s.heap.size)
  generalize hAe : va_A (ws_CY cs a σ) s.heap.size = A at hD hE ⊢
  have hA : ∀ q : Nat, s.heap.size ≤ q → A q := fun q h => by rw [← hAe]; exact Or.inr h
  have hS : va_S A s.heap s.heap [] := va_S.rf
  have hf29 : (Cond.fieldLink RX3 29 "CraneYard" "hauls" "LCraneYard$Hauls;").before ([.ref (a 0), .int p1] : List Value).toArray s = true := hts _ (List.mem_of_getElem? (i := 3) rfl)
  have hi166 : (Cond.initialized "java/lang/IndexOutOfBoundsException").before ([.ref (a 0), .int p1] : List Value).toArray s = true := hts _ (List.mem_of_getElem? (i := 2) rfl)
  have hinX3 : ∀ w ∈ wsX30, w ∈ wsX3_requireHaul := fun _ h => List.mem_cons_of_mem _ (List.mem_append_left _ (List.mem_append_left _ (List.mem_append_right _ h)))
  have hk166 : (Cond.classLink RX3 166 "java/lang/IndexOutOfBoundsException").before ([.ref (a 0), .int p1] : List Value).toArray s = true := hts _ (List.mem_of_getElem? (i := 1) rfl)
  have hP : va_P D vwCl (ws_CY cs a σ) s.heap := hP
  have B15 : ∀ (σ : CY), b_C_requireHaul_15 Φ Ξ σ → At p l e (headSpec wsX3_requireHaul rm_C_requireHaul).room s m ([.ref (a 0), .int p1] : List Value).toArray below meth c (vx_MQ below (va_Qv Φ (BG D cs A s.heap.size (ws_CY cs a)) A) (XG D cs A (ws_CY cs a) Ξ) ([.ref (a 0), .int p1] : List Value).toArray s 1 6 A) D A 2 [] (ws_CY cs a σ) 15 [] := by
    intro σ hw H locs ls hl hP hD hS
    unfold b_C_requireHaul_15 at hw
    exact tS (wf := (ws_CY cs a)) (u := σ) (ik := 166) (ic := 170) (text := "there is no such haul") (cls := "java/lang/IndexOutOfBoundsException") hx hb hfl hown (by decide +kernel) hk166 hi166 (fun w h => hts w (List.mem_cons_of_mem _ (List.mem_append_right _ h))) ng_170 gd_170 (by decide) (by decide) hE hK hP hD hS (by rw [hml]; exact hl.1) dX3_requireHaul_15 dX3_requireHaul_18 dX3_requireHaul_19 dX3_requireHaul_21 dX3_requireHaul_24 hout (Nat.le_of_ble_eq_true rfl) (Nat.le_of_ble_eq_true rfl) (Nat.le_of_ble_eq_true rfl) (Nat.le_of_ble_eq_true rfl) hlocks hw
  have hl := lv_entry ([.ref (a 0), .int p1]) (n := 2) (Nat.le_of_ble_eq_true rfl)
  rw [lg_entry_eq]
  generalize (lg_sl ([.ref (a 0), .int p1]) ++ List.replicate (2 - (lg_sl ([.ref (a 0), .int p1])).length) Slot.unset).toArray = ls at hl ⊢
  have hl : lv_has ls 2 [(0, .ref (a 0)), (1, .int p1)] := hl
  unfold w_C_requireHaul at hw
  refine lv_iload_n hx hb dX3_requireHaul_0 rfl (lv_at hl 1 rfl) ?_
  refine lv_if_lt (tgt := 15) hx hb dX3_requireHaul_1 (by decide) (fun c1 => ?_) (fun c1 => ?_)
  · have hw := hw.1 c1
    exact B15 _ hw _ _ ls (lv_sub hl [] rfl) hP hD hS
  · have hw := hw.2 c1
    refine lv_iload_n hx hb dX3_requireHaul_4 rfl (lv_at hl 1 rfl) ?_
    refine lv_aload_n hx hb dX3_requireHaul_5 rfl (lv_at hl 0 rfl) ?_
    refine va_get (D := D) (ci := 3) (v := .ref (a 13)) (C := RX3) (T := TX3) (N := 12) hx hb hts hinX3 hown hK hP 0 rfl rfl 3 (by decide) hf29 (fun _ h9 => h9) rfl dX3_requireHaul_6 ?_
    refine kVi (As := []) (rest := [.int p1]) ⟨hx, hb, hml, hown, hts⟩ (c_H_number l D cs (sh a 13) _ (g_CY_hl σ) hw) (cwV 0 hts gX3_requireHaul_X0_number rfl rfl rfl (by decide +kernel) ⟨Nat.le_of_ble_eq_true rfl, Nat.le_of_ble_eq_true rfl⟩) (pt_CY_hl cs a σ) hK hP hD hS hA (ci := 0) rfl rfl rfl rfl hl.1 rfl (Nat.le_of_ble_eq_true rfl) dX3_requireHaul_9 ⟨Nat.zero_le _, Nat.zero_le _⟩ (fun r9 u9 H locs hw hP hD hS => ?_)
    have hP : va_P D vwCl (ws_CY cs a (s_CY_hl σ u9)) H := hP
    have hD : va_D A (ws_CY cs a (s_CY_hl σ u9)) := hD
    refine lv_icmp_lt (tgt := 25) hx hb dX3_requireHaul_12 (by decide) (fun c12 => ?_) (fun c12 => ?_)
    · have hw := hw.1 c12
      exact xV (wf := (ws_CY cs a)) (u := (s_CY_hl σ u9)) hx hb hr hlocks hK hP hD hS hw dX3_requireHaul_25
    · have hw := hw.2 c12
      exact B15 _ hw _ _ ls (lv_sub hl [] rfl) hP hD hS
abbrev rm_C_requireOffered : Room := { frames := 6, cells := 1, slots := 6, locals := 92 }
set_option maxHeartbeats 4000000 in
set_option maxRecDepth 100000 in
theorem c_C_requireOffered (l : Launch) (hfl : l.stackTraces = false) (D : va_G) (cs : CS) (a : Nat → Nat) (sz : Nat) (σ : CY) (p1 : Int32) {Φ : CY → Prop} {Ξ : String → CY → Prop} (hw : w_C_requireOffered σ p1 Φ Ξ) : vx_Met l yX3_requireOffered wsX3_requireOffered rm_C_requireOffered (PcX [.ref (a 0), .int p1] D cs (ws_CY cs a σ) sz) (va_Qv Φ (BG D cs (va_A (ws_CY cs a σ) sz) sz (ws_CY cs a)) (va_A (ws_CY cs a σ) sz)) (XG D cs (va_A (ws_CY cs a σ) sz) (ws_CY cs a) Ξ) 1 6 (va_A (ws_CY cs a σ) sz) := by
  refine vx_ofW (cc := cX3_requireOffered) (maxL := 2) (ret := none) (by decide) rfl ?_
  intro p e s m args below meth c s₁ B hml hout hv
  obtain ⟨rfl, hsz, hP, hK, hD0, hE⟩ := hv
  have hx := B.exec
  have hb := B.bytes
  have hr := B.returns
  have hts := atoms_spec (ws := wsX3_requireOffered) B.pre
  have hown : s.vm.findClass RX3 = some m.cls := findClass_of_methodNamed B.named
  have hlocks := B.notSynchronized
  subst hsz
  have hD := hD0.self (sz := s.heap.size)
  generalize hAe : va_A (ws_CY cs a σ) s.heap.size = A at hD hE ⊢
  have hA : ∀ q : Nat, s.heap.size ≤ q → A q := fun q h => by rw [← hAe]; exact Or.inr h
  have hS : va_S A s.heap s.heap [] := va_S.rf
  have hf29 : (Cond.fieldLink RX3 29 "CraneYard" "hauls" "LCraneYard$Hauls;").before ([.ref (a 0), .int p1] : List Value).toArray s = true := hts _ (List.mem_of_getElem? (i := 3) rfl)
  have hi74 : (Cond.initialized "java/lang/IllegalStateException").before ([.ref (a 0), .int p1] : List Value).toArray s = true := hts _ (List.mem_of_getElem? (i := 2) rfl)
  have hinX3 : ∀ w ∈ wsX30, w ∈ wsX3_requireOffered := fun _ h => List.mem_cons_of_mem _ (List.mem_append_left _ (List.mem_append_left _ (List.mem_append_right _ h)))
  have hk74 : (Cond.classLink RX3 74 "java/lang/IllegalStateException").before ([.ref (a 0), .int p1] : List Value).toArray s = true := hts _ (List.mem_of_getElem? (i := 1) rfl)
  have hP : va_P D vwCl (ws_CY cs a σ) s.heap := hP
  have hl := lv_entry ([.ref (a 0), .int p1]) (n := 2) (Nat.le_of_ble_eq_true rfl)
  rw [lg_entry_eq]
  generalize (lg_sl ([.ref (a 0), .int p1]) ++ List.replicate (2 - (lg_sl ([.ref (a 0), .int p1])).length) Slot.unset).toArray = ls at hl ⊢
  have hl : lv_has ls 2 [(0, .ref (a 0)), (1, .int p1)] := hl
  unfold w_C_requireOffered at hw
  refine lv_aload_n hx hb dX3_requireOffered_0 rfl (lv_at hl 0 rfl) ?_
  refine va_get (D := D) (ci := 3) (v := .ref (a 13)) (C := RX3) (T := TX3) (N := 12) hx hb hts hinX3 hown hK hP 0 rfl rfl 3 (by decide) hf29 (fun _ h9 => h9) rfl dX3_requireOffered_1 ?_
  refine lv_iload_n hx hb dX3_requireOffered_4 rfl (lv_at hl 1 rfl) ?_
  refine kVi (As := [.int p1]) (rest := []) ⟨hx, hb, hml, hown, hts⟩ (c_H_stateOf l D cs (sh a 13) _ (g_CY_hl σ) p1 hw) (cwV 1 hts gX3_requireOffered_X0_stateOf rfl rfl rfl (by decide +kernel) ⟨Nat.le_of_ble_eq_true rfl, Nat.le_of_ble_eq_true rfl⟩) (pt_CY_hl cs a σ) hK hP hD hS hA (ci := 0) rfl rfl rfl rfl hl.1 rfl (Nat.le_of_ble_eq_true rfl) dX3_requireOffered_5 ⟨Nat.zero_le _, Nat.zero_le _⟩ (fun r5 u5 H locs hw hP hD hS => ?_)
  have hP : va_P D vwCl (ws_CY cs a (s_CY_hl σ u5)) H := hP
  have hD : va_D A (ws_CY cs a (s_CY_hl σ u5)) := hD
  refine lv_if_eq (tgt := 21) hx hb dX3_requireOffered_8 (by decide) (fun c8 => ?_) (fun c8 => ?_)
  · have hw := hw.1 c8
    exact xV (wf := (ws_CY cs a)) (u := (s_CY_hl σ u5)) hx hb hr hlocks hK hP hD hS hw dX3_requireOffered_21
  · have hw := hw.2 c8
    exact tS (wf := (ws_CY cs a)) (u := (s_CY_hl σ u5)) (ik := 74) (ic := 78) (text := "the haul is not OFFERED") (cls := "java/lang/IllegalStateException") hx hb hfl hown (by decide +kernel) hk74 hi74 (fun w h => hts w (List.mem_cons_of_mem _ (List.mem_append_right _ h))) ng_78 gd_78 (by decide) (by decide) hE hK hP hD hS (by rw [hml]; exact hl.1) dX3_requireOffered_11 dX3_requireOffered_14 dX3_requireOffered_15 dX3_requireOffered_17 dX3_requireOffered_20 hout (Nat.le_of_ble_eq_true rfl) (Nat.le_of_ble_eq_true rfl) (Nat.le_of_ble_eq_true rfl) (Nat.le_of_ble_eq_true rfl) hlocks hw
abbrev rm_C_bid : Room := { frames := 7, cells := 1, slots := 6, locals := 113 }
set_option maxHeartbeats 4000000 in
set_option maxRecDepth 100000 in
theorem c_C_bid (l : Launch) (hfl : l.stackTraces = false) (D : va_G) (cs : CS) (a : Nat → Nat) (sz : Nat) (σ : CY) (p1 : Int32) (p2 : Int32) (p3 : Int32) {Φ : CY → Prop} {Ξ : String → CY → Prop} (hw : w_C_bid σ p1 p2 p3 Φ Ξ) : vx_Met l yX3_bid wsX3_bid rm_C_bid (PcX [.ref (a 0), .int p1, .int p2, .int p3] D cs (ws_CY cs a σ) sz) (va_Qv Φ (BG D cs (va_A (ws_CY cs a σ) sz) sz (ws_CY cs a)) (va_A (ws_CY cs a σ) sz)) (XG D cs (va_A (ws_CY cs a σ) sz) (ws_CY cs a) Ξ) 1 6 (va_A (ws_CY cs a σ) sz) := by
  refine vx_ofW (cc := cX3_bid) (maxL := 4) (ret := none) (by decide) rfl ?_
  intro p e s m args below meth c s₁ B hml hout hv
  obtain ⟨rfl, hsz, hP, hK, hD0, hE⟩ := hv
  have hx := B.exec
  have hb := B.bytes
  have hr := B.returns
  have hts := atoms_spec (ws := wsX3_bid) B.pre
  have hown : s.vm.findClass RX3 = some m.cls := findClass_of_methodNamed B.named
  have hlocks := B.notSynchronized
  subst hsz
  have hD := hD0.self (sz := s.heap.size)
  generalize hAe : va_A (ws_CY cs a σ) s.heap.size = A at hD hE ⊢
  have hA : ∀ q : Nat, s.heap.size ≤ q → A q := fun q h => by rw [← hAe]; exact Or.inr h
  have hS : va_S A s.heap s.heap [] := va_S.rf
  have hf29 : (Cond.fieldLink RX3 29 "CraneYard" "hauls" "LCraneYard$Hauls;").before ([.ref (a 0), .int p1, .int p2, .int p3] : List Value).toArray s = true := hts _ (List.mem_of_getElem? (i := 5) rfl)
  have hi60 : (Cond.initialized "java/lang/IllegalArgumentException").before ([.ref (a 0), .int p1, .int p2, .int p3] : List Value).toArray s = true := hts _ (List.mem_of_getElem? (i := 2) rfl)
  have hi74 : (Cond.initialized "java/lang/IllegalStateException").before ([.ref (a 0), .int p1, .int p2, .int p3] : List Value).toArray s = true := hts _ (List.mem_of_getElem? (i := 4) rfl)
  have hinX3 : ∀ w ∈ wsX30, w ∈ wsX3_bid := fun _ h => List.mem_cons_of_mem _ (List.mem_append_left _ (List.mem_append_left _ (List.mem_append_left _ (List.mem_append_left _ (List.mem_append_right _ h)))))
  have hk60 : (Cond.classLink RX3 60 "java/lang/IllegalArgumentException").before ([.ref (a 0), .int p1, .int p2, .int p3] : List Value).toArray s = true := hts _ (List.mem_of_getElem? (i := 1) rfl)
  have hk74 : (Cond.classLink RX3 74 "java/lang/IllegalStateException").before ([.ref (a 0), .int p1, .int p2, .int p3] : List Value).toArray s = true := hts _ (List.mem_of_getElem? (i := 3) rfl)
  have hP : va_P D vwCl (ws_CY cs a σ) s.heap := hP
  have B36 : ∀ (σ : CY), b_C_bid_36 Φ Ξ σ → At p l e (headSpec wsX3_bid rm_C_bid).room s m ([.ref (a 0), .int p1, .int p2, .int p3] : List Value).toArray below meth c (vx_MQ below (va_Qv Φ (BG D cs A s.heap.size (ws_CY cs a)) A) (XG D cs A (ws_CY cs a) Ξ) ([.ref (a 0), .int p1, .int p2, .int p3] : List Value).toArray s 1 6 A) D A 4 [] (ws_CY cs a σ) 36 [] := by
    intro σ hw H locs ls hl hP hD hS
    unfold b_C_bid_36 at hw
    exact tS (wf := (ws_CY cs a)) (u := σ) (ik := 60) (ic := 64) (text := "the price is not 1 to 1000") (cls := "java/lang/IllegalArgumentException") hx hb hfl hown (by decide +kernel) hk60 hi60 (fun w h => hts w (List.mem_cons_of_mem _ (List.mem_append_left _ (List.mem_append_left _ (List.mem_append_right _ h))))) ng_64 gd_64 (by decide) (by decide) hE hK hP hD hS (by rw [hml]; exact hl.1) dX3_bid_36 dX3_bid_39 dX3_bid_40 dX3_bid_42 dX3_bid_45 hout (Nat.le_of_ble_eq_true rfl) (Nat.le_of_ble_eq_true rfl) (Nat.le_of_ble_eq_true rfl) (Nat.le_of_ble_eq_true rfl) hlocks hw
  have B14 : ∀ (σ : CY), b_C_bid_14 Φ Ξ σ → At p l e (headSpec wsX3_bid rm_C_bid).room s m ([.ref (a 0), .int p1, .int p2, .int p3] : List Value).toArray below meth c (vx_MQ below (va_Qv Φ (BG D cs A s.heap.size (ws_CY cs a)) A) (XG D cs A (ws_CY cs a) Ξ) ([.ref (a 0), .int p1, .int p2, .int p3] : List Value).toArray s 1 6 A) D A 4 [] (ws_CY cs a σ) 14 [] := by
    intro σ hw H locs ls hl hP hD hS
    unfold b_C_bid_14 at hw
    exact tS (wf := (ws_CY cs a)) (u := σ) (ik := 60) (ic := 64) (text := "the haulier is not 0 to 3") (cls := "java/lang/IllegalArgumentException") hx hb hfl hown (by decide +kernel) hk60 hi60 (fun w h => hts w (List.mem_cons_of_mem _ (List.mem_append_left _ (List.mem_append_left _ (List.mem_append_right _ h))))) ng_64 gd_64 (by decide) (by decide) hE hK hP hD hS (by rw [hml]; exact hl.1) dX3_bid_14 dX3_bid_17 dX3_bid_18 dX3_bid_20 dX3_bid_23 hout (Nat.le_of_ble_eq_true rfl) (Nat.le_of_ble_eq_true rfl) (Nat.le_of_ble_eq_true rfl) (Nat.le_of_ble_eq_true rfl) hlocks hw
  have hl := lv_entry ([.ref (a 0), .int p1, .int p2, .int p3]) (n := 4) (Nat.le_of_ble_eq_true rfl)
  rw [lg_entry_eq]
  generalize (lg_sl ([.ref (a 0), .int p1, .int p2, .int p3]) ++ List.replicate (4 - (lg_sl ([.ref (a 0), .int p1, .int p2, .int p3])).length) Slot.unset).toArray = ls at hl ⊢
  have hl : lv_has ls 4 [(0, .ref (a 0)), (1, .int p1), (2, .int p2), (3, .int p3)] := hl
  unfold w_C_bid at hw
  refine lv_aload_n hx hb dX3_bid_0 rfl (lv_at hl 0 rfl) ?_
  refine lv_iload_n hx hb dX3_bid_1 rfl (lv_at hl 1 rfl) ?_
  refine kxVv (As := [.int p1]) (rest := []) ⟨hx, hb, hml, hown, hts⟩ hE (c_C_requireHaul l hfl D cs a _ σ p1 hw) (cwV 1 hts gX3_bid_X3_requireHaul rfl rfl rfl (by decide +kernel) ⟨Nat.le_of_ble_eq_true rfl, Nat.le_of_ble_eq_true rfl⟩) (pt_self_CY cs a σ) hK hP hD hS hA (ci := 3) rfl rfl rfl rfl hl.1 rfl (Nat.le_of_ble_eq_true rfl) dX3_bid_2 ⟨Nat.le_of_ble_eq_true rfl, Nat.le_of_ble_eq_true rfl⟩ (fun E u2 H locs q9 ce hw hP hD hS hcell hv hcl => tX (wf := (ws_CY cs a)) (u := u2) hout hlocks hK hP hD hS hw hcell hv hcl) (fun u2 H locs hw hP hD hS => ?_)
  have hP : va_P D vwCl (ws_CY cs a u2) H := hP
  have hD : va_D A (ws_CY cs a u2) := hD
  refine lv_iload_n hx hb dX3_bid_5 rfl (lv_at hl 2 rfl) ?_
  refine lv_if_lt (tgt := 14) hx hb dX3_bid_6 (by decide) (fun c6 => ?_) (fun c6 => ?_)
  · have hw := hw.1 c6
    exact B14 _ hw _ _ ls (lv_sub hl [] rfl) hP hD hS
  · have hw := hw.2 c6
    refine lv_iload_n hx hb dX3_bid_9 rfl (lv_at hl 2 rfl) ?_
    refine lv_iconst (v := (4 : Int32)) hx hb dX3_bid_10 (by decide) ?_
    refine lv_icmp_lt (tgt := 24) hx hb dX3_bid_11 (by decide) (fun c11 => ?_) (fun c11 => ?_)
    · have hw := hw.1 c11
      refine lv_iload_n hx hb dX3_bid_24 rfl (lv_at hl 3 rfl) ?_
      refine lv_iconst (v := (1 : Int32)) hx hb dX3_bid_25 (by decide) ?_
      refine lv_icmp_lt (tgt := 36) hx hb dX3_bid_26 (by decide) (fun c26 => ?_) (fun c26 => ?_)
      · have hw := hw.1 c26
        exact B36 _ hw _ _ ls (lv_sub hl [] rfl) hP hD hS
      · have hw := hw.2 c26
        refine lv_iload_n hx hb dX3_bid_29 rfl (lv_at hl 3 rfl) ?_
        refine lv_sipush (v := (1000 : Int32)) hx hb dX3_bid_30 (by decide) ?_
        refine lv_icmp_le (tgt := 46) hx hb dX3_bid_33 (by decide) (fun c33 => ?_) (fun c33 => ?_)
        · have hw := hw.1 c33
          refine lv_aload_n hx hb dX3_bid_46 rfl (lv_at hl 0 rfl) ?_
          refine lv_iload_n hx hb dX3_bid_47 rfl (lv_at hl 1 rfl) ?_
          refine kxVv (As := [.int p1]) (rest := []) ⟨hx, hb, hml, hown, hts⟩ hE (c_C_requireOffered l hfl D cs a _ u2 p1 hw) (cwV 1 hts gX3_bid_X3_requireOffered rfl rfl rfl (by decide +kernel) ⟨Nat.le_of_ble_eq_true rfl, Nat.le_of_ble_eq_true rfl⟩) (pt_self_CY cs a u2) hK hP hD hS hA (ci := 3) rfl rfl rfl rfl hl.1 rfl (Nat.le_of_ble_eq_true rfl) dX3_bid_48 ⟨Nat.le_of_ble_eq_true rfl, Nat.le_of_ble_eq_true rfl⟩ (fun E u48 H locs q9 ce hw hP hD hS hcell hv hcl => tX (wf := (ws_CY cs a)) (u := u48) hout hlocks hK hP hD hS hw hcell hv hcl) (fun u48 H locs hw hP hD hS => ?_)
          have hP : va_P D vwCl (ws_CY cs a u48) H := hP
          have hD : va_D A (ws_CY cs a u48) := hD
          refine lv_aload_n hx hb dX3_bid_51 rfl (lv_at hl 0 rfl) ?_
          refine va_get (D := D) (ci := 3) (v := .ref (a 13)) (C := RX3) (T := TX3) (N := 12) hx hb hts hinX3 hown hK hP 0 rfl rfl 3 (by decide) hf29 (fun _ h9 => h9) rfl dX3_bid_52 ?_
          refine lv_iload_n hx hb dX3_bid_55 rfl (lv_at hl 1 rfl) ?_
          refine lv_iload_n hx hb dX3_bid_56 rfl (lv_at hl 2 rfl) ?_
          refine kVi (As := [.int p1, .int p2]) (rest := []) ⟨hx, hb, hml, hown, hts⟩ (c_H_priceAsked l D cs (sh a 13) _ (g_CY_hl u48) p1 p2 hw) (cwV 2 hts gX3_bid_X0_priceAsked rfl rfl rfl (by decide +kernel) ⟨Nat.le_of_ble_eq_true rfl, Nat.le_of_ble_eq_true rfl⟩) (pt_CY_hl cs a u48) hK hP hD hS hA (ci := 0) rfl rfl rfl rfl hl.1 rfl (Nat.le_of_ble_eq_true rfl) dX3_bid_57 ⟨Nat.zero_le _, Nat.zero_le _⟩ (fun r57 u57 H locs hw hP hD hS => ?_)
          have hP : va_P D vwCl (ws_CY cs a (s_CY_hl u48 u57)) H := hP
          have hD : va_D A (ws_CY cs a (s_CY_hl u48 u57)) := hD
          refine lv_iconst (v := (-1 : Int32)) hx hb dX3_bid_60 (by decide) ?_
          refine lv_icmp_eq (tgt := 74) hx hb dX3_bid_61 (by decide) (fun c61 => ?_) (fun c61 => ?_)
          · have hw := hw.1 c61
            refine lv_aload_n hx hb dX3_bid_74 rfl (lv_at hl 0 rfl) ?_
            refine va_get (D := D) (ci := 3) (v := .ref (a 13)) (C := RX3) (T := TX3) (N := 12) hx hb hts hinX3 hown hK hP 0 rfl rfl 3 (by decide) hf29 (fun _ h9 => h9) rfl dX3_bid_75 ?_
            refine lv_iload_n hx hb dX3_bid_78 rfl (lv_at hl 1 rfl) ?_
            refine lv_iload_n hx hb dX3_bid_79 rfl (lv_at hl 2 rfl) ?_
            refine lv_iload_n hx hb dX3_bid_80 rfl (lv_at hl 3 rfl) ?_
            refine kVv (As := [.int p1, .int p2, .int p3]) (rest := []) ⟨hx, hb, hml, hown, hts⟩ (c_H_enterBid l D cs (sh a 13) _ (g_CY_hl (s_CY_hl u48 u57)) p1 p2 p3 hw) (cwV 3 hts gX3_bid_X0_enterBid rfl rfl rfl (by decide +kernel) ⟨Nat.le_of_ble_eq_true rfl, Nat.le_of_ble_eq_true rfl⟩) (pt_CY_hl cs a (s_CY_hl u48 u57)) hK hP hD hS hA (ci := 0) rfl rfl rfl rfl hl.1 rfl (Nat.le_of_ble_eq_true rfl) dX3_bid_81 ⟨Nat.zero_le _, Nat.zero_le _⟩ (fun u81 H locs hw hP hD hS => ?_)
            have hP : va_P D vwCl (ws_CY cs a (s_CY_hl (s_CY_hl u48 u57) u81)) H := hP
            have hD : va_D A (ws_CY cs a (s_CY_hl (s_CY_hl u48 u57) u81)) := hD
            exact xV (wf := (ws_CY cs a)) (u := (s_CY_hl (s_CY_hl u48 u57) u81)) hx hb hr hlocks hK hP hD hS hw dX3_bid_84
          · have hw := hw.2 c61
            exact tS (wf := (ws_CY cs a)) (u := (s_CY_hl u48 u57)) (ik := 74) (ic := 78) (text := "the haulier has bid") (cls := "java/lang/IllegalStateException") hx hb hfl hown (by decide +kernel) hk74 hi74 (fun w h => hts w (List.mem_cons_of_mem _ (List.mem_append_left _ (List.mem_append_right _ h)))) ng_78 gd_78 (by decide) (by decide) hE hK hP hD hS (by rw [hml]; exact hl.1) dX3_bid_64 dX3_bid_67 dX3_bid_68 dX3_bid_70 dX3_bid_73 hout (Nat.le_of_ble_eq_true rfl) (Nat.le_of_ble_eq_true rfl) (Nat.le_of_ble_eq_true rfl) (Nat.le_of_ble_eq_true rfl) hlocks hw
        · have hw := hw.2 c33
          exact B36 _ hw _ _ ls (lv_sub hl [] rfl) hP hD hS
    · have hw := hw.2 c11
      exact B14 _ hw _ _ ls (lv_sub hl [] rfl) hP hD hS
abbrev rm_C_give : Room := { frames := 7, cells := 1, slots := 6, locals := 113 }
set_option maxHeartbeats 4000000 in
set_option maxRecDepth 100000 in
theorem c_C_give (l : Launch) (hfl : l.stackTraces = false) (D : va_G) (cs : CS) (a : Nat → Nat) (sz : Nat) (σ : CY) (p1 : Int32) {Φ : Int32 → CY → Prop} {Ξ : String → CY → Prop} (hw : w_C_give σ p1 Φ Ξ) : vx_Met l yX3_give wsX3_give rm_C_give (PcX [.ref (a 0), .int p1] D cs (ws_CY cs a σ) sz) (va_Qi Φ (BG D cs (va_A (ws_CY cs a σ) sz) sz (ws_CY cs a)) (va_A (ws_CY cs a σ) sz)) (XG D cs (va_A (ws_CY cs a σ) sz) (ws_CY cs a) Ξ) 1 6 (va_A (ws_CY cs a σ) sz) := by
  refine vx_ofW (cc := cX3_give) (maxL := 3) (ret := (some .int)) (by decide) rfl ?_
  intro p e s m args below meth c s₁ B hml hout hv
  obtain ⟨rfl, hsz, hP, hK, hD0, hE⟩ := hv
  have hx := B.exec
  have hb := B.bytes
  have hr := B.returns
  have hts := atoms_spec (ws := wsX3_give) B.pre
  have hown : s.vm.findClass RX3 = some m.cls := findClass_of_methodNamed B.named
  have hlocks := B.notSynchronized
  subst hsz
  have hD := hD0.self (sz := s.heap.size)
  generalize hAe : va_A (ws_CY cs a σ) s.heap.size = A at hD hE ⊢
  have hA : ∀ q : Nat, s.heap.size ≤ q → A q := fun q h => by rw [← hAe]; exact Or.inr h
  have hS : va_S A s.heap s.heap [] := va_S.rf
  have hf29 : (Cond.fieldLink RX3 29 "CraneYard" "hauls" "LCraneYard$Hauls;").before ([.ref (a 0), .int p1] : List Value).toArray s = true := hts _ (List.mem_of_getElem? (i := 3) rfl)
  have hi74 : (Cond.initialized "java/lang/IllegalStateException").before ([.ref (a 0), .int p1] : List Value).toArray s = true := hts _ (List.mem_of_getElem? (i := 2) rfl)
  have hinX3 : ∀ w ∈ wsX30, w ∈ wsX3_give := fun _ h => List.mem_cons_of_mem _ (List.mem_append_left _ (List.mem_append_left _ (List.mem_append_left _ (List.mem_append_right _ h))))
  have hk74 : (Cond.classLink RX3 74 "java/lang/IllegalStateException").before ([.ref (a 0), .int p1] : List Value).toArray s = true := hts _ (List.mem_of_getElem? (i := 1) rfl)
  have hP : va_P D vwCl (ws_CY cs a σ) s.heap := hP
  have hl := lv_entry ([.ref (a 0), .int p1]) (n := 3) (Nat.le_of_ble_eq_true rfl)
  rw [lg_entry_eq]
  generalize (lg_sl ([.ref (a 0), .int p1]) ++ List.replicate (3 - (lg_sl ([.ref (a 0), .int p1])).length) Slot.unset).toArray = ls at hl ⊢
  have hl : lv_has ls 3 [(0, .ref (a 0)), (1, .int p1)] := hl
  unfold w_C_give at hw
  refine lv_aload_n hx hb dX3_give_0 rfl (lv_at hl 0 rfl) ?_
  refine lv_iload_n hx hb dX3_give_1 rfl (lv_at hl 1 rfl) ?_
  refine kxVv (As := [.int p1]) (rest := []) ⟨hx, hb, hml, hown, hts⟩ hE (c_C_requireHaul l hfl D cs a _ σ p1 hw) (cwV 1 hts gX3_give_X3_requireHaul rfl rfl rfl (by decide +kernel) ⟨Nat.le_of_ble_eq_true rfl, Nat.le_of_ble_eq_true rfl⟩) (pt_self_CY cs a σ) hK hP hD hS hA (ci := 3) rfl rfl rfl rfl hl.1 rfl (Nat.le_of_ble_eq_true rfl) dX3_give_2 ⟨Nat.le_of_ble_eq_true rfl, Nat.le_of_ble_eq_true rfl⟩ (fun E u2 H locs q9 ce hw hP hD hS hcell hv hcl => tX (wf := (ws_CY cs a)) (u := u2) hout hlocks hK hP hD hS hw hcell hv hcl) (fun u2 H locs hw hP hD hS => ?_)
  have hP : va_P D vwCl (ws_CY cs a u2) H := hP
  have hD : va_D A (ws_CY cs a u2) := hD
  refine lv_aload_n hx hb dX3_give_5 rfl (lv_at hl 0 rfl) ?_
  refine lv_iload_n hx hb dX3_give_6 rfl (lv_at hl 1 rfl) ?_
  refine kxVv (As := [.int p1]) (rest := []) ⟨hx, hb, hml, hown, hts⟩ hE (c_C_requireOffered l hfl D cs a _ u2 p1 hw) (cwV 1 hts gX3_give_X3_requireOffered rfl rfl rfl (by decide +kernel) ⟨Nat.le_of_ble_eq_true rfl, Nat.le_of_ble_eq_true rfl⟩) (pt_self_CY cs a u2) hK hP hD hS hA (ci := 3) rfl rfl rfl rfl hl.1 rfl (Nat.le_of_ble_eq_true rfl) dX3_give_7 ⟨Nat.le_of_ble_eq_true rfl, Nat.le_of_ble_eq_true rfl⟩ (fun E u7 H locs q9 ce hw hP hD hS hcell hv hcl => tX (wf := (ws_CY cs a)) (u := u7) hout hlocks hK hP hD hS hw hcell hv hcl) (fun u7 H locs hw hP hD hS => ?_)
  have hP : va_P D vwCl (ws_CY cs a u7) H := hP
  have hD : va_D A (ws_CY cs a u7) := hD
  refine lv_aload_n hx hb dX3_give_10 rfl (lv_at hl 0 rfl) ?_
  refine va_get (D := D) (ci := 3) (v := .ref (a 13)) (C := RX3) (T := TX3) (N := 12) hx hb hts hinX3 hown hK hP 0 rfl rfl 3 (by decide) hf29 (fun _ h9 => h9) rfl dX3_give_11 ?_
  refine lv_iload_n hx hb dX3_give_14 rfl (lv_at hl 1 rfl) ?_
  refine kVi (As := [.int p1]) (rest := []) ⟨hx, hb, hml, hown, hts⟩ (c_H_cheapestHaulier l D cs (sh a 13) _ (g_CY_hl u7) p1 hw) (cwV 1 hts gX3_give_X0_cheapestHaulier rfl rfl rfl (by decide +kernel) ⟨Nat.le_of_ble_eq_true rfl, Nat.le_of_ble_eq_true rfl⟩) (pt_CY_hl cs a u7) hK hP hD hS hA (ci := 0) rfl rfl rfl rfl hl.1 rfl (Nat.le_of_ble_eq_true rfl) dX3_give_15 ⟨Nat.zero_le _, Nat.zero_le _⟩ (fun r15 u15 H locs hw hP hD hS => ?_)
  have hP : va_P D vwCl (ws_CY cs a (s_CY_hl u7 u15)) H := hP
  have hD : va_D A (ws_CY cs a (s_CY_hl u7 u15)) := hD
  refine lv_istore_n (lv' := [(2, .int r15), (0, .ref (a 0)), (1, .int p1)]) hx hb dX3_give_18 rfl hl (by decide) rfl (fun ls hl => ?_)
  refine lv_iload_n hx hb dX3_give_19 rfl (lv_at hl 0 rfl) ?_
  refine lv_iconst (v := (-1 : Int32)) hx hb dX3_give_20 (by decide) ?_
  refine lv_icmp_ne (tgt := 34) hx hb dX3_give_21 (by decide) (fun c21 => ?_) (fun c21 => ?_)
  · have hw := hw.2 c21
    refine lv_aload_n hx hb dX3_give_34 rfl (lv_at hl 1 rfl) ?_
    refine va_get (D := D) (ci := 3) (v := .ref (a 13)) (C := RX3) (T := TX3) (N := 12) hx hb hts hinX3 hown hK hP 0 rfl rfl 3 (by decide) hf29 (fun _ h9 => h9) rfl dX3_give_35 ?_
    refine lv_iload_n hx hb dX3_give_38 rfl (lv_at hl 2 rfl) ?_
    refine lv_iload_n hx hb dX3_give_39 rfl (lv_at hl 0 rfl) ?_
    refine kVv (As := [.int p1, .int r15]) (rest := []) ⟨hx, hb, hml, hown, hts⟩ (c_H_giveTo l D cs (sh a 13) _ (g_CY_hl (s_CY_hl u7 u15)) p1 r15 hw) (cwV 2 hts gX3_give_X0_giveTo rfl rfl rfl (by decide +kernel) ⟨Nat.le_of_ble_eq_true rfl, Nat.le_of_ble_eq_true rfl⟩) (pt_CY_hl cs a (s_CY_hl u7 u15)) hK hP hD hS hA (ci := 0) rfl rfl rfl rfl hl.1 rfl (Nat.le_of_ble_eq_true rfl) dX3_give_40 ⟨Nat.zero_le _, Nat.zero_le _⟩ (fun u40 H locs hw hP hD hS => ?_)
    have hP : va_P D vwCl (ws_CY cs a (s_CY_hl (s_CY_hl u7 u15) u40)) H := hP
    have hD : va_D A (ws_CY cs a (s_CY_hl (s_CY_hl u7 u15) u40)) := hD
    refine lv_iload_n hx hb dX3_give_43 rfl (lv_at hl 0 rfl) ?_
    exact xI (wf := (ws_CY cs a)) (u := (s_CY_hl (s_CY_hl u7 u15) u40)) hx hb hr hlocks hK hP hD hS hw dX3_give_44
  · have hw := hw.1 c21
    exact tS (wf := (ws_CY cs a)) (u := (s_CY_hl u7 u15)) (ik := 74) (ic := 78) (text := "nobody has bid") (cls := "java/lang/IllegalStateException") hx hb hfl hown (by decide +kernel) hk74 hi74 (fun w h => hts w (List.mem_cons_of_mem _ (List.mem_append_left _ (List.mem_append_right _ h)))) ng_78 gd_78 (by decide) (by decide) hE hK hP hD hS (by rw [hml]; exact hl.1) dX3_give_24 dX3_give_27 dX3_give_28 dX3_give_30 dX3_give_33 hout (Nat.le_of_ble_eq_true rfl) (Nat.le_of_ble_eq_true rfl) (Nat.le_of_ble_eq_true rfl) (Nat.le_of_ble_eq_true rfl) hlocks hw
abbrev rm_C_load : Room := { frames := 7, cells := 1, slots := 6, locals := 112 }
set_option maxHeartbeats 4000000 in
set_option maxRecDepth 100000 in
theorem c_C_load (l : Launch) (hfl : l.stackTraces = false) (D : va_G) (cs : CS) (a : Nat → Nat) (sz : Nat) (σ : CY) {Φ : Int32 → CY → Prop} {Ξ : String → CY → Prop} (hw : w_C_load σ Φ Ξ) : vx_Met l yX3_load wsX3_load rm_C_load (PcX [.ref (a 0)] D cs (ws_CY cs a σ) sz) (va_Qi Φ (BG D cs (va_A (ws_CY cs a σ) sz) sz (ws_CY cs a)) (va_A (ws_CY cs a σ) sz)) (XG D cs (va_A (ws_CY cs a σ) sz) (ws_CY cs a) Ξ) 1 6 (va_A (ws_CY cs a σ) sz) := by
  refine vx_ofW (cc := cX3_load) (maxL := 2) (ret := (some .int)) (by decide) rfl ?_
  intro p e s m args below meth c s₁ B hml hout hv
  obtain ⟨rfl, hsz, hP, hK, hD0, hE⟩ := hv
  have hx := B.exec
  have hb := B.bytes
  have hr := B.returns
  have hts := atoms_spec (ws := wsX3_load) B.pre
  have hown : s.vm.findClass RX3 = some m.cls := findClass_of_methodNamed B.named
  have hlocks := B.notSynchronized
  subst hsz
  have hD := hD0.self (sz := s.heap.size)
  generalize hAe : va_A (ws_CY cs a σ) s.heap.size = A at hD hE ⊢
  have hA : ∀ q : Nat, s.heap.size ≤ q → A q := fun q h => by rw [← hAe]; exact Or.inr h
  have hS : va_S A s.heap s.heap [] := va_S.rf
  have hf29 : (Cond.fieldLink RX3 29 "CraneYard" "hauls" "LCraneYard$Hauls;").before ([.ref (a 0)] : List Value).toArray s = true := hts _ (List.mem_of_getElem? (i := 3) rfl)
  have hf44 : (Cond.fieldLink RX3 44 "CraneYard" "craneCrate" "I").before ([.ref (a 0)] : List Value).toArray s = true := hts _ (List.mem_of_getElem? (i := 4) rfl)
  have hi74 : (Cond.initialized "java/lang/IllegalStateException").before ([.ref (a 0)] : List Value).toArray s = true := hts _ (List.mem_of_getElem? (i := 2) rfl)
  have hinX3 : ∀ w ∈ wsX30, w ∈ wsX3_load := fun _ h => List.mem_cons_of_mem _ (List.mem_append_left _ (List.mem_append_left _ (List.mem_append_right _ h)))
  have hk74 : (Cond.classLink RX3 74 "java/lang/IllegalStateException").before ([.ref (a 0)] : List Value).toArray s = true := hts _ (List.mem_of_getElem? (i := 1) rfl)
  have hP : va_P D vwCl (ws_CY cs a σ) s.heap := hP
  have B33 : ∀ (σ : CY), b_C_load_33 Φ Ξ σ → At p l e (headSpec wsX3_load rm_C_load).room s m ([.ref (a 0)] : List Value).toArray below meth c (vx_MQ below (va_Qi Φ (BG D cs A s.heap.size (ws_CY cs a)) A) (XG D cs A (ws_CY cs a) Ξ) ([.ref (a 0)] : List Value).toArray s 1 6 A) D A 2 [] (ws_CY cs a σ) 33 [] := by
    intro σ hw H locs ls hl hP hD hS
    unfold b_C_load_33 at hw
    exact tS (wf := (ws_CY cs a)) (u := σ) (ik := 74) (ic := 78) (text := "the crate is in no haul that is GIVEN") (cls := "java/lang/IllegalStateException") hx hb hfl hown (by decide +kernel) hk74 hi74 (fun w h => hts w (List.mem_cons_of_mem _ (List.mem_append_right _ h))) ng_78 gd_78 (by decide) (by decide) hE hK hP hD hS (by rw [hml]; exact hl.1) dX3_load_33 dX3_load_36 dX3_load_37 dX3_load_39 dX3_load_42 hout (Nat.le_of_ble_eq_true rfl) (Nat.le_of_ble_eq_true rfl) (Nat.le_of_ble_eq_true rfl) (Nat.le_of_ble_eq_true rfl) hlocks hw
  have hl := lv_entry ([.ref (a 0)]) (n := 2) (Nat.le_of_ble_eq_true rfl)
  rw [lg_entry_eq]
  generalize (lg_sl ([.ref (a 0)]) ++ List.replicate (2 - (lg_sl ([.ref (a 0)])).length) Slot.unset).toArray = ls at hl ⊢
  have hl : lv_has ls 2 [(0, .ref (a 0))] := hl
  unfold w_C_load at hw
  refine lv_aload_n hx hb dX3_load_0 rfl (lv_at hl 0 rfl) ?_
  refine kxVv (As := []) (rest := []) ⟨hx, hb, hml, hown, hts⟩ hE (c_C_requireFullCrane l hfl D cs a _ σ hw) (cwV 0 hts gX3_load_X3_requireFullCrane rfl rfl rfl (by decide +kernel) ⟨Nat.le_of_ble_eq_true rfl, Nat.le_of_ble_eq_true rfl⟩) (pt_self_CY cs a σ) hK hP hD hS hA (ci := 3) rfl rfl rfl rfl hl.1 rfl (Nat.le_of_ble_eq_true rfl) dX3_load_1 ⟨Nat.le_of_ble_eq_true rfl, Nat.le_of_ble_eq_true rfl⟩ (fun E u1 H locs q9 ce hw hP hD hS hcell hv hcl => tX (wf := (ws_CY cs a)) (u := u1) hout hlocks hK hP hD hS hw hcell hv hcl) (fun u1 H locs hw hP hD hS => ?_)
  have hP : va_P D vwCl (ws_CY cs a u1) H := hP
  have hD : va_D A (ws_CY cs a u1) := hD
  refine lv_aload_n hx hb dX3_load_4 rfl (lv_at hl 0 rfl) ?_
  refine va_get (D := D) (ci := 3) (v := .ref (a 13)) (C := RX3) (T := TX3) (N := 12) hx hb hts hinX3 hown hK hP 0 rfl rfl 3 (by decide) hf29 (fun _ h9 => h9) rfl dX3_load_5 ?_
  refine lv_aload_n hx hb dX3_load_8 rfl (lv_at hl 0 rfl) ?_
  refine va_get (D := D) (ci := 3) (v := .int (g_CY_craneCrate u1)) (C := RX3) (T := TX3) (N := 12) hx hb hts hinX3 hown hK hP 0 rfl rfl 7 (by decide) hf44 (fun _ h9 => h9) rfl dX3_load_9 ?_
  refine kVi (As := [.int (g_CY_craneCrate u1)]) (rest := []) ⟨hx, hb, hml, hown, hts⟩ (c_H_openHaulOf l D cs (sh a 13) _ (g_CY_hl u1) (g_CY_craneCrate u1) hw) (cwV 1 hts gX3_load_X0_openHaulOf rfl rfl rfl (by decide +kernel) ⟨Nat.le_of_ble_eq_true rfl, Nat.le_of_ble_eq_true rfl⟩) (pt_CY_hl cs a u1) hK hP hD hS hA (ci := 0) rfl rfl rfl rfl hl.1 rfl (Nat.le_of_ble_eq_true rfl) dX3_load_12 ⟨Nat.zero_le _, Nat.zero_le _⟩ (fun r12 u12 H locs hw hP hD hS => ?_)
  have hP : va_P D vwCl (ws_CY cs a (s_CY_hl u1 u12)) H := hP
  have hD : va_D A (ws_CY cs a (s_CY_hl u1 u12)) := hD
  refine lv_istore_n (lv' := [(1, .int r12), (0, .ref (a 0))]) hx hb dX3_load_15 rfl hl (by decide) rfl (fun ls hl => ?_)
  refine lv_iload_n hx hb dX3_load_16 rfl (lv_at hl 0 rfl) ?_
  refine lv_iconst (v := (-1 : Int32)) hx hb dX3_load_17 (by decide) ?_
  refine lv_icmp_eq (tgt := 33) hx hb dX3_load_18 (by decide) (fun c18 => ?_) (fun c18 => ?_)
  · have hw := hw.1 c18
    exact B33 _ hw _ _ ls (lv_sub hl [] rfl) hP hD hS
  · have hw := hw.2 c18
    refine lv_aload_n hx hb dX3_load_21 rfl (lv_at hl 1 rfl) ?_
    refine va_get (D := D) (ci := 3) (v := .ref (a 13)) (C := RX3) (T := TX3) (N := 12) hx hb hts hinX3 hown hK hP 0 rfl rfl 3 (by decide) hf29 (fun _ h9 => h9) rfl dX3_load_22 ?_
    refine lv_iload_n hx hb dX3_load_25 rfl (lv_at hl 0 rfl) ?_
    refine kVi (As := [.int r12]) (rest := []) ⟨hx, hb, hml, hown, hts⟩ (c_H_stateOf l D cs (sh a 13) _ (g_CY_hl (s_CY_hl u1 u12)) r12 hw) (cwV 1 hts gX3_load_X0_stateOf rfl rfl rfl (by decide +kernel) ⟨Nat.le_of_ble_eq_true rfl, Nat.le_of_ble_eq_true rfl⟩) (pt_CY_hl cs a (s_CY_hl u1 u12)) hK hP hD hS hA (ci := 0) rfl rfl rfl rfl hl.1 rfl (Nat.le_of_ble_eq_true rfl) dX3_load_26 ⟨Nat.zero_le _, Nat.zero_le _⟩ (fun r26 u26 H locs hw hP hD hS => ?_)
    have hP : va_P D vwCl (ws_CY cs a (s_CY_hl (s_CY_hl u1 u12) u26)) H := hP
    have hD : va_D A (ws_CY cs a (s_CY_hl (s_CY_hl u1 u12) u26)) := hD
    refine lv_iconst (v := (1 : Int32)) hx hb dX3_load_29 (by decide) ?_
    refine lv_icmp_eq (tgt := 43) hx hb dX3_load_30 (by decide) (fun c30 => ?_) (fun c30 => ?_)
    · have hw := hw.1 c30
      refine lv_aload_n hx hb dX3_load_43 rfl (lv_at hl 1 rfl) ?_
      refine lv_iconst (v := (-1 : Int32)) hx hb dX3_load_44 (by decide) ?_
      refine va_put (D := D) (ci := 3) (v := .int (-1 : Int32)) (ty := .int) (C := RX3) (T := TX3) (N := 12) hx hb hts hinX3 tyX3 tyX3_ok nmX3 hown hK hP hD hS 0 rfl rfl 7 (by decide) hf44 (fun _ h9 => h9) rfl (by decide +kernel) rfl rfl (Nat.le_of_ble_eq_true rfl) dX3_load_45 (fun H locs hP hD hS => ?_)
      have hP : va_P D vwCl (ws_CY cs a (s_CY_craneCrate (s_CY_hl (s_CY_hl u1 u12) u26) (-1 : Int32))) H := hP
      have hD : va_D A (ws_CY cs a (s_CY_craneCrate (s_CY_hl (s_CY_hl u1 u12) u26) (-1 : Int32))) := hD
      obtain ⟨z1, ez1⟩ : ∃ z : CY, z = (s_CY_craneCrate (s_CY_hl (s_CY_hl u1 u12) u26) (-1 : Int32)) := ⟨_, rfl⟩
      have hw := hw z1 ez1
      rw [← ez1] at hP hD
      refine lv_aload_n hx hb dX3_load_48 rfl (lv_at hl 1 rfl) ?_
      refine va_get (D := D) (ci := 3) (v := .ref (a 13)) (C := RX3) (T := TX3) (N := 12) hx hb hts hinX3 hown hK hP 0 rfl rfl 3 (by decide) hf29 (fun _ h9 => h9) rfl dX3_load_49 ?_
      refine lv_iload_n hx hb dX3_load_52 rfl (lv_at hl 0 rfl) ?_
      refine kVi (As := [.int r12]) (rest := []) ⟨hx, hb, hml, hown, hts⟩ (c_H_finish l D cs (sh a 13) _ (g_CY_hl z1) r12 hw) (cwV 1 hts gX3_load_X0_finish rfl rfl rfl (by decide +kernel) ⟨Nat.le_of_ble_eq_true rfl, Nat.le_of_ble_eq_true rfl⟩) (pt_CY_hl cs a z1) hK hP hD hS hA (ci := 0) rfl rfl rfl rfl hl.1 rfl (Nat.le_of_ble_eq_true rfl) dX3_load_53 ⟨Nat.zero_le _, Nat.zero_le _⟩ (fun r53 u53 H locs hw hP hD hS => ?_)
      have hP : va_P D vwCl (ws_CY cs a (s_CY_hl z1 u53)) H := hP
      have hD : va_D A (ws_CY cs a (s_CY_hl z1 u53)) := hD
      exact xI (wf := (ws_CY cs a)) (u := (s_CY_hl z1 u53)) hx hb hr hlocks hK hP hD hS hw dX3_load_56
    · have hw := hw.2 c30
      exact B33 _ hw _ _ ls (lv_sub hl [] rfl) hP hD hS
abbrev rm_C_storm : Room := { frames := 2, cells := 0, slots := 0, locals := 53 }
set_option maxHeartbeats 4000000 in
set_option maxRecDepth 100000 in
theorem c_C_storm (l : Launch) (D : va_G) (cs : CS) (a : Nat → Nat) (sz : Nat) (σ : CY) {Φ : Int32 → CY → Prop} (hw : w_C_storm σ Φ) : Met l yX3_storm wsX3_storm rm_C_storm (PcG [.ref (a 0)] D cs (ws_CY cs a σ) sz) (va_Qi Φ (BG D cs (va_A (ws_CY cs a σ) sz) sz (ws_CY cs a)) (va_A (ws_CY cs a σ) sz)) 0 0 (va_A (ws_CY cs a σ) sz) := by
  refine Met.ofW (cc := cX3_storm) (maxL := 1) (ret := (some .int)) (by decide) rfl ?_
  intro p e s m args below meth c s₁ B hml hv
  obtain ⟨rfl, hsz, hP, hK, hD0⟩ := hv
  have hx := B.exec
  have hb := B.bytes
  have hr := B.returns
  have hts := atoms_spec (ws := wsX3_storm) B.pre
  have hown : s.vm.findClass RX3 = some m.cls := findClass_of_methodNamed B.named
  have hlocks := B.notSynchronized
  subst hsz
  have hD := hD0.self (sz := s.heap.size)
  generalize hAe : va_A (ws_CY cs a σ) s.heap.size = A at hD ⊢
  have hA : ∀ q : Nat, s.heap.size ≤ q → A q := fun q h => by rw [← hAe]; exact Or.inr h
  have hS : va_S A s.heap s.heap [] := va_S.rf
  have hf10 : (Cond.fieldLink RX3 10 "CraneYard" "stacks" "LCraneYard$Stacks;").before ([.ref (a 0)] : List Value).toArray s = true := hts _ (List.mem_of_getElem? (i := 2) rfl)
  have hf53 : (Cond.fieldLink RX3 53 "CraneYard" "stormy" "Z").before ([.ref (a 0)] : List Value).toArray s = true := hts _ (List.mem_of_getElem? (i := 1) rfl)
  have hinX3 : ∀ w ∈ wsX30, w ∈ wsX3_storm := fun _ h => List.mem_cons_of_mem _ (List.mem_append_left _ (List.mem_append_right _ h))
  have hP : va_P D vwCl (ws_CY cs a σ) s.heap := hP
  have hl := lv_entry ([.ref (a 0)]) (n := 1) (Nat.le_of_ble_eq_true rfl)
  rw [lg_entry_eq]
  generalize (lg_sl ([.ref (a 0)]) ++ List.replicate (1 - (lg_sl ([.ref (a 0)])).length) Slot.unset).toArray = ls at hl ⊢
  have hl : lv_has ls 1 [(0, .ref (a 0))] := hl
  unfold w_C_storm at hw
  refine lv_aload_n hx hb dX3_storm_0 rfl (lv_at hl 0 rfl) ?_
  refine lv_iconst (v := (1 : Int32)) hx hb dX3_storm_1 (by decide) ?_
  refine va_put (D := D) (ci := 3) (v := .int (1 : Int32)) (ty := .boolean) (C := RX3) (T := TX3) (N := 12) hx hb hts hinX3 tyX3 tyX3_ok nmX3 hown hK hP hD hS 0 rfl rfl 10 (by decide) hf53 (fun _ h9 => h9) rfl (by decide +kernel) rfl rfl (Nat.le_of_ble_eq_true rfl) dX3_storm_2 (fun H locs hP hD hS => ?_)
  have hP : va_P D vwCl (ws_CY cs a (s_CY_stormy σ (1 : Int32))) H := hP
  have hD : va_D A (ws_CY cs a (s_CY_stormy σ (1 : Int32))) := hD
  obtain ⟨z1, ez1⟩ : ∃ z : CY, z = (s_CY_stormy σ (1 : Int32)) := ⟨_, rfl⟩
  have hw := hw z1 ez1
  rw [← ez1] at hP hD
  refine lv_aload_n hx hb dX3_storm_5 rfl (lv_at hl 0 rfl) ?_
  refine va_get (D := D) (ci := 3) (v := .ref (a 1)) (C := RX3) (T := TX3) (N := 12) hx hb hts hinX3 hown hK hP 0 rfl rfl 0 (by decide) hf10 (fun _ h9 => h9) rfl dX3_storm_6 ?_
  refine lv_aload_n hx hb dX3_storm_9 rfl (lv_at hl 0 rfl) ?_
  refine kVi (As := []) (rest := [.ref (a 1)]) ⟨hx, hb, hml, hown, hts⟩ (c_C_mostPlaces l D cs a _ z1 hw) (cwV 0 hts gX3_storm_X3_mostPlaces rfl rfl rfl (by decide +kernel) ⟨Nat.le_of_ble_eq_true rfl, Nat.le_of_ble_eq_true rfl⟩) (pt_self_CY cs a z1) hK hP hD hS hA (ci := 3) rfl rfl rfl rfl hl.1 rfl (Nat.le_of_ble_eq_true rfl) dX3_storm_10 ⟨Nat.zero_le _, Nat.zero_le _⟩ (fun r10 u10 H locs hw hP hD hS => ?_)
  have hP : va_P D vwCl (ws_CY cs a u10) H := hP
  have hD : va_D A (ws_CY cs a u10) := hD
  refine kVi (As := [.int r10]) (rest := []) ⟨hx, hb, hml, hown, hts⟩ (c_S_cratesAbove l D cs (sh a 1) _ (g_CY_st u10) r10 hw) (cwV 1 hts gX3_storm_X1_cratesAbove rfl rfl rfl (by decide +kernel) ⟨Nat.le_of_ble_eq_true rfl, Nat.le_of_ble_eq_true rfl⟩) (pt_CY_st cs a u10) hK hP hD hS hA (ci := 1) rfl rfl rfl rfl hl.1 rfl (Nat.le_of_ble_eq_true rfl) dX3_storm_13 ⟨Nat.zero_le _, Nat.zero_le _⟩ (fun r13 u13 H locs hw hP hD hS => ?_)
  have hP : va_P D vwCl (ws_CY cs a (s_CY_st u10 u13)) H := hP
  have hD : va_D A (ws_CY cs a (s_CY_st u10 u13)) := hD
  exact rI (wf := (ws_CY cs a)) (u := (s_CY_st u10 u13)) hx hb hr hlocks hK hP hD hS hw dX3_storm_16
abbrev rm_C_endDay : Room := { frames := 3, cells := 0, slots := 0, locals := 65 }
set_option maxHeartbeats 4000000 in
set_option maxRecDepth 100000 in
theorem c_C_endDay (l : Launch) (D : va_G) (cs : CS) (a : Nat → Nat) (sz : Nat) (σ : CY) {Φ : CY → Prop} (hw : w_C_endDay σ Φ) : Met l yX3_endDay wsX3_endDay rm_C_endDay (PcG [.ref (a 0)] D cs (ws_CY cs a σ) sz) (va_Qv Φ (BG D cs (va_A (ws_CY cs a σ) sz) sz (ws_CY cs a)) (va_A (ws_CY cs a σ) sz)) 0 0 (va_A (ws_CY cs a σ) sz) := by
  refine Met.ofW (cc := cX3_endDay) (maxL := 1) (ret := none) (by decide) rfl ?_
  intro p e s m args below meth c s₁ B hml hv
  obtain ⟨rfl, hsz, hP, hK, hD0⟩ := hv
  have hx := B.exec
  have hb := B.bytes
  have hr := B.returns
  have hts := atoms_spec (ws := wsX3_endDay) B.pre
  have hown : s.vm.findClass RX3 = some m.cls := findClass_of_methodNamed B.named
  have hlocks := B.notSynchronized
  subst hsz
  have hD := hD0.self (sz := s.heap.size)
  generalize hAe : va_A (ws_CY cs a σ) s.heap.size = A at hD ⊢
  have hA : ∀ q : Nat, s.heap.size ≤ q → A q := fun q h => by rw [← hAe]; exact Or.inr h
  have hS : va_S A s.heap s.heap [] := va_S.rf
  have hf10 : (Cond.fieldLink RX3 10 "CraneYard" "stacks" "LCraneYard$Stacks;").before ([.ref (a 0)] : List Value).toArray s = true := hts _ (List.mem_of_getElem? (i := 2) rfl)
  have hf29 : (Cond.fieldLink RX3 29 "CraneYard" "hauls" "LCraneYard$Hauls;").before ([.ref (a 0)] : List Value).toArray s = true := hts _ (List.mem_of_getElem? (i := 3) rfl)
  have hf50 : (Cond.fieldLink RX3 50 "CraneYard" "day" "I").before ([.ref (a 0)] : List Value).toArray s = true := hts _ (List.mem_of_getElem? (i := 4) rfl)
  have hf53 : (Cond.fieldLink RX3 53 "CraneYard" "stormy" "Z").before ([.ref (a 0)] : List Value).toArray s = true := hts _ (List.mem_of_getElem? (i := 5) rfl)
  have hf57 : (Cond.fieldLink RX3 57 "CraneYard" "fees" "I").before ([.ref (a 0)] : List Value).toArray s = true := hts _ (List.mem_of_getElem? (i := 1) rfl)
  have hinX3 : ∀ w ∈ wsX30, w ∈ wsX3_endDay := fun _ h => List.mem_cons_of_mem _ (List.mem_append_left _ (List.mem_append_left _ (List.mem_append_right _ h)))
  have hP : va_P D vwCl (ws_CY cs a σ) s.heap := hP
  have hl := lv_entry ([.ref (a 0)]) (n := 1) (Nat.le_of_ble_eq_true rfl)
  rw [lg_entry_eq]
  generalize (lg_sl ([.ref (a 0)]) ++ List.replicate (1 - (lg_sl ([.ref (a 0)])).length) Slot.unset).toArray = ls at hl ⊢
  have hl : lv_has ls 1 [(0, .ref (a 0))] := hl
  unfold w_C_endDay at hw
  refine lv_aload_n hx hb dX3_endDay_0 rfl (lv_at hl 0 rfl) ?_
  refine lv_dup hx hb dX3_endDay_1 rfl ?_
  refine va_get (D := D) (ci := 3) (v := .int (g_CY_fees σ)) (C := RX3) (T := TX3) (N := 12) hx hb hts hinX3 hown hK hP 0 rfl rfl 11 (by decide) hf57 (fun _ h9 => h9) rfl dX3_endDay_2 ?_
  refine lv_aload_n hx hb dX3_endDay_5 rfl (lv_at hl 0 rfl) ?_
  refine va_get (D := D) (ci := 3) (v := .ref (a 1)) (C := RX3) (T := TX3) (N := 12) hx hb hts hinX3 hown hK hP 0 rfl rfl 0 (by decide) hf10 (fun _ h9 => h9) rfl dX3_endDay_6 ?_
  refine kVi (As := []) (rest := [.int (g_CY_fees σ), .ref (a 0)]) ⟨hx, hb, hml, hown, hts⟩ (c_S_feeOfOneDay l D cs (sh a 1) _ (g_CY_st σ) hw) (cwV 0 hts gX3_endDay_X1_feeOfOneDay rfl rfl rfl (by decide +kernel) ⟨Nat.le_of_ble_eq_true rfl, Nat.le_of_ble_eq_true rfl⟩) (pt_CY_st cs a σ) hK hP hD hS hA (ci := 1) rfl rfl rfl rfl hl.1 rfl (Nat.le_of_ble_eq_true rfl) dX3_endDay_9 ⟨Nat.zero_le _, Nat.zero_le _⟩ (fun r9 u9 H locs hw hP hD hS => ?_)
  have hP : va_P D vwCl (ws_CY cs a (s_CY_st σ u9)) H := hP
  have hD : va_D A (ws_CY cs a (s_CY_st σ u9)) := hD
  refine lv_iadd hx hb dX3_endDay_12 ?_
  refine va_put (D := D) (ci := 3) (v := .int ((g_CY_fees σ) + r9)) (ty := .int) (C := RX3) (T := TX3) (N := 12) hx hb hts hinX3 tyX3 tyX3_ok nmX3 hown hK hP hD hS 0 rfl rfl 11 (by decide) hf57 (fun _ h9 => h9) rfl (by decide +kernel) rfl rfl (Nat.le_of_ble_eq_true rfl) dX3_endDay_13 (fun H locs hP hD hS => ?_)
  have hP : va_P D vwCl (ws_CY cs a (s_CY_fees (s_CY_st σ u9) ((g_CY_fees σ) + r9))) H := hP
  have hD : va_D A (ws_CY cs a (s_CY_fees (s_CY_st σ u9) ((g_CY_fees σ) + r9))) := hD
  obtain ⟨z1, ez1⟩ : ∃ z : CY, z = (s_CY_fees (s_CY_st σ u9) ((g_CY_fees σ) + r9)) := ⟨_, rfl⟩
  have hw := hw z1 ez1
  rw [← ez1] at hP hD
  refine lv_aload_n hx hb dX3_endDay_16 rfl (lv_at hl 0 rfl) ?_
  refine va_get (D := D) (ci := 3) (v := .ref (a 13)) (C := RX3) (T := TX3) (N := 12) hx hb hts hinX3 hown hK hP 0 rfl rfl 3 (by decide) hf29 (fun _ h9 => h9) rfl dX3_endDay_17 ?_
  refine lv_aload_n hx hb dX3_endDay_20 rfl (lv_at hl 0 rfl) ?_
  refine va_get (D := D) (ci := 3) (v := .int (g_CY_day z1)) (C := RX3) (T := TX3) (N := 12) hx hb hts hinX3 hown hK hP 0 rfl rfl 9 (by decide) hf50 (fun _ h9 => h9) rfl dX3_endDay_21 ?_
  refine kVv (As := [.int (g_CY_day z1)]) (rest := []) ⟨hx, hb, hml, hown, hts⟩ (c_H_endDay l D cs (sh a 13) _ (g_CY_hl z1) (g_CY_day z1) hw) (cwV 1 hts gX3_endDay_X0_endDay rfl rfl rfl (by decide +kernel) ⟨Nat.le_of_ble_eq_true rfl, Nat.le_of_ble_eq_true rfl⟩) (pt_CY_hl cs a z1) hK hP hD hS hA (ci := 0) rfl rfl rfl rfl hl.1 rfl (Nat.le_of_ble_eq_true rfl) dX3_endDay_24 ⟨Nat.zero_le _, Nat.zero_le _⟩ (fun u24 H locs hw hP hD hS => ?_)
  have hP : va_P D vwCl (ws_CY cs a (s_CY_hl z1 u24)) H := hP
  have hD : va_D A (ws_CY cs a (s_CY_hl z1 u24)) := hD
  refine lv_aload_n hx hb dX3_endDay_27 rfl (lv_at hl 0 rfl) ?_
  refine lv_dup hx hb dX3_endDay_28 rfl ?_
  refine va_get (D := D) (ci := 3) (v := .int (g_CY_day (s_CY_hl z1 u24))) (C := RX3) (T := TX3) (N := 12) hx hb hts hinX3 hown hK hP 0 rfl rfl 9 (by decide) hf50 (fun _ h9 => h9) rfl dX3_endDay_29 ?_
  refine lv_iconst (v := (1 : Int32)) hx hb dX3_endDay_32 (by decide) ?_
  refine lv_iadd hx hb dX3_endDay_33 ?_
  refine lv_topi (fun y2 ey2 => ?_)
  have hw := hw y2 ey2
  refine va_put (D := D) (ci := 3) (v := .int y2) (ty := .int) (C := RX3) (T := TX3) (N := 12) hx hb hts hinX3 tyX3 tyX3_ok nmX3 hown hK hP hD hS 0 rfl rfl 9 (by decide) hf50 (fun _ h9 => h9) rfl (by decide +kernel) rfl rfl (Nat.le_of_ble_eq_true rfl) dX3_endDay_34 (fun H locs hP hD hS => ?_)
  have hP : va_P D vwCl (ws_CY cs a (s_CY_day (s_CY_hl z1 u24) y2)) H := hP
  have hD : va_D A (ws_CY cs a (s_CY_day (s_CY_hl z1 u24) y2)) := hD
  obtain ⟨z3, ez3⟩ : ∃ z : CY, z = (s_CY_day (s_CY_hl z1 u24) y2) := ⟨_, rfl⟩
  have hw := hw z3 ez3
  rw [← ez3] at hP hD
  refine lv_aload_n hx hb dX3_endDay_37 rfl (lv_at hl 0 rfl) ?_
  refine lv_iconst (v := (0 : Int32)) hx hb dX3_endDay_38 (by decide) ?_
  refine va_put (D := D) (ci := 3) (v := .int (0 : Int32)) (ty := .boolean) (C := RX3) (T := TX3) (N := 12) hx hb hts hinX3 tyX3 tyX3_ok nmX3 hown hK hP hD hS 0 rfl rfl 10 (by decide) hf53 (fun _ h9 => h9) rfl (by decide +kernel) rfl rfl (Nat.le_of_ble_eq_true rfl) dX3_endDay_39 (fun H locs hP hD hS => ?_)
  have hP : va_P D vwCl (ws_CY cs a (s_CY_stormy z3 (0 : Int32))) H := hP
  have hD : va_D A (ws_CY cs a (s_CY_stormy z3 (0 : Int32))) := hD
  obtain ⟨z4, ez4⟩ : ∃ z : CY, z = (s_CY_stormy z3 (0 : Int32)) := ⟨_, rfl⟩
  have hw := hw z4 ez4
  rw [← ez4] at hP hD
  exact rV (wf := (ws_CY cs a)) (u := z4) hx hb hr hlocks hK hP hD hS hw dX3_endDay_42
abbrev rm_C_pass : Room := { frames := 6, cells := 1, slots := 6, locals := 92 }
set_option maxHeartbeats 4000000 in
set_option maxRecDepth 100000 in
theorem c_C_pass (l : Launch) (hfl : l.stackTraces = false) (D : va_G) (cs : CS) (a : Nat → Nat) (sz : Nat) (σ : CY) (p1 : Int32) {Φ : Int32 → CY → Prop} {Ξ : String → CY → Prop} (hw : w_C_pass σ p1 Φ Ξ) : vx_Met l yX3_pass wsX3_pass rm_C_pass (PcX [.ref (a 0), .int p1] D cs (ws_CY cs a σ) sz) (va_Qi Φ (BG D cs (va_A (ws_CY cs a σ) sz) sz (ws_CY cs a)) (va_A (ws_CY cs a σ) sz)) (XG D cs (va_A (ws_CY cs a σ) sz) (ws_CY cs a) Ξ) 1 6 (va_A (ws_CY cs a σ) sz) := by
  refine vx_ofW (cc := cX3_pass) (maxL := 4) (ret := (some .int)) (by decide) rfl ?_
  intro p e s m args below meth c s₁ B hml hout hv
  obtain ⟨rfl, hsz, hP, hK, hD0, hE⟩ := hv
  have hx := B.exec
  have hb := B.bytes
  have hr := B.returns
  have hts := atoms_spec (ws := wsX3_pass) B.pre
  have hown : s.vm.findClass RX3 = some m.cls := findClass_of_methodNamed B.named
  have hlocks := B.notSynchronized
  subst hsz
  have hD := hD0.self (sz := s.heap.size)
  generalize hAe : va_A (ws_CY cs a σ) s.heap.size = A at hD hE ⊢
  have hA : ∀ q : Nat, s.heap.size ≤ q → A q := fun q h => by rw [← hAe]; exact Or.inr h
  have hS : va_S A s.heap s.heap [] := va_S.rf
  have hf50 : (Cond.fieldLink RX3 50 "CraneYard" "day" "I").before ([.ref (a 0), .int p1] : List Value).toArray s = true := hts _ (List.mem_of_getElem? (i := 5) rfl)
  have hf57 : (Cond.fieldLink RX3 57 "CraneYard" "fees" "I").before ([.ref (a 0), .int p1] : List Value).toArray s = true := hts _ (List.mem_of_getElem? (i := 6) rfl)
  have hi60 : (Cond.initialized "java/lang/IllegalArgumentException").before ([.ref (a 0), .int p1] : List Value).toArray s = true := hts _ (List.mem_of_getElem? (i := 2) rfl)
  have hi74 : (Cond.initialized "java/lang/IllegalStateException").before ([.ref (a 0), .int p1] : List Value).toArray s = true := hts _ (List.mem_of_getElem? (i := 4) rfl)
  have hinX3 : ∀ w ∈ wsX30, w ∈ wsX3_pass := fun _ h => List.mem_cons_of_mem _ (List.mem_append_left _ (List.mem_append_left _ (List.mem_append_left _ (List.mem_append_left _ (List.mem_append_right _ h)))))
  have hk60 : (Cond.classLink RX3 60 "java/lang/IllegalArgumentException").before ([.ref (a 0), .int p1] : List Value).toArray s = true := hts _ (List.mem_of_getElem? (i := 1) rfl)
  have hk74 : (Cond.classLink RX3 74 "java/lang/IllegalStateException").before ([.ref (a 0), .int p1] : List Value).toArray s = true := hts _ (List.mem_of_getElem? (i := 3) rfl)
  have hP : va_P D vwCl (ws_CY cs a σ) s.heap := hP
  have B50 : ∀ (n : Nat) (x1 : Int32) (x2 : Int32) (x3 : Int32) (σ : CY), it4 (b_C_pass_50 Φ Ξ) n x1 x2 x3 σ → At p l e (headSpec wsX3_pass rm_C_pass).room s m ([.ref (a 0), .int p1] : List Value).toArray below meth c (vx_MQ below (va_Qi Φ (BG D cs A s.heap.size (ws_CY cs a)) A) (XG D cs A (ws_CY cs a) Ξ) ([.ref (a 0), .int p1] : List Value).toArray s 1 6 A) D A 4 [(0, .ref (a 0)), (1, .int x1), (2, .int x2), (3, .int x3)] (ws_CY cs a σ) 50 [] := by
    intro n
    induction n with
    | zero => intro x1 x2 x3 σ hw; exact absurd hw id
    | succ n ih =>
      intro x1 x2 x3 σ hw H locs ls hl hP hD hS
      have hw : b_C_pass_50 Φ Ξ (it4 (b_C_pass_50 Φ Ξ) n) x1 x2 x3 σ := hw
      unfold b_C_pass_50 at hw
      refine lv_iload_n hx hb dX3_pass_50 rfl (lv_at hl 3 rfl) ?_
      refine lv_iload_n hx hb dX3_pass_51 rfl (lv_at hl 1 rfl) ?_
      refine lv_icmp_ge (tgt := 65) hx hb dX3_pass_52 (by decide) (fun c52 => ?_) (fun c52 => ?_)
      · have hw := hw.1 c52
        refine lv_aload_n hx hb dX3_pass_65 rfl (lv_at hl 0 rfl) ?_
        refine va_get (D := D) (ci := 3) (v := .int (g_CY_fees σ)) (C := RX3) (T := TX3) (N := 12) hx hb hts hinX3 hown hK hP 0 rfl rfl 11 (by decide) hf57 (fun _ h9 => h9) rfl dX3_pass_66 ?_
        refine lv_iload_n hx hb dX3_pass_69 rfl (lv_at hl 2 rfl) ?_
        refine lv_isub hx hb dX3_pass_70 ?_
        exact xI (wf := (ws_CY cs a)) (u := σ) hx hb hr hlocks hK hP hD hS hw dX3_pass_71
      · have hw := hw.2 c52
        refine lv_aload_n hx hb dX3_pass_55 rfl (lv_at hl 0 rfl) ?_
        refine kVv (As := []) (rest := []) ⟨hx, hb, hml, hown, hts⟩ (c_C_endDay l D cs a _ σ hw) (cwV 0 hts gX3_pass_X3_endDay rfl rfl rfl (by decide +kernel) ⟨Nat.le_of_ble_eq_true rfl, Nat.le_of_ble_eq_true rfl⟩) (pt_self_CY cs a σ) hK hP hD hS hA (ci := 3) rfl rfl rfl rfl hl.1 rfl (Nat.le_of_ble_eq_true rfl) dX3_pass_56 ⟨Nat.zero_le _, Nat.zero_le _⟩ (fun u56 H locs hw hP hD hS => ?_)
        have hP : va_P D vwCl (ws_CY cs a u56) H := hP
        have hD : va_D A (ws_CY cs a u56) := hD
        refine lv_iinc (v := (x3 + (1 : Int32))) (lv' := [(3, .int (x3 + (1 : Int32))), (0, .ref (a 0)), (1, .int x1), (2, .int x2)]) hx hb dX3_pass_59 hl (k := 3) rfl rfl (by decide) rfl (fun ls hl => ?_)
        refine lv_goto (tgt := 50) hx hb dX3_pass_62 (by decide) ?_
        exact ih _ _ _ _ hw H locs ls (lv_sub hl [1, 2, 3, 0] rfl) hP hD hS
  have B11 : ∀ (σ : CY), b_C_pass_11 Φ Ξ σ → At p l e (headSpec wsX3_pass rm_C_pass).room s m ([.ref (a 0), .int p1] : List Value).toArray below meth c (vx_MQ below (va_Qi Φ (BG D cs A s.heap.size (ws_CY cs a)) A) (XG D cs A (ws_CY cs a) Ξ) ([.ref (a 0), .int p1] : List Value).toArray s 1 6 A) D A 4 [] (ws_CY cs a σ) 11 [] := by
    intro σ hw H locs ls hl hP hD hS
    unfold b_C_pass_11 at hw
    exact tS (wf := (ws_CY cs a)) (u := σ) (ik := 60) (ic := 64) (text := "the days are not 1 to 100") (cls := "java/lang/IllegalArgumentException") hx hb hfl hown (by decide +kernel) hk60 hi60 (fun w h => hts w (List.mem_cons_of_mem _ (List.mem_append_left _ (List.mem_append_right _ h)))) ng_64 gd_64 (by decide) (by decide) hE hK hP hD hS (by rw [hml]; exact hl.1) dX3_pass_11 dX3_pass_14 dX3_pass_15 dX3_pass_17 dX3_pass_20 hout (Nat.le_of_ble_eq_true rfl) (Nat.le_of_ble_eq_true rfl) (Nat.le_of_ble_eq_true rfl) (Nat.le_of_ble_eq_true rfl) hlocks hw
  have hl := lv_entry ([.ref (a 0), .int p1]) (n := 4) (Nat.le_of_ble_eq_true rfl)
  rw [lg_entry_eq]
  generalize (lg_sl ([.ref (a 0), .int p1]) ++ List.replicate (4 - (lg_sl ([.ref (a 0), .int p1])).length) Slot.unset).toArray = ls at hl ⊢
  have hl : lv_has ls 4 [(0, .ref (a 0)), (1, .int p1)] := hl
  unfold w_C_pass at hw
  refine lv_iload_n hx hb dX3_pass_0 rfl (lv_at hl 1 rfl) ?_
  refine lv_iconst (v := (1 : Int32)) hx hb dX3_pass_1 (by decide) ?_
  refine lv_icmp_lt (tgt := 11) hx hb dX3_pass_2 (by decide) (fun c2 => ?_) (fun c2 => ?_)
  · have hw := hw.1 c2
    exact B11 _ hw _ _ ls (lv_sub hl [] rfl) hP hD hS
  · have hw := hw.2 c2
    refine lv_iload_n hx hb dX3_pass_5 rfl (lv_at hl 1 rfl) ?_
    refine lv_bipush (v := (100 : Int32)) hx hb dX3_pass_6 (by decide) ?_
    refine lv_icmp_le (tgt := 21) hx hb dX3_pass_8 (by decide) (fun c8 => ?_) (fun c8 => ?_)
    · have hw := hw.1 c8
      refine lv_aload_n hx hb dX3_pass_21 rfl (lv_at hl 0 rfl) ?_
      refine va_get (D := D) (ci := 3) (v := .int (g_CY_day σ)) (C := RX3) (T := TX3) (N := 12) hx hb hts hinX3 hown hK hP 0 rfl rfl 9 (by decide) hf50 (fun _ h9 => h9) rfl dX3_pass_22 ?_
      refine lv_iload_n hx hb dX3_pass_25 rfl (lv_at hl 1 rfl) ?_
      refine lv_iadd hx hb dX3_pass_26 ?_
      refine lv_sipush (v := (10000 : Int32)) hx hb dX3_pass_27 (by decide) ?_
      refine lv_icmp_le (tgt := 43) hx hb dX3_pass_30 (by decide) (fun c30 => ?_) (fun c30 => ?_)
      · have hw := hw.1 c30
        refine lv_aload_n hx hb dX3_pass_43 rfl (lv_at hl 0 rfl) ?_
        refine va_get (D := D) (ci := 3) (v := .int (g_CY_fees σ)) (C := RX3) (T := TX3) (N := 12) hx hb hts hinX3 hown hK hP 0 rfl rfl 11 (by decide) hf57 (fun _ h9 => h9) rfl dX3_pass_44 ?_
        refine lv_istore_n (lv' := [(2, .int (g_CY_fees σ)), (0, .ref (a 0)), (1, .int p1)]) hx hb dX3_pass_47 rfl hl (by decide) rfl (fun ls hl => ?_)
        refine lv_iconst (v := (0 : Int32)) hx hb dX3_pass_48 (by decide) ?_
        refine lv_istore_n (lv' := [(3, .int (0 : Int32)), (2, .int (g_CY_fees σ)), (0, .ref (a 0)), (1, .int p1)]) hx hb dX3_pass_49 rfl hl (by decide) rfl (fun ls hl => ?_)
        obtain ⟨n, hw⟩ := hw
        exact B50 n _ _ _ _ hw _ _ ls (lv_sub hl [2, 3, 1, 0] rfl) hP hD hS
      · have hw := hw.2 c30
        exact tS (wf := (ws_CY cs a)) (u := σ) (ik := 74) (ic := 78) (text := "today would be above 10000") (cls := "java/lang/IllegalStateException") hx hb hfl hown (by decide +kernel) hk74 hi74 (fun w h => hts w (List.mem_cons_of_mem _ (List.mem_append_right _ h))) ng_78 gd_78 (by decide) (by decide) hE hK hP hD hS (by rw [hml]; exact hl.1) dX3_pass_33 dX3_pass_36 dX3_pass_37 dX3_pass_39 dX3_pass_42 hout (Nat.le_of_ble_eq_true rfl) (Nat.le_of_ble_eq_true rfl) (Nat.le_of_ble_eq_true rfl) (Nat.le_of_ble_eq_true rfl) hlocks hw
    · have hw := hw.2 c8
      exact B11 _ hw _ _ ls (lv_sub hl [] rfl) hP hD hS
abbrev rm_C_today : Room := { frames := 0, cells := 0, slots := 0, locals := 0 }
set_option maxHeartbeats 4000000 in
set_option maxRecDepth 100000 in
theorem c_C_today (l : Launch) (D : va_G) (cs : CS) (a : Nat → Nat) (sz : Nat) (σ : CY) {Φ : Int32 → CY → Prop} (hw : w_C_today σ Φ) : Met l yX3_today wsX3_today rm_C_today (PcG [.ref (a 0)] D cs (ws_CY cs a σ) sz) (va_Qi Φ (BG D cs (va_A (ws_CY cs a σ) sz) sz (ws_CY cs a)) (va_A (ws_CY cs a σ) sz)) 0 0 (va_A (ws_CY cs a σ) sz) := by
  refine Met.ofW (cc := cX3_today) (maxL := 1) (ret := (some .int)) (by decide) rfl ?_
  intro p e s m args below meth c s₁ B hml hv
  obtain ⟨rfl, hsz, hP, hK, hD0⟩ := hv
  have hx := B.exec
  have hb := B.bytes
  have hr := B.returns
  have hts := atoms_spec (ws := wsX3_today) B.pre
  have hown : s.vm.findClass RX3 = some m.cls := findClass_of_methodNamed B.named
  have hlocks := B.notSynchronized
  subst hsz
  have hD := hD0.self (sz := s.heap.size)
  generalize hAe : va_A (ws_CY cs a σ) s.heap.size = A at hD ⊢
  have hA : ∀ q : Nat, s.heap.size ≤ q → A q := fun q h => by rw [← hAe]; exact Or.inr h
  have hS : va_S A s.heap s.heap [] := va_S.rf
  have hf50 : (Cond.fieldLink RX3 50 "CraneYard" "day" "I").before ([.ref (a 0)] : List Value).toArray s = true := hts _ (List.mem_of_getElem? (i := 1) rfl)
  have hinX3 : ∀ w ∈ wsX30, w ∈ wsX3_today := fun _ h => List.mem_cons_of_mem _ (List.mem_append_right _ h)
  have hP : va_P D vwCl (ws_CY cs a σ) s.heap := hP
  have hl := lv_entry ([.ref (a 0)]) (n := 1) (Nat.le_of_ble_eq_true rfl)
  rw [lg_entry_eq]
  generalize (lg_sl ([.ref (a 0)]) ++ List.replicate (1 - (lg_sl ([.ref (a 0)])).length) Slot.unset).toArray = ls at hl ⊢
  have hl : lv_has ls 1 [(0, .ref (a 0))] := hl
  unfold w_C_today at hw
  refine lv_aload_n hx hb dX3_today_0 rfl (lv_at hl 0 rfl) ?_
  refine va_get (D := D) (ci := 3) (v := .int (g_CY_day σ)) (C := RX3) (T := TX3) (N := 12) hx hb hts hinX3 hown hK hP 0 rfl rfl 9 (by decide) hf50 (fun _ h9 => h9) rfl dX3_today_1 ?_
  exact rI (wf := (ws_CY cs a)) (u := σ) hx hb hr hlocks hK hP hD hS hw dX3_today_4
abbrev rm_C_balance : Room := { frames := 1, cells := 0, slots := 0, locals := 20 }
set_option maxHeartbeats 4000000 in
set_option maxRecDepth 100000 in
theorem c_C_balance (l : Launch) (D : va_G) (cs : CS) (a : Nat → Nat) (sz : Nat) (σ : CY) {Φ : Int32 → CY → Prop} (hw : w_C_balance σ Φ) : Met l yX3_balance wsX3_balance rm_C_balance (PcG [.ref (a 0)] D cs (ws_CY cs a σ) sz) (va_Qi Φ (BG D cs (va_A (ws_CY cs a σ) sz) sz (ws_CY cs a)) (va_A (ws_CY cs a σ) sz)) 0 0 (va_A (ws_CY cs a σ) sz) := by
  refine Met.ofW (cc := cX3_balance) (maxL := 1) (ret := (some .int)) (by decide) rfl ?_
  intro p e s m args below meth c s₁ B hml hv
  obtain ⟨rfl, hsz, hP, hK, hD0⟩ := hv
  have hx := B.exec
  have hb := B.bytes
  have hr := B.returns
  have hts := atoms_spec (ws := wsX3_balance) B.pre
  have hown : s.vm.findClass RX3 = some m.cls := findClass_of_methodNamed B.named
  have hlocks := B.notSynchronized
  subst hsz
  have hD := hD0.self (sz := s.heap.size)
  generalize hAe : va_A (ws_CY cs a σ) s.heap.size = A at hD ⊢
  have hA : ∀ q : Nat, s.heap.size ≤ q → A q := fun q h => by rw [← hAe]; exact Or.inr h
  have hS : va_S A s.heap s.heap [] := va_S.rf
  have hf22 : (Cond.fieldLink RX3 22 "CraneYard" "words" "LCraneYard$Words;").before ([.ref (a 0)] : List Value).toArray s = true := hts _ (List.mem_of_getElem? (i := 1) rfl)
  have hf29 : (Cond.fieldLink RX3 29 "CraneYard" "hauls" "LCraneYard$Hauls;").before ([.ref (a 0)] : List Value).toArray s = true := hts _ (List.mem_of_getElem? (i := 3) rfl)
  have hf57 : (Cond.fieldLink RX3 57 "CraneYard" "fees" "I").before ([.ref (a 0)] : List Value).toArray s = true := hts _ (List.mem_of_getElem? (i := 2) rfl)
  have hinX3 : ∀ w ∈ wsX30, w ∈ wsX3_balance := fun _ h => List.mem_cons_of_mem _ (List.mem_append_left _ (List.mem_append_left _ (List.mem_append_right _ h)))
  have hP : va_P D vwCl (ws_CY cs a σ) s.heap := hP
  have hl := lv_entry ([.ref (a 0)]) (n := 1) (Nat.le_of_ble_eq_true rfl)
  rw [lg_entry_eq]
  generalize (lg_sl ([.ref (a 0)]) ++ List.replicate (1 - (lg_sl ([.ref (a 0)])).length) Slot.unset).toArray = ls at hl ⊢
  have hl : lv_has ls 1 [(0, .ref (a 0))] := hl
  unfold w_C_balance at hw
  refine lv_aload_n hx hb dX3_balance_0 rfl (lv_at hl 0 rfl) ?_
  refine va_get (D := D) (ci := 3) (v := .ref (a 9)) (C := RX3) (T := TX3) (N := 12) hx hb hts hinX3 hown hK hP 0 rfl rfl 2 (by decide) hf22 (fun _ h9 => h9) rfl dX3_balance_1 ?_
  refine kVi (As := []) (rest := []) ⟨hx, hb, hml, hown, hts⟩ (c_W_paidInAll l D cs (sh a 9) _ (g_CY_wd σ) hw) (cwV 0 hts gX3_balance_X2_paidInAll rfl rfl rfl (by decide +kernel) ⟨Nat.le_of_ble_eq_true rfl, Nat.le_of_ble_eq_true rfl⟩) (pt_CY_wd cs a σ) hK hP hD hS hA (ci := 2) rfl rfl rfl rfl hl.1 rfl (Nat.le_of_ble_eq_true rfl) dX3_balance_4 ⟨Nat.zero_le _, Nat.zero_le _⟩ (fun r4 u4 H locs hw hP hD hS => ?_)
  have hP : va_P D vwCl (ws_CY cs a (s_CY_wd σ u4)) H := hP
  have hD : va_D A (ws_CY cs a (s_CY_wd σ u4)) := hD
  refine lv_aload_n hx hb dX3_balance_7 rfl (lv_at hl 0 rfl) ?_
  refine va_get (D := D) (ci := 3) (v := .int (g_CY_fees (s_CY_wd σ u4))) (C := RX3) (T := TX3) (N := 12) hx hb hts hinX3 hown hK hP 0 rfl rfl 11 (by decide) hf57 (fun _ h9 => h9) rfl dX3_balance_8 ?_
  refine lv_isub hx hb dX3_balance_11 ?_
  refine lv_aload_n hx hb dX3_balance_12 rfl (lv_at hl 0 rfl) ?_
  refine va_get (D := D) (ci := 3) (v := .ref (a 13)) (C := RX3) (T := TX3) (N := 12) hx hb hts hinX3 hown hK hP 0 rfl rfl 3 (by decide) hf29 (fun _ h9 => h9) rfl dX3_balance_13 ?_
  refine kVi (As := []) (rest := [.int (r4 - (g_CY_fees (s_CY_wd σ u4)))]) ⟨hx, hb, hml, hown, hts⟩ (c_H_pricesOfDone l D cs (sh a 13) _ (g_CY_hl (s_CY_wd σ u4)) hw) (cwV 0 hts gX3_balance_X0_pricesOfDone rfl rfl rfl (by decide +kernel) ⟨Nat.le_of_ble_eq_true rfl, Nat.le_of_ble_eq_true rfl⟩) (pt_CY_hl cs a (s_CY_wd σ u4)) hK hP hD hS hA (ci := 0) rfl rfl rfl rfl hl.1 rfl (Nat.le_of_ble_eq_true rfl) dX3_balance_16 ⟨Nat.zero_le _, Nat.zero_le _⟩ (fun r16 u16 H locs hw hP hD hS => ?_)
  have hP : va_P D vwCl (ws_CY cs a (s_CY_hl (s_CY_wd σ u4) u16)) H := hP
  have hD : va_D A (ws_CY cs a (s_CY_hl (s_CY_wd σ u4) u16)) := hD
  refine lv_isub hx hb dX3_balance_19 ?_
  refine lv_aload_n hx hb dX3_balance_20 rfl (lv_at hl 0 rfl) ?_
  refine va_get (D := D) (ci := 3) (v := .ref (a 13)) (C := RX3) (T := TX3) (N := 12) hx hb hts hinX3 hown hK hP 0 rfl rfl 3 (by decide) hf29 (fun _ h9 => h9) rfl dX3_balance_21 ?_
  refine kVi (As := []) (rest := [.int ((r4 - (g_CY_fees (s_CY_wd σ u4))) - r16)]) ⟨hx, hb, hml, hown, hts⟩ (c_H_owedForLate l D cs (sh a 13) _ (g_CY_hl (s_CY_hl (s_CY_wd σ u4) u16)) hw) (cwV 0 hts gX3_balance_X0_owedForLate rfl rfl rfl (by decide +kernel) ⟨Nat.le_of_ble_eq_true rfl, Nat.le_of_ble_eq_true rfl⟩) (pt_CY_hl cs a (s_CY_hl (s_CY_wd σ u4) u16)) hK hP hD hS hA (ci := 0) rfl rfl rfl rfl hl.1 rfl (Nat.le_of_ble_eq_true rfl) dX3_balance_24 ⟨Nat.zero_le _, Nat.zero_le _⟩ (fun r24 u24 H locs hw hP hD hS => ?_)
  have hP : va_P D vwCl (ws_CY cs a (s_CY_hl (s_CY_hl (s_CY_wd σ u4) u16) u24)) H := hP
  have hD : va_D A (ws_CY cs a (s_CY_hl (s_CY_hl (s_CY_wd σ u4) u16) u24)) := hD
  refine lv_isub hx hb dX3_balance_27 ?_
  exact rI (wf := (ws_CY cs a)) (u := (s_CY_hl (s_CY_hl (s_CY_wd σ u4) u16) u24)) hx hb hr hlocks hK hP hD hS hw dX3_balance_28
