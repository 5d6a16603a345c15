abbrev rm_M_stackOf : Room := { frames := 2, cells := 0, slots := 0, locals := 43 }
set_option maxHeartbeats 4000000 in
set_option maxRecDepth 100000 in
theorem c_M_stackOf (l : Launch) (D : va_G) (cs : CS) (a : Nat → Nat) (sz : Nat) (σ : MD) (p1 : Int32) {Φ : Int32 → MD → Prop} (hw : w_M_stackOf σ p1 Φ) : Met l yX4_stackOf wsX4_stackOf rm_M_stackOf (PcG [.ref (a 0), .int p1] D cs (ws_MD cs a σ) sz) (va_Qi Φ (BG D cs (va_A (ws_MD cs a σ) sz) sz (ws_MD cs a)) (va_A (ws_MD cs a σ) sz)) 0 0 (va_A (ws_MD cs a σ) sz) := by
  refine Met.ofW (cc := cX4_stackOf) (maxL := 2) (ret := (some .int)) (by decide) rfl ?_
  intro p e s m args below meth c s₁ B hml hv
  obtain ⟨rfl, hsz, hP, hK, hD0⟩ := hv
  have hx := B.exec
  have hb := B.bytes
  have hr := B.returns
  have hts := atoms_spec (ws := wsX4_stackOf) B.pre
  have hown : s.vm.findClass RX4 = some m.cls := findClass_of_methodNamed B.named
  have hlocks := B.notSynchronized
  subst hsz
  have hD := hD0.self (sz := s.heap.size)
  generalize hAe : va_A (ws_MD cs a σ) s.heap.size = A at hD ⊢
  have hA : ∀ q : Nat, s.heap.size ≤ q → A q := fun q h => by rw [← hAe]; exact Or.inr h
  have hS : va_S A s.heap s.heap [] := va_S.rf
  have hP : va_P D vwCl (ws_MD cs a σ) s.heap := hP
  have B14 : ∀ (x1 : Int32) (t1 : Int32) (σ : MD), b_M_stackOf_14 Φ x1 t1 σ → At p l e (headSpec wsX4_stackOf rm_M_stackOf).room s m ([.ref (a 0), .int p1] : List Value).toArray below meth c (MQ below (va_Qi Φ (BG D cs A s.heap.size (ws_MD cs a)) A) ([.ref (a 0), .int p1] : List Value).toArray s 0 0 A) D A 2 [(0, .ref (a 0)), (1, .int x1)] (ws_MD cs a σ) 14 [.int t1, .ref (a 0)] := by
    intro x1 t1 σ hw H locs ls hl hP hD hS
    unfold b_M_stackOf_14 at hw
    refine kVi (As := [.int t1]) (rest := []) ⟨hx, hb, hml, hown, hts⟩ (c_M_goesWell l D cs a _ σ t1 hw) (cwV 1 hts gX4_stackOf_X4_goesWell rfl rfl rfl (by decide +kernel) ⟨Nat.le_of_ble_eq_true rfl, Nat.le_of_ble_eq_true rfl⟩) (pt_self_MD cs a σ) hK hP hD hS hA (ci := 4) rfl rfl rfl rfl hl.1 rfl (Nat.le_of_ble_eq_true rfl) dX4_stackOf_14 ⟨Nat.zero_le _, Nat.zero_le _⟩ (fun r14 u14 H locs hw hP hD hS => ?_)
    have hP : va_P D vwCl (ws_MD cs a u14) H := hP
    have hD : va_D A (ws_MD cs a u14) := hD
    refine lv_if_ne (tgt := 22) hx hb dX4_stackOf_17 (by decide) (fun c17 => ?_) (fun c17 => ?_)
    · have hw := hw.2 c17
      refine lv_aload_n hx hb dX4_stackOf_22 rfl (lv_at hl 0 rfl) ?_
      refine kVv (As := []) (rest := []) ⟨hx, hb, hml, hown, hts⟩ (c_M_copyYard l D cs a _ u14 hw) (cwV 0 hts gX4_stackOf_X4_copyYard rfl rfl rfl (by decide +kernel) ⟨Nat.le_of_ble_eq_true rfl, Nat.le_of_ble_eq_true rfl⟩) (pt_self_MD cs a u14) hK hP hD hS hA (ci := 4) rfl rfl rfl rfl hl.1 rfl (Nat.le_of_ble_eq_true rfl) dX4_stackOf_23 ⟨Nat.zero_le _, Nat.zero_le _⟩ (fun u23 H locs hw hP hD hS => ?_)
      have hP : va_P D vwCl (ws_MD cs a u23) H := hP
      have hD : va_D A (ws_MD cs a u23) := hD
      refine lv_aload_n hx hb dX4_stackOf_26 rfl (lv_at hl 0 rfl) ?_
      refine lv_iload_n hx hb dX4_stackOf_27 rfl (lv_at hl 1 rfl) ?_
      refine kVi (As := [.int x1]) (rest := []) ⟨hx, hb, hml, hown, hts⟩ (c_M_find l D cs a _ u23 x1 hw) (cwV 1 hts gX4_stackOf_X4_find rfl rfl rfl (by decide +kernel) ⟨Nat.le_of_ble_eq_true rfl, Nat.le_of_ble_eq_true rfl⟩) (pt_self_MD cs a u23) hK hP hD hS hA (ci := 4) rfl rfl rfl rfl hl.1 rfl (Nat.le_of_ble_eq_true rfl) dX4_stackOf_28 ⟨Nat.zero_le _, Nat.zero_le _⟩ (fun r28 u28 H locs hw hP hD hS => ?_)
      have hP : va_P D vwCl (ws_MD cs a u28) H := hP
      have hD : va_D A (ws_MD cs a u28) := hD
      exact rI (wf := (ws_MD cs a)) (u := u28) hx hb hr hlocks hK hP hD hS hw dX4_stackOf_31
    · have hw := hw.1 c17
      refine lv_iconst (v := (0 : Int32)) hx hb dX4_stackOf_20 (by decide) ?_
      exact rI (wf := (ws_MD cs a)) (u := u14) hx hb hr hlocks hK hP hD hS hw dX4_stackOf_21
  have hl := lv_entry ([.ref (a 0), .int p1]) (n := 2) (Nat.le_of_ble_eq_true rfl)
  rw [lg_entry_eq]
  generalize (lg_sl ([.ref (a 0), .int p1]) ++ List.replicate (2 - (lg_sl ([.ref (a 0), .int p1])).length) Slot.unset).toArray = ls at hl ⊢
  have hl : lv_has ls 2 [(0, .ref (a 0)), (1, .int p1)] := hl
  unfold w_M_stackOf at hw
  refine lv_aload_n hx hb dX4_stackOf_0 rfl (lv_at hl 0 rfl) ?_
  refine lv_aload_n hx hb dX4_stackOf_1 rfl (lv_at hl 0 rfl) ?_
  refine lv_iload_n hx hb dX4_stackOf_2 rfl (lv_at hl 1 rfl) ?_
  refine kVi (As := [.int p1]) (rest := [.ref (a 0)]) ⟨hx, hb, hml, hown, hts⟩ (c_M_isCrate l D cs a _ σ p1 hw) (cwV 1 hts gX4_stackOf_X4_isCrate rfl rfl rfl (by decide +kernel) ⟨Nat.le_of_ble_eq_true rfl, Nat.le_of_ble_eq_true rfl⟩) (pt_self_MD cs a σ) hK hP hD hS hA (ci := 4) rfl rfl rfl rfl hl.1 rfl (Nat.le_of_ble_eq_true rfl) dX4_stackOf_3 ⟨Nat.zero_le _, Nat.zero_le _⟩ (fun r3 u3 H locs hw hP hD hS => ?_)
  have hP : va_P D vwCl (ws_MD cs a u3) H := hP
  have hD : va_D A (ws_MD cs a u3) := hD
  refine lv_if_eq (tgt := 13) hx hb dX4_stackOf_6 (by decide) (fun c6 => ?_) (fun c6 => ?_)
  · have hw := hw.1 c6
    refine lv_iconst (v := (1 : Int32)) hx hb dX4_stackOf_13 (by decide) ?_
    exact B14 _ _ _ hw _ _ ls (lv_sub hl [0, 1] rfl) hP hD hS
  · have hw := hw.2 c6
    refine lv_iconst (v := (0 : Int32)) hx hb dX4_stackOf_9 (by decide) ?_
    refine lv_goto (tgt := 14) hx hb dX4_stackOf_10 (by decide) ?_
    exact B14 _ _ _ hw _ _ ls (lv_sub hl [0, 1] rfl) hP hD hS
abbrev rm_M_lifts : Room := { frames := 0, cells := 0, slots := 0, locals := 0 }
set_option maxHeartbeats 4000000 in
set_option maxRecDepth 100000 in
theorem c_M_lifts (l : Launch) (D : va_G) (cs : CS) (a : Nat → Nat) (sz : Nat) (σ : MD) {Φ : Int32 → MD → Prop} (hw : w_M_lifts σ Φ) : Met l yX4_lifts wsX4_lifts rm_M_lifts (PcG [.ref (a 0)] D cs (ws_MD cs a σ) sz) (va_Qi Φ (BG D cs (va_A (ws_MD cs a σ) sz) sz (ws_MD cs a)) (va_A (ws_MD cs a σ) sz)) 0 0 (va_A (ws_MD cs a σ) sz) := by
  refine Met.ofW (cc := cX4_lifts) (maxL := 1) (ret := (some .int)) (by decide) rfl ?_
  intro p e s m args below meth c s₁ B hml hv
  obtain ⟨rfl, hsz, hP, hK, hD0⟩ := hv
  have hx := B.exec
  have hb := B.bytes
  have hr := B.returns
  have hts := atoms_spec (ws := wsX4_lifts) B.pre
  have hown : s.vm.findClass RX4 = some m.cls := findClass_of_methodNamed B.named
  have hlocks := B.notSynchronized
  subst hsz
  have hD := hD0.self (sz := s.heap.size)
  generalize hAe : va_A (ws_MD cs a σ) s.heap.size = A at hD ⊢
  have hA : ∀ q : Nat, s.heap.size ≤ q → A q := fun q h => by rw [← hAe]; exact Or.inr h
  have hS : va_S A s.heap s.heap [] := va_S.rf
  have hf109 : (Cond.fieldLink RX4 109 "CraneYardModel" "lifts" "I").before ([.ref (a 0)] : List Value).toArray s = true := hts _ (List.mem_of_getElem? (i := 2) rfl)
  have hf54 : (Cond.fieldLink RX4 54 "CraneYardModel" "thrown" "I").before ([.ref (a 0)] : List Value).toArray s = true := hts _ (List.mem_of_getElem? (i := 1) rfl)
  have hinX4 : ∀ w ∈ wsX40, w ∈ wsX4_lifts := fun _ h => List.mem_cons_of_mem _ (List.mem_append_right _ h)
  have hP : va_P D vwCl (ws_MD cs a σ) s.heap := hP
  have hl := lv_entry ([.ref (a 0)]) (n := 1) (Nat.le_of_ble_eq_true rfl)
  rw [lg_entry_eq]
  generalize (lg_sl ([.ref (a 0)]) ++ List.replicate (1 - (lg_sl ([.ref (a 0)])).length) Slot.unset).toArray = ls at hl ⊢
  have hl : lv_has ls 1 [(0, .ref (a 0))] := hl
  unfold w_M_lifts at hw
  refine lv_aload_n hx hb dX4_lifts_0 rfl (lv_at hl 0 rfl) ?_
  refine lv_iconst (v := (0 : Int32)) hx hb dX4_lifts_1 (by decide) ?_
  refine va_put (D := D) (ci := 4) (v := .int (0 : Int32)) (ty := .int) (C := RX4) (T := TX4) (N := 23) hx hb hts hinX4 tyX4 tyX4_ok nmX4 hown hK hP hD hS 0 rfl rfl 0 (by decide) hf54 (fun _ h9 => h9) rfl (by decide +kernel) rfl rfl (Nat.le_of_ble_eq_true rfl) dX4_lifts_2 (fun H locs hP hD hS => ?_)
  have hP : va_P D vwCl (ws_MD cs a (s_MD_thrown σ (0 : Int32))) H := hP
  have hD : va_D A (ws_MD cs a (s_MD_thrown σ (0 : Int32))) := hD
  obtain ⟨z1, ez1⟩ : ∃ z : MD, z = (s_MD_thrown σ (0 : Int32)) := ⟨_, rfl⟩
  have hw := hw z1 ez1
  rw [← ez1] at hP hD
  refine lv_aload_n hx hb dX4_lifts_5 rfl (lv_at hl 0 rfl) ?_
  refine va_get (D := D) (ci := 4) (v := .int (g_MD_lifts z1)) (C := RX4) (T := TX4) (N := 23) hx hb hts hinX4 hown hK hP 0 rfl rfl 7 (by decide) hf109 (fun _ h9 => h9) rfl dX4_lifts_6 ?_
  exact rI (wf := (ws_MD cs a)) (u := z1) hx hb hr hlocks hK hP hD hS hw dX4_lifts_9
abbrev rm_M_member : Room := { frames := 0, cells := 0, slots := 0, locals := 0 }
set_option maxHeartbeats 4000000 in
set_option maxRecDepth 100000 in
theorem c_M_member (l : Launch) (D : va_G) (cs : CS) (a : Nat → Nat) (sz : Nat) (p0 : Int32) (p1 : Int32) {Φ : Int32 → Unit → Prop} (hw : w_M_member p0 p1 Φ) : Met l yX4_member wsX4_member rm_M_member (PcG [.int p0, .int p1] D cs ([] : va_W) sz) (va_Qi Φ (BG D cs (va_A ([] : va_W) sz) sz (fun _ : Unit => ([] : va_W))) (va_A ([] : va_W) sz)) 0 0 (va_A ([] : va_W) sz) := by
  refine Met.ofW (cc := cX4_member) (maxL := 4) (ret := (some .int)) (by decide) rfl ?_
  intro p e s m args below meth c s₁ B hml hv
  obtain ⟨rfl, hsz, hP, hK, hD0⟩ := hv
  have hx := B.exec
  have hb := B.bytes
  have hr := B.returns
  have hts := atoms_spec (ws := wsX4_member) B.pre
  have hown : s.vm.findClass RX4 = some m.cls := findClass_of_methodNamed B.named
  have hlocks := B.notSynchronized
  subst hsz
  have hD := hD0.self (sz := s.heap.size)
  generalize hAe : va_A ([] : va_W) s.heap.size = A at hD ⊢
  have hA : ∀ q : Nat, s.heap.size ≤ q → A q := fun q h => by rw [← hAe]; exact Or.inr h
  have hS : va_S A s.heap s.heap [] := va_S.rf
  have hP : va_P D vwCl ([] : va_W) s.heap := hP
  have B28 : ∀ (K4 : (Int32 → Int32 → Int32 → Prop)) (hK4 : ∀ (x0 : Int32) (x2 : Int32) (x3 : Int32), K4 x0 x2 x3 → At p l e (headSpec wsX4_member rm_M_member).room s m ([.int p0, .int p1] : List Value).toArray below meth c (MQ below (va_Qi Φ (BG D cs A s.heap.size (fun _ : Unit => ([] : va_W))) A) ([.int p0, .int p1] : List Value).toArray s 0 0 A) D A 4 [(0, .int x0), (2, .int x2), (3, .int x3)] ([] : va_W) 4 []) (x0 : Int32) (x2 : Int32) (x3 : Int32), b_M_member_28 K4 Φ x0 x2 x3 → At p l e (headSpec wsX4_member rm_M_member).room s m ([.int p0, .int p1] : List Value).toArray below meth c (MQ below (va_Qi Φ (BG D cs A s.heap.size (fun _ : Unit => ([] : va_W))) A) ([.int p0, .int p1] : List Value).toArray s 0 0 A) D A 4 [(0, .int x0), (2, .int x2), (3, .int x3)] ([] : va_W) 28 [] := by
    intro K4 hK4 x0 x2 x3 hw H locs ls hl hP hD hS
    unfold b_M_member_28 at hw
    refine lv_iinc (v := (x3 + (1 : Int32))) (lv' := [(3, .int (x3 + (1 : Int32))), (0, .int x0), (2, .int x2)]) hx hb dX4_member_28 hl (k := 2) rfl rfl (by decide) rfl (fun ls hl => ?_)
    refine lv_goto (tgt := 4) hx hb dX4_member_31 (by decide) ?_
    exact hK4 _ _ _ hw _ _ ls (lv_sub hl [1, 2, 0] rfl) hP hD hS
  have B4 : ∀ (n : Nat) (x0 : Int32) (x2 : Int32) (x3 : Int32), it3 (b_M_member_4 Φ) n x0 x2 x3 → At p l e (headSpec wsX4_member rm_M_member).room s m ([.int p0, .int p1] : List Value).toArray below meth c (MQ below (va_Qi Φ (BG D cs A s.heap.size (fun _ : Unit => ([] : va_W))) A) ([.int p0, .int p1] : List Value).toArray s 0 0 A) D A 4 [(0, .int x0), (2, .int x2), (3, .int x3)] ([] : va_W) 4 [] := by
    intro n
    induction n with
    | zero => intro x0 x2 x3 hw; exact absurd hw id
    | succ n ih =>
      intro x0 x2 x3 hw H locs ls hl hP hD hS
      have hw : b_M_member_4 Φ (it3 (b_M_member_4 Φ) n) x0 x2 x3 := hw
      unfold b_M_member_4 at hw
      refine lv_iload_n hx hb dX4_member_4 rfl (lv_at hl 2 rfl) ?_
      refine lv_bipush (v := (30 : Int32)) hx hb dX4_member_5 (by decide) ?_
      refine lv_icmp_ge (tgt := 34) hx hb dX4_member_7 (by decide) (fun c7 => ?_) (fun c7 => ?_)
      · have hw := hw.1 c7
        refine lv_iconst (v := (-1 : Int32)) hx hb dX4_member_34 (by decide) ?_
        exact rI (wf := (fun _ : Unit => ([] : va_W))) (u := ()) hx hb hr hlocks hK hP hD hS hw dX4_member_35
      · have hw := hw.2 c7
        refine lv_iload_n hx hb dX4_member_10 rfl (lv_at hl 0 rfl) ?_
        refine lv_iload_n hx hb dX4_member_11 rfl (lv_at hl 2 rfl) ?_
        refine lv_ishr hx hb dX4_member_12 ?_
        refine lv_iconst (v := (1 : Int32)) hx hb dX4_member_13 (by decide) ?_
        refine lv_iand hx hb dX4_member_14 ?_
        refine lv_iconst (v := (1 : Int32)) hx hb dX4_member_15 (by decide) ?_
        refine lv_icmp_ne (tgt := 28) hx hb dX4_member_16 (by decide) (fun c16 => ?_) (fun c16 => ?_)
        · have hw := hw.2 c16
          exact B28 _ ih _ _ _ hw _ _ ls (lv_sub hl [0, 1, 2] rfl) hP hD hS
        · have hw := hw.1 c16
          refine lv_iload_n hx hb dX4_member_19 rfl (lv_at hl 1 rfl) ?_
          refine lv_if_ne (tgt := 25) hx hb dX4_member_20 (by decide) (fun c20 => ?_) (fun c20 => ?_)
          · have hw := hw.2 c20
            refine lv_iinc (v := (x2 + (-1 : Int32))) (lv' := [(2, .int (x2 + (-1 : Int32))), (0, .int x0), (3, .int x3)]) hx hb dX4_member_25 hl (k := 1) rfl rfl (by decide) rfl (fun ls hl => ?_)
            exact B28 _ ih _ _ _ hw _ _ ls (lv_sub hl [1, 0, 2] rfl) hP hD hS
          · have hw := hw.1 c20
            refine lv_iload_n hx hb dX4_member_23 rfl (lv_at hl 2 rfl) ?_
            exact rI (wf := (fun _ : Unit => ([] : va_W))) (u := ()) hx hb hr hlocks hK hP hD hS hw dX4_member_24
  have hl := lv_entry ([.int p0, .int p1]) (n := 4) (Nat.le_of_ble_eq_true rfl)
  rw [lg_entry_eq]
  generalize (lg_sl ([.int p0, .int p1]) ++ List.replicate (4 - (lg_sl ([.int p0, .int p1])).length) Slot.unset).toArray = ls at hl ⊢
  have hl : lv_has ls 4 [(0, .int p0), (1, .int p1)] := hl
  unfold w_M_member at hw
  refine lv_iload_n hx hb dX4_member_0 rfl (lv_at hl 1 rfl) ?_
  refine lv_istore_n (lv' := [(2, .int p1), (0, .int p0), (1, .int p1)]) hx hb dX4_member_1 rfl hl (by decide) rfl (fun ls hl => ?_)
  refine lv_iconst (v := (0 : Int32)) hx hb dX4_member_2 (by decide) ?_
  refine lv_istore_n (lv' := [(3, .int (0 : Int32)), (2, .int p1), (0, .int p0), (1, .int p1)]) hx hb dX4_member_3 rfl hl (by decide) rfl (fun ls hl => ?_)
  obtain ⟨n, hw⟩ := hw
  exact B4 n _ _ _ hw _ _ ls (lv_sub hl [2, 1, 0] rfl) hP hD hS
abbrev rm_M_bits : Room := { frames := 0, cells := 0, slots := 0, locals := 0 }
set_option maxHeartbeats 4000000 in
set_option maxRecDepth 100000 in
theorem c_M_bits (l : Launch) (D : va_G) (cs : CS) (a : Nat → Nat) (sz : Nat) (p0 : Int32) {Φ : Int32 → Unit → Prop} (hw : w_M_bits p0 Φ) : Met l yX4_bits wsX4_bits rm_M_bits (PcG [.int p0] D cs ([] : va_W) sz) (va_Qi Φ (BG D cs (va_A ([] : va_W) sz) sz (fun _ : Unit => ([] : va_W))) (va_A ([] : va_W) sz)) 0 0 (va_A ([] : va_W) sz) := by
  refine Met.ofW (cc := cX4_bits) (maxL := 3) (ret := (some .int)) (by decide) rfl ?_
  intro p e s m args below meth c s₁ B hml hv
  obtain ⟨rfl, hsz, hP, hK, hD0⟩ := hv
  have hx := B.exec
  have hb := B.bytes
  have hr := B.returns
  have hts := atoms_spec (ws := wsX4_bits) B.pre
  have hown : s.vm.findClass RX4 = some m.cls := findClass_of_methodNamed B.named
  have hlocks := B.notSynchronized
  subst hsz
  have hD := hD0.self (sz := s.heap.size)
  generalize hAe : va_A ([] : va_W) s.heap.size = A at hD ⊢
  have hA : ∀ q : Nat, s.heap.size ≤ q → A q := fun q h => by rw [← hAe]; exact Or.inr h
  have hS : va_S A s.heap s.heap [] := va_S.rf
  have hP : va_P D vwCl ([] : va_W) s.heap := hP
  have B4 : ∀ (n : Nat) (x0 : Int32) (x1 : Int32) (x2 : Int32), it3 (b_M_bits_4 Φ) n x0 x1 x2 → At p l e (headSpec wsX4_bits rm_M_bits).room s m ([.int p0] : List Value).toArray below meth c (MQ below (va_Qi Φ (BG D cs A s.heap.size (fun _ : Unit => ([] : va_W))) A) ([.int p0] : List Value).toArray s 0 0 A) D A 3 [(0, .int x0), (1, .int x1), (2, .int x2)] ([] : va_W) 4 [] := by
    intro n
    induction n with
    | zero => intro x0 x1 x2 hw; exact absurd hw id
    | succ n ih =>
      intro x0 x1 x2 hw H locs ls hl hP hD hS
      have hw : b_M_bits_4 Φ (it3 (b_M_bits_4 Φ) n) x0 x1 x2 := hw
      unfold b_M_bits_4 at hw
      refine lv_iload_n hx hb dX4_bits_4 rfl (lv_at hl 2 rfl) ?_
      refine lv_bipush (v := (30 : Int32)) hx hb dX4_bits_5 (by decide) ?_
      refine lv_icmp_ge (tgt := 24) hx hb dX4_bits_7 (by decide) (fun c7 => ?_) (fun c7 => ?_)
      · have hw := hw.1 c7
        refine lv_iload_n hx hb dX4_bits_24 rfl (lv_at hl 1 rfl) ?_
        exact rI (wf := (fun _ : Unit => ([] : va_W))) (u := ()) hx hb hr hlocks hK hP hD hS hw dX4_bits_25
      · have hw := hw.2 c7
        refine lv_iload_n hx hb dX4_bits_10 rfl (lv_at hl 1 rfl) ?_
        refine lv_iload_n hx hb dX4_bits_11 rfl (lv_at hl 0 rfl) ?_
        refine lv_iload_n hx hb dX4_bits_12 rfl (lv_at hl 2 rfl) ?_
        refine lv_ishr hx hb dX4_bits_13 ?_
        refine lv_iconst (v := (1 : Int32)) hx hb dX4_bits_14 (by decide) ?_
        refine lv_iand hx hb dX4_bits_15 ?_
        refine lv_iadd hx hb dX4_bits_16 ?_
        refine lv_topi (fun y1 ey1 => ?_)
        have hw := hw y1 ey1
        refine lv_istore_n (lv' := [(1, .int y1), (0, .int x0), (2, .int x2)]) hx hb dX4_bits_17 rfl hl (by decide) rfl (fun ls hl => ?_)
        refine lv_iinc (v := (x2 + (1 : Int32))) (lv' := [(2, .int (x2 + (1 : Int32))), (1, .int y1), (0, .int x0)]) hx hb dX4_bits_18 hl (k := 2) rfl rfl (by decide) rfl (fun ls hl => ?_)
        refine lv_goto (tgt := 4) hx hb dX4_bits_21 (by decide) ?_
        exact ih _ _ _ hw _ _ ls (lv_sub hl [2, 1, 0] rfl) hP hD hS
  have hl := lv_entry ([.int p0]) (n := 3) (Nat.le_of_ble_eq_true rfl)
  rw [lg_entry_eq]
  generalize (lg_sl ([.int p0]) ++ List.replicate (3 - (lg_sl ([.int p0])).length) Slot.unset).toArray = ls at hl ⊢
  have hl : lv_has ls 3 [(0, .int p0)] := hl
  unfold w_M_bits at hw
  refine lv_iconst (v := (0 : Int32)) hx hb dX4_bits_0 (by decide) ?_
  refine lv_istore_n (lv' := [(1, .int (0 : Int32)), (0, .int p0)]) hx hb dX4_bits_1 rfl hl (by decide) rfl (fun ls hl => ?_)
  refine lv_iconst (v := (0 : Int32)) hx hb dX4_bits_2 (by decide) ?_
  refine lv_istore_n (lv' := [(2, .int (0 : Int32)), (1, .int (0 : Int32)), (0, .int p0)]) hx hb dX4_bits_3 rfl hl (by decide) rfl (fun ls hl => ?_)
  obtain ⟨n, hw⟩ := hw
  exact B4 n _ _ _ hw _ _ ls (lv_sub hl [2, 1, 0] rfl) hP hD hS
