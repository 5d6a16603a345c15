abbrev rm_M_load : Room := { frames := 1, cells := 0, slots := 0, locals := 22 }
set_option maxHeartbeats 4000000 in
set_option maxRecDepth 100000 in
theorem c_M_load (l : Launch) (D : va_G) (cs : CS) (a : Nat → Nat) (sz : Nat) (σ : MD) {Φ : Int32 → MD → Prop} (hw : w_M_load σ Φ) : Met l yX4_load wsX4_load rm_M_load (PcG [.ref (a 0)] D cs (ws_MD cs a σ) sz) (va_Qi Φ (BG D cs (va_A (ws_MD cs a σ) sz) sz (ws_MD cs a)) (va_A (ws_MD cs a σ) sz)) 0 0 (va_A (ws_MD cs a σ) sz) := by
  refine Met.ofW (cc := cX4_load) (maxL := 2) (ret := (some .int)) (by decide) rfl ?_
  intro p e s m args below meth c s₁ B hml hv
  obtain ⟨rfl, hsz, hP, hK, hD0⟩ := hv
  have hx := B.exec
  have hb := B.bytes
  have hr := B.returns
  have hts := atoms_spec (ws := wsX4_load) B.pre
  have hown : s.vm.findClass RX4 = some m.cls := findClass_of_methodNamed B.named
  have hlocks := B.notSynchronized
  subst hsz
  have hD := hD0.self (sz := s.heap.size)
  generalize hAe : va_A (ws_MD cs a σ) s.heap.size = A at hD ⊢
  have hA : ∀ q : Nat, s.heap.size ≤ q → A q := fun q h => by rw [← hAe]; exact Or.inr h
  have hS : va_S A s.heap s.heap [] := va_S.rf
  have hf22 : (Cond.fieldLink RX4 22 "CraneYardModel" "crane" "I").before ([.ref (a 0)] : List Value).toArray s = true := hts _ (List.mem_of_getElem? (i := 1) rfl)
  have hf45 : (Cond.fieldLink RX4 45 "CraneYardModel" "states" "[I").before ([.ref (a 0)] : List Value).toArray s = true := hts _ (List.mem_of_getElem? (i := 2) rfl)
  have hf48 : (Cond.fieldLink RX4 48 "CraneYardModel" "prices" "[I").before ([.ref (a 0)] : List Value).toArray s = true := hts _ (List.mem_of_getElem? (i := 3) rfl)
  have hinX4 : ∀ w ∈ wsX40, w ∈ wsX4_load := fun _ h => List.mem_cons_of_mem _ (List.mem_append_right _ h)
  have hP : va_P D vwCl (ws_MD cs a σ) s.heap := hP
  have B42 : ∀ (x1 : Int32) (t1 : Int32) (σ : MD), b_M_load_42 Φ x1 t1 σ → At p l e (headSpec wsX4_load rm_M_load).room s m ([.ref (a 0)] : List Value).toArray below meth c (MQ below (va_Qi Φ (BG D cs A s.heap.size (ws_MD cs a)) A) ([.ref (a 0)] : List Value).toArray s 0 0 A) D A 2 [(0, .ref (a 0)), (1, .int x1)] (ws_MD cs a σ) 42 [.int t1, .ref (a 0)] := by
    intro x1 t1 σ hw H locs ls hl hP hD hS
    unfold b_M_load_42 at hw
    refine kVi (As := [.int t1]) (rest := []) ⟨hx, hb, hml, hown, hts⟩ (c_M_goesWell l D cs a _ σ t1 hw) (cwV 1 hts gX4_load_X4_goesWell rfl rfl rfl (by decide +kernel) ⟨Nat.le_of_ble_eq_true rfl, Nat.le_of_ble_eq_true rfl⟩) (pt_self_MD cs a σ) hK hP hD hS hA (ci := 4) rfl rfl rfl rfl hl.1 rfl (Nat.le_of_ble_eq_true rfl) dX4_load_42 ⟨Nat.zero_le _, Nat.zero_le _⟩ (fun r42 u42 H locs hw hP hD hS => ?_)
    have hP : va_P D vwCl (ws_MD cs a u42) H := hP
    have hD : va_D A (ws_MD cs a u42) := hD
    refine lv_if_ne (tgt := 50) hx hb dX4_load_45 (by decide) (fun c45 => ?_) (fun c45 => ?_)
    · have hw := hw.2 c45
      refine lv_aload_n hx hb dX4_load_50 rfl (lv_at hl 0 rfl) ?_
      refine va_get (D := D) (ci := 4) (v := .ref (a 11)) (C := RX4) (T := TX4) (N := 23) hx hb hts hinX4 hown hK hP 0 rfl rfl 16 (by decide) hf45 (fun _ h9 => h9) rfl dX4_load_51 ?_
      refine lv_iload_n hx hb dX4_load_54 rfl (lv_at hl 1 rfl) ?_
      refine lv_iconst (v := (2 : Int32)) hx hb dX4_load_55 (by decide) ?_
      have hi56 := hw.1
      have hw := hw.2
      refine va_iast (f := (g_MD_states u42)) (n := 20) (x := (2 : Int32)) hx hb hK hP hD hS 11 0 rfl rfl hi56 dX4_load_56 (fun H locs hP hD hS => ?_)
      have hP : va_P D vwCl (ws_MD cs a (s_MD_states u42 (upd (g_MD_states u42) (x1).toNatClampNeg (2 : Int32)))) H := hP
      have hD : va_D A (ws_MD cs a (s_MD_states u42 (upd (g_MD_states u42) (x1).toNatClampNeg (2 : Int32)))) := hD
      obtain ⟨z1, ez1⟩ : ∃ z : MD, z = (s_MD_states u42 (upd (g_MD_states u42) (x1).toNatClampNeg (2 : Int32))) := ⟨_, rfl⟩
      have hw := hw z1 ez1
      rw [← ez1] at hP hD
      refine lv_aload_n hx hb dX4_load_57 rfl (lv_at hl 0 rfl) ?_
      refine lv_iconst (v := (-1 : Int32)) hx hb dX4_load_58 (by decide) ?_
      refine va_put (D := D) (ci := 4) (v := .int (-1 : Int32)) (ty := .int) (C := RX4) (T := TX4) (N := 23) hx hb hts hinX4 tyX4 tyX4_ok nmX4 hown hK hP hD hS 0 rfl rfl 6 (by decide) hf22 (fun _ h9 => h9) rfl (by decide +kernel) rfl rfl (Nat.le_of_ble_eq_true rfl) dX4_load_59 (fun H locs hP hD hS => ?_)
      have hP : va_P D vwCl (ws_MD cs a (s_MD_crane z1 (-1 : Int32))) H := hP
      have hD : va_D A (ws_MD cs a (s_MD_crane z1 (-1 : Int32))) := hD
      obtain ⟨z2, ez2⟩ : ∃ z : MD, z = (s_MD_crane z1 (-1 : Int32)) := ⟨_, rfl⟩
      have hw := hw z2 ez2
      rw [← ez2] at hP hD
      refine lv_aload_n hx hb dX4_load_62 rfl (lv_at hl 0 rfl) ?_
      refine va_get (D := D) (ci := 4) (v := .ref (a 12)) (C := RX4) (T := TX4) (N := 23) hx hb hts hinX4 hown hK hP 0 rfl rfl 17 (by decide) hf48 (fun _ h9 => h9) rfl dX4_load_63 ?_
      refine lv_iload_n hx hb dX4_load_66 rfl (lv_at hl 1 rfl) ?_
      have hi67 := hw.1
      have hw := hw.2
      refine va_iald (f := (g_MD_prices z2)) (n := 20) hx hb hK hP 12 0 rfl rfl hi67 dX4_load_67 ?_
      exact rI (wf := (ws_MD cs a)) (u := z2) hx hb hr hlocks hK hP hD hS hw dX4_load_68
    · have hw := hw.1 c45
      refine lv_iconst (v := (0 : Int32)) hx hb dX4_load_48 (by decide) ?_
      exact rI (wf := (ws_MD cs a)) (u := u42) hx hb hr hlocks hK hP hD hS hw dX4_load_49
  have B37 : ∀ (x1 : Int32) (σ : MD), b_M_load_37 Φ x1 σ → At p l e (headSpec wsX4_load rm_M_load).room s m ([.ref (a 0)] : List Value).toArray below meth c (MQ below (va_Qi Φ (BG D cs A s.heap.size (ws_MD cs a)) A) ([.ref (a 0)] : List Value).toArray s 0 0 A) D A 2 [(0, .ref (a 0)), (1, .int x1)] (ws_MD cs a σ) 37 [.ref (a 0)] := by
    intro x1 σ hw H locs ls hl hP hD hS
    unfold b_M_load_37 at hw
    refine lv_iconst (v := (1 : Int32)) hx hb dX4_load_37 (by decide) ?_
    refine lv_goto (tgt := 42) hx hb dX4_load_38 (by decide) ?_
    exact B42 _ _ _ hw _ _ ls (lv_sub hl [0, 1] rfl) hP hD hS
  have B20 : ∀ (t0 : Int32) (σ : MD), b_M_load_20 Φ t0 σ → At p l e (headSpec wsX4_load rm_M_load).room s m ([.ref (a 0)] : List Value).toArray below meth c (MQ below (va_Qi Φ (BG D cs A s.heap.size (ws_MD cs a)) A) ([.ref (a 0)] : List Value).toArray s 0 0 A) D A 2 [(0, .ref (a 0))] (ws_MD cs a σ) 20 [.int t0] := by
    intro t0 σ hw H locs ls hl hP hD hS
    unfold b_M_load_20 at hw
    refine lv_istore_n (lv' := [(1, .int t0), (0, .ref (a 0))]) hx hb dX4_load_20 rfl hl (by decide) rfl (fun ls hl => ?_)
    refine lv_aload_n hx hb dX4_load_21 rfl (lv_at hl 1 rfl) ?_
    refine lv_iload_n hx hb dX4_load_22 rfl (lv_at hl 0 rfl) ?_
    refine lv_iconst (v := (-1 : Int32)) hx hb dX4_load_23 (by decide) ?_
    refine lv_icmp_eq (tgt := 37) hx hb dX4_load_24 (by decide) (fun c24 => ?_) (fun c24 => ?_)
    · have hw := hw.1 c24
      exact B37 _ _ hw _ _ ls (lv_sub hl [1, 0] rfl) hP hD hS
    · have hw := hw.2 c24
      refine lv_aload_n hx hb dX4_load_27 rfl (lv_at hl 1 rfl) ?_
      refine va_get (D := D) (ci := 4) (v := .ref (a 11)) (C := RX4) (T := TX4) (N := 23) hx hb hts hinX4 hown hK hP 0 rfl rfl 16 (by decide) hf45 (fun _ h9 => h9) rfl dX4_load_28 ?_
      refine lv_iload_n hx hb dX4_load_31 rfl (lv_at hl 0 rfl) ?_
      have hi32 := hw.1
      have hw := hw.2
      refine va_iald (f := (g_MD_states σ)) (n := 20) hx hb hK hP 11 0 rfl rfl hi32 dX4_load_32 ?_
      refine lv_iconst (v := (1 : Int32)) hx hb dX4_load_33 (by decide) ?_
      refine lv_icmp_eq (tgt := 41) hx hb dX4_load_34 (by decide) (fun c34 => ?_) (fun c34 => ?_)
      · have hw := hw.1 c34
        refine lv_iconst (v := (0 : Int32)) hx hb dX4_load_41 (by decide) ?_
        exact B42 _ _ _ hw _ _ ls (lv_sub hl [1, 0] rfl) hP hD hS
      · have hw := hw.2 c34
        exact B37 _ _ hw _ _ ls (lv_sub hl [1, 0] rfl) hP hD hS
  have hl := lv_entry ([.ref (a 0)]) (n := 2) (Nat.le_of_ble_eq_true rfl)
  rw [lg_entry_eq]
  generalize (lg_sl ([.ref (a 0)]) ++ List.replicate (2 - (lg_sl ([.ref (a 0)])).length) Slot.unset).toArray = ls at hl ⊢
  have hl : lv_has ls 2 [(0, .ref (a 0))] := hl
  unfold w_M_load at hw
  refine lv_aload_n hx hb dX4_load_0 rfl (lv_at hl 0 rfl) ?_
  refine va_get (D := D) (ci := 4) (v := .int (g_MD_crane σ)) (C := RX4) (T := TX4) (N := 23) hx hb hts hinX4 hown hK hP 0 rfl rfl 6 (by decide) hf22 (fun _ h9 => h9) rfl dX4_load_1 ?_
  refine lv_iconst (v := (-1 : Int32)) hx hb dX4_load_4 (by decide) ?_
  refine lv_icmp_ne (tgt := 12) hx hb dX4_load_5 (by decide) (fun c5 => ?_) (fun c5 => ?_)
  · have hw := hw.2 c5
    refine lv_aload_n hx hb dX4_load_12 rfl (lv_at hl 0 rfl) ?_
    refine lv_aload_n hx hb dX4_load_13 rfl (lv_at hl 0 rfl) ?_
    refine va_get (D := D) (ci := 4) (v := .int (g_MD_crane σ)) (C := RX4) (T := TX4) (N := 23) hx hb hts hinX4 hown hK hP 0 rfl rfl 6 (by decide) hf22 (fun _ h9 => h9) rfl dX4_load_14 ?_
    refine kVi (As := [.int (g_MD_crane σ)]) (rest := []) ⟨hx, hb, hml, hown, hts⟩ (c_M_haulOf l D cs a _ σ (g_MD_crane σ) hw) (cwV 1 hts gX4_load_X4_haulOf rfl rfl rfl (by decide +kernel) ⟨Nat.le_of_ble_eq_true rfl, Nat.le_of_ble_eq_true rfl⟩) (pt_self_MD cs a σ) hK hP hD hS hA (ci := 4) rfl rfl rfl rfl hl.1 rfl (Nat.le_of_ble_eq_true rfl) dX4_load_17 ⟨Nat.zero_le _, Nat.zero_le _⟩ (fun r17 u17 H locs hw hP hD hS => ?_)
    have hP : va_P D vwCl (ws_MD cs a u17) H := hP
    have hD : va_D A (ws_MD cs a u17) := hD
    exact B20 _ _ hw H locs ls (lv_sub hl [0] rfl) hP hD hS
  · have hw := hw.1 c5
    refine lv_iconst (v := (-1 : Int32)) hx hb dX4_load_8 (by decide) ?_
    refine lv_goto (tgt := 20) hx hb dX4_load_9 (by decide) ?_
    exact B20 _ _ hw _ _ ls (lv_sub hl [0] rfl) hP hD hS
abbrev rm_M_state : Room := { frames := 2, cells := 0, slots := 0, locals := 43 }
set_option maxHeartbeats 4000000 in
set_option maxRecDepth 100000 in
theorem c_M_state (l : Launch) (D : va_G) (cs : CS) (a : Nat → Nat) (sz : Nat) (σ : MD) (p1 : Int32) {Φ : Int32 → MD → Prop} (hw : w_M_state σ p1 Φ) : Met l yX4_state wsX4_state rm_M_state (PcG [.ref (a 0), .int p1] D cs (ws_MD cs a σ) sz) (va_Qi Φ (BG D cs (va_A (ws_MD cs a σ) sz) sz (ws_MD cs a)) (va_A (ws_MD cs a σ) sz)) 0 0 (va_A (ws_MD cs a σ) sz) := by
  refine Met.ofW (cc := cX4_state) (maxL := 2) (ret := (some .int)) (by decide) rfl ?_
  intro p e s m args below meth c s₁ B hml hv
  obtain ⟨rfl, hsz, hP, hK, hD0⟩ := hv
  have hx := B.exec
  have hb := B.bytes
  have hr := B.returns
  have hts := atoms_spec (ws := wsX4_state) B.pre
  have hown : s.vm.findClass RX4 = some m.cls := findClass_of_methodNamed B.named
  have hlocks := B.notSynchronized
  subst hsz
  have hD := hD0.self (sz := s.heap.size)
  generalize hAe : va_A (ws_MD cs a σ) s.heap.size = A at hD ⊢
  have hA : ∀ q : Nat, s.heap.size ≤ q → A q := fun q h => by rw [← hAe]; exact Or.inr h
  have hS : va_S A s.heap s.heap [] := va_S.rf
  have hf45 : (Cond.fieldLink RX4 45 "CraneYardModel" "states" "[I").before ([.ref (a 0), .int p1] : List Value).toArray s = true := hts _ (List.mem_of_getElem? (i := 1) rfl)
  have hinX4 : ∀ w ∈ wsX40, w ∈ wsX4_state := fun _ h => List.mem_cons_of_mem _ (List.mem_append_right _ h)
  have hP : va_P D vwCl (ws_MD cs a σ) s.heap := hP
  have B30 : ∀ (t0 : Int32) (σ : MD), b_M_state_30 Φ t0 σ → At p l e (headSpec wsX4_state rm_M_state).room s m ([.ref (a 0), .int p1] : List Value).toArray below meth c (MQ below (va_Qi Φ (BG D cs A s.heap.size (ws_MD cs a)) A) ([.ref (a 0), .int p1] : List Value).toArray s 0 0 A) D A 2 [] (ws_MD cs a σ) 30 [.int t0] := by
    intro t0 σ hw H locs ls hl hP hD hS
    unfold b_M_state_30 at hw
    exact rI (wf := (ws_MD cs a)) (u := σ) hx hb hr hlocks hK hP hD hS hw dX4_state_30
  have B14 : ∀ (x1 : Int32) (t1 : Int32) (σ : MD), b_M_state_14 Φ x1 t1 σ → At p l e (headSpec wsX4_state rm_M_state).room s m ([.ref (a 0), .int p1] : List Value).toArray below meth c (MQ below (va_Qi Φ (BG D cs A s.heap.size (ws_MD cs a)) A) ([.ref (a 0), .int p1] : List Value).toArray s 0 0 A) D A 2 [(0, .ref (a 0)), (1, .int x1)] (ws_MD cs a σ) 14 [.int t1, .ref (a 0)] := by
    intro x1 t1 σ hw H locs ls hl hP hD hS
    unfold b_M_state_14 at hw
    refine kVi (As := [.int t1]) (rest := []) ⟨hx, hb, hml, hown, hts⟩ (c_M_goesWell l D cs a _ σ t1 hw) (cwV 1 hts gX4_state_X4_goesWell rfl rfl rfl (by decide +kernel) ⟨Nat.le_of_ble_eq_true rfl, Nat.le_of_ble_eq_true rfl⟩) (pt_self_MD cs a σ) hK hP hD hS hA (ci := 4) rfl rfl rfl rfl hl.1 rfl (Nat.le_of_ble_eq_true rfl) dX4_state_14 ⟨Nat.zero_le _, Nat.zero_le _⟩ (fun r14 u14 H locs hw hP hD hS => ?_)
    have hP : va_P D vwCl (ws_MD cs a u14) H := hP
    have hD : va_D A (ws_MD cs a u14) := hD
    refine lv_if_eq (tgt := 29) hx hb dX4_state_17 (by decide) (fun c17 => ?_) (fun c17 => ?_)
    · have hw := hw.1 c17
      refine lv_iconst (v := (0 : Int32)) hx hb dX4_state_29 (by decide) ?_
      exact B30 _ _ hw _ _ ls (lv_sub hl [] rfl) hP hD hS
    · have hw := hw.2 c17
      refine lv_aload_n hx hb dX4_state_20 rfl (lv_at hl 0 rfl) ?_
      refine va_get (D := D) (ci := 4) (v := .ref (a 11)) (C := RX4) (T := TX4) (N := 23) hx hb hts hinX4 hown hK hP 0 rfl rfl 16 (by decide) hf45 (fun _ h9 => h9) rfl dX4_state_21 ?_
      refine lv_iload_n hx hb dX4_state_24 rfl (lv_at hl 1 rfl) ?_
      have hi25 := hw.1
      have hw := hw.2
      refine va_iald (f := (g_MD_states u14)) (n := 20) hx hb hK hP 11 0 rfl rfl hi25 dX4_state_25 ?_
      refine lv_goto (tgt := 30) hx hb dX4_state_26 (by decide) ?_
      exact B30 _ _ hw _ _ ls (lv_sub hl [] rfl) hP hD hS
  have hl := lv_entry ([.ref (a 0), .int p1]) (n := 2) (Nat.le_of_ble_eq_true rfl)
  rw [lg_entry_eq]
  generalize (lg_sl ([.ref (a 0), .int p1]) ++ List.replicate (2 - (lg_sl ([.ref (a 0), .int p1])).length) Slot.unset).toArray = ls at hl ⊢
  have hl : lv_has ls 2 [(0, .ref (a 0)), (1, .int p1)] := hl
  unfold w_M_state at hw
  refine lv_aload_n hx hb dX4_state_0 rfl (lv_at hl 0 rfl) ?_
  refine lv_aload_n hx hb dX4_state_1 rfl (lv_at hl 0 rfl) ?_
  refine lv_iload_n hx hb dX4_state_2 rfl (lv_at hl 1 rfl) ?_
  refine kVi (As := [.int p1]) (rest := [.ref (a 0)]) ⟨hx, hb, hml, hown, hts⟩ (c_M_isHaul l D cs a _ σ p1 hw) (cwV 1 hts gX4_state_X4_isHaul rfl rfl rfl (by decide +kernel) ⟨Nat.le_of_ble_eq_true rfl, Nat.le_of_ble_eq_true rfl⟩) (pt_self_MD cs a σ) hK hP hD hS hA (ci := 4) rfl rfl rfl rfl hl.1 rfl (Nat.le_of_ble_eq_true rfl) dX4_state_3 ⟨Nat.zero_le _, Nat.zero_le _⟩ (fun r3 u3 H locs hw hP hD hS => ?_)
  have hP : va_P D vwCl (ws_MD cs a u3) H := hP
  have hD : va_D A (ws_MD cs a u3) := hD
  refine lv_if_eq (tgt := 13) hx hb dX4_state_6 (by decide) (fun c6 => ?_) (fun c6 => ?_)
  · have hw := hw.1 c6
    refine lv_iconst (v := (1 : Int32)) hx hb dX4_state_13 (by decide) ?_
    exact B14 _ _ _ hw _ _ ls (lv_sub hl [0, 1] rfl) hP hD hS
  · have hw := hw.2 c6
    refine lv_iconst (v := (0 : Int32)) hx hb dX4_state_9 (by decide) ?_
    refine lv_goto (tgt := 14) hx hb dX4_state_10 (by decide) ?_
    exact B14 _ _ _ hw _ _ ls (lv_sub hl [0, 1] rfl) hP hD hS
abbrev rm_M_storm : Room := { frames := 0, cells := 0, slots := 0, locals := 0 }
set_option maxHeartbeats 4000000 in
set_option maxRecDepth 100000 in
theorem c_M_storm (l : Launch) (D : va_G) (cs : CS) (a : Nat → Nat) (sz : Nat) (σ : MD) {Φ : Int32 → MD → Prop} (hw : w_M_storm σ Φ) : Met l yX4_storm wsX4_storm rm_M_storm (PcG [.ref (a 0)] D cs (ws_MD cs a σ) sz) (va_Qi Φ (BG D cs (va_A (ws_MD cs a σ) sz) sz (ws_MD cs a)) (va_A (ws_MD cs a σ) sz)) 0 0 (va_A (ws_MD cs a σ) sz) := by
  refine Met.ofW (cc := cX4_storm) (maxL := 3) (ret := (some .int)) (by decide) rfl ?_
  intro p e s m args below meth c s₁ B hml hv
  obtain ⟨rfl, hsz, hP, hK, hD0⟩ := hv
  have hx := B.exec
  have hb := B.bytes
  have hr := B.returns
  have hts := atoms_spec (ws := wsX4_storm) B.pre
  have hown : s.vm.findClass RX4 = some m.cls := findClass_of_methodNamed B.named
  have hlocks := B.notSynchronized
  subst hsz
  have hD := hD0.self (sz := s.heap.size)
  generalize hAe : va_A (ws_MD cs a σ) s.heap.size = A at hD ⊢
  have hA : ∀ q : Nat, s.heap.size ≤ q → A q := fun q h => by rw [← hAe]; exact Or.inr h
  have hS : va_S A s.heap s.heap [] := va_S.rf
  have hf13 : (Cond.fieldLink RX4 13 "CraneYardModel" "heights" "[I").before ([.ref (a 0)] : List Value).toArray s = true := hts _ (List.mem_of_getElem? (i := 3) rfl)
  have hf54 : (Cond.fieldLink RX4 54 "CraneYardModel" "thrown" "I").before ([.ref (a 0)] : List Value).toArray s = true := hts _ (List.mem_of_getElem? (i := 1) rfl)
  have hf67 : (Cond.fieldLink RX4 67 "CraneYardModel" "isStorm" "Z").before ([.ref (a 0)] : List Value).toArray s = true := hts _ (List.mem_of_getElem? (i := 2) rfl)
  have hinX4 : ∀ w ∈ wsX40, w ∈ wsX4_storm := fun _ h => List.mem_cons_of_mem _ (List.mem_append_right _ h)
  have hP : va_P D vwCl (ws_MD cs a σ) s.heap := hP
  have B43 : ∀ (K14 : (Int32 → Int32 → MD → Prop)) (hK14 : ∀ (x1 : Int32) (x2 : Int32) (σ : MD), K14 x1 x2 σ → At p l e (headSpec wsX4_storm rm_M_storm).room s m ([.ref (a 0)] : List Value).toArray below meth c (MQ below (va_Qi Φ (BG D cs A s.heap.size (ws_MD cs a)) A) ([.ref (a 0)] : List Value).toArray s 0 0 A) D A 3 [(0, .ref (a 0)), (1, .int x1), (2, .int x2)] (ws_MD cs a σ) 14 []) (x2 : Int32) (t0 : Int32) (t1 : Int32) (σ : MD), b_M_storm_43 K14 Φ x2 t0 t1 σ → At p l e (headSpec wsX4_storm rm_M_storm).room s m ([.ref (a 0)] : List Value).toArray below meth c (MQ below (va_Qi Φ (BG D cs A s.heap.size (ws_MD cs a)) A) ([.ref (a 0)] : List Value).toArray s 0 0 A) D A 3 [(0, .ref (a 0)), (2, .int x2)] (ws_MD cs a σ) 43 [.int t1, .int t0] := by
    intro K14 hK14 x2 t0 t1 σ hw H locs ls hl hP hD hS
    unfold b_M_storm_43 at hw
    refine lv_iadd hx hb dX4_storm_43 ?_
    refine lv_istore_n (lv' := [(1, .int (t0 + t1)), (0, .ref (a 0)), (2, .int x2)]) hx hb dX4_storm_44 rfl hl (by decide) rfl (fun ls hl => ?_)
    refine lv_iinc (v := (x2 + (1 : Int32))) (lv' := [(2, .int (x2 + (1 : Int32))), (1, .int (t0 + t1)), (0, .ref (a 0))]) hx hb dX4_storm_45 hl (k := 2) rfl rfl (by decide) rfl (fun ls hl => ?_)
    refine lv_goto (tgt := 14) hx hb dX4_storm_48 (by decide) ?_
    exact hK14 _ _ _ hw _ _ ls (lv_sub hl [2, 1, 0] rfl) hP hD hS
  have B14 : ∀ (n : Nat) (x1 : Int32) (x2 : Int32) (σ : MD), it3 (b_M_storm_14 Φ) n x1 x2 σ → At p l e (headSpec wsX4_storm rm_M_storm).room s m ([.ref (a 0)] : List Value).toArray below meth c (MQ below (va_Qi Φ (BG D cs A s.heap.size (ws_MD cs a)) A) ([.ref (a 0)] : List Value).toArray s 0 0 A) D A 3 [(0, .ref (a 0)), (1, .int x1), (2, .int x2)] (ws_MD cs a σ) 14 [] := by
    intro n
    induction n with
    | zero => intro x1 x2 σ hw; exact absurd hw id
    | succ n ih =>
      intro x1 x2 σ hw H locs ls hl hP hD hS
      have hw : b_M_storm_14 Φ (it3 (b_M_storm_14 Φ) n) x1 x2 σ := hw
      unfold b_M_storm_14 at hw
      refine lv_iload_n hx hb dX4_storm_14 rfl (lv_at hl 2 rfl) ?_
      refine lv_bipush (v := (6 : Int32)) hx hb dX4_storm_15 (by decide) ?_
      refine lv_icmp_ge (tgt := 51) hx hb dX4_storm_17 (by decide) (fun c17 => ?_) (fun c17 => ?_)
      · have hw := hw.1 c17
        refine lv_iload_n hx hb dX4_storm_51 rfl (lv_at hl 1 rfl) ?_
        exact rI (wf := (ws_MD cs a)) (u := σ) hx hb hr hlocks hK hP hD hS hw dX4_storm_52
      · have hw := hw.2 c17
        refine lv_iload_n hx hb dX4_storm_20 rfl (lv_at hl 1 rfl) ?_
        refine lv_aload_n hx hb dX4_storm_21 rfl (lv_at hl 0 rfl) ?_
        refine va_get (D := D) (ci := 4) (v := .ref (a 2)) (C := RX4) (T := TX4) (N := 23) hx hb hts hinX4 hown hK hP 0 rfl rfl 2 (by decide) hf13 (fun _ h9 => h9) rfl dX4_storm_22 ?_
        refine lv_iload_n hx hb dX4_storm_25 rfl (lv_at hl 2 rfl) ?_
        have hi26 := hw.1
        have hw := hw.2
        refine va_iald (f := (g_MD_heights σ)) (n := 6) hx hb hK hP 2 0 rfl rfl hi26 dX4_storm_26 ?_
        refine lv_iconst (v := (3 : Int32)) hx hb dX4_storm_27 (by decide) ?_
        refine lv_icmp_le (tgt := 42) hx hb dX4_storm_28 (by decide) (fun c28 => ?_) (fun c28 => ?_)
        · have hw := hw.1 c28
          refine lv_iconst (v := (0 : Int32)) hx hb dX4_storm_42 (by decide) ?_
          exact B43 _ ih _ _ _ _ hw _ _ ls (lv_sub hl [0, 2] rfl) hP hD hS
        · have hw := hw.2 c28
          refine lv_aload_n hx hb dX4_storm_31 rfl (lv_at hl 0 rfl) ?_
          refine va_get (D := D) (ci := 4) (v := .ref (a 2)) (C := RX4) (T := TX4) (N := 23) hx hb hts hinX4 hown hK hP 0 rfl rfl 2 (by decide) hf13 (fun _ h9 => h9) rfl dX4_storm_32 ?_
          refine lv_iload_n hx hb dX4_storm_35 rfl (lv_at hl 2 rfl) ?_
          have hi36 := hw.1
          have hw := hw.2
          refine va_iald (f := (g_MD_heights σ)) (n := 6) hx hb hK hP 2 0 rfl rfl hi36 dX4_storm_36 ?_
          refine lv_iconst (v := (3 : Int32)) hx hb dX4_storm_37 (by decide) ?_
          refine lv_isub hx hb dX4_storm_38 ?_
          refine lv_goto (tgt := 43) hx hb dX4_storm_39 (by decide) ?_
          exact B43 _ ih _ _ _ _ hw _ _ ls (lv_sub hl [0, 2] rfl) hP hD hS
  have hl := lv_entry ([.ref (a 0)]) (n := 3) (Nat.le_of_ble_eq_true rfl)
  rw [lg_entry_eq]
  generalize (lg_sl ([.ref (a 0)]) ++ List.replicate (3 - (lg_sl ([.ref (a 0)])).length) Slot.unset).toArray = ls at hl ⊢
  have hl : lv_has ls 3 [(0, .ref (a 0))] := hl
  unfold w_M_storm at hw
  refine lv_aload_n hx hb dX4_storm_0 rfl (lv_at hl 0 rfl) ?_
  refine lv_iconst (v := (0 : Int32)) hx hb dX4_storm_1 (by decide) ?_
  refine va_put (D := D) (ci := 4) (v := .int (0 : Int32)) (ty := .int) (C := RX4) (T := TX4) (N := 23) hx hb hts hinX4 tyX4 tyX4_ok nmX4 hown hK hP hD hS 0 rfl rfl 0 (by decide) hf54 (fun _ h9 => h9) rfl (by decide +kernel) rfl rfl (Nat.le_of_ble_eq_true rfl) dX4_storm_2 (fun H locs hP hD hS => ?_)
  have hP : va_P D vwCl (ws_MD cs a (s_MD_thrown σ (0 : Int32))) H := hP
  have hD : va_D A (ws_MD cs a (s_MD_thrown σ (0 : Int32))) := hD
  obtain ⟨z1, ez1⟩ : ∃ z : MD, z = (s_MD_thrown σ (0 : Int32)) := ⟨_, rfl⟩
  have hw := hw z1 ez1
  rw [← ez1] at hP hD
  refine lv_aload_n hx hb dX4_storm_5 rfl (lv_at hl 0 rfl) ?_
  refine lv_iconst (v := (1 : Int32)) hx hb dX4_storm_6 (by decide) ?_
  refine va_put (D := D) (ci := 4) (v := .int (1 : Int32)) (ty := .boolean) (C := RX4) (T := TX4) (N := 23) hx hb hts hinX4 tyX4 tyX4_ok nmX4 hown hK hP hD hS 0 rfl rfl 21 (by decide) hf67 (fun _ h9 => h9) rfl (by decide +kernel) rfl rfl (Nat.le_of_ble_eq_true rfl) dX4_storm_7 (fun H locs hP hD hS => ?_)
  have hP : va_P D vwCl (ws_MD cs a (s_MD_isStorm z1 (1 : Int32))) H := hP
  have hD : va_D A (ws_MD cs a (s_MD_isStorm z1 (1 : Int32))) := hD
  obtain ⟨z2, ez2⟩ : ∃ z : MD, z = (s_MD_isStorm z1 (1 : Int32)) := ⟨_, rfl⟩
  have hw := hw z2 ez2
  rw [← ez2] at hP hD
  refine lv_iconst (v := (0 : Int32)) hx hb dX4_storm_10 (by decide) ?_
  refine lv_istore_n (lv' := [(1, .int (0 : Int32)), (0, .ref (a 0))]) hx hb dX4_storm_11 rfl hl (by decide) rfl (fun ls hl => ?_)
  refine lv_iconst (v := (0 : Int32)) hx hb dX4_storm_12 (by decide) ?_
  refine lv_istore_n (lv' := [(2, .int (0 : Int32)), (1, .int (0 : Int32)), (0, .ref (a 0))]) hx hb dX4_storm_13 rfl hl (by decide) rfl (fun ls hl => ?_)
  obtain ⟨n, hw⟩ := hw
  exact B14 n _ _ _ hw H locs ls (lv_sub hl [2, 1, 0] rfl) hP hD hS
abbrev rm_M_endDay : Room := { frames := 0, cells := 0, slots := 0, locals := 0 }
set_option maxHeartbeats 4000000 in
set_option maxRecDepth 100000 in
theorem c_M_endDay (l : Launch) (D : va_G) (cs : CS) (a : Nat → Nat) (sz : Nat) (σ : MD) {Φ : Int32 → MD → Prop} (hw : w_M_endDay σ Φ) : Met l yX4_endDay wsX4_endDay rm_M_endDay (PcG [.ref (a 0)] D cs (ws_MD cs a σ) sz) (va_Qi Φ (BG D cs (va_A (ws_MD cs a σ) sz) sz (ws_MD cs a)) (va_A (ws_MD cs a σ) sz)) 0 0 (va_A (ws_MD cs a σ) sz) := by
  refine Met.ofW (cc := cX4_endDay) (maxL := 3) (ret := (some .int)) (by decide) rfl ?_
  intro p e s m args below meth c s₁ B hml hv
  obtain ⟨rfl, hsz, hP, hK, hD0⟩ := hv
  have hx := B.exec
  have hb := B.bytes
  have hr := B.returns
  have hts := atoms_spec (ws := wsX4_endDay) B.pre
  have hown : s.vm.findClass RX4 = some m.cls := findClass_of_methodNamed B.named
  have hlocks := B.notSynchronized
  subst hsz
  have hD := hD0.self (sz := s.heap.size)
  generalize hAe : va_A (ws_MD cs a σ) s.heap.size = A at hD ⊢
  have hA : ∀ q : Nat, s.heap.size ≤ q → A q := fun q h => by rw [← hAe]; exact Or.inr h
  have hS : va_S A s.heap s.heap [] := va_S.rf
  have hf13 : (Cond.fieldLink RX4 13 "CraneYardModel" "heights" "[I").before ([.ref (a 0)] : List Value).toArray s = true := hts _ (List.mem_of_getElem? (i := 1) rfl)
  have hf148 : (Cond.fieldLink RX4 148 "CraneYardModel" "today" "I").before ([.ref (a 0)] : List Value).toArray s = true := hts _ (List.mem_of_getElem? (i := 5) rfl)
  have hf157 : (Cond.fieldLink RX4 157 "CraneYardModel" "fees" "I").before ([.ref (a 0)] : List Value).toArray s = true := hts _ (List.mem_of_getElem? (i := 6) rfl)
  have hf42 : (Cond.fieldLink RX4 42 "CraneYardModel" "lastDays" "[I").before ([.ref (a 0)] : List Value).toArray s = true := hts _ (List.mem_of_getElem? (i := 4) rfl)
  have hf45 : (Cond.fieldLink RX4 45 "CraneYardModel" "states" "[I").before ([.ref (a 0)] : List Value).toArray s = true := hts _ (List.mem_of_getElem? (i := 3) rfl)
  have hf64 : (Cond.fieldLink RX4 64 "CraneYardModel" "hauls" "I").before ([.ref (a 0)] : List Value).toArray s = true := hts _ (List.mem_of_getElem? (i := 2) rfl)
  have hf67 : (Cond.fieldLink RX4 67 "CraneYardModel" "isStorm" "Z").before ([.ref (a 0)] : List Value).toArray s = true := hts _ (List.mem_of_getElem? (i := 7) rfl)
  have hinX4 : ∀ w ∈ wsX40, w ∈ wsX4_endDay := fun _ h => List.mem_cons_of_mem _ (List.mem_append_right _ h)
  have hP : va_P D vwCl (ws_MD cs a σ) s.heap := hP
  have B76 : ∀ (K38 : (Int32 → Int32 → MD → Prop)) (hK38 : ∀ (x1 : Int32) (x2 : Int32) (σ : MD), K38 x1 x2 σ → At p l e (headSpec wsX4_endDay rm_M_endDay).room s m ([.ref (a 0)] : List Value).toArray below meth c (MQ below (va_Qi Φ (BG D cs A s.heap.size (ws_MD cs a)) A) ([.ref (a 0)] : List Value).toArray s 0 0 A) D A 3 [(0, .ref (a 0)), (1, .int x1), (2, .int x2)] (ws_MD cs a σ) 38 []) (x1 : Int32) (x2 : Int32) (σ : MD), b_M_endDay_76 K38 Φ x1 x2 σ → At p l e (headSpec wsX4_endDay rm_M_endDay).room s m ([.ref (a 0)] : List Value).toArray below meth c (MQ below (va_Qi Φ (BG D cs A s.heap.size (ws_MD cs a)) A) ([.ref (a 0)] : List Value).toArray s 0 0 A) D A 3 [(0, .ref (a 0)), (1, .int x1), (2, .int x2)] (ws_MD cs a σ) 76 [] := by
    intro K38 hK38 x1 x2 σ hw H locs ls hl hP hD hS
    unfold b_M_endDay_76 at hw
    refine lv_iinc (v := (x2 + (1 : Int32))) (lv' := [(2, .int (x2 + (1 : Int32))), (0, .ref (a 0)), (1, .int x1)]) hx hb dX4_endDay_76 hl (k := 2) rfl rfl (by decide) rfl (fun ls hl => ?_)
    refine lv_goto (tgt := 38) hx hb dX4_endDay_79 (by decide) ?_
    exact hK38 _ _ _ hw _ _ ls (lv_sub hl [1, 2, 0] rfl) hP hD hS
  have B38 : ∀ (n : Nat) (x1 : Int32) (x2 : Int32) (σ : MD), it3 (b_M_endDay_38 Φ) n x1 x2 σ → At p l e (headSpec wsX4_endDay rm_M_endDay).room s m ([.ref (a 0)] : List Value).toArray below meth c (MQ below (va_Qi Φ (BG D cs A s.heap.size (ws_MD cs a)) A) ([.ref (a 0)] : List Value).toArray s 0 0 A) D A 3 [(0, .ref (a 0)), (1, .int x1), (2, .int x2)] (ws_MD cs a σ) 38 [] := by
    intro n
    induction n with
    | zero => intro x1 x2 σ hw; exact absurd hw id
    | succ n ih =>
      intro x1 x2 σ hw H locs ls hl hP hD hS
      have hw : b_M_endDay_38 Φ (it3 (b_M_endDay_38 Φ) n) x1 x2 σ := hw
      unfold b_M_endDay_38 at hw
      refine lv_iload_n hx hb dX4_endDay_38 rfl (lv_at hl 2 rfl) ?_
      refine lv_aload_n hx hb dX4_endDay_39 rfl (lv_at hl 0 rfl) ?_
      refine va_get (D := D) (ci := 4) (v := .int (g_MD_hauls σ)) (C := RX4) (T := TX4) (N := 23) hx hb hts hinX4 hown hK hP 0 rfl rfl 19 (by decide) hf64 (fun _ h9 => h9) rfl dX4_endDay_40 ?_
      refine lv_icmp_ge (tgt := 82) hx hb dX4_endDay_43 (by decide) (fun c43 => ?_) (fun c43 => ?_)
      · have hw := hw.1 c43
        refine lv_aload_n hx hb dX4_endDay_82 rfl (lv_at hl 0 rfl) ?_
        refine lv_dup hx hb dX4_endDay_83 rfl ?_
        refine va_get (D := D) (ci := 4) (v := .int (g_MD_fees σ)) (C := RX4) (T := TX4) (N := 23) hx hb hts hinX4 hown hK hP 0 rfl rfl 22 (by decide) hf157 (fun _ h9 => h9) rfl dX4_endDay_84 ?_
        refine lv_iload_n hx hb dX4_endDay_87 rfl (lv_at hl 1 rfl) ?_
        refine lv_iadd hx hb dX4_endDay_88 ?_
        refine va_put (D := D) (ci := 4) (v := .int ((g_MD_fees σ) + x1)) (ty := .int) (C := RX4) (T := TX4) (N := 23) hx hb hts hinX4 tyX4 tyX4_ok nmX4 hown hK hP hD hS 0 rfl rfl 22 (by decide) hf157 (fun _ h9 => h9) rfl (by decide +kernel) rfl rfl (Nat.le_of_ble_eq_true rfl) dX4_endDay_89 (fun H locs hP hD hS => ?_)
        have hP : va_P D vwCl (ws_MD cs a (s_MD_fees σ ((g_MD_fees σ) + x1))) H := hP
        have hD : va_D A (ws_MD cs a (s_MD_fees σ ((g_MD_fees σ) + x1))) := hD
        obtain ⟨z1, ez1⟩ : ∃ z : MD, z = (s_MD_fees σ ((g_MD_fees σ) + x1)) := ⟨_, rfl⟩
        have hw := hw z1 ez1
        rw [← ez1] at hP hD
        refine lv_aload_n hx hb dX4_endDay_92 rfl (lv_at hl 0 rfl) ?_
        refine lv_dup hx hb dX4_endDay_93 rfl ?_
        refine va_get (D := D) (ci := 4) (v := .int (g_MD_today z1)) (C := RX4) (T := TX4) (N := 23) hx hb hts hinX4 hown hK hP 0 rfl rfl 20 (by decide) hf148 (fun _ h9 => h9) rfl dX4_endDay_94 ?_
        refine lv_iconst (v := (1 : Int32)) hx hb dX4_endDay_97 (by decide) ?_
        refine lv_iadd hx hb dX4_endDay_98 ?_
        refine lv_topi (fun y2 ey2 => ?_)
        have hw := hw y2 ey2
        refine va_put (D := D) (ci := 4) (v := .int y2) (ty := .int) (C := RX4) (T := TX4) (N := 23) hx hb hts hinX4 tyX4 tyX4_ok nmX4 hown hK hP hD hS 0 rfl rfl 20 (by decide) hf148 (fun _ h9 => h9) rfl (by decide +kernel) rfl rfl (Nat.le_of_ble_eq_true rfl) dX4_endDay_99 (fun H locs hP hD hS => ?_)
        have hP : va_P D vwCl (ws_MD cs a (s_MD_today z1 y2)) H := hP
        have hD : va_D A (ws_MD cs a (s_MD_today z1 y2)) := hD
        obtain ⟨z3, ez3⟩ : ∃ z : MD, z = (s_MD_today z1 y2) := ⟨_, rfl⟩
        have hw := hw z3 ez3
        rw [← ez3] at hP hD
        refine lv_aload_n hx hb dX4_endDay_102 rfl (lv_at hl 0 rfl) ?_
        refine lv_iconst (v := (0 : Int32)) hx hb dX4_endDay_103 (by decide) ?_
        refine va_put (D := D) (ci := 4) (v := .int (0 : Int32)) (ty := .boolean) (C := RX4) (T := TX4) (N := 23) hx hb hts hinX4 tyX4 tyX4_ok nmX4 hown hK hP hD hS 0 rfl rfl 21 (by decide) hf67 (fun _ h9 => h9) rfl (by decide +kernel) rfl rfl (Nat.le_of_ble_eq_true rfl) dX4_endDay_104 (fun H locs hP hD hS => ?_)
        have hP : va_P D vwCl (ws_MD cs a (s_MD_isStorm z3 (0 : Int32))) H := hP
        have hD : va_D A (ws_MD cs a (s_MD_isStorm z3 (0 : Int32))) := hD
        obtain ⟨z4, ez4⟩ : ∃ z : MD, z = (s_MD_isStorm z3 (0 : Int32)) := ⟨_, rfl⟩
        have hw := hw z4 ez4
        rw [← ez4] at hP hD
        refine lv_iload_n hx hb dX4_endDay_107 rfl (lv_at hl 1 rfl) ?_
        exact rI (wf := (ws_MD cs a)) (u := z4) hx hb hr hlocks hK hP hD hS hw dX4_endDay_108
      · have hw := hw.2 c43
        refine lv_aload_n hx hb dX4_endDay_46 rfl (lv_at hl 0 rfl) ?_
        refine va_get (D := D) (ci := 4) (v := .ref (a 11)) (C := RX4) (T := TX4) (N := 23) hx hb hts hinX4 hown hK hP 0 rfl rfl 16 (by decide) hf45 (fun _ h9 => h9) rfl dX4_endDay_47 ?_
        refine lv_iload_n hx hb dX4_endDay_50 rfl (lv_at hl 2 rfl) ?_
        have hi51 := hw.1
        have hw := hw.2
        refine va_iald (f := (g_MD_states σ)) (n := 20) hx hb hK hP 11 0 rfl rfl hi51 dX4_endDay_51 ?_
        refine lv_iconst (v := (1 : Int32)) hx hb dX4_endDay_52 (by decide) ?_
        refine lv_icmp_gt (tgt := 76) hx hb dX4_endDay_53 (by decide) (fun c53 => ?_) (fun c53 => ?_)
        · have hw := hw.1 c53
          exact B76 _ ih _ _ _ hw _ _ ls (lv_sub hl [0, 1, 2] rfl) hP hD hS
        · have hw := hw.2 c53
          refine lv_aload_n hx hb dX4_endDay_56 rfl (lv_at hl 0 rfl) ?_
          refine va_get (D := D) (ci := 4) (v := .ref (a 10)) (C := RX4) (T := TX4) (N := 23) hx hb hts hinX4 hown hK hP 0 rfl rfl 15 (by decide) hf42 (fun _ h9 => h9) rfl dX4_endDay_57 ?_
          refine lv_iload_n hx hb dX4_endDay_60 rfl (lv_at hl 2 rfl) ?_
          have hi61 := hw.1
          have hw := hw.2
          refine va_iald (f := (g_MD_lastDays σ)) (n := 20) hx hb hK hP 10 0 rfl rfl hi61 dX4_endDay_61 ?_
          refine lv_aload_n hx hb dX4_endDay_62 rfl (lv_at hl 0 rfl) ?_
          refine va_get (D := D) (ci := 4) (v := .int (g_MD_today σ)) (C := RX4) (T := TX4) (N := 23) hx hb hts hinX4 hown hK hP 0 rfl rfl 20 (by decide) hf148 (fun _ h9 => h9) rfl dX4_endDay_63 ?_
          refine lv_icmp_ne (tgt := 76) hx hb dX4_endDay_66 (by decide) (fun c66 => ?_) (fun c66 => ?_)
          · have hw := hw.2 c66
            exact B76 _ ih _ _ _ hw _ _ ls (lv_sub hl [0, 1, 2] rfl) hP hD hS
          · have hw := hw.1 c66
            refine lv_aload_n hx hb dX4_endDay_69 rfl (lv_at hl 0 rfl) ?_
            refine va_get (D := D) (ci := 4) (v := .ref (a 11)) (C := RX4) (T := TX4) (N := 23) hx hb hts hinX4 hown hK hP 0 rfl rfl 16 (by decide) hf45 (fun _ h9 => h9) rfl dX4_endDay_70 ?_
            refine lv_iload_n hx hb dX4_endDay_73 rfl (lv_at hl 2 rfl) ?_
            refine lv_iconst (v := (3 : Int32)) hx hb dX4_endDay_74 (by decide) ?_
            have hi75 := hw.1
            have hw := hw.2
            refine va_iast (f := (g_MD_states σ)) (n := 20) (x := (3 : Int32)) hx hb hK hP hD hS 11 0 rfl rfl hi75 dX4_endDay_75 (fun H locs hP hD hS => ?_)
            have hP : va_P D vwCl (ws_MD cs a (s_MD_states σ (upd (g_MD_states σ) (x2).toNatClampNeg (3 : Int32)))) H := hP
            have hD : va_D A (ws_MD cs a (s_MD_states σ (upd (g_MD_states σ) (x2).toNatClampNeg (3 : Int32)))) := hD
            obtain ⟨z5, ez5⟩ : ∃ z : MD, z = (s_MD_states σ (upd (g_MD_states σ) (x2).toNatClampNeg (3 : Int32))) := ⟨_, rfl⟩
            have hw := hw z5 ez5
            rw [← ez5] at hP hD
            exact B76 _ ih _ _ _ hw H locs ls (lv_sub hl [0, 1, 2] rfl) hP hD hS
  have B4 : ∀ (n : Nat) (x1 : Int32) (x2 : Int32) (σ : MD), it3 (b_M_endDay_4 Φ) n x1 x2 σ → At p l e (headSpec wsX4_endDay rm_M_endDay).room s m ([.ref (a 0)] : List Value).toArray below meth c (MQ below (va_Qi Φ (BG D cs A s.heap.size (ws_MD cs a)) A) ([.ref (a 0)] : List Value).toArray s 0 0 A) D A 3 [(0, .ref (a 0)), (1, .int x1), (2, .int x2)] (ws_MD cs a σ) 4 [] := by
    intro n
    induction n with
    | zero => intro x1 x2 σ hw; exact absurd hw id
    | succ n ih =>
      intro x1 x2 σ hw H locs ls hl hP hD hS
      have hw : b_M_endDay_4 Φ (it3 (b_M_endDay_4 Φ) n) x1 x2 σ := hw
      unfold b_M_endDay_4 at hw
      refine lv_iload_n hx hb dX4_endDay_4 rfl (lv_at hl 2 rfl) ?_
      refine lv_bipush (v := (6 : Int32)) hx hb dX4_endDay_5 (by decide) ?_
      refine lv_icmp_ge (tgt := 36) hx hb dX4_endDay_7 (by decide) (fun c7 => ?_) (fun c7 => ?_)
      · have hw := hw.1 c7
        refine lv_iconst (v := (0 : Int32)) hx hb dX4_endDay_36 (by decide) ?_
        refine lv_istore_n (lv' := [(2, .int (0 : Int32)), (0, .ref (a 0)), (1, .int x1)]) hx hb dX4_endDay_37 rfl hl (by decide) rfl (fun ls hl => ?_)
        obtain ⟨n, hw⟩ := hw
        exact B38 n _ _ _ hw _ _ ls (lv_sub hl [1, 2, 0] rfl) hP hD hS
      · have hw := hw.2 c7
        refine lv_iload_n hx hb dX4_endDay_10 rfl (lv_at hl 1 rfl) ?_
        refine lv_aload_n hx hb dX4_endDay_11 rfl (lv_at hl 0 rfl) ?_
        refine va_get (D := D) (ci := 4) (v := .ref (a 2)) (C := RX4) (T := TX4) (N := 23) hx hb hts hinX4 hown hK hP 0 rfl rfl 2 (by decide) hf13 (fun _ h9 => h9) rfl dX4_endDay_12 ?_
        refine lv_iload_n hx hb dX4_endDay_15 rfl (lv_at hl 2 rfl) ?_
        have hi16 := hw.1
        have hw := hw.2
        refine va_iald (f := (g_MD_heights σ)) (n := 6) hx hb hK hP 2 0 rfl rfl hi16 dX4_endDay_16 ?_
        refine lv_aload_n hx hb dX4_endDay_17 rfl (lv_at hl 0 rfl) ?_
        refine va_get (D := D) (ci := 4) (v := .ref (a 2)) (C := RX4) (T := TX4) (N := 23) hx hb hts hinX4 hown hK hP 0 rfl rfl 2 (by decide) hf13 (fun _ h9 => h9) rfl dX4_endDay_18 ?_
        refine lv_iload_n hx hb dX4_endDay_21 rfl (lv_at hl 2 rfl) ?_
        have hi22 := hw.1
        have hw := hw.2
        refine va_iald (f := (g_MD_heights σ)) (n := 6) hx hb hK hP 2 0 rfl rfl hi22 dX4_endDay_22 ?_
        refine lv_iconst (v := (1 : Int32)) hx hb dX4_endDay_23 (by decide) ?_
        refine lv_isub hx hb dX4_endDay_24 ?_
        refine lv_imul hx hb dX4_endDay_25 ?_
        refine lv_iconst (v := (2 : Int32)) hx hb dX4_endDay_26 (by decide) ?_
        refine lv_idiv hx hb dX4_endDay_27 (by decide) ?_
        refine lv_iadd hx hb dX4_endDay_28 ?_
        refine lv_topi (fun y1 ey1 => ?_)
        have hw := hw y1 ey1
        refine lv_istore_n (lv' := [(1, .int y1), (0, .ref (a 0)), (2, .int x2)]) hx hb dX4_endDay_29 rfl hl (by decide) rfl (fun ls hl => ?_)
        refine lv_iinc (v := (x2 + (1 : Int32))) (lv' := [(2, .int (x2 + (1 : Int32))), (1, .int y1), (0, .ref (a 0))]) hx hb dX4_endDay_30 hl (k := 2) rfl rfl (by decide) rfl (fun ls hl => ?_)
        refine lv_goto (tgt := 4) hx hb dX4_endDay_33 (by decide) ?_
        exact ih _ _ _ hw _ _ ls (lv_sub hl [2, 1, 0] rfl) hP hD hS
  have hl := lv_entry ([.ref (a 0)]) (n := 3) (Nat.le_of_ble_eq_true rfl)
  rw [lg_entry_eq]
  generalize (lg_sl ([.ref (a 0)]) ++ List.replicate (3 - (lg_sl ([.ref (a 0)])).length) Slot.unset).toArray = ls at hl ⊢
  have hl : lv_has ls 3 [(0, .ref (a 0))] := hl
  unfold w_M_endDay at hw
  refine lv_iconst (v := (0 : Int32)) hx hb dX4_endDay_0 (by decide) ?_
  refine lv_istore_n (lv' := [(1, .int (0 : Int32)), (0, .ref (a 0))]) hx hb dX4_endDay_1 rfl hl (by decide) rfl (fun ls hl => ?_)
  refine lv_iconst (v := (0 : Int32)) hx hb dX4_endDay_2 (by decide) ?_
  refine lv_istore_n (lv' := [(2, .int (0 : Int32)), (1, .int (0 : Int32)), (0, .ref (a 0))]) hx hb dX4_endDay_3 rfl hl (by decide) rfl (fun ls hl => ?_)
  obtain ⟨n, hw⟩ := hw
  exact B4 n _ _ _ hw _ _ ls (lv_sub hl [2, 1, 0] rfl) hP hD hS
