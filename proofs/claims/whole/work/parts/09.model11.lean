abbrev rm_M_pass : Room := { frames := 1, cells := 0, slots := 0, locals := 22 }
set_option maxHeartbeats 4000000 in
set_option maxRecDepth 100000 in
theorem c_M_pass (l : Launch) (D : va_G) (cs : CS) (a : Nat → Nat) (sz : Nat) (σ : MD) (p1 : Int32) {Φ : Int32 → MD → Prop} (hw : w_M_pass σ p1 Φ) : Met l yX4_pass wsX4_pass rm_M_pass (PcG [.ref (a 0), .int p1] D cs (ws_MD cs a σ) sz) (va_Qi Φ (BG D cs (va_A (ws_MD cs a σ) sz) sz (ws_MD cs a)) (va_A (ws_MD cs a σ) sz)) 0 0 (va_A (ws_MD cs a σ) sz) := by
  refine Met.ofW (cc := cX4_pass) (maxL := 5) (ret := (some .int)) (by decide) rfl ?_
  intro p e s m args below meth c s₁ B hml hv
  obtain ⟨rfl, hsz, hP, hK, hD0⟩ := hv
  have hx := B.exec
  have hb := B.bytes
  have hr := B.returns
  have hts := atoms_spec (ws := wsX4_pass) B.pre
  have hown : s.vm.findClass RX4 = some m.cls := findClass_of_methodNamed B.named
  have hlocks := B.notSynchronized
  subst hsz
  have hD := hD0.self (sz := s.heap.size)
  generalize hAe : va_A (ws_MD cs a σ) s.heap.size = A at hD ⊢
  have hA : ∀ q : Nat, s.heap.size ≤ q → A q := fun q h => by rw [← hAe]; exact Or.inr h
  have hS : va_S A s.heap s.heap [] := va_S.rf
  have hf148 : (Cond.fieldLink RX4 148 "CraneYardModel" "today" "I").before ([.ref (a 0), .int p1] : List Value).toArray s = true := hts _ (List.mem_of_getElem? (i := 1) rfl)
  have hinX4 : ∀ w ∈ wsX40, w ∈ wsX4_pass := fun _ h => List.mem_cons_of_mem _ (List.mem_append_right _ h)
  have hP : va_P D vwCl (ws_MD cs a σ) s.heap := hP
  have B47 : ∀ (n : Nat) (x1 : Int32) (x3 : Int32) (x4 : Int32) (σ : MD), it4 (b_M_pass_47 Φ) n x1 x3 x4 σ → At p l e (headSpec wsX4_pass rm_M_pass).room s m ([.ref (a 0), .int p1] : List Value).toArray below meth c (MQ below (va_Qi Φ (BG D cs A s.heap.size (ws_MD cs a)) A) ([.ref (a 0), .int p1] : List Value).toArray s 0 0 A) D A 5 [(0, .ref (a 0)), (1, .int x1), (3, .int x3), (4, .int x4)] (ws_MD cs a σ) 47 [] := by
    intro n
    induction n with
    | zero => intro x1 x3 x4 σ hw; exact absurd hw id
    | succ n ih =>
      intro x1 x3 x4 σ hw H locs ls hl hP hD hS
      have hw : b_M_pass_47 Φ (it4 (b_M_pass_47 Φ) n) x1 x3 x4 σ := hw
      unfold b_M_pass_47 at hw
      refine lv_iload hx hb dX4_pass_47 (lv_at hl 3 rfl) ?_
      refine lv_iload_n hx hb dX4_pass_49 rfl (lv_at hl 1 rfl) ?_
      refine lv_icmp_ge (tgt := 66) hx hb dX4_pass_50 (by decide) (fun c50 => ?_) (fun c50 => ?_)
      · have hw := hw.1 c50
        refine lv_iload_n hx hb dX4_pass_66 rfl (lv_at hl 2 rfl) ?_
        exact rI (wf := (ws_MD cs a)) (u := σ) hx hb hr hlocks hK hP hD hS hw dX4_pass_67
      · have hw := hw.2 c50
        refine lv_iload_n hx hb dX4_pass_53 rfl (lv_at hl 2 rfl) ?_
        refine lv_aload_n hx hb dX4_pass_54 rfl (lv_at hl 0 rfl) ?_
        refine kVi (As := []) (rest := [.int x3]) ⟨hx, hb, hml, hown, hts⟩ (c_M_endDay l D cs a _ σ hw) (cwV 0 hts gX4_pass_X4_endDay rfl rfl rfl (by decide +kernel) ⟨Nat.le_of_ble_eq_true rfl, Nat.le_of_ble_eq_true rfl⟩) (pt_self_MD cs a σ) hK hP hD hS hA (ci := 4) rfl rfl rfl rfl hl.1 rfl (Nat.le_of_ble_eq_true rfl) dX4_pass_55 ⟨Nat.zero_le _, Nat.zero_le _⟩ (fun r55 u55 H locs hw hP hD hS => ?_)
        have hP : va_P D vwCl (ws_MD cs a u55) H := hP
        have hD : va_D A (ws_MD cs a u55) := hD
        refine lv_iadd hx hb dX4_pass_58 ?_
        refine lv_istore_n (lv' := [(3, .int (x3 + r55)), (0, .ref (a 0)), (1, .int x1), (4, .int x4)]) hx hb dX4_pass_59 rfl hl (by decide) rfl (fun ls hl => ?_)
        refine lv_iinc (v := (x4 + (1 : Int32))) (lv' := [(4, .int (x4 + (1 : Int32))), (3, .int (x3 + r55)), (0, .ref (a 0)), (1, .int x1)]) hx hb dX4_pass_60 hl (k := 3) rfl rfl (by decide) rfl (fun ls hl => ?_)
        refine lv_goto (tgt := 47) hx hb dX4_pass_63 (by decide) ?_
        exact ih _ _ _ _ hw H locs ls (lv_sub hl [2, 3, 1, 0] rfl) hP hD hS
  have B34 : ∀ (x1 : Int32) (t1 : Int32) (σ : MD), b_M_pass_34 Φ x1 t1 σ → At p l e (headSpec wsX4_pass rm_M_pass).room s m ([.ref (a 0), .int p1] : List Value).toArray below meth c (MQ below (va_Qi Φ (BG D cs A s.heap.size (ws_MD cs a)) A) ([.ref (a 0), .int p1] : List Value).toArray s 0 0 A) D A 5 [(0, .ref (a 0)), (1, .int x1)] (ws_MD cs a σ) 34 [.int t1, .ref (a 0)] := by
    intro x1 t1 σ hw H locs ls hl hP hD hS
    unfold b_M_pass_34 at hw
    refine kVi (As := [.int t1]) (rest := []) ⟨hx, hb, hml, hown, hts⟩ (c_M_goesWell l D cs a _ σ t1 hw) (cwV 1 hts gX4_pass_X4_goesWell rfl rfl rfl (by decide +kernel) ⟨Nat.le_of_ble_eq_true rfl, Nat.le_of_ble_eq_true rfl⟩) (pt_self_MD cs a σ) hK hP hD hS hA (ci := 4) rfl rfl rfl rfl hl.1 rfl (Nat.le_of_ble_eq_true rfl) dX4_pass_34 ⟨Nat.zero_le _, Nat.zero_le _⟩ (fun r34 u34 H locs hw hP hD hS => ?_)
    have hP : va_P D vwCl (ws_MD cs a u34) H := hP
    have hD : va_D A (ws_MD cs a u34) := hD
    refine lv_if_ne (tgt := 42) hx hb dX4_pass_37 (by decide) (fun c37 => ?_) (fun c37 => ?_)
    · have hw := hw.2 c37
      refine lv_iconst (v := (0 : Int32)) hx hb dX4_pass_42 (by decide) ?_
      refine lv_istore_n (lv' := [(3, .int (0 : Int32)), (0, .ref (a 0)), (1, .int x1)]) hx hb dX4_pass_43 rfl hl (by decide) rfl (fun ls hl => ?_)
      refine lv_iconst (v := (0 : Int32)) hx hb dX4_pass_44 (by decide) ?_
      refine lv_istore (lv' := [(4, .int (0 : Int32)), (3, .int (0 : Int32)), (0, .ref (a 0)), (1, .int x1)]) hx hb dX4_pass_45 hl (by decide) rfl (fun ls hl => ?_)
      obtain ⟨n, hw⟩ := hw
      exact B47 n _ _ _ _ hw _ _ ls (lv_sub hl [2, 3, 1, 0] rfl) hP hD hS
    · have hw := hw.1 c37
      refine lv_iconst (v := (0 : Int32)) hx hb dX4_pass_40 (by decide) ?_
      exact rI (wf := (ws_MD cs a)) (u := u34) hx hb hr hlocks hK hP hD hS hw dX4_pass_41
  have hl := lv_entry ([.ref (a 0), .int p1]) (n := 5) (Nat.le_of_ble_eq_true rfl)
  rw [lg_entry_eq]
  generalize (lg_sl ([.ref (a 0), .int p1]) ++ List.replicate (5 - (lg_sl ([.ref (a 0), .int p1])).length) Slot.unset).toArray = ls at hl ⊢
  have hl : lv_has ls 5 [(0, .ref (a 0)), (1, .int p1)] := hl
  unfold w_M_pass at hw
  refine lv_iload_n hx hb dX4_pass_0 rfl (lv_at hl 1 rfl) ?_
  refine lv_iconst (v := (1 : Int32)) hx hb dX4_pass_1 (by decide) ?_
  refine lv_bipush (v := (100 : Int32)) hx hb dX4_pass_2 (by decide) ?_
  refine kSi (As := [.int p1, .int (1 : Int32), .int (100 : Int32)]) (rest := []) ⟨hx, hb, hml, hown, hts⟩ (c_M_in l D cs a _ p1 (1 : Int32) (100 : Int32) hw) (va_cwS 3 hts gX4_pass_X4_in rfl rfl rfl (by decide +kernel) ⟨Nat.le_of_ble_eq_true rfl, Nat.le_of_ble_eq_true rfl⟩) (pt_un_MD cs a σ) hK hP hD hS hA rfl hl.1 rfl (Nat.le_of_ble_eq_true rfl) dX4_pass_4 ⟨Nat.zero_le _, Nat.zero_le _⟩ (fun r4 u4 H locs hw hP hD hS => ?_)
  have hP : va_P D vwCl (ws_MD cs a σ) H := hP
  have hD : va_D A (ws_MD cs a σ) := hD
  refine lv_istore_n (lv' := [(2, .int r4), (0, .ref (a 0)), (1, .int p1)]) hx hb dX4_pass_7 rfl hl (by decide) rfl (fun ls hl => ?_)
  refine lv_aload_n hx hb dX4_pass_8 rfl (lv_at hl 1 rfl) ?_
  refine lv_iload_n hx hb dX4_pass_9 rfl (lv_at hl 0 rfl) ?_
  refine lv_if_ne (tgt := 17) hx hb dX4_pass_10 (by decide) (fun c10 => ?_) (fun c10 => ?_)
  · have hw := hw.2 c10
    refine lv_aload_n hx hb dX4_pass_17 rfl (lv_at hl 1 rfl) ?_
    refine va_get (D := D) (ci := 4) (v := .int (g_MD_today σ)) (C := RX4) (T := TX4) (N := 23) hx hb hts hinX4 hown hK hP 0 rfl rfl 20 (by decide) hf148 (fun _ h9 => h9) rfl dX4_pass_18 ?_
    refine lv_iload_n hx hb dX4_pass_21 rfl (lv_at hl 2 rfl) ?_
    refine lv_iadd hx hb dX4_pass_22 ?_
    refine lv_sipush (v := (10000 : Int32)) hx hb dX4_pass_23 (by decide) ?_
    refine lv_icmp_le (tgt := 33) hx hb dX4_pass_26 (by decide) (fun c26 => ?_) (fun c26 => ?_)
    · have hw := hw.1 c26
      refine lv_iconst (v := (0 : Int32)) hx hb dX4_pass_33 (by decide) ?_
      exact B34 _ _ _ hw _ _ ls (lv_sub hl [1, 2] rfl) hP hD hS
    · have hw := hw.2 c26
      refine lv_iconst (v := (2 : Int32)) hx hb dX4_pass_29 (by decide) ?_
      refine lv_goto (tgt := 34) hx hb dX4_pass_30 (by decide) ?_
      exact B34 _ _ _ hw _ _ ls (lv_sub hl [1, 2] rfl) hP hD hS
  · have hw := hw.1 c10
    refine lv_iconst (v := (1 : Int32)) hx hb dX4_pass_13 (by decide) ?_
    refine lv_goto (tgt := 34) hx hb dX4_pass_14 (by decide) ?_
    exact B34 _ _ _ hw _ _ ls (lv_sub hl [1, 2] rfl) hP hD hS
abbrev rm_M_today : Room := { frames := 0, cells := 0, slots := 0, locals := 0 }
set_option maxHeartbeats 4000000 in
set_option maxRecDepth 100000 in
theorem c_M_today (l : Launch) (D : va_G) (cs : CS) (a : Nat → Nat) (sz : Nat) (σ : MD) {Φ : Int32 → MD → Prop} (hw : w_M_today σ Φ) : Met l yX4_today wsX4_today rm_M_today (PcG [.ref (a 0)] D cs (ws_MD cs a σ) sz) (va_Qi Φ (BG D cs (va_A (ws_MD cs a σ) sz) sz (ws_MD cs a)) (va_A (ws_MD cs a σ) sz)) 0 0 (va_A (ws_MD cs a σ) sz) := by
  refine Met.ofW (cc := cX4_today) (maxL := 1) (ret := (some .int)) (by decide) rfl ?_
  intro p e s m args below meth c s₁ B hml hv
  obtain ⟨rfl, hsz, hP, hK, hD0⟩ := hv
  have hx := B.exec
  have hb := B.bytes
  have hr := B.returns
  have hts := atoms_spec (ws := wsX4_today) B.pre
  have hown : s.vm.findClass RX4 = some m.cls := findClass_of_methodNamed B.named
  have hlocks := B.notSynchronized
  subst hsz
  have hD := hD0.self (sz := s.heap.size)
  generalize hAe : va_A (ws_MD cs a σ) s.heap.size = A at hD ⊢
  have hA : ∀ q : Nat, s.heap.size ≤ q → A q := fun q h => by rw [← hAe]; exact Or.inr h
  have hS : va_S A s.heap s.heap [] := va_S.rf
  have hf148 : (Cond.fieldLink RX4 148 "CraneYardModel" "today" "I").before ([.ref (a 0)] : List Value).toArray s = true := hts _ (List.mem_of_getElem? (i := 2) rfl)
  have hf54 : (Cond.fieldLink RX4 54 "CraneYardModel" "thrown" "I").before ([.ref (a 0)] : List Value).toArray s = true := hts _ (List.mem_of_getElem? (i := 1) rfl)
  have hinX4 : ∀ w ∈ wsX40, w ∈ wsX4_today := fun _ h => List.mem_cons_of_mem _ (List.mem_append_right _ h)
  have hP : va_P D vwCl (ws_MD cs a σ) s.heap := hP
  have hl := lv_entry ([.ref (a 0)]) (n := 1) (Nat.le_of_ble_eq_true rfl)
  rw [lg_entry_eq]
  generalize (lg_sl ([.ref (a 0)]) ++ List.replicate (1 - (lg_sl ([.ref (a 0)])).length) Slot.unset).toArray = ls at hl ⊢
  have hl : lv_has ls 1 [(0, .ref (a 0))] := hl
  unfold w_M_today at hw
  refine lv_aload_n hx hb dX4_today_0 rfl (lv_at hl 0 rfl) ?_
  refine lv_iconst (v := (0 : Int32)) hx hb dX4_today_1 (by decide) ?_
  refine va_put (D := D) (ci := 4) (v := .int (0 : Int32)) (ty := .int) (C := RX4) (T := TX4) (N := 23) hx hb hts hinX4 tyX4 tyX4_ok nmX4 hown hK hP hD hS 0 rfl rfl 0 (by decide) hf54 (fun _ h9 => h9) rfl (by decide +kernel) rfl rfl (Nat.le_of_ble_eq_true rfl) dX4_today_2 (fun H locs hP hD hS => ?_)
  have hP : va_P D vwCl (ws_MD cs a (s_MD_thrown σ (0 : Int32))) H := hP
  have hD : va_D A (ws_MD cs a (s_MD_thrown σ (0 : Int32))) := hD
  obtain ⟨z1, ez1⟩ : ∃ z : MD, z = (s_MD_thrown σ (0 : Int32)) := ⟨_, rfl⟩
  have hw := hw z1 ez1
  rw [← ez1] at hP hD
  refine lv_aload_n hx hb dX4_today_5 rfl (lv_at hl 0 rfl) ?_
  refine va_get (D := D) (ci := 4) (v := .int (g_MD_today z1)) (C := RX4) (T := TX4) (N := 23) hx hb hts hinX4 hown hK hP 0 rfl rfl 20 (by decide) hf148 (fun _ h9 => h9) rfl dX4_today_6 ?_
  exact rI (wf := (ws_MD cs a)) (u := z1) hx hb hr hlocks hK hP hD hS hw dX4_today_9
abbrev rm_M_balance : Room := { frames := 0, cells := 0, slots := 0, locals := 0 }
set_option maxHeartbeats 4000000 in
set_option maxRecDepth 100000 in
theorem c_M_balance (l : Launch) (D : va_G) (cs : CS) (a : Nat → Nat) (sz : Nat) (σ : MD) {Φ : Int32 → MD → Prop} (hw : w_M_balance σ Φ) : Met l yX4_balance wsX4_balance rm_M_balance (PcG [.ref (a 0)] D cs (ws_MD cs a σ) sz) (va_Qi Φ (BG D cs (va_A (ws_MD cs a σ) sz) sz (ws_MD cs a)) (va_A (ws_MD cs a σ) sz)) 0 0 (va_A (ws_MD cs a σ) sz) := by
  refine Met.ofW (cc := cX4_balance) (maxL := 3) (ret := (some .int)) (by decide) rfl ?_
  intro p e s m args below meth c s₁ B hml hv
  obtain ⟨rfl, hsz, hP, hK, hD0⟩ := hv
  have hx := B.exec
  have hb := B.bytes
  have hr := B.returns
  have hts := atoms_spec (ws := wsX4_balance) B.pre
  have hown : s.vm.findClass RX4 = some m.cls := findClass_of_methodNamed B.named
  have hlocks := B.notSynchronized
  subst hsz
  have hD := hD0.self (sz := s.heap.size)
  generalize hAe : va_A (ws_MD cs a σ) s.heap.size = A at hD ⊢
  have hA : ∀ q : Nat, s.heap.size ≤ q → A q := fun q h => by rw [← hAe]; exact Or.inr h
  have hS : va_S A s.heap s.heap [] := va_S.rf
  have hf157 : (Cond.fieldLink RX4 157 "CraneYardModel" "fees" "I").before ([.ref (a 0)] : List Value).toArray s = true := hts _ (List.mem_of_getElem? (i := 3) rfl)
  have hf45 : (Cond.fieldLink RX4 45 "CraneYardModel" "states" "[I").before ([.ref (a 0)] : List Value).toArray s = true := hts _ (List.mem_of_getElem? (i := 5) rfl)
  have hf48 : (Cond.fieldLink RX4 48 "CraneYardModel" "prices" "[I").before ([.ref (a 0)] : List Value).toArray s = true := hts _ (List.mem_of_getElem? (i := 6) rfl)
  have hf54 : (Cond.fieldLink RX4 54 "CraneYardModel" "thrown" "I").before ([.ref (a 0)] : List Value).toArray s = true := hts _ (List.mem_of_getElem? (i := 1) rfl)
  have hf64 : (Cond.fieldLink RX4 64 "CraneYardModel" "hauls" "I").before ([.ref (a 0)] : List Value).toArray s = true := hts _ (List.mem_of_getElem? (i := 4) rfl)
  have hf86 : (Cond.fieldLink RX4 86 "CraneYardModel" "bonus" "I").before ([.ref (a 0)] : List Value).toArray s = true := hts _ (List.mem_of_getElem? (i := 2) rfl)
  have hinX4 : ∀ w ∈ wsX40, w ∈ wsX4_balance := fun _ h => List.mem_cons_of_mem _ (List.mem_append_right _ h)
  have hP : va_P D vwCl (ws_MD cs a σ) s.heap := hP
  have B61 : ∀ (K17 : (Int32 → Int32 → MD → Prop)) (hK17 : ∀ (x1 : Int32) (x2 : Int32) (σ : MD), K17 x1 x2 σ → At p l e (headSpec wsX4_balance rm_M_balance).room s m ([.ref (a 0)] : List Value).toArray below meth c (MQ below (va_Qi Φ (BG D cs A s.heap.size (ws_MD cs a)) A) ([.ref (a 0)] : List Value).toArray s 0 0 A) D A 3 [(0, .ref (a 0)), (1, .int x1), (2, .int x2)] (ws_MD cs a σ) 17 []) (x2 : Int32) (t0 : Int32) (t1 : Int32) (σ : MD), b_M_balance_61 K17 Φ x2 t0 t1 σ → At p l e (headSpec wsX4_balance rm_M_balance).room s m ([.ref (a 0)] : List Value).toArray below meth c (MQ below (va_Qi Φ (BG D cs A s.heap.size (ws_MD cs a)) A) ([.ref (a 0)] : List Value).toArray s 0 0 A) D A 3 [(0, .ref (a 0)), (2, .int x2)] (ws_MD cs a σ) 61 [.int t1, .int t0] := by
    intro K17 hK17 x2 t0 t1 σ hw H locs ls hl hP hD hS
    unfold b_M_balance_61 at hw
    refine lv_isub hx hb dX4_balance_61 ?_
    refine lv_istore_n (lv' := [(1, .int (t0 - t1)), (0, .ref (a 0)), (2, .int x2)]) hx hb dX4_balance_62 rfl hl (by decide) rfl (fun ls hl => ?_)
    refine lv_iinc (v := (x2 + (1 : Int32))) (lv' := [(2, .int (x2 + (1 : Int32))), (1, .int (t0 - t1)), (0, .ref (a 0))]) hx hb dX4_balance_63 hl (k := 2) rfl rfl (by decide) rfl (fun ls hl => ?_)
    refine lv_goto (tgt := 17) hx hb dX4_balance_66 (by decide) ?_
    exact hK17 _ _ _ hw _ _ ls (lv_sub hl [2, 1, 0] rfl) hP hD hS
  have B17 : ∀ (n : Nat) (x1 : Int32) (x2 : Int32) (σ : MD), it3 (b_M_balance_17 Φ) n x1 x2 σ → At p l e (headSpec wsX4_balance rm_M_balance).room s m ([.ref (a 0)] : List Value).toArray below meth c (MQ below (va_Qi Φ (BG D cs A s.heap.size (ws_MD cs a)) A) ([.ref (a 0)] : List Value).toArray s 0 0 A) D A 3 [(0, .ref (a 0)), (1, .int x1), (2, .int x2)] (ws_MD cs a σ) 17 [] := by
    intro n
    induction n with
    | zero => intro x1 x2 σ hw; exact absurd hw id
    | succ n ih =>
      intro x1 x2 σ hw H locs ls hl hP hD hS
      have hw : b_M_balance_17 Φ (it3 (b_M_balance_17 Φ) n) x1 x2 σ := hw
      unfold b_M_balance_17 at hw
      refine lv_iload_n hx hb dX4_balance_17 rfl (lv_at hl 2 rfl) ?_
      refine lv_aload_n hx hb dX4_balance_18 rfl (lv_at hl 0 rfl) ?_
      refine va_get (D := D) (ci := 4) (v := .int (g_MD_hauls σ)) (C := RX4) (T := TX4) (N := 23) hx hb hts hinX4 hown hK hP 0 rfl rfl 19 (by decide) hf64 (fun _ h9 => h9) rfl dX4_balance_19 ?_
      refine lv_icmp_ge (tgt := 69) hx hb dX4_balance_22 (by decide) (fun c22 => ?_) (fun c22 => ?_)
      · have hw := hw.1 c22
        refine lv_iload_n hx hb dX4_balance_69 rfl (lv_at hl 1 rfl) ?_
        exact rI (wf := (ws_MD cs a)) (u := σ) hx hb hr hlocks hK hP hD hS hw dX4_balance_70
      · have hw := hw.2 c22
        refine lv_iload_n hx hb dX4_balance_25 rfl (lv_at hl 1 rfl) ?_
        refine lv_aload_n hx hb dX4_balance_26 rfl (lv_at hl 0 rfl) ?_
        refine va_get (D := D) (ci := 4) (v := .ref (a 11)) (C := RX4) (T := TX4) (N := 23) hx hb hts hinX4 hown hK hP 0 rfl rfl 16 (by decide) hf45 (fun _ h9 => h9) rfl dX4_balance_27 ?_
        refine lv_iload_n hx hb dX4_balance_30 rfl (lv_at hl 2 rfl) ?_
        have hi31 := hw.1
        have hw := hw.2
        refine va_iald (f := (g_MD_states σ)) (n := 20) hx hb hK hP 11 0 rfl rfl hi31 dX4_balance_31 ?_
        refine lv_iconst (v := (2 : Int32)) hx hb dX4_balance_32 (by decide) ?_
        refine lv_icmp_ne (tgt := 45) hx hb dX4_balance_33 (by decide) (fun c33 => ?_) (fun c33 => ?_)
        · have hw := hw.2 c33
          refine lv_aload_n hx hb dX4_balance_45 rfl (lv_at hl 0 rfl) ?_
          refine va_get (D := D) (ci := 4) (v := .ref (a 11)) (C := RX4) (T := TX4) (N := 23) hx hb hts hinX4 hown hK hP 0 rfl rfl 16 (by decide) hf45 (fun _ h9 => h9) rfl dX4_balance_46 ?_
          refine lv_iload_n hx hb dX4_balance_49 rfl (lv_at hl 2 rfl) ?_
          have hi50 := hw.1
          have hw := hw.2
          refine va_iald (f := (g_MD_states σ)) (n := 20) hx hb hK hP 11 0 rfl rfl hi50 dX4_balance_50 ?_
          refine lv_iconst (v := (3 : Int32)) hx hb dX4_balance_51 (by decide) ?_
          refine lv_icmp_ne (tgt := 60) hx hb dX4_balance_52 (by decide) (fun c52 => ?_) (fun c52 => ?_)
          · have hw := hw.2 c52
            refine lv_iconst (v := (0 : Int32)) hx hb dX4_balance_60 (by decide) ?_
            exact B61 _ ih _ _ _ _ hw _ _ ls (lv_sub hl [0, 2] rfl) hP hD hS
          · have hw := hw.1 c52
            refine lv_bipush (v := (50 : Int32)) hx hb dX4_balance_55 (by decide) ?_
            refine lv_goto (tgt := 61) hx hb dX4_balance_57 (by decide) ?_
            exact B61 _ ih _ _ _ _ hw _ _ ls (lv_sub hl [0, 2] rfl) hP hD hS
        · have hw := hw.1 c33
          refine lv_aload_n hx hb dX4_balance_36 rfl (lv_at hl 0 rfl) ?_
          refine va_get (D := D) (ci := 4) (v := .ref (a 12)) (C := RX4) (T := TX4) (N := 23) hx hb hts hinX4 hown hK hP 0 rfl rfl 17 (by decide) hf48 (fun _ h9 => h9) rfl dX4_balance_37 ?_
          refine lv_iload_n hx hb dX4_balance_40 rfl (lv_at hl 2 rfl) ?_
          have hi41 := hw.1
          have hw := hw.2
          refine va_iald (f := (g_MD_prices σ)) (n := 20) hx hb hK hP 12 0 rfl rfl hi41 dX4_balance_41 ?_
          refine lv_goto (tgt := 61) hx hb dX4_balance_42 (by decide) ?_
          exact B61 _ ih _ _ _ _ hw _ _ ls (lv_sub hl [0, 2] rfl) hP hD hS
  have hl := lv_entry ([.ref (a 0)]) (n := 3) (Nat.le_of_ble_eq_true rfl)
  rw [lg_entry_eq]
  generalize (lg_sl ([.ref (a 0)]) ++ List.replicate (3 - (lg_sl ([.ref (a 0)])).length) Slot.unset).toArray = ls at hl ⊢
  have hl : lv_has ls 3 [(0, .ref (a 0))] := hl
  unfold w_M_balance at hw
  refine lv_aload_n hx hb dX4_balance_0 rfl (lv_at hl 0 rfl) ?_
  refine lv_iconst (v := (0 : Int32)) hx hb dX4_balance_1 (by decide) ?_
  refine va_put (D := D) (ci := 4) (v := .int (0 : Int32)) (ty := .int) (C := RX4) (T := TX4) (N := 23) hx hb hts hinX4 tyX4 tyX4_ok nmX4 hown hK hP hD hS 0 rfl rfl 0 (by decide) hf54 (fun _ h9 => h9) rfl (by decide +kernel) rfl rfl (Nat.le_of_ble_eq_true rfl) dX4_balance_2 (fun H locs hP hD hS => ?_)
  have hP : va_P D vwCl (ws_MD cs a (s_MD_thrown σ (0 : Int32))) H := hP
  have hD : va_D A (ws_MD cs a (s_MD_thrown σ (0 : Int32))) := hD
  obtain ⟨z1, ez1⟩ : ∃ z : MD, z = (s_MD_thrown σ (0 : Int32)) := ⟨_, rfl⟩
  have hw := hw z1 ez1
  rw [← ez1] at hP hD
  refine lv_aload_n hx hb dX4_balance_5 rfl (lv_at hl 0 rfl) ?_
  refine va_get (D := D) (ci := 4) (v := .int (g_MD_bonus z1)) (C := RX4) (T := TX4) (N := 23) hx hb hts hinX4 hown hK hP 0 rfl rfl 13 (by decide) hf86 (fun _ h9 => h9) rfl dX4_balance_6 ?_
  refine lv_aload_n hx hb dX4_balance_9 rfl (lv_at hl 0 rfl) ?_
  refine va_get (D := D) (ci := 4) (v := .int (g_MD_fees z1)) (C := RX4) (T := TX4) (N := 23) hx hb hts hinX4 hown hK hP 0 rfl rfl 22 (by decide) hf157 (fun _ h9 => h9) rfl dX4_balance_10 ?_
  refine lv_isub hx hb dX4_balance_13 ?_
  refine lv_topi (fun y2 ey2 => ?_)
  have hw := hw y2 ey2
  refine lv_istore_n (lv' := [(1, .int y2), (0, .ref (a 0))]) hx hb dX4_balance_14 rfl hl (by decide) rfl (fun ls hl => ?_)
  refine lv_iconst (v := (0 : Int32)) hx hb dX4_balance_15 (by decide) ?_
  refine lv_istore_n (lv' := [(2, .int (0 : Int32)), (1, .int y2), (0, .ref (a 0))]) hx hb dX4_balance_16 rfl hl (by decide) rfl (fun ls hl => ?_)
  obtain ⟨n, hw⟩ := hw
  exact B17 n _ _ _ hw H locs ls (lv_sub hl [2, 1, 0] rfl) hP hD hS
