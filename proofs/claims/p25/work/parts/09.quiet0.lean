section KSV
variable {p : Program} {l : Launch} {e : Env} {R : Room} {s : State} {m : MethodId} {args : Array Value} {below : List Frame} {meth : Method} {c : Code} {H : Heap} {locs : List Loc} {cells slots : Nat} {Q : State → Prop}
variable {y : MethodName} {bytes cc : ByteArray} {maxL nL n index pc : Nat} {ret : Option FieldType} {wsY : List Cond} {rm : Room} {Ts : List Cond} {own : String} {As rest st0 : List Value} {ls : Array Slot} {D : va_G} {cs : CS} {A : Nat → Prop} {ws wc : va_W}
theorem kSv {S : Type} {wf full : S → va_W} {Φ : S → Prop} (F : CallFix p m c cc nL s args Ts own)
    (hM : Met l y wsY rm (PcG As D cs wc H.size) (va_Qv Φ (BG D cs (va_A wc H.size) H.size wf) (va_A wc H.size)) 0 0 (va_A wc H.size))
    (cw : CallB R s args own index y bytes maxL ret wsY rm 0 0 n ∧ (Cond.static y).before args s = true) (pt : Part ws wc wf full) (hK : va_K D vwCl (tysG cs) s) (hP : va_P D vwCl ws H) (hD : va_D A ws) (hS : va_S A s.heap H locs) (hA : ∀ q, s.heap.size ≤ q → A q)
    (hn : As.length = n) (hsz : ls.size = nL) (hst : st0 = As.reverse ++ rest) (hW : (rest.map fun v => v.category).sum ≤ 8) (hdg : decode cc pc = .ok (.invokestatic index, 3)) (hcl : cells ≤ R.cells ∧ slots ≤ R.slots)
    (kk : ∀ (u : S) (H1 : Heap) (locs1 : List Loc), Φ u → va_P D vwCl (full u) H1 → va_D A (full u) → va_S A s.heap H1 locs1 → W p l e R s m args below meth c H1 locs1 cells slots Q (F0 m (pc + 3) ls rest)) :
    W p l e R s m args below meth c H locs cells slots Q (F0 m pc ls st0) := by
  have hF := pt_free pt hD hS hA
  obtain ⟨hPc, hDc⟩ := pt_in pt hP hD
  refine va_callv (va_runS (g := F0 m pc ls st0) (rest := rest) F hM cw ⟨PcG.blind, fun U hU hW => ⟨rfl, by rw [hU], by rw [hU]; exact hPc, va_K.moved hW.alike hK, hDc⟩⟩ rfl hn hsz hst (lv_room hW) hdg hcl) hS (fun q _ h => hF q h) hF ?_
  intro u t H1 locs1 ht hvm hw hB hz hk hS1
  obtain ⟨-, b1, -, b3⟩ := hB
  rw [ht] at b1
  obtain ⟨o1, o2⟩ := pt_out pt hP hD hF hk b1 b3
  exact kk u H1 locs1 hw o1 o2 hS1
end KSV
abbrev rm0_C_requireLetter : Room := { frames := 6, cells := 0, slots := 0, locals := 92 }
set_option maxHeartbeats 4000000 in
set_option maxRecDepth 100000 in
theorem c0_C_requireLetter (l : Launch) (D : va_G) (cs : CS) (a : Nat → Nat) (sz : Nat) (p0 : Int32) {Φ : Unit → Prop} (hw : w_C_requireLetter p0 Φ (fun _ _ => False)) : Met l yX3_requireLetter wsX3_requireLetter rm0_C_requireLetter (PcG [.int p0] D cs ([] : va_W) sz) (va_Qv Φ (BG D cs (va_A ([] : va_W) sz) sz (fun _ : Unit => ([] : va_W))) (va_A ([] : va_W) sz)) 0 0 (va_A ([] : va_W) sz) := by
  refine Met.ofW (cc := cX3_requireLetter) (maxL := 1) (ret := none) (by decide) rfl ?_
  intro p e s m args below meth c s₁ B hml hv
  obtain ⟨rfl, hsz, hP, hK, hD0⟩ := hv
  have hx := B.exec
  have hb := B.bytes
  have hr := B.returns
  have hts := atoms_spec (ws := wsX3_requireLetter) B.pre
  have hown : s.vm.findClass RX3 = some m.cls := findClass_of_methodNamed B.named
  have hlocks := B.notSynchronized
  subst hsz
  have hD := hD0.self (sz := s.heap.size)
  generalize hAe : va_A ([] : va_W) s.heap.size = A at hD ⊢
  have hA : ∀ q : Nat, s.heap.size ≤ q → A q := fun q h => by rw [← hAe]; exact Or.inr h
  have hS : va_S A s.heap s.heap [] := va_S.rf
  have hP : va_P D vwCl ([] : va_W) s.heap := hP
  have B10 : b_C_requireLetter_10 Φ (fun _ _ => False) → At p l e (headSpec wsX3_requireLetter rm0_C_requireLetter).room s m ([.int p0] : List Value).toArray below meth c (MQ below (va_Qv Φ (BG D cs A s.heap.size (fun _ : Unit => ([] : va_W))) A) ([.int p0] : List Value).toArray s 0 0 A) D A 1 [] ([] : va_W) 10 [] := by
    intro hw H locs ls hl hP hD hS
    unfold b_C_requireLetter_10 at hw
    exact (show False from hw).elim
  have hl := lv_entry ([.int p0]) (n := 1) (Nat.le_of_ble_eq_true rfl)
  rw [lg_entry_eq]
  generalize (lg_sl ([.int p0]) ++ List.replicate (1 - (lg_sl ([.int p0])).length) Slot.unset).toArray = ls at hl ⊢
  have hl : lv_has ls 1 [(0, .int p0)] := hl
  unfold w_C_requireLetter at hw
  refine lv_iload_n hx hb dX3_requireLetter_0 rfl (lv_at hl 0 rfl) ?_
  refine lv_if_lt (tgt := 10) hx hb dX3_requireLetter_1 (by decide) (fun c1 => ?_) (fun c1 => ?_)
  · have hw := hw.1 c1
    exact B10 hw _ _ ls (lv_sub hl [] rfl) hP hD hS
  · have hw := hw.2 c1
    refine lv_iload_n hx hb dX3_requireLetter_4 rfl (lv_at hl 0 rfl) ?_
    refine lv_bipush (v := (26 : Int32)) hx hb dX3_requireLetter_5 (by decide) ?_
    refine lv_icmp_lt (tgt := 20) hx hb dX3_requireLetter_7 (by decide) (fun c7 => ?_) (fun c7 => ?_)
    · have hw := hw.1 c7
      exact rV (wf := (fun _ : Unit => ([] : va_W))) (u := ()) hx hb hr hlocks hK hP hD hS hw dX3_requireLetter_20
    · have hw := hw.2 c7
      exact B10 hw _ _ ls (lv_sub hl [] rfl) hP hD hS
abbrev rm0_C_requireStack : Room := { frames := 6, cells := 0, slots := 0, locals := 92 }
set_option maxHeartbeats 4000000 in
set_option maxRecDepth 100000 in
theorem c0_C_requireStack (l : Launch) (D : va_G) (cs : CS) (a : Nat → Nat) (sz : Nat) (p0 : Int32) {Φ : Unit → Prop} (hw : w_C_requireStack p0 Φ (fun _ _ => False)) : Met l yX3_requireStack wsX3_requireStack rm0_C_requireStack (PcG [.int p0] D cs ([] : va_W) sz) (va_Qv Φ (BG D cs (va_A ([] : va_W) sz) sz (fun _ : Unit => ([] : va_W))) (va_A ([] : va_W) sz)) 0 0 (va_A ([] : va_W) sz) := by
  refine Met.ofW (cc := cX3_requireStack) (maxL := 1) (ret := none) (by decide) rfl ?_
  intro p e s m args below meth c s₁ B hml hv
  obtain ⟨rfl, hsz, hP, hK, hD0⟩ := hv
  have hx := B.exec
  have hb := B.bytes
  have hr := B.returns
  have hts := atoms_spec (ws := wsX3_requireStack) B.pre
  have hown : s.vm.findClass RX3 = some m.cls := findClass_of_methodNamed B.named
  have hlocks := B.notSynchronized
  subst hsz
  have hD := hD0.self (sz := s.heap.size)
  generalize hAe : va_A ([] : va_W) s.heap.size = A at hD ⊢
  have hA : ∀ q : Nat, s.heap.size ≤ q → A q := fun q h => by rw [← hAe]; exact Or.inr h
  have hS : va_S A s.heap s.heap [] := va_S.rf
  have hP : va_P D vwCl ([] : va_W) s.heap := hP
  have B10 : b_C_requireStack_10 Φ (fun _ _ => False) → At p l e (headSpec wsX3_requireStack rm0_C_requireStack).room s m ([.int p0] : List Value).toArray below meth c (MQ below (va_Qv Φ (BG D cs A s.heap.size (fun _ : Unit => ([] : va_W))) A) ([.int p0] : List Value).toArray s 0 0 A) D A 1 [] ([] : va_W) 10 [] := by
    intro hw H locs ls hl hP hD hS
    unfold b_C_requireStack_10 at hw
    exact (show False from hw).elim
  have hl := lv_entry ([.int p0]) (n := 1) (Nat.le_of_ble_eq_true rfl)
  rw [lg_entry_eq]
  generalize (lg_sl ([.int p0]) ++ List.replicate (1 - (lg_sl ([.int p0])).length) Slot.unset).toArray = ls at hl ⊢
  have hl : lv_has ls 1 [(0, .int p0)] := hl
  unfold w_C_requireStack at hw
  refine lv_iload_n hx hb dX3_requireStack_0 rfl (lv_at hl 0 rfl) ?_
  refine lv_if_lt (tgt := 10) hx hb dX3_requireStack_1 (by decide) (fun c1 => ?_) (fun c1 => ?_)
  · have hw := hw.1 c1
    exact B10 hw _ _ ls (lv_sub hl [] rfl) hP hD hS
  · have hw := hw.2 c1
    refine lv_iload_n hx hb dX3_requireStack_4 rfl (lv_at hl 0 rfl) ?_
    refine lv_bipush (v := (6 : Int32)) hx hb dX3_requireStack_5 (by decide) ?_
    refine lv_icmp_lt (tgt := 20) hx hb dX3_requireStack_7 (by decide) (fun c7 => ?_) (fun c7 => ?_)
    · have hw := hw.1 c7
      exact rV (wf := (fun _ : Unit => ([] : va_W))) (u := ()) hx hb hr hlocks hK hP hD hS hw dX3_requireStack_20
    · have hw := hw.2 c7
      exact B10 hw _ _ ls (lv_sub hl [] rfl) hP hD hS
abbrev rm0_C_requireRoom : Room := { frames := 6, cells := 0, slots := 0, locals := 92 }
set_option maxHeartbeats 4000000 in
set_option maxRecDepth 100000 in
theorem c0_C_requireRoom (l : Launch) (D : va_G) (cs : CS) (a : Nat → Nat) (sz : Nat) (σ : CY) (p1 : Int32) (p2 : Int32) {Φ : CY → Prop} (hw : w_C_requireRoom σ p1 p2 Φ (fun _ _ => False)) : Met l yX3_requireRoom wsX3_requireRoom rm0_C_requireRoom (PcG [.ref (a 0), .int p1, .int p2] D cs (ws_CY cs a σ) sz) (va_Qv Φ (BG D cs (va_A (ws_CY cs a σ) sz) sz (ws_CY cs a)) (va_A (ws_CY cs a σ) sz)) 0 0 (va_A (ws_CY cs a σ) sz) := by
  refine Met.ofW (cc := cX3_requireRoom) (maxL := 3) (ret := none) (by decide) rfl ?_
  intro p e s m args below meth c s₁ B hml hv
  obtain ⟨rfl, hsz, hP, hK, hD0⟩ := hv
  have hx := B.exec
  have hb := B.bytes
  have hr := B.returns
  have hts := atoms_spec (ws := wsX3_requireRoom) B.pre
  have hown : s.vm.findClass RX3 = some m.cls := findClass_of_methodNamed B.named
  have hlocks := B.notSynchronized
  subst hsz
  have hD := hD0.self (sz := s.heap.size)
  generalize hAe : va_A (ws_CY cs a σ) s.heap.size = A at hD ⊢
  have hA : ∀ q : Nat, s.heap.size ≤ q → A q := fun q h => by rw [← hAe]; exact Or.inr h
  have hS : va_S A s.heap s.heap [] := va_S.rf
  have hf10 : (Cond.fieldLink RX3 10 "CraneYard" "stacks" "LCraneYard$Stacks;").before ([.ref (a 0), .int p1, .int p2] : List Value).toArray s = true := hts _ (List.mem_of_getElem? (i := 3) rfl)
  have hinX3 : ∀ w ∈ wsX30, w ∈ wsX3_requireRoom := fun _ h => List.mem_cons_of_mem _ (List.mem_append_left _ (List.mem_append_left _ (List.mem_append_right _ h)))
  have hP : va_P D vwCl (ws_CY cs a σ) s.heap := hP
  have hl := lv_entry ([.ref (a 0), .int p1, .int p2]) (n := 3) (Nat.le_of_ble_eq_true rfl)
  rw [lg_entry_eq]
  generalize (lg_sl ([.ref (a 0), .int p1, .int p2]) ++ List.replicate (3 - (lg_sl ([.ref (a 0), .int p1, .int p2])).length) Slot.unset).toArray = ls at hl ⊢
  have hl : lv_has ls 3 [(0, .ref (a 0)), (1, .int p1), (2, .int p2)] := hl
  unfold w_C_requireRoom at hw
  refine lv_aload_n hx hb dX3_requireRoom_0 rfl (lv_at hl 0 rfl) ?_
  refine va_get (D := D) (ci := 3) (v := .ref (a 1)) (C := RX3) (T := TX3) (N := 12) hx hb hts hinX3 hown hK hP 0 rfl rfl 0 (by decide) hf10 (fun _ h9 => h9) rfl dX3_requireRoom_1 ?_
  refine lv_iload_n hx hb dX3_requireRoom_4 rfl (lv_at hl 1 rfl) ?_
  refine lv_iload_n hx hb dX3_requireRoom_5 rfl (lv_at hl 2 rfl) ?_
  refine lv_aload_n hx hb dX3_requireRoom_6 rfl (lv_at hl 0 rfl) ?_
  refine kVi (As := []) (rest := [.int p2, .int p1, .ref (a 1)]) ⟨hx, hb, hml, hown, hts⟩ (c_C_mostPlaces l D cs a _ σ hw) (cwV 0 hts gX3_requireRoom_X3_mostPlaces rfl rfl rfl (by decide +kernel) ⟨Nat.le_of_ble_eq_true rfl, Nat.le_of_ble_eq_true rfl⟩) (pt_self_CY cs a σ) hK hP hD hS hA (ci := 3) rfl rfl rfl rfl hl.1 rfl (Nat.le_of_ble_eq_true rfl) dX3_requireRoom_7 ⟨Nat.zero_le _, Nat.zero_le _⟩ (fun r7 u7 H locs hw hP hD hS => ?_)
  have hP : va_P D vwCl (ws_CY cs a u7) H := hP
  have hD : va_D A (ws_CY cs a u7) := hD
  refine kVi (As := [.int p1, .int p2, .int r7]) (rest := []) ⟨hx, hb, hml, hown, hts⟩ (c_S_canTake l D cs (sh a 1) _ (g_CY_st u7) p1 p2 r7 hw) (cwV 3 hts gX3_requireRoom_X1_canTake rfl rfl rfl (by decide +kernel) ⟨Nat.le_of_ble_eq_true rfl, Nat.le_of_ble_eq_true rfl⟩) (pt_CY_st cs a u7) hK hP hD hS hA (ci := 1) rfl rfl rfl rfl hl.1 rfl (Nat.le_of_ble_eq_true rfl) dX3_requireRoom_10 ⟨Nat.zero_le _, Nat.zero_le _⟩ (fun r10 u10 H locs hw hP hD hS => ?_)
  have hP : va_P D vwCl (ws_CY cs a (s_CY_st u7 u10)) H := hP
  have hD : va_D A (ws_CY cs a (s_CY_st u7 u10)) := hD
  refine lv_if_ne (tgt := 27) hx hb dX3_requireRoom_13 (by decide) (fun c13 => ?_) (fun c13 => ?_)
  · have hw := hw.2 c13
    exact rV (wf := (ws_CY cs a)) (u := (s_CY_st u7 u10)) hx hb hr hlocks hK hP hD hS hw dX3_requireRoom_27
  · have hw := hw.1 c13
    exact (show False from hw).elim
abbrev rm0_C_arrive : Room := { frames := 7, cells := 0, slots := 0, locals := 114 }
set_option maxHeartbeats 4000000 in
set_option maxRecDepth 100000 in
theorem c0_C_arrive (l : Launch) (D : va_G) (cs : CS) (a : Nat → Nat) (sz : Nat) (σ : CY) (p1 : Int32) (p2 : Int32) (p3 : Int32) {Φ : Int32 → CY → Prop} (hw : w_C_arrive σ p1 p2 p3 Φ (fun _ _ => False)) : Met l yX3_arrive wsX3_arrive rm0_C_arrive (PcG [.ref (a 0), .int p1, .int p2, .int p3] D cs (ws_CY cs a σ) sz) (va_Qi Φ (BG D cs (va_A (ws_CY cs a σ) sz) sz (ws_CY cs a)) (va_A (ws_CY cs a σ) sz)) 0 0 (va_A (ws_CY cs a σ) sz) := by
  refine Met.ofW (cc := cX3_arrive) (maxL := 5) (ret := (some .int)) (by decide) rfl ?_
  intro p e s m args below meth c s₁ B hml hv
  obtain ⟨rfl, hsz, hP, hK, hD0⟩ := hv
  have hx := B.exec
  have hb := B.bytes
  have hr := B.returns
  have hts := atoms_spec (ws := wsX3_arrive) B.pre
  have hown : s.vm.findClass RX3 = some m.cls := findClass_of_methodNamed B.named
  have hlocks := B.notSynchronized
  subst hsz
  have hD := hD0.self (sz := s.heap.size)
  generalize hAe : va_A (ws_CY cs a σ) s.heap.size = A at hD ⊢
  have hA : ∀ q : Nat, s.heap.size ≤ q → A q := fun q h => by rw [← hAe]; exact Or.inr h
  have hS : va_S A s.heap s.heap [] := va_S.rf
  have hf10 : (Cond.fieldLink RX3 10 "CraneYard" "stacks" "LCraneYard$Stacks;").before ([.ref (a 0), .int p1, .int p2, .int p3] : List Value).toArray s = true := hts _ (List.mem_of_getElem? (i := 7) rfl)
  have hf33 : (Cond.fieldLink RX3 33 "CraneYard" "letters" "[I").before ([.ref (a 0), .int p1, .int p2, .int p3] : List Value).toArray s = true := hts _ (List.mem_of_getElem? (i := 6) rfl)
  have hf40 : (Cond.fieldLink RX3 40 "CraneYard" "crateCount" "I").before ([.ref (a 0), .int p1, .int p2, .int p3] : List Value).toArray s = true := hts _ (List.mem_of_getElem? (i := 5) rfl)
  have hinX3 : ∀ w ∈ wsX30, w ∈ wsX3_arrive := fun _ h => List.mem_cons_of_mem _ (List.mem_append_left _ (List.mem_append_left _ (List.mem_append_left _ (List.mem_append_left _ (List.mem_append_right _ h)))))
  have hP : va_P D vwCl (ws_CY cs a σ) s.heap := hP
  have B11 : ∀ (σ : CY), b_C_arrive_11 Φ (fun _ _ => False) σ → At p l e (headSpec wsX3_arrive rm0_C_arrive).room s m ([.ref (a 0), .int p1, .int p2, .int p3] : List Value).toArray below meth c (MQ below (va_Qi Φ (BG D cs A s.heap.size (ws_CY cs a)) A) ([.ref (a 0), .int p1, .int p2, .int p3] : List Value).toArray s 0 0 A) D A 5 [] (ws_CY cs a σ) 11 [] := by
    intro σ hw H locs ls hl hP hD hS
    unfold b_C_arrive_11 at hw
    exact (show False from hw).elim
  have hl := lv_entry ([.ref (a 0), .int p1, .int p2, .int p3]) (n := 5) (Nat.le_of_ble_eq_true rfl)
  rw [lg_entry_eq]
  generalize (lg_sl ([.ref (a 0), .int p1, .int p2, .int p3]) ++ List.replicate (5 - (lg_sl ([.ref (a 0), .int p1, .int p2, .int p3])).length) Slot.unset).toArray = ls at hl ⊢
  have hl : lv_has ls 5 [(0, .ref (a 0)), (1, .int p1), (2, .int p2), (3, .int p3)] := hl
  unfold w_C_arrive at hw
  refine lv_iload_n hx hb dX3_arrive_0 rfl (lv_at hl 1 rfl) ?_
  refine lv_iconst (v := (1 : Int32)) hx hb dX3_arrive_1 (by decide) ?_
  refine lv_icmp_lt (tgt := 11) hx hb dX3_arrive_2 (by decide) (fun c2 => ?_) (fun c2 => ?_)
  · have hw := hw.1 c2
    exact B11 _ hw _ _ ls (lv_sub hl [] rfl) hP hD hS
  · have hw := hw.2 c2
    refine lv_iload_n hx hb dX3_arrive_5 rfl (lv_at hl 1 rfl) ?_
    refine lv_bipush (v := (100 : Int32)) hx hb dX3_arrive_6 (by decide) ?_
    refine lv_icmp_le (tgt := 21) hx hb dX3_arrive_8 (by decide) (fun c8 => ?_) (fun c8 => ?_)
    · have hw := hw.1 c8
      refine lv_iload_n hx hb dX3_arrive_21 rfl (lv_at hl 2 rfl) ?_
      refine kSv (As := [.int p2]) (rest := []) ⟨hx, hb, hml, hown, hts⟩ (c0_C_requireLetter l D cs a _ p2 hw) (va_cwS 1 hts gX3_arrive_X3_requireLetter rfl rfl rfl (by decide +kernel) ⟨Nat.le_of_ble_eq_true rfl, Nat.le_of_ble_eq_true rfl⟩) (pt_un_CY cs a σ) hK hP hD hS hA rfl hl.1 rfl (Nat.le_of_ble_eq_true rfl) dX3_arrive_22 ⟨Nat.zero_le _, Nat.zero_le _⟩ (fun u22 H locs hw hP hD hS => ?_)
      have hP : va_P D vwCl (ws_CY cs a σ) H := hP
      have hD : va_D A (ws_CY cs a σ) := hD
      refine lv_iload_n hx hb dX3_arrive_25 rfl (lv_at hl 3 rfl) ?_
      refine kSv (As := [.int p3]) (rest := []) ⟨hx, hb, hml, hown, hts⟩ (c0_C_requireStack l D cs a _ p3 hw) (va_cwS 1 hts gX3_arrive_X3_requireStack rfl rfl rfl (by decide +kernel) ⟨Nat.le_of_ble_eq_true rfl, Nat.le_of_ble_eq_true rfl⟩) (pt_un_CY cs a σ) hK hP hD hS hA rfl hl.1 rfl (Nat.le_of_ble_eq_true rfl) dX3_arrive_26 ⟨Nat.zero_le _, Nat.zero_le _⟩ (fun u26 H locs hw hP hD hS => ?_)
      have hP : va_P D vwCl (ws_CY cs a σ) H := hP
      have hD : va_D A (ws_CY cs a σ) := hD
      refine lv_aload_n hx hb dX3_arrive_29 rfl (lv_at hl 0 rfl) ?_
      refine va_get (D := D) (ci := 3) (v := .int (g_CY_crateCount σ)) (C := RX3) (T := TX3) (N := 12) hx hb hts hinX3 hown hK hP 0 rfl rfl 6 (by decide) hf40 (fun _ h9 => h9) rfl dX3_arrive_30 ?_
      refine lv_bipush (v := (30 : Int32)) hx hb dX3_arrive_33 (by decide) ?_
      refine lv_icmp_lt (tgt := 48) hx hb dX3_arrive_35 (by decide) (fun c35 => ?_) (fun c35 => ?_)
      · have hw := hw.1 c35
        refine lv_aload_n hx hb dX3_arrive_48 rfl (lv_at hl 0 rfl) ?_
        refine lv_iload_n hx hb dX3_arrive_49 rfl (lv_at hl 3 rfl) ?_
        refine lv_iload_n hx hb dX3_arrive_50 rfl (lv_at hl 1 rfl) ?_
        refine kVv (As := [.int p3, .int p1]) (rest := []) ⟨hx, hb, hml, hown, hts⟩ (c0_C_requireRoom l D cs a _ σ p3 p1 hw) (cwV 2 hts gX3_arrive_X3_requireRoom rfl rfl rfl (by decide +kernel) ⟨Nat.le_of_ble_eq_true rfl, Nat.le_of_ble_eq_true rfl⟩) (pt_self_CY cs a σ) hK hP hD hS hA (ci := 3) rfl rfl rfl rfl hl.1 rfl (Nat.le_of_ble_eq_true rfl) dX3_arrive_51 ⟨Nat.zero_le _, Nat.zero_le _⟩ (fun u51 H locs hw hP hD hS => ?_)
        have hP : va_P D vwCl (ws_CY cs a u51) H := hP
        have hD : va_D A (ws_CY cs a u51) := hD
        refine lv_aload_n hx hb dX3_arrive_54 rfl (lv_at hl 0 rfl) ?_
        refine va_get (D := D) (ci := 3) (v := .int (g_CY_crateCount u51)) (C := RX3) (T := TX3) (N := 12) hx hb hts hinX3 hown hK hP 0 rfl rfl 6 (by decide) hf40 (fun _ h9 => h9) rfl dX3_arrive_55 ?_
        refine lv_istore (lv' := [(4, .int (g_CY_crateCount u51)), (0, .ref (a 0)), (1, .int p1), (2, .int p2), (3, .int p3)]) hx hb dX3_arrive_58 hl (by decide) rfl (fun ls hl => ?_)
        refine lv_aload_n hx hb dX3_arrive_60 rfl (lv_at hl 1 rfl) ?_
        refine lv_dup hx hb dX3_arrive_61 rfl ?_
        refine va_get (D := D) (ci := 3) (v := .int (g_CY_crateCount u51)) (C := RX3) (T := TX3) (N := 12) hx hb hts hinX3 hown hK hP 0 rfl rfl 6 (by decide) hf40 (fun _ h9 => h9) rfl dX3_arrive_62 ?_
        refine lv_iconst (v := (1 : Int32)) hx hb dX3_arrive_65 (by decide) ?_
        refine lv_iadd hx hb dX3_arrive_66 ?_
        refine lv_topi (fun y1 ey1 => ?_)
        have hw := hw y1 ey1
        refine va_put (D := D) (ci := 3) (v := .int y1) (ty := .int) (C := RX3) (T := TX3) (N := 12) hx hb hts hinX3 tyX3 tyX3_ok nmX3 hown hK hP hD hS 0 rfl rfl 6 (by decide) hf40 (fun _ h9 => h9) rfl (by decide +kernel) rfl rfl (Nat.le_of_ble_eq_true rfl) dX3_arrive_67 (fun H locs hP hD hS => ?_)
        have hP : va_P D vwCl (ws_CY cs a (s_CY_crateCount u51 y1)) H := hP
        have hD : va_D A (ws_CY cs a (s_CY_crateCount u51 y1)) := hD
        obtain ⟨z2, ez2⟩ : ∃ z : CY, z = (s_CY_crateCount u51 y1) := ⟨_, rfl⟩
        have hw := hw z2 ez2
        rw [← ez2] at hP hD
        refine lv_aload_n hx hb dX3_arrive_70 rfl (lv_at hl 1 rfl) ?_
        refine va_get (D := D) (ci := 3) (v := .ref (a 19)) (C := RX3) (T := TX3) (N := 12) hx hb hts hinX3 hown hK hP 0 rfl rfl 4 (by decide) hf33 (fun _ h9 => h9) rfl dX3_arrive_71 ?_
        refine lv_iload hx hb dX3_arrive_74 (lv_at hl 0 rfl) ?_
        refine lv_iload_n hx hb dX3_arrive_76 rfl (lv_at hl 3 rfl) ?_
        have hi77 := hw.1
        have hw := hw.2
        refine va_iast (f := (g_CY_letters z2)) (n := 30) (x := p2) hx hb hK hP hD hS 19 0 rfl rfl hi77 dX3_arrive_77 (fun H locs hP hD hS => ?_)
        have hP : va_P D vwCl (ws_CY cs a (s_CY_letters z2 (upd (g_CY_letters z2) ((g_CY_crateCount u51)).toNatClampNeg p2))) H := hP
        have hD : va_D A (ws_CY cs a (s_CY_letters z2 (upd (g_CY_letters z2) ((g_CY_crateCount u51)).toNatClampNeg p2))) := hD
        obtain ⟨z3, ez3⟩ : ∃ z : CY, z = (s_CY_letters z2 (upd (g_CY_letters z2) ((g_CY_crateCount u51)).toNatClampNeg p2)) := ⟨_, rfl⟩
        have hw := hw z3 ez3
        rw [← ez3] at hP hD
        refine lv_aload_n hx hb dX3_arrive_78 rfl (lv_at hl 1 rfl) ?_
        refine va_get (D := D) (ci := 3) (v := .ref (a 1)) (C := RX3) (T := TX3) (N := 12) hx hb hts hinX3 hown hK hP 0 rfl rfl 0 (by decide) hf10 (fun _ h9 => h9) rfl dX3_arrive_79 ?_
        refine lv_iload hx hb dX3_arrive_82 (lv_at hl 0 rfl) ?_
        refine lv_iload_n hx hb dX3_arrive_84 rfl (lv_at hl 2 rfl) ?_
        refine kVv (As := [.int (g_CY_crateCount u51), .int p1]) (rest := []) ⟨hx, hb, hml, hown, hts⟩ (c_S_setWeight l D cs (sh a 1) _ (g_CY_st z3) (g_CY_crateCount u51) p1 hw) (cwV 2 hts gX3_arrive_X1_setWeight rfl rfl rfl (by decide +kernel) ⟨Nat.le_of_ble_eq_true rfl, Nat.le_of_ble_eq_true rfl⟩) (pt_CY_st cs a z3) hK hP hD hS hA (ci := 1) rfl rfl rfl rfl hl.1 rfl (Nat.le_of_ble_eq_true rfl) dX3_arrive_85 ⟨Nat.zero_le _, Nat.zero_le _⟩ (fun u85 H locs hw hP hD hS => ?_)
        have hP : va_P D vwCl (ws_CY cs a (s_CY_st z3 u85)) H := hP
        have hD : va_D A (ws_CY cs a (s_CY_st z3 u85)) := hD
        refine lv_aload_n hx hb dX3_arrive_88 rfl (lv_at hl 1 rfl) ?_
        refine va_get (D := D) (ci := 3) (v := .ref (a 1)) (C := RX3) (T := TX3) (N := 12) hx hb hts hinX3 hown hK hP 0 rfl rfl 0 (by decide) hf10 (fun _ h9 => h9) rfl dX3_arrive_89 ?_
        refine lv_iload_n hx hb dX3_arrive_92 rfl (lv_at hl 4 rfl) ?_
        refine lv_iload hx hb dX3_arrive_93 (lv_at hl 0 rfl) ?_
        refine kVv (As := [.int p3, .int (g_CY_crateCount u51)]) (rest := []) ⟨hx, hb, hml, hown, hts⟩ (c_S_put l D cs (sh a 1) _ (g_CY_st (s_CY_st z3 u85)) p3 (g_CY_crateCount u51) hw) (cwV 2 hts gX3_arrive_X1_put rfl rfl rfl (by decide +kernel) ⟨Nat.le_of_ble_eq_true rfl, Nat.le_of_ble_eq_true rfl⟩) (pt_CY_st cs a (s_CY_st z3 u85)) hK hP hD hS hA (ci := 1) rfl rfl rfl rfl hl.1 rfl (Nat.le_of_ble_eq_true rfl) dX3_arrive_95 ⟨Nat.zero_le _, Nat.zero_le _⟩ (fun u95 H locs hw hP hD hS => ?_)
        have hP : va_P D vwCl (ws_CY cs a (s_CY_st (s_CY_st z3 u85) u95)) H := hP
        have hD : va_D A (ws_CY cs a (s_CY_st (s_CY_st z3 u85) u95)) := hD
        refine lv_aload_n hx hb dX3_arrive_98 rfl (lv_at hl 1 rfl) ?_
        refine kVv (As := []) (rest := []) ⟨hx, hb, hml, hown, hts⟩ (c_C_payWords l D cs a _ (s_CY_st (s_CY_st z3 u85) u95) hw) (cwV 0 hts gX3_arrive_X3_payWords rfl rfl rfl (by decide +kernel) ⟨Nat.le_of_ble_eq_true rfl, Nat.le_of_ble_eq_true rfl⟩) (pt_self_CY cs a (s_CY_st (s_CY_st z3 u85) u95)) hK hP hD hS hA (ci := 3) rfl rfl rfl rfl hl.1 rfl (Nat.le_of_ble_eq_true rfl) dX3_arrive_99 ⟨Nat.zero_le _, Nat.zero_le _⟩ (fun u99 H locs hw hP hD hS => ?_)
        have hP : va_P D vwCl (ws_CY cs a u99) H := hP
        have hD : va_D A (ws_CY cs a u99) := hD
        refine lv_iload hx hb dX3_arrive_102 (lv_at hl 0 rfl) ?_
        exact rI (wf := (ws_CY cs a)) (u := u99) hx hb hr hlocks hK hP hD hS hw dX3_arrive_104
      · have hw := hw.2 c35
        exact (show False from hw).elim
    · have hw := hw.2 c8
      exact B11 _ hw _ _ ls (lv_sub hl [] rfl) hP hD hS
abbrev rm0_C_requireEmptyCrane : Room := { frames := 6, cells := 0, slots := 0, locals := 92 }
set_option maxHeartbeats 4000000 in
set_option maxRecDepth 100000 in
theorem c0_C_requireEmptyCrane (l : Launch) (D : va_G) (cs : CS) (a : Nat → Nat) (sz : Nat) (σ : CY) {Φ : CY → Prop} (hw : w_C_requireEmptyCrane σ Φ (fun _ _ => False)) : Met l yX3_requireEmptyCrane wsX3_requireEmptyCrane rm0_C_requireEmptyCrane (PcG [.ref (a 0)] D cs (ws_CY cs a σ) sz) (va_Qv Φ (BG D cs (va_A (ws_CY cs a σ) sz) sz (ws_CY cs a)) (va_A (ws_CY cs a σ) sz)) 0 0 (va_A (ws_CY cs a σ) sz) := by
  refine Met.ofW (cc := cX3_requireEmptyCrane) (maxL := 1) (ret := none) (by decide) rfl ?_
  intro p e s m args below meth c s₁ B hml hv
  obtain ⟨rfl, hsz, hP, hK, hD0⟩ := hv
  have hx := B.exec
  have hb := B.bytes
  have hr := B.returns
  have hts := atoms_spec (ws := wsX3_requireEmptyCrane) B.pre
  have hown : s.vm.findClass RX3 = some m.cls := findClass_of_methodNamed B.named
  have hlocks := B.notSynchronized
  subst hsz
  have hD := hD0.self (sz := s.heap.size)
  generalize hAe : va_A (ws_CY cs a σ) s.heap.size = A at hD ⊢
  have hA : ∀ q : Nat, s.heap.size ≤ q → A q := fun q h => by rw [← hAe]; exact Or.inr h
  have hS : va_S A s.heap s.heap [] := va_S.rf
  have hf44 : (Cond.fieldLink RX3 44 "CraneYard" "craneCrate" "I").before ([.ref (a 0)] : List Value).toArray s = true := hts _ (List.mem_of_getElem? (i := 3) rfl)
  have hinX3 : ∀ w ∈ wsX30, w ∈ wsX3_requireEmptyCrane := fun _ h => List.mem_cons_of_mem _ (List.mem_append_left _ (List.mem_append_right _ h))
  have hP : va_P D vwCl (ws_CY cs a σ) s.heap := hP
  have hl := lv_entry ([.ref (a 0)]) (n := 1) (Nat.le_of_ble_eq_true rfl)
  rw [lg_entry_eq]
  generalize (lg_sl ([.ref (a 0)]) ++ List.replicate (1 - (lg_sl ([.ref (a 0)])).length) Slot.unset).toArray = ls at hl ⊢
  have hl : lv_has ls 1 [(0, .ref (a 0))] := hl
  unfold w_C_requireEmptyCrane at hw
  refine lv_aload_n hx hb dX3_requireEmptyCrane_0 rfl (lv_at hl 0 rfl) ?_
  refine va_get (D := D) (ci := 3) (v := .int (g_CY_craneCrate σ)) (C := RX3) (T := TX3) (N := 12) hx hb hts hinX3 hown hK hP 0 rfl rfl 7 (by decide) hf44 (fun _ h9 => h9) rfl dX3_requireEmptyCrane_1 ?_
  refine lv_iconst (v := (-1 : Int32)) hx hb dX3_requireEmptyCrane_4 (by decide) ?_
  refine lv_icmp_eq (tgt := 18) hx hb dX3_requireEmptyCrane_5 (by decide) (fun c5 => ?_) (fun c5 => ?_)
  · have hw := hw.1 c5
    exact rV (wf := (ws_CY cs a)) (u := σ) hx hb hr hlocks hK hP hD hS hw dX3_requireEmptyCrane_18
  · have hw := hw.2 c5
    exact (show False from hw).elim
abbrev rm0_C_lift : Room := { frames := 7, cells := 0, slots := 0, locals := 112 }
set_option maxHeartbeats 4000000 in
set_option maxRecDepth 100000 in
theorem c0_C_lift (l : Launch) (D : va_G) (cs : CS) (a : Nat → Nat) (sz : Nat) (σ : CY) (p1 : Int32) {Φ : Int32 → CY → Prop} (hw : w_C_lift σ p1 Φ (fun _ _ => False)) : Met l yX3_lift wsX3_lift rm0_C_lift (PcG [.ref (a 0), .int p1] D cs (ws_CY cs a σ) sz) (va_Qi Φ (BG D cs (va_A (ws_CY cs a σ) sz) sz (ws_CY cs a)) (va_A (ws_CY cs a σ) sz)) 0 0 (va_A (ws_CY cs a σ) sz) := by
  refine Met.ofW (cc := cX3_lift) (maxL := 2) (ret := (some .int)) (by decide) rfl ?_
  intro p e s m args below meth c s₁ B hml hv
  obtain ⟨rfl, hsz, hP, hK, hD0⟩ := hv
  have hx := B.exec
  have hb := B.bytes
  have hr := B.returns
  have hts := atoms_spec (ws := wsX3_lift) B.pre
  have hown : s.vm.findClass RX3 = some m.cls := findClass_of_methodNamed B.named
  have hlocks := B.notSynchronized
  subst hsz
  have hD := hD0.self (sz := s.heap.size)
  generalize hAe : va_A (ws_CY cs a σ) s.heap.size = A at hD ⊢
  have hA : ∀ q : Nat, s.heap.size ≤ q → A q := fun q h => by rw [← hAe]; exact Or.inr h
  have hS : va_S A s.heap s.heap [] := va_S.rf
  have hf10 : (Cond.fieldLink RX3 10 "CraneYard" "stacks" "LCraneYard$Stacks;").before ([.ref (a 0), .int p1] : List Value).toArray s = true := hts _ (List.mem_of_getElem? (i := 3) rfl)
  have hf44 : (Cond.fieldLink RX3 44 "CraneYard" "craneCrate" "I").before ([.ref (a 0), .int p1] : List Value).toArray s = true := hts _ (List.mem_of_getElem? (i := 4) rfl)
  have hf47 : (Cond.fieldLink RX3 47 "CraneYard" "liftCount" "I").before ([.ref (a 0), .int p1] : List Value).toArray s = true := hts _ (List.mem_of_getElem? (i := 5) rfl)
  have hinX3 : ∀ w ∈ wsX30, w ∈ wsX3_lift := fun _ h => List.mem_cons_of_mem _ (List.mem_append_left _ (List.mem_append_left _ (List.mem_append_left _ (List.mem_append_left _ (List.mem_append_right _ h)))))
  have hP : va_P D vwCl (ws_CY cs a σ) s.heap := hP
  have hl := lv_entry ([.ref (a 0), .int p1]) (n := 2) (Nat.le_of_ble_eq_true rfl)
  rw [lg_entry_eq]
  generalize (lg_sl ([.ref (a 0), .int p1]) ++ List.replicate (2 - (lg_sl ([.ref (a 0), .int p1])).length) Slot.unset).toArray = ls at hl ⊢
  have hl : lv_has ls 2 [(0, .ref (a 0)), (1, .int p1)] := hl
  unfold w_C_lift at hw
  refine lv_iload_n hx hb dX3_lift_0 rfl (lv_at hl 1 rfl) ?_
  refine kSv (As := [.int p1]) (rest := []) ⟨hx, hb, hml, hown, hts⟩ (c0_C_requireStack l D cs a _ p1 hw) (va_cwS 1 hts gX3_lift_X3_requireStack rfl rfl rfl (by decide +kernel) ⟨Nat.le_of_ble_eq_true rfl, Nat.le_of_ble_eq_true rfl⟩) (pt_un_CY cs a σ) hK hP hD hS hA rfl hl.1 rfl (Nat.le_of_ble_eq_true rfl) dX3_lift_1 ⟨Nat.zero_le _, Nat.zero_le _⟩ (fun u1 H locs hw hP hD hS => ?_)
  have hP : va_P D vwCl (ws_CY cs a σ) H := hP
  have hD : va_D A (ws_CY cs a σ) := hD
  refine lv_aload_n hx hb dX3_lift_4 rfl (lv_at hl 0 rfl) ?_
  refine kVv (As := []) (rest := []) ⟨hx, hb, hml, hown, hts⟩ (c0_C_requireEmptyCrane l D cs a _ σ hw) (cwV 0 hts gX3_lift_X3_requireEmptyCrane rfl rfl rfl (by decide +kernel) ⟨Nat.le_of_ble_eq_true rfl, Nat.le_of_ble_eq_true rfl⟩) (pt_self_CY cs a σ) hK hP hD hS hA (ci := 3) rfl rfl rfl rfl hl.1 rfl (Nat.le_of_ble_eq_true rfl) dX3_lift_5 ⟨Nat.zero_le _, Nat.zero_le _⟩ (fun u5 H locs hw hP hD hS => ?_)
  have hP : va_P D vwCl (ws_CY cs a u5) H := hP
  have hD : va_D A (ws_CY cs a u5) := hD
  refine lv_aload_n hx hb dX3_lift_8 rfl (lv_at hl 0 rfl) ?_
  refine va_get (D := D) (ci := 3) (v := .ref (a 1)) (C := RX3) (T := TX3) (N := 12) hx hb hts hinX3 hown hK hP 0 rfl rfl 0 (by decide) hf10 (fun _ h9 => h9) rfl dX3_lift_9 ?_
  refine lv_iload_n hx hb dX3_lift_12 rfl (lv_at hl 1 rfl) ?_
  refine kVi (As := [.int p1]) (rest := []) ⟨hx, hb, hml, hown, hts⟩ (c_S_heightOf l D cs (sh a 1) _ (g_CY_st u5) p1 hw) (cwV 1 hts gX3_lift_X1_heightOf rfl rfl rfl (by decide +kernel) ⟨Nat.le_of_ble_eq_true rfl, Nat.le_of_ble_eq_true rfl⟩) (pt_CY_st cs a u5) hK hP hD hS hA (ci := 1) rfl rfl rfl rfl hl.1 rfl (Nat.le_of_ble_eq_true rfl) dX3_lift_13 ⟨Nat.zero_le _, Nat.zero_le _⟩ (fun r13 u13 H locs hw hP hD hS => ?_)
  have hP : va_P D vwCl (ws_CY cs a (s_CY_st u5 u13)) H := hP
  have hD : va_D A (ws_CY cs a (s_CY_st u5 u13)) := hD
  refine lv_if_ne (tgt := 29) hx hb dX3_lift_16 (by decide) (fun c16 => ?_) (fun c16 => ?_)
  · have hw := hw.2 c16
    refine lv_aload_n hx hb dX3_lift_29 rfl (lv_at hl 0 rfl) ?_
    refine lv_aload_n hx hb dX3_lift_30 rfl (lv_at hl 0 rfl) ?_
    refine va_get (D := D) (ci := 3) (v := .ref (a 1)) (C := RX3) (T := TX3) (N := 12) hx hb hts hinX3 hown hK hP 0 rfl rfl 0 (by decide) hf10 (fun _ h9 => h9) rfl dX3_lift_31 ?_
    refine lv_iload_n hx hb dX3_lift_34 rfl (lv_at hl 1 rfl) ?_
    refine kVi (As := [.int p1]) (rest := [.ref (a 0)]) ⟨hx, hb, hml, hown, hts⟩ (c_S_takeTop l D cs (sh a 1) _ (g_CY_st (s_CY_st u5 u13)) p1 hw) (cwV 1 hts gX3_lift_X1_takeTop rfl rfl rfl (by decide +kernel) ⟨Nat.le_of_ble_eq_true rfl, Nat.le_of_ble_eq_true rfl⟩) (pt_CY_st cs a (s_CY_st u5 u13)) hK hP hD hS hA (ci := 1) rfl rfl rfl rfl hl.1 rfl (Nat.le_of_ble_eq_true rfl) dX3_lift_35 ⟨Nat.zero_le _, Nat.zero_le _⟩ (fun r35 u35 H locs hw hP hD hS => ?_)
    have hP : va_P D vwCl (ws_CY cs a (s_CY_st (s_CY_st u5 u13) u35)) H := hP
    have hD : va_D A (ws_CY cs a (s_CY_st (s_CY_st u5 u13) u35)) := hD
    refine va_put (D := D) (ci := 3) (v := .int r35) (ty := .int) (C := RX3) (T := TX3) (N := 12) hx hb hts hinX3 tyX3 tyX3_ok nmX3 hown hK hP hD hS 0 rfl rfl 7 (by decide) hf44 (fun _ h9 => h9) rfl (by decide +kernel) rfl rfl (Nat.le_of_ble_eq_true rfl) dX3_lift_38 (fun H locs hP hD hS => ?_)
    have hP : va_P D vwCl (ws_CY cs a (s_CY_craneCrate (s_CY_st (s_CY_st u5 u13) u35) r35)) H := hP
    have hD : va_D A (ws_CY cs a (s_CY_craneCrate (s_CY_st (s_CY_st u5 u13) u35) r35)) := hD
    obtain ⟨z1, ez1⟩ : ∃ z : CY, z = (s_CY_craneCrate (s_CY_st (s_CY_st u5 u13) u35) r35) := ⟨_, rfl⟩
    have hw := hw z1 ez1
    rw [← ez1] at hP hD
    refine lv_aload_n hx hb dX3_lift_41 rfl (lv_at hl 0 rfl) ?_
    refine lv_dup hx hb dX3_lift_42 rfl ?_
    refine va_get (D := D) (ci := 3) (v := .int (g_CY_liftCount z1)) (C := RX3) (T := TX3) (N := 12) hx hb hts hinX3 hown hK hP 0 rfl rfl 8 (by decide) hf47 (fun _ h9 => h9) rfl dX3_lift_43 ?_
    refine lv_iconst (v := (1 : Int32)) hx hb dX3_lift_46 (by decide) ?_
    refine lv_iadd hx hb dX3_lift_47 ?_
    refine lv_topi (fun y2 ey2 => ?_)
    have hw := hw y2 ey2
    refine va_put (D := D) (ci := 3) (v := .int y2) (ty := .int) (C := RX3) (T := TX3) (N := 12) hx hb hts hinX3 tyX3 tyX3_ok nmX3 hown hK hP hD hS 0 rfl rfl 8 (by decide) hf47 (fun _ h9 => h9) rfl (by decide +kernel) rfl rfl (Nat.le_of_ble_eq_true rfl) dX3_lift_48 (fun H locs hP hD hS => ?_)
    have hP : va_P D vwCl (ws_CY cs a (s_CY_liftCount z1 y2)) H := hP
    have hD : va_D A (ws_CY cs a (s_CY_liftCount z1 y2)) := hD
    obtain ⟨z3, ez3⟩ : ∃ z : CY, z = (s_CY_liftCount z1 y2) := ⟨_, rfl⟩
    have hw := hw z3 ez3
    rw [← ez3] at hP hD
    refine lv_aload_n hx hb dX3_lift_51 rfl (lv_at hl 0 rfl) ?_
    refine kVv (As := []) (rest := []) ⟨hx, hb, hml, hown, hts⟩ (c_C_payWords l D cs a _ z3 hw) (cwV 0 hts gX3_lift_X3_payWords rfl rfl rfl (by decide +kernel) ⟨Nat.le_of_ble_eq_true rfl, Nat.le_of_ble_eq_true rfl⟩) (pt_self_CY cs a z3) hK hP hD hS hA (ci := 3) rfl rfl rfl rfl hl.1 rfl (Nat.le_of_ble_eq_true rfl) dX3_lift_52 ⟨Nat.zero_le _, Nat.zero_le _⟩ (fun u52 H locs hw hP hD hS => ?_)
    have hP : va_P D vwCl (ws_CY cs a u52) H := hP
    have hD : va_D A (ws_CY cs a u52) := hD
    refine lv_aload_n hx hb dX3_lift_55 rfl (lv_at hl 0 rfl) ?_
    refine va_get (D := D) (ci := 3) (v := .int (g_CY_craneCrate u52)) (C := RX3) (T := TX3) (N := 12) hx hb hts hinX3 hown hK hP 0 rfl rfl 7 (by decide) hf44 (fun _ h9 => h9) rfl dX3_lift_56 ?_
    exact rI (wf := (ws_CY cs a)) (u := u52) hx hb hr hlocks hK hP hD hS hw dX3_lift_59
  · have hw := hw.1 c16
    exact (show False from hw).elim
abbrev rm0_C_requireFullCrane : Room := { frames := 6, cells := 0, slots := 0, locals := 92 }
set_option maxHeartbeats 4000000 in
set_option maxRecDepth 100000 in
theorem c0_C_requireFullCrane (l : Launch) (D : va_G) (cs : CS) (a : Nat → Nat) (sz : Nat) (σ : CY) {Φ : CY → Prop} (hw : w_C_requireFullCrane σ Φ (fun _ _ => False)) : Met l yX3_requireFullCrane wsX3_requireFullCrane rm0_C_requireFullCrane (PcG [.ref (a 0)] D cs (ws_CY cs a σ) sz) (va_Qv Φ (BG D cs (va_A (ws_CY cs a σ) sz) sz (ws_CY cs a)) (va_A (ws_CY cs a σ) sz)) 0 0 (va_A (ws_CY cs a σ) sz) := by
  refine Met.ofW (cc := cX3_requireFullCrane) (maxL := 1) (ret := none) (by decide) rfl ?_
  intro p e s m args below meth c s₁ B hml hv
  obtain ⟨rfl, hsz, hP, hK, hD0⟩ := hv
  have hx := B.exec
  have hb := B.bytes
  have hr := B.returns
  have hts := atoms_spec (ws := wsX3_requireFullCrane) B.pre
  have hown : s.vm.findClass RX3 = some m.cls := findClass_of_methodNamed B.named
  have hlocks := B.notSynchronized
  subst hsz
  have hD := hD0.self (sz := s.heap.size)
  generalize hAe : va_A (ws_CY cs a σ) s.heap.size = A at hD ⊢
  have hA : ∀ q : Nat, s.heap.size ≤ q → A q := fun q h => by rw [← hAe]; exact Or.inr h
  have hS : va_S A s.heap s.heap [] := va_S.rf
  have hf44 : (Cond.fieldLink RX3 44 "CraneYard" "craneCrate" "I").before ([.ref (a 0)] : List Value).toArray s = true := hts _ (List.mem_of_getElem? (i := 3) rfl)
  have hinX3 : ∀ w ∈ wsX30, w ∈ wsX3_requireFullCrane := fun _ h => List.mem_cons_of_mem _ (List.mem_append_left _ (List.mem_append_right _ h))
  have hP : va_P D vwCl (ws_CY cs a σ) s.heap := hP
  have hl := lv_entry ([.ref (a 0)]) (n := 1) (Nat.le_of_ble_eq_true rfl)
  rw [lg_entry_eq]
  generalize (lg_sl ([.ref (a 0)]) ++ List.replicate (1 - (lg_sl ([.ref (a 0)])).length) Slot.unset).toArray = ls at hl ⊢
  have hl : lv_has ls 1 [(0, .ref (a 0))] := hl
  unfold w_C_requireFullCrane at hw
  refine lv_aload_n hx hb dX3_requireFullCrane_0 rfl (lv_at hl 0 rfl) ?_
  refine va_get (D := D) (ci := 3) (v := .int (g_CY_craneCrate σ)) (C := RX3) (T := TX3) (N := 12) hx hb hts hinX3 hown hK hP 0 rfl rfl 7 (by decide) hf44 (fun _ h9 => h9) rfl dX3_requireFullCrane_1 ?_
  refine lv_iconst (v := (-1 : Int32)) hx hb dX3_requireFullCrane_4 (by decide) ?_
  refine lv_icmp_ne (tgt := 18) hx hb dX3_requireFullCrane_5 (by decide) (fun c5 => ?_) (fun c5 => ?_)
  · have hw := hw.2 c5
    exact rV (wf := (ws_CY cs a)) (u := σ) hx hb hr hlocks hK hP hD hS hw dX3_requireFullCrane_18
  · have hw := hw.1 c5
    exact (show False from hw).elim
abbrev rm0_C_drop : Room := { frames := 7, cells := 0, slots := 0, locals := 114 }
set_option maxHeartbeats 4000000 in
set_option maxRecDepth 100000 in
theorem c0_C_drop (l : Launch) (D : va_G) (cs : CS) (a : Nat → Nat) (sz : Nat) (σ : CY) (p1 : Int32) {Φ : Int32 → CY → Prop} (hw : w_C_drop σ p1 Φ (fun _ _ => False)) : Met l yX3_drop wsX3_drop rm0_C_drop (PcG [.ref (a 0), .int p1] D cs (ws_CY cs a σ) sz) (va_Qi Φ (BG D cs (va_A (ws_CY cs a σ) sz) sz (ws_CY cs a)) (va_A (ws_CY cs a σ) sz)) 0 0 (va_A (ws_CY cs a σ) sz) := by
  refine Met.ofW (cc := cX3_drop) (maxL := 2) (ret := (some .int)) (by decide) rfl ?_
  intro p e s m args below meth c s₁ B hml hv
  obtain ⟨rfl, hsz, hP, hK, hD0⟩ := hv
  have hx := B.exec
  have hb := B.bytes
  have hr := B.returns
  have hts := atoms_spec (ws := wsX3_drop) B.pre
  have hown : s.vm.findClass RX3 = some m.cls := findClass_of_methodNamed B.named
  have hlocks := B.notSynchronized
  subst hsz
  have hD := hD0.self (sz := s.heap.size)
  generalize hAe : va_A (ws_CY cs a σ) s.heap.size = A at hD ⊢
  have hA : ∀ q : Nat, s.heap.size ≤ q → A q := fun q h => by rw [← hAe]; exact Or.inr h
  have hS : va_S A s.heap s.heap [] := va_S.rf
  have hf10 : (Cond.fieldLink RX3 10 "CraneYard" "stacks" "LCraneYard$Stacks;").before ([.ref (a 0), .int p1] : List Value).toArray s = true := hts _ (List.mem_of_getElem? (i := 1) rfl)
  have hf44 : (Cond.fieldLink RX3 44 "CraneYard" "craneCrate" "I").before ([.ref (a 0), .int p1] : List Value).toArray s = true := hts _ (List.mem_of_getElem? (i := 2) rfl)
  have hinX3 : ∀ w ∈ wsX30, w ∈ wsX3_drop := fun _ h => List.mem_cons_of_mem _ (List.mem_append_left _ (List.mem_append_left _ (List.mem_append_left _ (List.mem_append_left _ (List.mem_append_right _ h)))))
  have hP : va_P D vwCl (ws_CY cs a σ) s.heap := hP
  have hl := lv_entry ([.ref (a 0), .int p1]) (n := 2) (Nat.le_of_ble_eq_true rfl)
  rw [lg_entry_eq]
  generalize (lg_sl ([.ref (a 0), .int p1]) ++ List.replicate (2 - (lg_sl ([.ref (a 0), .int p1])).length) Slot.unset).toArray = ls at hl ⊢
  have hl : lv_has ls 2 [(0, .ref (a 0)), (1, .int p1)] := hl
  unfold w_C_drop at hw
  refine lv_iload_n hx hb dX3_drop_0 rfl (lv_at hl 1 rfl) ?_
  refine kSv (As := [.int p1]) (rest := []) ⟨hx, hb, hml, hown, hts⟩ (c0_C_requireStack l D cs a _ p1 hw) (va_cwS 1 hts gX3_drop_X3_requireStack rfl rfl rfl (by decide +kernel) ⟨Nat.le_of_ble_eq_true rfl, Nat.le_of_ble_eq_true rfl⟩) (pt_un_CY cs a σ) hK hP hD hS hA rfl hl.1 rfl (Nat.le_of_ble_eq_true rfl) dX3_drop_1 ⟨Nat.zero_le _, Nat.zero_le _⟩ (fun u1 H locs hw hP hD hS => ?_)
  have hP : va_P D vwCl (ws_CY cs a σ) H := hP
  have hD : va_D A (ws_CY cs a σ) := hD
  refine lv_aload_n hx hb dX3_drop_4 rfl (lv_at hl 0 rfl) ?_
  refine kVv (As := []) (rest := []) ⟨hx, hb, hml, hown, hts⟩ (c0_C_requireFullCrane l D cs a _ σ hw) (cwV 0 hts gX3_drop_X3_requireFullCrane rfl rfl rfl (by decide +kernel) ⟨Nat.le_of_ble_eq_true rfl, Nat.le_of_ble_eq_true rfl⟩) (pt_self_CY cs a σ) hK hP hD hS hA (ci := 3) rfl rfl rfl rfl hl.1 rfl (Nat.le_of_ble_eq_true rfl) dX3_drop_5 ⟨Nat.zero_le _, Nat.zero_le _⟩ (fun u5 H locs hw hP hD hS => ?_)
  have hP : va_P D vwCl (ws_CY cs a u5) H := hP
  have hD : va_D A (ws_CY cs a u5) := hD
  refine lv_aload_n hx hb dX3_drop_8 rfl (lv_at hl 0 rfl) ?_
  refine lv_iload_n hx hb dX3_drop_9 rfl (lv_at hl 1 rfl) ?_
  refine lv_aload_n hx hb dX3_drop_10 rfl (lv_at hl 0 rfl) ?_
  refine va_get (D := D) (ci := 3) (v := .ref (a 1)) (C := RX3) (T := TX3) (N := 12) hx hb hts hinX3 hown hK hP 0 rfl rfl 0 (by decide) hf10 (fun _ h9 => h9) rfl dX3_drop_11 ?_
  refine lv_aload_n hx hb dX3_drop_14 rfl (lv_at hl 0 rfl) ?_
  refine va_get (D := D) (ci := 3) (v := .int (g_CY_craneCrate u5)) (C := RX3) (T := TX3) (N := 12) hx hb hts hinX3 hown hK hP 0 rfl rfl 7 (by decide) hf44 (fun _ h9 => h9) rfl dX3_drop_15 ?_
  refine kVi (As := [.int (g_CY_craneCrate u5)]) (rest := [.int p1, .ref (a 0)]) ⟨hx, hb, hml, hown, hts⟩ (c_S_weightOf l D cs (sh a 1) _ (g_CY_st u5) (g_CY_craneCrate u5) hw) (cwV 1 hts gX3_drop_X1_weightOf rfl rfl rfl (by decide +kernel) ⟨Nat.le_of_ble_eq_true rfl, Nat.le_of_ble_eq_true rfl⟩) (pt_CY_st cs a u5) hK hP hD hS hA (ci := 1) rfl rfl rfl rfl hl.1 rfl (Nat.le_of_ble_eq_true rfl) dX3_drop_18 ⟨Nat.zero_le _, Nat.zero_le _⟩ (fun r18 u18 H locs hw hP hD hS => ?_)
  have hP : va_P D vwCl (ws_CY cs a (s_CY_st u5 u18)) H := hP
  have hD : va_D A (ws_CY cs a (s_CY_st u5 u18)) := hD
  refine kVv (As := [.int p1, .int r18]) (rest := []) ⟨hx, hb, hml, hown, hts⟩ (c0_C_requireRoom l D cs a _ (s_CY_st u5 u18) p1 r18 hw) (cwV 2 hts gX3_drop_X3_requireRoom rfl rfl rfl (by decide +kernel) ⟨Nat.le_of_ble_eq_true rfl, Nat.le_of_ble_eq_true rfl⟩) (pt_self_CY cs a (s_CY_st u5 u18)) hK hP hD hS hA (ci := 3) rfl rfl rfl rfl hl.1 rfl (Nat.le_of_ble_eq_true rfl) dX3_drop_21 ⟨Nat.zero_le _, Nat.zero_le _⟩ (fun u21 H locs hw hP hD hS => ?_)
  have hP : va_P D vwCl (ws_CY cs a u21) H := hP
  have hD : va_D A (ws_CY cs a u21) := hD
  refine lv_aload_n hx hb dX3_drop_24 rfl (lv_at hl 0 rfl) ?_
  refine va_get (D := D) (ci := 3) (v := .ref (a 1)) (C := RX3) (T := TX3) (N := 12) hx hb hts hinX3 hown hK hP 0 rfl rfl 0 (by decide) hf10 (fun _ h9 => h9) rfl dX3_drop_25 ?_
  refine lv_iload_n hx hb dX3_drop_28 rfl (lv_at hl 1 rfl) ?_
  refine lv_aload_n hx hb dX3_drop_29 rfl (lv_at hl 0 rfl) ?_
  refine va_get (D := D) (ci := 3) (v := .int (g_CY_craneCrate u21)) (C := RX3) (T := TX3) (N := 12) hx hb hts hinX3 hown hK hP 0 rfl rfl 7 (by decide) hf44 (fun _ h9 => h9) rfl dX3_drop_30 ?_
  refine kVv (As := [.int p1, .int (g_CY_craneCrate u21)]) (rest := []) ⟨hx, hb, hml, hown, hts⟩ (c_S_put l D cs (sh a 1) _ (g_CY_st u21) p1 (g_CY_craneCrate u21) hw) (cwV 2 hts gX3_drop_X1_put rfl rfl rfl (by decide +kernel) ⟨Nat.le_of_ble_eq_true rfl, Nat.le_of_ble_eq_true rfl⟩) (pt_CY_st cs a u21) hK hP hD hS hA (ci := 1) rfl rfl rfl rfl hl.1 rfl (Nat.le_of_ble_eq_true rfl) dX3_drop_33 ⟨Nat.zero_le _, Nat.zero_le _⟩ (fun u33 H locs hw hP hD hS => ?_)
  have hP : va_P D vwCl (ws_CY cs a (s_CY_st u21 u33)) H := hP
  have hD : va_D A (ws_CY cs a (s_CY_st u21 u33)) := hD
  refine lv_aload_n hx hb dX3_drop_36 rfl (lv_at hl 0 rfl) ?_
  refine lv_iconst (v := (-1 : Int32)) hx hb dX3_drop_37 (by decide) ?_
  refine va_put (D := D) (ci := 3) (v := .int (-1 : Int32)) (ty := .int) (C := RX3) (T := TX3) (N := 12) hx hb hts hinX3 tyX3 tyX3_ok nmX3 hown hK hP hD hS 0 rfl rfl 7 (by decide) hf44 (fun _ h9 => h9) rfl (by decide +kernel) rfl rfl (Nat.le_of_ble_eq_true rfl) dX3_drop_38 (fun H locs hP hD hS => ?_)
  have hP : va_P D vwCl (ws_CY cs a (s_CY_craneCrate (s_CY_st u21 u33) (-1 : Int32))) H := hP
  have hD : va_D A (ws_CY cs a (s_CY_craneCrate (s_CY_st u21 u33) (-1 : Int32))) := hD
  obtain ⟨z1, ez1⟩ : ∃ z : CY, z = (s_CY_craneCrate (s_CY_st u21 u33) (-1 : Int32)) := ⟨_, rfl⟩
  have hw := hw z1 ez1
  rw [← ez1] at hP hD
  refine lv_aload_n hx hb dX3_drop_41 rfl (lv_at hl 0 rfl) ?_
  refine kVv (As := []) (rest := []) ⟨hx, hb, hml, hown, hts⟩ (c_C_payWords l D cs a _ z1 hw) (cwV 0 hts gX3_drop_X3_payWords rfl rfl rfl (by decide +kernel) ⟨Nat.le_of_ble_eq_true rfl, Nat.le_of_ble_eq_true rfl⟩) (pt_self_CY cs a z1) hK hP hD hS hA (ci := 3) rfl rfl rfl rfl hl.1 rfl (Nat.le_of_ble_eq_true rfl) dX3_drop_42 ⟨Nat.zero_le _, Nat.zero_le _⟩ (fun u42 H locs hw hP hD hS => ?_)
  have hP : va_P D vwCl (ws_CY cs a u42) H := hP
  have hD : va_D A (ws_CY cs a u42) := hD
  refine lv_aload_n hx hb dX3_drop_45 rfl (lv_at hl 0 rfl) ?_
  refine va_get (D := D) (ci := 3) (v := .ref (a 1)) (C := RX3) (T := TX3) (N := 12) hx hb hts hinX3 hown hK hP 0 rfl rfl 0 (by decide) hf10 (fun _ h9 => h9) rfl dX3_drop_46 ?_
  refine lv_iload_n hx hb dX3_drop_49 rfl (lv_at hl 1 rfl) ?_
  refine kVi (As := [.int p1]) (rest := []) ⟨hx, hb, hml, hown, hts⟩ (c_S_heightOf l D cs (sh a 1) _ (g_CY_st u42) p1 hw) (cwV 1 hts gX3_drop_X1_heightOf rfl rfl rfl (by decide +kernel) ⟨Nat.le_of_ble_eq_true rfl, Nat.le_of_ble_eq_true rfl⟩) (pt_CY_st cs a u42) hK hP hD hS hA (ci := 1) rfl rfl rfl rfl hl.1 rfl (Nat.le_of_ble_eq_true rfl) dX3_drop_50 ⟨Nat.zero_le _, Nat.zero_le _⟩ (fun r50 u50 H locs hw hP hD hS => ?_)
  have hP : va_P D vwCl (ws_CY cs a (s_CY_st u42 u50)) H := hP
  have hD : va_D A (ws_CY cs a (s_CY_st u42 u50)) := hD
  exact rI (wf := (ws_CY cs a)) (u := (s_CY_st u42 u50)) hx hb hr hlocks hK hP hD hS hw dX3_drop_53
abbrev rm0_C_requireCrate : Room := { frames := 6, cells := 0, slots := 0, locals := 92 }
set_option maxHeartbeats 4000000 in
set_option maxRecDepth 100000 in
theorem c0_C_requireCrate (l : Launch) (D : va_G) (cs : CS) (a : Nat → Nat) (sz : Nat) (σ : CY) (p1 : Int32) {Φ : CY → Prop} (hw : w_C_requireCrate σ p1 Φ (fun _ _ => False)) : Met l yX3_requireCrate wsX3_requireCrate rm0_C_requireCrate (PcG [.ref (a 0), .int p1] D cs (ws_CY cs a σ) sz) (va_Qv Φ (BG D cs (va_A (ws_CY cs a σ) sz) sz (ws_CY cs a)) (va_A (ws_CY cs a σ) sz)) 0 0 (va_A (ws_CY cs a σ) sz) := by
  refine Met.ofW (cc := cX3_requireCrate) (maxL := 2) (ret := none) (by decide) rfl ?_
  intro p e s m args below meth c s₁ B hml hv
  obtain ⟨rfl, hsz, hP, hK, hD0⟩ := hv
  have hx := B.exec
  have hb := B.bytes
  have hr := B.returns
  have hts := atoms_spec (ws := wsX3_requireCrate) B.pre
  have hown : s.vm.findClass RX3 = some m.cls := findClass_of_methodNamed B.named
  have hlocks := B.notSynchronized
  subst hsz
  have hD := hD0.self (sz := s.heap.size)
  generalize hAe : va_A (ws_CY cs a σ) s.heap.size = A at hD ⊢
  have hA : ∀ q : Nat, s.heap.size ≤ q → A q := fun q h => by rw [← hAe]; exact Or.inr h
  have hS : va_S A s.heap s.heap [] := va_S.rf
  have hf40 : (Cond.fieldLink RX3 40 "CraneYard" "crateCount" "I").before ([.ref (a 0), .int p1] : List Value).toArray s = true := hts _ (List.mem_of_getElem? (i := 3) rfl)
  have hinX3 : ∀ w ∈ wsX30, w ∈ wsX3_requireCrate := fun _ h => List.mem_cons_of_mem _ (List.mem_append_left _ (List.mem_append_right _ h))
  have hP : va_P D vwCl (ws_CY cs a σ) s.heap := hP
  have B12 : ∀ (σ : CY), b_C_requireCrate_12 Φ (fun _ _ => False) σ → At p l e (headSpec wsX3_requireCrate rm0_C_requireCrate).room s m ([.ref (a 0), .int p1] : List Value).toArray below meth c (MQ below (va_Qv Φ (BG D cs A s.heap.size (ws_CY cs a)) A) ([.ref (a 0), .int p1] : List Value).toArray s 0 0 A) D A 2 [] (ws_CY cs a σ) 12 [] := by
    intro σ hw H locs ls hl hP hD hS
    unfold b_C_requireCrate_12 at hw
    exact (show False from hw).elim
  have hl := lv_entry ([.ref (a 0), .int p1]) (n := 2) (Nat.le_of_ble_eq_true rfl)
  rw [lg_entry_eq]
  generalize (lg_sl ([.ref (a 0), .int p1]) ++ List.replicate (2 - (lg_sl ([.ref (a 0), .int p1])).length) Slot.unset).toArray = ls at hl ⊢
  have hl : lv_has ls 2 [(0, .ref (a 0)), (1, .int p1)] := hl
  unfold w_C_requireCrate at hw
  refine lv_iload_n hx hb dX3_requireCrate_0 rfl (lv_at hl 1 rfl) ?_
  refine lv_if_lt (tgt := 12) hx hb dX3_requireCrate_1 (by decide) (fun c1 => ?_) (fun c1 => ?_)
  · have hw := hw.1 c1
    exact B12 _ hw _ _ ls (lv_sub hl [] rfl) hP hD hS
  · have hw := hw.2 c1
    refine lv_iload_n hx hb dX3_requireCrate_4 rfl (lv_at hl 1 rfl) ?_
    refine lv_aload_n hx hb dX3_requireCrate_5 rfl (lv_at hl 0 rfl) ?_
    refine va_get (D := D) (ci := 3) (v := .int (g_CY_crateCount σ)) (C := RX3) (T := TX3) (N := 12) hx hb hts hinX3 hown hK hP 0 rfl rfl 6 (by decide) hf40 (fun _ h9 => h9) rfl dX3_requireCrate_6 ?_
    refine lv_icmp_lt (tgt := 22) hx hb dX3_requireCrate_9 (by decide) (fun c9 => ?_) (fun c9 => ?_)
    · have hw := hw.1 c9
      exact rV (wf := (ws_CY cs a)) (u := σ) hx hb hr hlocks hK hP hD hS hw dX3_requireCrate_22
    · have hw := hw.2 c9
      exact B12 _ hw _ _ ls (lv_sub hl [] rfl) hP hD hS
abbrev rm0_C_requireInStack : Room := { frames := 6, cells := 0, slots := 0, locals := 92 }
set_option maxHeartbeats 4000000 in
set_option maxRecDepth 100000 in
theorem c0_C_requireInStack (l : Launch) (D : va_G) (cs : CS) (a : Nat → Nat) (sz : Nat) (σ : CY) (p1 : Int32) {Φ : CY → Prop} (hw : w_C_requireInStack σ p1 Φ (fun _ _ => False)) : Met l yX3_requireInStack wsX3_requireInStack rm0_C_requireInStack (PcG [.ref (a 0), .int p1] D cs (ws_CY cs a σ) sz) (va_Qv Φ (BG D cs (va_A (ws_CY cs a σ) sz) sz (ws_CY cs a)) (va_A (ws_CY cs a σ) sz)) 0 0 (va_A (ws_CY cs a σ) sz) := by
  refine Met.ofW (cc := cX3_requireInStack) (maxL := 2) (ret := none) (by decide) rfl ?_
  intro p e s m args below meth c s₁ B hml hv
  obtain ⟨rfl, hsz, hP, hK, hD0⟩ := hv
  have hx := B.exec
  have hb := B.bytes
  have hr := B.returns
  have hts := atoms_spec (ws := wsX3_requireInStack) B.pre
  have hown : s.vm.findClass RX3 = some m.cls := findClass_of_methodNamed B.named
  have hlocks := B.notSynchronized
  subst hsz
  have hD := hD0.self (sz := s.heap.size)
  generalize hAe : va_A (ws_CY cs a σ) s.heap.size = A at hD ⊢
  have hA : ∀ q : Nat, s.heap.size ≤ q → A q := fun q h => by rw [← hAe]; exact Or.inr h
  have hS : va_S A s.heap s.heap [] := va_S.rf
  have hf10 : (Cond.fieldLink RX3 10 "CraneYard" "stacks" "LCraneYard$Stacks;").before ([.ref (a 0), .int p1] : List Value).toArray s = true := hts _ (List.mem_of_getElem? (i := 3) rfl)
  have hinX3 : ∀ w ∈ wsX30, w ∈ wsX3_requireInStack := fun _ h => List.mem_cons_of_mem _ (List.mem_append_left _ (List.mem_append_left _ (List.mem_append_right _ h)))
  have hP : va_P D vwCl (ws_CY cs a σ) s.heap := hP
  have hl := lv_entry ([.ref (a 0), .int p1]) (n := 2) (Nat.le_of_ble_eq_true rfl)
  rw [lg_entry_eq]
  generalize (lg_sl ([.ref (a 0), .int p1]) ++ List.replicate (2 - (lg_sl ([.ref (a 0), .int p1])).length) Slot.unset).toArray = ls at hl ⊢
  have hl : lv_has ls 2 [(0, .ref (a 0)), (1, .int p1)] := hl
  unfold w_C_requireInStack at hw
  refine lv_aload_n hx hb dX3_requireInStack_0 rfl (lv_at hl 0 rfl) ?_
  refine va_get (D := D) (ci := 3) (v := .ref (a 1)) (C := RX3) (T := TX3) (N := 12) hx hb hts hinX3 hown hK hP 0 rfl rfl 0 (by decide) hf10 (fun _ h9 => h9) rfl dX3_requireInStack_1 ?_
  refine lv_iload_n hx hb dX3_requireInStack_4 rfl (lv_at hl 1 rfl) ?_
  refine kVi (As := [.int p1]) (rest := []) ⟨hx, hb, hml, hown, hts⟩ (c_S_stackHolding l D cs (sh a 1) _ (g_CY_st σ) p1 hw) (cwV 1 hts gX3_requireInStack_X1_stackHolding rfl rfl rfl (by decide +kernel) ⟨Nat.le_of_ble_eq_true rfl, Nat.le_of_ble_eq_true rfl⟩) (pt_CY_st cs a σ) hK hP hD hS hA (ci := 1) rfl rfl rfl rfl hl.1 rfl (Nat.le_of_ble_eq_true rfl) dX3_requireInStack_5 ⟨Nat.zero_le _, Nat.zero_le _⟩ (fun r5 u5 H locs hw hP hD hS => ?_)
  have hP : va_P D vwCl (ws_CY cs a (s_CY_st σ u5)) H := hP
  have hD : va_D A (ws_CY cs a (s_CY_st σ u5)) := hD
  refine lv_iconst (v := (-1 : Int32)) hx hb dX3_requireInStack_8 (by decide) ?_
  refine lv_icmp_ne (tgt := 22) hx hb dX3_requireInStack_9 (by decide) (fun c9 => ?_) (fun c9 => ?_)
  · have hw := hw.2 c9
    exact rV (wf := (ws_CY cs a)) (u := (s_CY_st σ u5)) hx hb hr hlocks hK hP hD hS hw dX3_requireInStack_22
  · have hw := hw.1 c9
    exact (show False from hw).elim
abbrev rm0_C_dig : Room := { frames := 7, cells := 0, slots := 0, locals := 118 }
set_option maxHeartbeats 4000000 in
set_option maxRecDepth 100000 in
theorem c0_C_dig (l : Launch) (D : va_G) (cs : CS) (a : Nat → Nat) (sz : Nat) (σ : CY) (p1 : Int32) {Φ : Int32 → CY → Prop} (hw : w_C_dig σ p1 Φ (fun _ _ => False)) : Met l yX3_dig wsX3_dig rm0_C_dig (PcG [.ref (a 0), .int p1] D cs (ws_CY cs a σ) sz) (va_Qi Φ (BG D cs (va_A (ws_CY cs a σ) sz) sz (ws_CY cs a)) (va_A (ws_CY cs a σ) sz)) 0 0 (va_A (ws_CY cs a σ) sz) := by
  refine Met.ofW (cc := cX3_dig) (maxL := 3) (ret := (some .int)) (by decide) rfl ?_
  intro p e s m args below meth c s₁ B hml hv
  obtain ⟨rfl, hsz, hP, hK, hD0⟩ := hv
  have hx := B.exec
  have hb := B.bytes
  have hr := B.returns
  have hts := atoms_spec (ws := wsX3_dig) B.pre
  have hown : s.vm.findClass RX3 = some m.cls := findClass_of_methodNamed B.named
  have hlocks := B.notSynchronized
  subst hsz
  have hD := hD0.self (sz := s.heap.size)
  generalize hAe : va_A (ws_CY cs a σ) s.heap.size = A at hD ⊢
  have hA : ∀ q : Nat, s.heap.size ≤ q → A q := fun q h => by rw [← hAe]; exact Or.inr h
  have hS : va_S A s.heap s.heap [] := va_S.rf
  have hf10 : (Cond.fieldLink RX3 10 "CraneYard" "stacks" "LCraneYard$Stacks;").before ([.ref (a 0), .int p1] : List Value).toArray s = true := hts _ (List.mem_of_getElem? (i := 4) rfl)
  have hf16 : (Cond.fieldLink RX3 16 "CraneYard" "trial" "LCraneYard$Stacks;").before ([.ref (a 0), .int p1] : List Value).toArray s = true := hts _ (List.mem_of_getElem? (i := 3) rfl)
  have hf44 : (Cond.fieldLink RX3 44 "CraneYard" "craneCrate" "I").before ([.ref (a 0), .int p1] : List Value).toArray s = true := hts _ (List.mem_of_getElem? (i := 5) rfl)
  have hf47 : (Cond.fieldLink RX3 47 "CraneYard" "liftCount" "I").before ([.ref (a 0), .int p1] : List Value).toArray s = true := hts _ (List.mem_of_getElem? (i := 6) rfl)
  have hinX3 : ∀ w ∈ wsX30, w ∈ wsX3_dig := fun _ h => List.mem_cons_of_mem _ (List.mem_append_left _ (List.mem_append_left _ (List.mem_append_left _ (List.mem_append_left _ (List.mem_append_right _ h)))))
  have hP : va_P D vwCl (ws_CY cs a σ) s.heap := hP
  have hl := lv_entry ([.ref (a 0), .int p1]) (n := 3) (Nat.le_of_ble_eq_true rfl)
  rw [lg_entry_eq]
  generalize (lg_sl ([.ref (a 0), .int p1]) ++ List.replicate (3 - (lg_sl ([.ref (a 0), .int p1])).length) Slot.unset).toArray = ls at hl ⊢
  have hl : lv_has ls 3 [(0, .ref (a 0)), (1, .int p1)] := hl
  unfold w_C_dig at hw
  refine lv_aload_n hx hb dX3_dig_0 rfl (lv_at hl 0 rfl) ?_
  refine lv_iload_n hx hb dX3_dig_1 rfl (lv_at hl 1 rfl) ?_
  refine kVv (As := [.int p1]) (rest := []) ⟨hx, hb, hml, hown, hts⟩ (c0_C_requireCrate l D cs a _ σ p1 hw) (cwV 1 hts gX3_dig_X3_requireCrate rfl rfl rfl (by decide +kernel) ⟨Nat.le_of_ble_eq_true rfl, Nat.le_of_ble_eq_true rfl⟩) (pt_self_CY cs a σ) hK hP hD hS hA (ci := 3) rfl rfl rfl rfl hl.1 rfl (Nat.le_of_ble_eq_true rfl) dX3_dig_2 ⟨Nat.zero_le _, Nat.zero_le _⟩ (fun u2 H locs hw hP hD hS => ?_)
  have hP : va_P D vwCl (ws_CY cs a u2) H := hP
  have hD : va_D A (ws_CY cs a u2) := hD
  refine lv_aload_n hx hb dX3_dig_5 rfl (lv_at hl 0 rfl) ?_
  refine kVv (As := []) (rest := []) ⟨hx, hb, hml, hown, hts⟩ (c0_C_requireEmptyCrane l D cs a _ u2 hw) (cwV 0 hts gX3_dig_X3_requireEmptyCrane rfl rfl rfl (by decide +kernel) ⟨Nat.le_of_ble_eq_true rfl, Nat.le_of_ble_eq_true rfl⟩) (pt_self_CY cs a u2) hK hP hD hS hA (ci := 3) rfl rfl rfl rfl hl.1 rfl (Nat.le_of_ble_eq_true rfl) dX3_dig_6 ⟨Nat.zero_le _, Nat.zero_le _⟩ (fun u6 H locs hw hP hD hS => ?_)
  have hP : va_P D vwCl (ws_CY cs a u6) H := hP
  have hD : va_D A (ws_CY cs a u6) := hD
  refine lv_aload_n hx hb dX3_dig_9 rfl (lv_at hl 0 rfl) ?_
  refine lv_iload_n hx hb dX3_dig_10 rfl (lv_at hl 1 rfl) ?_
  refine kVv (As := [.int p1]) (rest := []) ⟨hx, hb, hml, hown, hts⟩ (c0_C_requireInStack l D cs a _ u6 p1 hw) (cwV 1 hts gX3_dig_X3_requireInStack rfl rfl rfl (by decide +kernel) ⟨Nat.le_of_ble_eq_true rfl, Nat.le_of_ble_eq_true rfl⟩) (pt_self_CY cs a u6) hK hP hD hS hA (ci := 3) rfl rfl rfl rfl hl.1 rfl (Nat.le_of_ble_eq_true rfl) dX3_dig_11 ⟨Nat.zero_le _, Nat.zero_le _⟩ (fun u11 H locs hw hP hD hS => ?_)
  have hP : va_P D vwCl (ws_CY cs a u11) H := hP
  have hD : va_D A (ws_CY cs a u11) := hD
  refine lv_aload_n hx hb dX3_dig_14 rfl (lv_at hl 0 rfl) ?_
  refine va_get (D := D) (ci := 3) (v := .ref (a 5)) (C := RX3) (T := TX3) (N := 12) hx hb hts hinX3 hown hK hP 0 rfl rfl 1 (by decide) hf16 (fun _ h9 => h9) rfl dX3_dig_15 ?_
  refine lv_aload_n hx hb dX3_dig_18 rfl (lv_at hl 0 rfl) ?_
  refine va_get (D := D) (ci := 3) (v := .ref (a 1)) (C := RX3) (T := TX3) (N := 12) hx hb hts hinX3 hown hK hP 0 rfl rfl 0 (by decide) hf10 (fun _ h9 => h9) rfl dX3_dig_19 ?_
  refine kVv (As := [.ref (a 1)]) (rest := []) ⟨hx, hb, hml, hown, hts⟩ (c_S_copyFrom l D cs (ad_CY_ts a) _ (gCY_ts u11) hw) (cwV 1 hts gX3_dig_X1_copyFrom rfl rfl rfl (by decide +kernel) ⟨Nat.le_of_ble_eq_true rfl, Nat.le_of_ble_eq_true rfl⟩) (pt_CY_ts cs a u11) hK hP hD hS hA (ci := 1) rfl rfl rfl rfl hl.1 rfl (Nat.le_of_ble_eq_true rfl) dX3_dig_22 ⟨Nat.zero_le _, Nat.zero_le _⟩ (fun u22 H locs hw hP hD hS => ?_)
  have hP : va_P D vwCl (ws_CY cs a (sCY_ts u11 u22)) H := hP
  have hD : va_D A (ws_CY cs a (sCY_ts u11 u22)) := hD
  refine lv_aload_n hx hb dX3_dig_25 rfl (lv_at hl 0 rfl) ?_
  refine va_get (D := D) (ci := 3) (v := .ref (a 5)) (C := RX3) (T := TX3) (N := 12) hx hb hts hinX3 hown hK hP 0 rfl rfl 1 (by decide) hf16 (fun _ h9 => h9) rfl dX3_dig_26 ?_
  refine lv_iload_n hx hb dX3_dig_29 rfl (lv_at hl 1 rfl) ?_
  refine lv_aload_n hx hb dX3_dig_30 rfl (lv_at hl 0 rfl) ?_
  refine kVi (As := []) (rest := [.int p1, .ref (a 5)]) ⟨hx, hb, hml, hown, hts⟩ (c_C_mostPlaces l D cs a _ (sCY_ts u11 u22) hw) (cwV 0 hts gX3_dig_X3_mostPlaces rfl rfl rfl (by decide +kernel) ⟨Nat.le_of_ble_eq_true rfl, Nat.le_of_ble_eq_true rfl⟩) (pt_self_CY cs a (sCY_ts u11 u22)) hK hP hD hS hA (ci := 3) rfl rfl rfl rfl hl.1 rfl (Nat.le_of_ble_eq_true rfl) dX3_dig_31 ⟨Nat.zero_le _, Nat.zero_le _⟩ (fun r31 u31 H locs hw hP hD hS => ?_)
  have hP : va_P D vwCl (ws_CY cs a u31) H := hP
  have hD : va_D A (ws_CY cs a u31) := hD
  refine kVi (As := [.int p1, .int r31]) (rest := []) ⟨hx, hb, hml, hown, hts⟩ (c_S_digOut l D cs (sh a 5) _ (g_CY_tr u31) p1 r31 hw) (cwV 2 hts gX3_dig_X1_digOut rfl rfl rfl (by decide +kernel) ⟨Nat.le_of_ble_eq_true rfl, Nat.le_of_ble_eq_true rfl⟩) (pt_CY_tr cs a u31) hK hP hD hS hA (ci := 1) rfl rfl rfl rfl hl.1 rfl (Nat.le_of_ble_eq_true rfl) dX3_dig_34 ⟨Nat.zero_le _, Nat.zero_le _⟩ (fun r34 u34 H locs hw hP hD hS => ?_)
  have hP : va_P D vwCl (ws_CY cs a (s_CY_tr u31 u34)) H := hP
  have hD : va_D A (ws_CY cs a (s_CY_tr u31 u34)) := hD
  refine lv_istore_n (lv' := [(2, .int r34), (0, .ref (a 0)), (1, .int p1)]) hx hb dX3_dig_37 rfl hl (by decide) rfl (fun ls hl => ?_)
  refine lv_iload_n hx hb dX3_dig_38 rfl (lv_at hl 0 rfl) ?_
  refine lv_iconst (v := (-1 : Int32)) hx hb dX3_dig_39 (by decide) ?_
  refine lv_icmp_ne (tgt := 53) hx hb dX3_dig_40 (by decide) (fun c40 => ?_) (fun c40 => ?_)
  · have hw := hw.2 c40
    refine lv_aload_n hx hb dX3_dig_53 rfl (lv_at hl 1 rfl) ?_
    refine va_get (D := D) (ci := 3) (v := .ref (a 1)) (C := RX3) (T := TX3) (N := 12) hx hb hts hinX3 hown hK hP 0 rfl rfl 0 (by decide) hf10 (fun _ h9 => h9) rfl dX3_dig_54 ?_
    refine lv_aload_n hx hb dX3_dig_57 rfl (lv_at hl 1 rfl) ?_
    refine va_get (D := D) (ci := 3) (v := .ref (a 5)) (C := RX3) (T := TX3) (N := 12) hx hb hts hinX3 hown hK hP 0 rfl rfl 1 (by decide) hf16 (fun _ h9 => h9) rfl dX3_dig_58 ?_
    refine kVv (As := [.ref (a 5)]) (rest := []) ⟨hx, hb, hml, hown, hts⟩ (c_S_copyFrom l D cs (sh a 1) _ (gCY_st2 (s_CY_tr u31 u34)) hw) (cwV 1 hts gX3_dig_X1_copyFrom rfl rfl rfl (by decide +kernel) ⟨Nat.le_of_ble_eq_true rfl, Nat.le_of_ble_eq_true rfl⟩) (pt_CY_st2 cs a (s_CY_tr u31 u34)) hK hP hD hS hA (ci := 1) rfl rfl rfl rfl hl.1 rfl (Nat.le_of_ble_eq_true rfl) dX3_dig_61 ⟨Nat.zero_le _, Nat.zero_le _⟩ (fun u61 H locs hw hP hD hS => ?_)
    have hP : va_P D vwCl (ws_CY cs a (sCY_st2 (s_CY_tr u31 u34) u61)) H := hP
    have hD : va_D A (ws_CY cs a (sCY_st2 (s_CY_tr u31 u34) u61)) := hD
    refine lv_aload_n hx hb dX3_dig_64 rfl (lv_at hl 1 rfl) ?_
    refine lv_iload_n hx hb dX3_dig_65 rfl (lv_at hl 2 rfl) ?_
    refine va_put (D := D) (ci := 3) (v := .int p1) (ty := .int) (C := RX3) (T := TX3) (N := 12) hx hb hts hinX3 tyX3 tyX3_ok nmX3 hown hK hP hD hS 0 rfl rfl 7 (by decide) hf44 (fun _ h9 => h9) rfl (by decide +kernel) rfl rfl (Nat.le_of_ble_eq_true rfl) dX3_dig_66 (fun H locs hP hD hS => ?_)
    have hP : va_P D vwCl (ws_CY cs a (s_CY_craneCrate (sCY_st2 (s_CY_tr u31 u34) u61) p1)) H := hP
    have hD : va_D A (ws_CY cs a (s_CY_craneCrate (sCY_st2 (s_CY_tr u31 u34) u61) p1)) := hD
    obtain ⟨z1, ez1⟩ : ∃ z : CY, z = (s_CY_craneCrate (sCY_st2 (s_CY_tr u31 u34) u61) p1) := ⟨_, rfl⟩
    have hw := hw z1 ez1
    rw [← ez1] at hP hD
    refine lv_aload_n hx hb dX3_dig_69 rfl (lv_at hl 1 rfl) ?_
    refine lv_dup hx hb dX3_dig_70 rfl ?_
    refine va_get (D := D) (ci := 3) (v := .int (g_CY_liftCount z1)) (C := RX3) (T := TX3) (N := 12) hx hb hts hinX3 hown hK hP 0 rfl rfl 8 (by decide) hf47 (fun _ h9 => h9) rfl dX3_dig_71 ?_
    refine lv_iload_n hx hb dX3_dig_74 rfl (lv_at hl 0 rfl) ?_
    refine lv_iadd hx hb dX3_dig_75 ?_
    refine lv_topi (fun y2 ey2 => ?_)
    have hw := hw y2 ey2
    refine va_put (D := D) (ci := 3) (v := .int y2) (ty := .int) (C := RX3) (T := TX3) (N := 12) hx hb hts hinX3 tyX3 tyX3_ok nmX3 hown hK hP hD hS 0 rfl rfl 8 (by decide) hf47 (fun _ h9 => h9) rfl (by decide +kernel) rfl rfl (Nat.le_of_ble_eq_true rfl) dX3_dig_76 (fun H locs hP hD hS => ?_)
    have hP : va_P D vwCl (ws_CY cs a (s_CY_liftCount z1 y2)) H := hP
    have hD : va_D A (ws_CY cs a (s_CY_liftCount z1 y2)) := hD
    obtain ⟨z3, ez3⟩ : ∃ z : CY, z = (s_CY_liftCount z1 y2) := ⟨_, rfl⟩
    have hw := hw z3 ez3
    rw [← ez3] at hP hD
    refine lv_aload_n hx hb dX3_dig_79 rfl (lv_at hl 1 rfl) ?_
    refine kVv (As := []) (rest := []) ⟨hx, hb, hml, hown, hts⟩ (c_C_payWords l D cs a _ z3 hw) (cwV 0 hts gX3_dig_X3_payWords rfl rfl rfl (by decide +kernel) ⟨Nat.le_of_ble_eq_true rfl, Nat.le_of_ble_eq_true rfl⟩) (pt_self_CY cs a z3) hK hP hD hS hA (ci := 3) rfl rfl rfl rfl hl.1 rfl (Nat.le_of_ble_eq_true rfl) dX3_dig_80 ⟨Nat.zero_le _, Nat.zero_le _⟩ (fun u80 H locs hw hP hD hS => ?_)
    have hP : va_P D vwCl (ws_CY cs a u80) H := hP
    have hD : va_D A (ws_CY cs a u80) := hD
    refine lv_iload_n hx hb dX3_dig_83 rfl (lv_at hl 0 rfl) ?_
    exact rI (wf := (ws_CY cs a)) (u := u80) hx hb hr hlocks hK hP hD hS hw dX3_dig_84
  · have hw := hw.1 c40
    exact (show False from hw).elim
