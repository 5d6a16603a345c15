set_option linter.unusedVariables false
abbrev rm0_L_act : Room := { frames := 9, cells := 0, slots := 0, locals := 162 }
set_option maxHeartbeats 4000000 in
set_option maxRecDepth 100000 in
theorem c0_L_act (l : Launch) (D : va_G) (cs : CS) (a : Nat → Nat) (sz : Nat) (σ : CY) (p1 : Int32) {Φ : Int32 → CY → Prop} (hw : w0_L_act σ p1 Φ) : Met l yL_act wsL_act rm0_L_act (PcG [.ref (a 0), .int p1] D cs (ws_CY cs a σ) sz) (va_Qi Φ (BG D cs (va_A (ws_CY cs a σ) sz) sz (ws_CY cs a)) (va_A (ws_CY cs a σ) sz)) 0 0 (va_A (ws_CY cs a σ) sz) := by
  refine Met.ofW (cc := cL_act) (maxL := 5) (ret := (some .int)) (by decide) rfl ?_
  intro p e s m args below meth c s₁ B hml hv
  obtain ⟨rfl, hsz, hP, hK, hD0⟩ := hv
  have hx := B.exec
  have hb := B.bytes
  have hr := B.returns
  have hts := atoms_spec (ws := wsL_act) B.pre
  have hown : s.vm.findClass RL = some m.cls := findClass_of_methodNamed B.named
  have hlocks := B.notSynchronized
  subst hsz
  have hD := hD0.self (sz := s.heap.size)
  generalize hAe : va_A (ws_CY cs a σ) s.heap.size = A at hD ⊢
  have hA : ∀ q : Nat, s.heap.size ≤ q → A q := fun q h => by rw [← hAe]; exact Or.inr h
  have hS : va_S A s.heap s.heap [] := va_S.rf
  have hP : va_P D vwCl (ws_CY cs a σ) s.heap := hP
  have B463 : ∀ (x3 : Int32) (t1 : Int32) (t2 : Int32) (t3 : Int32) (σ : CY), b0_L_act_463 Φ x3 t1 t2 t3 σ → At p l e (headSpec wsL_act rm0_L_act).room s m ([.ref (a 0), .int p1] : List Value).toArray below meth c (MQ below (va_Qi Φ (BG D cs A s.heap.size (ws_CY cs a)) A) ([.ref (a 0), .int p1] : List Value).toArray s 0 0 A) D A 5 [(3, .int x3)] (ws_CY cs a σ) 463 [.int t3, .int t2, .int t1, .ref (a 0)] := by
    intro x3 t1 t2 t3 σ hw H locs ls hl hP hD hS
    unfold b0_L_act_463 at hw
    refine kSi (As := [.int t2, .int t3]) (rest := [.int t1, .ref (a 0)]) ⟨hx, hb, hml, hown, hts⟩ (c_L_low l D cs a _ t2 t3 hw) (va_cwS 2 hts gL_act_L_low rfl rfl rfl (by decide +kernel) ⟨Nat.le_of_ble_eq_true rfl, Nat.le_of_ble_eq_true rfl⟩) (pt_un_CY cs a σ) hK hP hD hS hA rfl hl.1 rfl (Nat.le_of_ble_eq_true rfl) dL_act_463 ⟨Nat.zero_le _, Nat.zero_le _⟩ (fun r463 u463 H locs hw hP hD hS => ?_)
    have hP : va_P D vwCl (ws_CY cs a σ) H := hP
    have hD : va_D A (ws_CY cs a σ) := hD
    refine lv_iload_n hx hb dL_act_466 rfl (lv_at hl 0 rfl) ?_
    refine k0Li (As := [.ref (a 0), .int t1, .int r463, .int x3]) (rest := []) ⟨hx, hb, hml, hown, hts⟩ (c0_L_arrive l D cs a _ σ t1 r463 x3 hw) (vx_cwSW 4 hts gL_act_L_arrive rfl rfl rfl (by decide +kernel) ⟨Nat.le_of_ble_eq_true rfl, Nat.le_of_ble_eq_true rfl⟩) (pt_self_CY cs a σ) hK hP hD hS hA rfl hl.1 rfl (Nat.le_of_ble_eq_true rfl) dL_act_467 ⟨Nat.zero_le _, Nat.zero_le _⟩ (fun r467 u467 H locs hw hP hD hS => ?_)
    have hP : va_P D vwCl (ws_CY cs a u467) H := hP
    have hD : va_D A (ws_CY cs a u467) := hD
    exact rI (wf := (ws_CY cs a)) (u := u467) hx hb hr hlocks hK hP hD hS hw dL_act_470
  have B449 : ∀ (x1 : Int32) (x2 : Int32) (x3 : Int32) (t1 : Int32) (σ : CY), b0_L_act_449 Φ x1 x2 x3 t1 σ → At p l e (headSpec wsL_act rm0_L_act).room s m ([.ref (a 0), .int p1] : List Value).toArray below meth c (MQ below (va_Qi Φ (BG D cs A s.heap.size (ws_CY cs a)) A) ([.ref (a 0), .int p1] : List Value).toArray s 0 0 A) D A 5 [(1, .int x1), (2, .int x2), (3, .int x3)] (ws_CY cs a σ) 449 [.int t1, .ref (a 0)] := by
    intro x1 x2 x3 t1 σ hw H locs ls hl hP hD hS
    unfold b0_L_act_449 at hw
    refine lv_iload_n hx hb dL_act_449 rfl (lv_at hl 0 rfl) ?_
    refine lv_bipush (v := (12 : Int32)) hx hb dL_act_450 (by decide) ?_
    refine lv_ishr hx hb dL_act_452 ?_
    refine lv_iload_n hx hb dL_act_453 rfl (lv_at hl 1 rfl) ?_
    refine lv_if_eq (tgt := 462) hx hb dL_act_454 (by decide) (fun c454 => ?_) (fun c454 => ?_)
    · have hw := hw.1 c454
      refine lv_iconst (v := (3 : Int32)) hx hb dL_act_462 (by decide) ?_
      exact B463 _ _ _ _ _ hw _ _ ls (lv_sub hl [2] rfl) hP hD hS
    · have hw := hw.2 c454
      refine lv_bipush (v := (27 : Int32)) hx hb dL_act_457 (by decide) ?_
      refine lv_goto (tgt := 463) hx hb dL_act_459 (by decide) ?_
      exact B463 _ _ _ _ _ hw _ _ ls (lv_sub hl [2] rfl) hP hD hS
  have B415 : ∀ (x3 : Int32) (σ : CY), b0_L_act_415 Φ x3 σ → At p l e (headSpec wsL_act rm0_L_act).room s m ([.ref (a 0), .int p1] : List Value).toArray below meth c (MQ below (va_Qi Φ (BG D cs A s.heap.size (ws_CY cs a)) A) ([.ref (a 0), .int p1] : List Value).toArray s 0 0 A) D A 5 [(0, .ref (a 0)), (3, .int x3)] (ws_CY cs a σ) 415 [] := by
    intro x3 σ hw H locs ls hl hP hD hS
    unfold b0_L_act_415 at hw
    refine lv_aload_n hx hb dL_act_415 rfl (lv_at hl 0 rfl) ?_
    refine lv_iload_n hx hb dL_act_416 rfl (lv_at hl 1 rfl) ?_
    refine k0Li (As := [.ref (a 0), .int x3]) (rest := []) ⟨hx, hb, hml, hown, hts⟩ (c0_L_drop l D cs a _ σ x3 hw) (vx_cwSW 2 hts gL_act_L_drop rfl rfl rfl (by decide +kernel) ⟨Nat.le_of_ble_eq_true rfl, Nat.le_of_ble_eq_true rfl⟩) (pt_self_CY cs a σ) hK hP hD hS hA rfl hl.1 rfl (Nat.le_of_ble_eq_true rfl) dL_act_417 ⟨Nat.zero_le _, Nat.zero_le _⟩ (fun r417 u417 H locs hw hP hD hS => ?_)
    have hP : va_P D vwCl (ws_CY cs a u417) H := hP
    have hD : va_D A (ws_CY cs a u417) := hD
    exact rI (wf := (ws_CY cs a)) (u := u417) hx hb hr hlocks hK hP hD hS hw dL_act_420
  have B402 : ∀ (x4 : Int32) (σ : CY), b0_L_act_402 Φ x4 σ → At p l e (headSpec wsL_act rm0_L_act).room s m ([.ref (a 0), .int p1] : List Value).toArray below meth c (MQ below (va_Qi Φ (BG D cs A s.heap.size (ws_CY cs a)) A) ([.ref (a 0), .int p1] : List Value).toArray s 0 0 A) D A 5 [(0, .ref (a 0)), (4, .int x4)] (ws_CY cs a σ) 402 [] := by
    intro x4 σ hw H locs ls hl hP hD hS
    unfold b0_L_act_402 at hw
    refine lv_aload_n hx hb dL_act_402 rfl (lv_at hl 0 rfl) ?_
    refine lv_iload hx hb dL_act_403 (lv_at hl 1 rfl) ?_
    refine k0Li (As := [.ref (a 0), .int x4]) (rest := []) ⟨hx, hb, hml, hown, hts⟩ (c0_L_dig l D cs a _ σ x4 hw) (vx_cwSW 2 hts gL_act_L_dig rfl rfl rfl (by decide +kernel) ⟨Nat.le_of_ble_eq_true rfl, Nat.le_of_ble_eq_true rfl⟩) (pt_self_CY cs a σ) hK hP hD hS hA rfl hl.1 rfl (Nat.le_of_ble_eq_true rfl) dL_act_405 ⟨Nat.zero_le _, Nat.zero_le _⟩ (fun r405 u405 H locs hw hP hD hS => ?_)
    have hP : va_P D vwCl (ws_CY cs a u405) H := hP
    have hD : va_D A (ws_CY cs a u405) := hD
    exact rI (wf := (ws_CY cs a)) (u := u405) hx hb hr hlocks hK hP hD hS hw dL_act_408
  have B401 : ∀ (t0 : Int32) (σ : CY), b0_L_act_401 Φ t0 σ → At p l e (headSpec wsL_act rm0_L_act).room s m ([.ref (a 0), .int p1] : List Value).toArray below meth c (MQ below (va_Qi Φ (BG D cs A s.heap.size (ws_CY cs a)) A) ([.ref (a 0), .int p1] : List Value).toArray s 0 0 A) D A 5 [] (ws_CY cs a σ) 401 [.int t0] := by
    intro t0 σ hw H locs ls hl hP hD hS
    unfold b0_L_act_401 at hw
    exact rI (wf := (ws_CY cs a)) (u := σ) hx hb hr hlocks hK hP hD hS hw dL_act_401
  have B339 : ∀ (t1 : Int32) (t2 : Int32) (σ : CY), b0_L_act_339 Φ t1 t2 σ → At p l e (headSpec wsL_act rm0_L_act).room s m ([.ref (a 0), .int p1] : List Value).toArray below meth c (MQ below (va_Qi Φ (BG D cs A s.heap.size (ws_CY cs a)) A) ([.ref (a 0), .int p1] : List Value).toArray s 0 0 A) D A 5 [] (ws_CY cs a σ) 339 [.int t2, .int t1, .ref (a 0)] := by
    intro t1 t2 σ hw H locs ls hl hP hD hS
    unfold b0_L_act_339 at hw
    refine kSi (As := [.int t1, .int t2]) (rest := [.ref (a 0)]) ⟨hx, hb, hml, hown, hts⟩ (c_L_low l D cs a _ t1 t2 hw) (va_cwS 2 hts gL_act_L_low rfl rfl rfl (by decide +kernel) ⟨Nat.le_of_ble_eq_true rfl, Nat.le_of_ble_eq_true rfl⟩) (pt_un_CY cs a σ) hK hP hD hS hA rfl hl.1 rfl (Nat.le_of_ble_eq_true rfl) dL_act_339 ⟨Nat.zero_le _, Nat.zero_le _⟩ (fun r339 u339 H locs hw hP hD hS => ?_)
    have hP : va_P D vwCl (ws_CY cs a σ) H := hP
    have hD : va_D A (ws_CY cs a σ) := hD
    refine k0Li (As := [.ref (a 0), .int r339]) (rest := []) ⟨hx, hb, hml, hown, hts⟩ (c0_L_give l D cs a _ σ r339 hw) (vx_cwSW 2 hts gL_act_L_give rfl rfl rfl (by decide +kernel) ⟨Nat.le_of_ble_eq_true rfl, Nat.le_of_ble_eq_true rfl⟩) (pt_self_CY cs a σ) hK hP hD hS hA rfl hl.1 rfl (Nat.le_of_ble_eq_true rfl) dL_act_342 ⟨Nat.zero_le _, Nat.zero_le _⟩ (fun r342 u342 H locs hw hP hD hS => ?_)
    have hP : va_P D vwCl (ws_CY cs a u342) H := hP
    have hD : va_D A (ws_CY cs a u342) := hD
    exact rI (wf := (ws_CY cs a)) (u := u342) hx hb hr hlocks hK hP hD hS hw dL_act_345
  have B321 : ∀ (t1 : Int32) (t2 : Int32) (t3 : Int32) (σ : CY), b0_L_act_321 Φ t1 t2 t3 σ → At p l e (headSpec wsL_act rm0_L_act).room s m ([.ref (a 0), .int p1] : List Value).toArray below meth c (MQ below (va_Qi Φ (BG D cs A s.heap.size (ws_CY cs a)) A) ([.ref (a 0), .int p1] : List Value).toArray s 0 0 A) D A 5 [] (ws_CY cs a σ) 321 [.int t3, .int t2, .int t1, .ref (a 0)] := by
    intro t1 t2 t3 σ hw H locs ls hl hP hD hS
    unfold b0_L_act_321 at hw
    refine k0Li (As := [.ref (a 0), .int t1, .int t2, .int t3]) (rest := []) ⟨hx, hb, hml, hown, hts⟩ (c0_L_bid l D cs a _ σ t1 t2 t3 hw) (vx_cwSW 4 hts gL_act_L_bid rfl rfl rfl (by decide +kernel) ⟨Nat.le_of_ble_eq_true rfl, Nat.le_of_ble_eq_true rfl⟩) (pt_self_CY cs a σ) hK hP hD hS hA rfl hl.1 rfl (Nat.le_of_ble_eq_true rfl) dL_act_321 ⟨Nat.zero_le _, Nat.zero_le _⟩ (fun r321 u321 H locs hw hP hD hS => ?_)
    have hP : va_P D vwCl (ws_CY cs a u321) H := hP
    have hD : va_D A (ws_CY cs a u321) := hD
    exact rI (wf := (ws_CY cs a)) (u := u321) hx hb hr hlocks hK hP hD hS hw dL_act_324
  have B290 : ∀ (x1 : Int32) (x2 : Int32) (t1 : Int32) (t2 : Int32) (t3 : Int32) (σ : CY), b0_L_act_290 Φ x1 x2 t1 t2 t3 σ → At p l e (headSpec wsL_act rm0_L_act).room s m ([.ref (a 0), .int p1] : List Value).toArray below meth c (MQ below (va_Qi Φ (BG D cs A s.heap.size (ws_CY cs a)) A) ([.ref (a 0), .int p1] : List Value).toArray s 0 0 A) D A 5 [(1, .int x1), (2, .int x2)] (ws_CY cs a σ) 290 [.int t3, .int t2, .int t1, .ref (a 0)] := by
    intro x1 x2 t1 t2 t3 σ hw H locs ls hl hP hD hS
    unfold b0_L_act_290 at hw
    refine kSi (As := [.int t2, .int t3]) (rest := [.int t1, .ref (a 0)]) ⟨hx, hb, hml, hown, hts⟩ (c_L_low l D cs a _ t2 t3 hw) (va_cwS 2 hts gL_act_L_low rfl rfl rfl (by decide +kernel) ⟨Nat.le_of_ble_eq_true rfl, Nat.le_of_ble_eq_true rfl⟩) (pt_un_CY cs a σ) hK hP hD hS hA rfl hl.1 rfl (Nat.le_of_ble_eq_true rfl) dL_act_290 ⟨Nat.zero_le _, Nat.zero_le _⟩ (fun r290 u290 H locs hw hP hD hS => ?_)
    have hP : va_P D vwCl (ws_CY cs a σ) H := hP
    have hD : va_D A (ws_CY cs a σ) := hD
    refine lv_iload_n hx hb dL_act_293 rfl (lv_at hl 1 rfl) ?_
    refine lv_if_eq (tgt := 310) hx hb dL_act_294 (by decide) (fun c294 => ?_) (fun c294 => ?_)
    · have hw := hw.1 c294
      refine lv_iconst (v := (1 : Int32)) hx hb dL_act_310 (by decide) ?_
      refine lv_iload_n hx hb dL_act_311 rfl (lv_at hl 0 rfl) ?_
      refine lv_bipush (v := (10 : Int32)) hx hb dL_act_312 (by decide) ?_
      refine lv_ishr hx hb dL_act_314 ?_
      refine lv_bipush (v := (60 : Int32)) hx hb dL_act_315 (by decide) ?_
      refine kSi (As := [.int (x1 >>> ((10 : Int32) &&& 31)), .int (60 : Int32)]) (rest := [.int (1 : Int32), .int r290, .int t1, .ref (a 0)]) ⟨hx, hb, hml, hown, hts⟩ (c_L_low l D cs a _ (x1 >>> ((10 : Int32) &&& 31)) (60 : Int32) hw) (va_cwS 2 hts gL_act_L_low rfl rfl rfl (by decide +kernel) ⟨Nat.le_of_ble_eq_true rfl, Nat.le_of_ble_eq_true rfl⟩) (pt_un_CY cs a σ) hK hP hD hS hA rfl hl.1 rfl (Nat.le_of_ble_eq_true rfl) dL_act_317 ⟨Nat.zero_le _, Nat.zero_le _⟩ (fun r317 u317 H locs hw hP hD hS => ?_)
      have hP : va_P D vwCl (ws_CY cs a σ) H := hP
      have hD : va_D A (ws_CY cs a σ) := hD
      refine lv_iadd hx hb dL_act_320 ?_
      exact B321 _ _ _ _ hw H locs ls (lv_sub hl [] rfl) hP hD hS
    · have hw := hw.2 c294
      refine lv_iload_n hx hb dL_act_297 rfl (lv_at hl 0 rfl) ?_
      refine lv_bipush (v := (10 : Int32)) hx hb dL_act_298 (by decide) ?_
      refine lv_ishr hx hb dL_act_300 ?_
      refine lv_sipush (v := (1003 : Int32)) hx hb dL_act_301 (by decide) ?_
      refine kSi (As := [.int (x1 >>> ((10 : Int32) &&& 31)), .int (1003 : Int32)]) (rest := [.int r290, .int t1, .ref (a 0)]) ⟨hx, hb, hml, hown, hts⟩ (c_L_low l D cs a _ (x1 >>> ((10 : Int32) &&& 31)) (1003 : Int32) hw) (va_cwS 2 hts gL_act_L_low rfl rfl rfl (by decide +kernel) ⟨Nat.le_of_ble_eq_true rfl, Nat.le_of_ble_eq_true rfl⟩) (pt_un_CY cs a σ) hK hP hD hS hA rfl hl.1 rfl (Nat.le_of_ble_eq_true rfl) dL_act_304 ⟨Nat.zero_le _, Nat.zero_le _⟩ (fun r304 u304 H locs hw hP hD hS => ?_)
      have hP : va_P D vwCl (ws_CY cs a σ) H := hP
      have hD : va_D A (ws_CY cs a σ) := hD
      refine lv_goto (tgt := 321) hx hb dL_act_307 (by decide) ?_
      exact B321 _ _ _ _ hw H locs ls (lv_sub hl [] rfl) hP hD hS
  have B274 : ∀ (x1 : Int32) (x2 : Int32) (t1 : Int32) (t2 : Int32) (σ : CY), b0_L_act_274 Φ x1 x2 t1 t2 σ → At p l e (headSpec wsL_act rm0_L_act).room s m ([.ref (a 0), .int p1] : List Value).toArray below meth c (MQ below (va_Qi Φ (BG D cs A s.heap.size (ws_CY cs a)) A) ([.ref (a 0), .int p1] : List Value).toArray s 0 0 A) D A 5 [(1, .int x1), (2, .int x2)] (ws_CY cs a σ) 274 [.int t2, .int t1, .ref (a 0)] := by
    intro x1 x2 t1 t2 σ hw H locs ls hl hP hD hS
    unfold b0_L_act_274 at hw
    refine kSi (As := [.int t1, .int t2]) (rest := [.ref (a 0)]) ⟨hx, hb, hml, hown, hts⟩ (c_L_low l D cs a _ t1 t2 hw) (va_cwS 2 hts gL_act_L_low rfl rfl rfl (by decide +kernel) ⟨Nat.le_of_ble_eq_true rfl, Nat.le_of_ble_eq_true rfl⟩) (pt_un_CY cs a σ) hK hP hD hS hA rfl hl.1 rfl (Nat.le_of_ble_eq_true rfl) dL_act_274 ⟨Nat.zero_le _, Nat.zero_le _⟩ (fun r274 u274 H locs hw hP hD hS => ?_)
    have hP : va_P D vwCl (ws_CY cs a σ) H := hP
    have hD : va_D A (ws_CY cs a σ) := hD
    refine lv_iload_n hx hb dL_act_277 rfl (lv_at hl 0 rfl) ?_
    refine lv_bipush (v := (7 : Int32)) hx hb dL_act_278 (by decide) ?_
    refine lv_ishr hx hb dL_act_280 ?_
    refine lv_iload_n hx hb dL_act_281 rfl (lv_at hl 1 rfl) ?_
    refine lv_if_eq (tgt := 289) hx hb dL_act_282 (by decide) (fun c282 => ?_) (fun c282 => ?_)
    · have hw := hw.1 c282
      refine lv_iconst (v := (4 : Int32)) hx hb dL_act_289 (by decide) ?_
      exact B290 _ _ _ _ _ _ hw _ _ ls (lv_sub hl [0, 1] rfl) hP hD hS
    · have hw := hw.2 c282
      refine lv_iconst (v := (5 : Int32)) hx hb dL_act_285 (by decide) ?_
      refine lv_goto (tgt := 290) hx hb dL_act_286 (by decide) ?_
      exact B290 _ _ _ _ _ _ hw _ _ ls (lv_sub hl [0, 1] rfl) hP hD hS
  have B260 : ∀ (x1 : Int32) (x2 : Int32) (σ : CY), b0_L_act_260 Φ x1 x2 σ → At p l e (headSpec wsL_act rm0_L_act).room s m ([.ref (a 0), .int p1] : List Value).toArray below meth c (MQ below (va_Qi Φ (BG D cs A s.heap.size (ws_CY cs a)) A) ([.ref (a 0), .int p1] : List Value).toArray s 0 0 A) D A 5 [(0, .ref (a 0)), (1, .int x1), (2, .int x2)] (ws_CY cs a σ) 260 [] := by
    intro x1 x2 σ hw H locs ls hl hP hD hS
    unfold b0_L_act_260 at hw
    refine lv_aload_n hx hb dL_act_260 rfl (lv_at hl 0 rfl) ?_
    refine lv_iload_n hx hb dL_act_261 rfl (lv_at hl 1 rfl) ?_
    refine lv_iconst (v := (4 : Int32)) hx hb dL_act_262 (by decide) ?_
    refine lv_ishr hx hb dL_act_263 ?_
    refine lv_iload_n hx hb dL_act_264 rfl (lv_at hl 2 rfl) ?_
    refine lv_if_eq (tgt := 273) hx hb dL_act_265 (by decide) (fun c265 => ?_) (fun c265 => ?_)
    · have hw := hw.1 c265
      refine lv_iconst (v := (4 : Int32)) hx hb dL_act_273 (by decide) ?_
      exact B274 _ _ _ _ _ hw _ _ ls (lv_sub hl [1, 2] rfl) hP hD hS
    · have hw := hw.2 c265
      refine lv_bipush (v := (21 : Int32)) hx hb dL_act_268 (by decide) ?_
      refine lv_goto (tgt := 274) hx hb dL_act_270 (by decide) ?_
      exact B274 _ _ _ _ _ hw _ _ ls (lv_sub hl [1, 2] rfl) hP hD hS
  have B255 : ∀ (t1 : Int32) (t2 : Int32) (t3 : Int32) (σ : CY), b0_L_act_255 Φ t1 t2 t3 σ → At p l e (headSpec wsL_act rm0_L_act).room s m ([.ref (a 0), .int p1] : List Value).toArray below meth c (MQ below (va_Qi Φ (BG D cs A s.heap.size (ws_CY cs a)) A) ([.ref (a 0), .int p1] : List Value).toArray s 0 0 A) D A 5 [] (ws_CY cs a σ) 255 [.int t3, .int t2, .int t1, .ref (a 0)] := by
    intro t1 t2 t3 σ hw H locs ls hl hP hD hS
    unfold b0_L_act_255 at hw
    refine lv_isub hx hb dL_act_255 ?_
    refine k0Li (As := [.ref (a 0), .int t1, .int (t2 - t3)]) (rest := []) ⟨hx, hb, hml, hown, hts⟩ (c0_L_offer l D cs a _ σ t1 (t2 - t3) hw) (vx_cwSW 3 hts gL_act_L_offer rfl rfl rfl (by decide +kernel) ⟨Nat.le_of_ble_eq_true rfl, Nat.le_of_ble_eq_true rfl⟩) (pt_self_CY cs a σ) hK hP hD hS hA rfl hl.1 rfl (Nat.le_of_ble_eq_true rfl) dL_act_256 ⟨Nat.zero_le _, Nat.zero_le _⟩ (fun r256 u256 H locs hw hP hD hS => ?_)
    have hP : va_P D vwCl (ws_CY cs a u256) H := hP
    have hD : va_D A (ws_CY cs a u256) := hD
    exact rI (wf := (ws_CY cs a)) (u := u256) hx hb hr hlocks hK hP hD hS hw dL_act_259
  have B242 : ∀ (x2 : Int32) (t1 : Int32) (t2 : Int32) (t3 : Int32) (t4 : Int32) (σ : CY), b0_L_act_242 Φ x2 t1 t2 t3 t4 σ → At p l e (headSpec wsL_act rm0_L_act).room s m ([.ref (a 0), .int p1] : List Value).toArray below meth c (MQ below (va_Qi Φ (BG D cs A s.heap.size (ws_CY cs a)) A) ([.ref (a 0), .int p1] : List Value).toArray s 0 0 A) D A 5 [(2, .int x2)] (ws_CY cs a σ) 242 [.int t4, .int t3, .int t2, .int t1, .ref (a 0)] := by
    intro x2 t1 t2 t3 t4 σ hw H locs ls hl hP hD hS
    unfold b0_L_act_242 at hw
    refine kSi (As := [.int t3, .int t4]) (rest := [.int t2, .int t1, .ref (a 0)]) ⟨hx, hb, hml, hown, hts⟩ (c_L_low l D cs a _ t3 t4 hw) (va_cwS 2 hts gL_act_L_low rfl rfl rfl (by decide +kernel) ⟨Nat.le_of_ble_eq_true rfl, Nat.le_of_ble_eq_true rfl⟩) (pt_un_CY cs a σ) hK hP hD hS hA rfl hl.1 rfl (Nat.le_of_ble_eq_true rfl) dL_act_242 ⟨Nat.zero_le _, Nat.zero_le _⟩ (fun r242 u242 H locs hw hP hD hS => ?_)
    have hP : va_P D vwCl (ws_CY cs a σ) H := hP
    have hD : va_D A (ws_CY cs a σ) := hD
    refine lv_iadd hx hb dL_act_245 ?_
    refine lv_iload_n hx hb dL_act_246 rfl (lv_at hl 0 rfl) ?_
    refine lv_if_eq (tgt := 254) hx hb dL_act_247 (by decide) (fun c247 => ?_) (fun c247 => ?_)
    · have hw := hw.1 c247
      refine lv_iconst (v := (0 : Int32)) hx hb dL_act_254 (by decide) ?_
      exact B255 _ _ _ _ hw _ _ ls (lv_sub hl [] rfl) hP hD hS
    · have hw := hw.2 c247
      refine lv_iconst (v := (1 : Int32)) hx hb dL_act_250 (by decide) ?_
      refine lv_goto (tgt := 255) hx hb dL_act_251 (by decide) ?_
      exact B255 _ _ _ _ hw _ _ ls (lv_sub hl [] rfl) hP hD hS
  have B221 : ∀ (x1 : Int32) (x2 : Int32) (x4 : Int32) (σ : CY), b0_L_act_221 Φ x1 x2 x4 σ → At p l e (headSpec wsL_act rm0_L_act).room s m ([.ref (a 0), .int p1] : List Value).toArray below meth c (MQ below (va_Qi Φ (BG D cs A s.heap.size (ws_CY cs a)) A) ([.ref (a 0), .int p1] : List Value).toArray s 0 0 A) D A 5 [(0, .ref (a 0)), (1, .int x1), (2, .int x2), (4, .int x4)] (ws_CY cs a σ) 221 [] := by
    intro x1 x2 x4 σ hw H locs ls hl hP hD hS
    unfold b0_L_act_221 at hw
    refine lv_aload_n hx hb dL_act_221 rfl (lv_at hl 0 rfl) ?_
    refine lv_iload hx hb dL_act_222 (lv_at hl 3 rfl) ?_
    refine lv_aload_n hx hb dL_act_224 rfl (lv_at hl 0 rfl) ?_
    refine kVi (As := []) (rest := [.int x4, .ref (a 0)]) ⟨hx, hb, hml, hown, hts⟩ (c_C_today l D cs a _ σ hw) (cwV 0 hts gL_act_X3_today rfl rfl rfl (by decide +kernel) ⟨Nat.le_of_ble_eq_true rfl, Nat.le_of_ble_eq_true rfl⟩) (pt_self_CY cs a σ) hK hP hD hS hA (ci := 3) rfl rfl rfl rfl hl.1 rfl (Nat.le_of_ble_eq_true rfl) dL_act_225 ⟨Nat.zero_le _, Nat.zero_le _⟩ (fun r225 u225 H locs hw hP hD hS => ?_)
    have hP : va_P D vwCl (ws_CY cs a u225) H := hP
    have hD : va_D A (ws_CY cs a u225) := hD
    refine lv_iload_n hx hb dL_act_228 rfl (lv_at hl 1 rfl) ?_
    refine lv_bipush (v := (9 : Int32)) hx hb dL_act_229 (by decide) ?_
    refine lv_ishr hx hb dL_act_231 ?_
    refine lv_iload_n hx hb dL_act_232 rfl (lv_at hl 2 rfl) ?_
    refine lv_if_eq (tgt := 241) hx hb dL_act_233 (by decide) (fun c233 => ?_) (fun c233 => ?_)
    · have hw := hw.1 c233
      refine lv_iconst (v := (4 : Int32)) hx hb dL_act_241 (by decide) ?_
      exact B242 _ _ _ _ _ _ hw _ _ ls (lv_sub hl [2] rfl) hP hD hS
    · have hw := hw.2 c233
      refine lv_bipush (v := (104 : Int32)) hx hb dL_act_236 (by decide) ?_
      refine lv_goto (tgt := 242) hx hb dL_act_238 (by decide) ?_
      exact B242 _ _ _ _ _ _ hw _ _ ls (lv_sub hl [2] rfl) hP hD hS
  have B217 : ∀ (t1 : Int32) (t2 : Int32) (t3 : Int32) (t4 : Int32) (σ : CY), b0_L_act_217 Φ t1 t2 t3 t4 σ → At p l e (headSpec wsL_act rm0_L_act).room s m ([.ref (a 0), .int p1] : List Value).toArray below meth c (MQ below (va_Qi Φ (BG D cs A s.heap.size (ws_CY cs a)) A) ([.ref (a 0), .int p1] : List Value).toArray s 0 0 A) D A 5 [] (ws_CY cs a σ) 217 [.int t4, .int t3, .int t2, .int t1, .ref (a 0)] := by
    intro t1 t2 t3 t4 σ hw H locs ls hl hP hD hS
    unfold b0_L_act_217 at hw
    refine k0Li (As := [.ref (a 0), .int t1, .int t2, .int t3, .int t4]) (rest := []) ⟨hx, hb, hml, hown, hts⟩ (c0_L_tell l D cs a _ σ t1 t2 t3 t4 hw) (vx_cwSW 5 hts gL_act_L_tell rfl rfl rfl (by decide +kernel) ⟨Nat.le_of_ble_eq_true rfl, Nat.le_of_ble_eq_true rfl⟩) (pt_self_CY cs a σ) hK hP hD hS hA rfl hl.1 rfl (Nat.le_of_ble_eq_true rfl) dL_act_217 ⟨Nat.zero_le _, Nat.zero_le _⟩ (fun r217 u217 H locs hw hP hD hS => ?_)
    have hP : va_P D vwCl (ws_CY cs a u217) H := hP
    have hD : va_D A (ws_CY cs a u217) := hD
    exact rI (wf := (ws_CY cs a)) (u := u217) hx hb hr hlocks hK hP hD hS hw dL_act_220
  have B212 : ∀ (t1 : Int32) (t2 : Int32) (t3 : Int32) (t4 : Int32) (t5 : Int32) (σ : CY), b0_L_act_212 Φ t1 t2 t3 t4 t5 σ → At p l e (headSpec wsL_act rm0_L_act).room s m ([.ref (a 0), .int p1] : List Value).toArray below meth c (MQ below (va_Qi Φ (BG D cs A s.heap.size (ws_CY cs a)) A) ([.ref (a 0), .int p1] : List Value).toArray s 0 0 A) D A 5 [] (ws_CY cs a σ) 212 [.int t5, .int t4, .int t3, .int t2, .int t1, .ref (a 0)] := by
    intro t1 t2 t3 t4 t5 σ hw H locs ls hl hP hD hS
    unfold b0_L_act_212 at hw
    refine kSi (As := [.int t4, .int t5]) (rest := [.int t3, .int t2, .int t1, .ref (a 0)]) ⟨hx, hb, hml, hown, hts⟩ (c_L_low l D cs a _ t4 t5 hw) (va_cwS 2 hts gL_act_L_low rfl rfl rfl (by decide +kernel) ⟨Nat.le_of_ble_eq_true rfl, Nat.le_of_ble_eq_true rfl⟩) (pt_un_CY cs a σ) hK hP hD hS hA rfl hl.1 rfl (Nat.le_of_ble_eq_true rfl) dL_act_212 ⟨Nat.zero_le _, Nat.zero_le _⟩ (fun r212 u212 H locs hw hP hD hS => ?_)
    have hP : va_P D vwCl (ws_CY cs a σ) H := hP
    have hD : va_D A (ws_CY cs a σ) := hD
    refine lv_iconst (v := (1 : Int32)) hx hb dL_act_215 (by decide) ?_
    refine lv_isub hx hb dL_act_216 ?_
    exact B217 _ _ _ _ _ hw H locs ls (lv_sub hl [] rfl) hP hD hS
  have B162 : ∀ (x1 : Int32) (x2 : Int32) (t1 : Int32) (t2 : Int32) (σ : CY), b0_L_act_162 Φ x1 x2 t1 t2 σ → At p l e (headSpec wsL_act rm0_L_act).room s m ([.ref (a 0), .int p1] : List Value).toArray below meth c (MQ below (va_Qi Φ (BG D cs A s.heap.size (ws_CY cs a)) A) ([.ref (a 0), .int p1] : List Value).toArray s 0 0 A) D A 5 [(1, .int x1), (2, .int x2)] (ws_CY cs a σ) 162 [.int t2, .int t1, .ref (a 0)] := by
    intro x1 x2 t1 t2 σ hw H locs ls hl hP hD hS
    unfold b0_L_act_162 at hw
    refine kSi (As := [.int t1, .int t2]) (rest := [.ref (a 0)]) ⟨hx, hb, hml, hown, hts⟩ (c_L_low l D cs a _ t1 t2 hw) (va_cwS 2 hts gL_act_L_low rfl rfl rfl (by decide +kernel) ⟨Nat.le_of_ble_eq_true rfl, Nat.le_of_ble_eq_true rfl⟩) (pt_un_CY cs a σ) hK hP hD hS hA rfl hl.1 rfl (Nat.le_of_ble_eq_true rfl) dL_act_162 ⟨Nat.zero_le _, Nat.zero_le _⟩ (fun r162 u162 H locs hw hP hD hS => ?_)
    have hP : va_P D vwCl (ws_CY cs a σ) H := hP
    have hD : va_D A (ws_CY cs a σ) := hD
    refine lv_iload_n hx hb dL_act_165 rfl (lv_at hl 0 rfl) ?_
    refine lv_bipush (v := (7 : Int32)) hx hb dL_act_166 (by decide) ?_
    refine lv_ishr hx hb dL_act_168 ?_
    refine lv_iconst (v := (3 : Int32)) hx hb dL_act_169 (by decide) ?_
    refine kSi (As := [.int (x1 >>> ((7 : Int32) &&& 31)), .int (3 : Int32)]) (rest := [.int r162, .ref (a 0)]) ⟨hx, hb, hml, hown, hts⟩ (c_L_low l D cs a _ (x1 >>> ((7 : Int32) &&& 31)) (3 : Int32) hw) (va_cwS 2 hts gL_act_L_low rfl rfl rfl (by decide +kernel) ⟨Nat.le_of_ble_eq_true rfl, Nat.le_of_ble_eq_true rfl⟩) (pt_un_CY cs a σ) hK hP hD hS hA rfl hl.1 rfl (Nat.le_of_ble_eq_true rfl) dL_act_170 ⟨Nat.zero_le _, Nat.zero_le _⟩ (fun r170 u170 H locs hw hP hD hS => ?_)
    have hP : va_P D vwCl (ws_CY cs a σ) H := hP
    have hD : va_D A (ws_CY cs a σ) := hD
    refine lv_iload_n hx hb dL_act_173 rfl (lv_at hl 0 rfl) ?_
    refine lv_bipush (v := (10 : Int32)) hx hb dL_act_174 (by decide) ?_
    refine lv_ishr hx hb dL_act_176 ?_
    refine lv_iconst (v := (3 : Int32)) hx hb dL_act_177 (by decide) ?_
    refine kSi (As := [.int (x1 >>> ((10 : Int32) &&& 31)), .int (3 : Int32)]) (rest := [.int r170, .int r162, .ref (a 0)]) ⟨hx, hb, hml, hown, hts⟩ (c_L_low l D cs a _ (x1 >>> ((10 : Int32) &&& 31)) (3 : Int32) hw) (va_cwS 2 hts gL_act_L_low rfl rfl rfl (by decide +kernel) ⟨Nat.le_of_ble_eq_true rfl, Nat.le_of_ble_eq_true rfl⟩) (pt_un_CY cs a σ) hK hP hD hS hA rfl hl.1 rfl (Nat.le_of_ble_eq_true rfl) dL_act_178 ⟨Nat.zero_le _, Nat.zero_le _⟩ (fun r178 u178 H locs hw hP hD hS => ?_)
    have hP : va_P D vwCl (ws_CY cs a σ) H := hP
    have hD : va_D A (ws_CY cs a σ) := hD
    refine lv_iconst (v := (1 : Int32)) hx hb dL_act_181 (by decide) ?_
    refine lv_isub hx hb dL_act_182 ?_
    refine lv_iload_n hx hb dL_act_183 rfl (lv_at hl 0 rfl) ?_
    refine lv_bipush (v := (10 : Int32)) hx hb dL_act_184 (by decide) ?_
    refine lv_ishr hx hb dL_act_186 ?_
    refine lv_iconst (v := (3 : Int32)) hx hb dL_act_187 (by decide) ?_
    refine kSi (As := [.int (x1 >>> ((10 : Int32) &&& 31)), .int (3 : Int32)]) (rest := [.int (r178 - (1 : Int32)), .int r170, .int r162, .ref (a 0)]) ⟨hx, hb, hml, hown, hts⟩ (c_L_low l D cs a _ (x1 >>> ((10 : Int32) &&& 31)) (3 : Int32) hw) (va_cwS 2 hts gL_act_L_low rfl rfl rfl (by decide +kernel) ⟨Nat.le_of_ble_eq_true rfl, Nat.le_of_ble_eq_true rfl⟩) (pt_un_CY cs a σ) hK hP hD hS hA rfl hl.1 rfl (Nat.le_of_ble_eq_true rfl) dL_act_188 ⟨Nat.zero_le _, Nat.zero_le _⟩ (fun r188 u188 H locs hw hP hD hS => ?_)
    have hP : va_P D vwCl (ws_CY cs a σ) H := hP
    have hD : va_D A (ws_CY cs a σ) := hD
    refine lv_if_ne (tgt := 198) hx hb dL_act_191 (by decide) (fun c191 => ?_) (fun c191 => ?_)
    · have hw := hw.2 c191
      refine lv_iload_n hx hb dL_act_198 rfl (lv_at hl 0 rfl) ?_
      refine lv_bipush (v := (13 : Int32)) hx hb dL_act_199 (by decide) ?_
      refine lv_ishr hx hb dL_act_201 ?_
      refine lv_iload_n hx hb dL_act_202 rfl (lv_at hl 1 rfl) ?_
      refine lv_if_eq (tgt := 211) hx hb dL_act_203 (by decide) (fun c203 => ?_) (fun c203 => ?_)
      · have hw := hw.1 c203
        refine lv_iconst (v := (4 : Int32)) hx hb dL_act_211 (by decide) ?_
        exact B212 _ _ _ _ _ _ hw _ _ ls (lv_sub hl [] rfl) hP hD hS
      · have hw := hw.2 c203
        refine lv_bipush (v := (28 : Int32)) hx hb dL_act_206 (by decide) ?_
        refine lv_goto (tgt := 212) hx hb dL_act_208 (by decide) ?_
        exact B212 _ _ _ _ _ _ hw _ _ ls (lv_sub hl [] rfl) hP hD hS
    · have hw := hw.1 c191
      refine lv_iconst (v := (-1 : Int32)) hx hb dL_act_194 (by decide) ?_
      refine lv_goto (tgt := 217) hx hb dL_act_195 (by decide) ?_
      exact B217 _ _ _ _ _ hw _ _ ls (lv_sub hl [] rfl) hP hD hS
  have B70 : ∀ (x1 : Int32) (x2 : Int32) (x3 : Int32) (t0 : Int32) (t1 : Int32) (σ : CY), b0_L_act_70 Φ x1 x2 x3 t0 t1 σ → At p l e (headSpec wsL_act rm0_L_act).room s m ([.ref (a 0), .int p1] : List Value).toArray below meth c (MQ below (va_Qi Φ (BG D cs A s.heap.size (ws_CY cs a)) A) ([.ref (a 0), .int p1] : List Value).toArray s 0 0 A) D A 5 [(0, .ref (a 0)), (1, .int x1), (2, .int x2), (3, .int x3)] (ws_CY cs a σ) 70 [.int t1, .int t0] := by
    intro x1 x2 x3 t0 t1 σ hw H locs ls hl hP hD hS
    unfold b0_L_act_70 at hw
    refine lv_isub hx hb dL_act_70 ?_
    refine lv_istore (lv' := [(4, .int (t0 - t1)), (0, .ref (a 0)), (1, .int x1), (2, .int x2), (3, .int x3)]) hx hb dL_act_71 hl (by decide) rfl (fun ls hl => ?_)
    refine lv_iload_n hx hb dL_act_73 rfl (lv_at hl 2 rfl) ?_
    refine lv_bipush (v := (20 : Int32)) hx hb dL_act_74 (by decide) ?_
    refine kSi (As := [.int x1, .int (20 : Int32)]) (rest := []) ⟨hx, hb, hml, hown, hts⟩ (c_L_low l D cs a _ x1 (20 : Int32) hw) (va_cwS 2 hts gL_act_L_low rfl rfl rfl (by decide +kernel) ⟨Nat.le_of_ble_eq_true rfl, Nat.le_of_ble_eq_true rfl⟩) (pt_un_CY cs a σ) hK hP hD hS hA rfl hl.1 rfl (Nat.le_of_ble_eq_true rfl) dL_act_76 ⟨Nat.zero_le _, Nat.zero_le _⟩ (fun r76 u76 H locs hw hP hD hS => ?_)
    have hP : va_P D vwCl (ws_CY cs a σ) H := hP
    have hD : va_D A (ws_CY cs a σ) := hD
    refine lv_topi (fun y1 ey1 => ?_)
    have hw := hw y1 ey1
    by_cases s0 : y1.toInt < (0 : Int)
    · have hw := hw.2.2.2.2.2.2.2.2.2.2.2.2.2.2 (Or.inl s0)
      refine lv_tableOut (tgt := 421) hx hb dL_act_79 (Or.inl s0) (by decide) ?_
      refine lv_aload_n hx hb dL_act_421 rfl (lv_at hl 1 rfl) ?_
      refine lv_iload_n hx hb dL_act_422 rfl (lv_at hl 3 rfl) ?_
      refine lv_if_eq (tgt := 438) hx hb dL_act_423 (by decide) (fun c423 => ?_) (fun c423 => ?_)
      · have hw := hw.1 c423
        refine lv_iconst (v := (1 : Int32)) hx hb dL_act_438 (by decide) ?_
        refine lv_iload_n hx hb dL_act_439 rfl (lv_at hl 2 rfl) ?_
        refine lv_bipush (v := (7 : Int32)) hx hb dL_act_440 (by decide) ?_
        refine lv_ishr hx hb dL_act_442 ?_
        refine lv_bipush (v := (12 : Int32)) hx hb dL_act_443 (by decide) ?_
        refine kSi (As := [.int (x1 >>> ((7 : Int32) &&& 31)), .int (12 : Int32)]) (rest := [.int (1 : Int32), .ref (a 0)]) ⟨hx, hb, hml, hown, hts⟩ (c_L_low l D cs a _ (x1 >>> ((7 : Int32) &&& 31)) (12 : Int32) hw) (va_cwS 2 hts gL_act_L_low rfl rfl rfl (by decide +kernel) ⟨Nat.le_of_ble_eq_true rfl, Nat.le_of_ble_eq_true rfl⟩) (pt_un_CY cs a σ) hK hP hD hS hA rfl hl.1 rfl (Nat.le_of_ble_eq_true rfl) dL_act_445 ⟨Nat.zero_le _, Nat.zero_le _⟩ (fun r445 u445 H locs hw hP hD hS => ?_)
        have hP : va_P D vwCl (ws_CY cs a σ) H := hP
        have hD : va_D A (ws_CY cs a σ) := hD
        refine lv_iadd hx hb dL_act_448 ?_
        exact B449 _ _ _ _ _ hw H locs ls (lv_sub hl [2, 3, 4] rfl) hP hD hS
      · have hw := hw.2 c423
        refine lv_iload_n hx hb dL_act_426 rfl (lv_at hl 2 rfl) ?_
        refine lv_bipush (v := (7 : Int32)) hx hb dL_act_427 (by decide) ?_
        refine lv_ishr hx hb dL_act_429 ?_
        refine lv_bipush (v := (103 : Int32)) hx hb dL_act_430 (by decide) ?_
        refine kSi (As := [.int (x1 >>> ((7 : Int32) &&& 31)), .int (103 : Int32)]) (rest := [.ref (a 0)]) ⟨hx, hb, hml, hown, hts⟩ (c_L_low l D cs a _ (x1 >>> ((7 : Int32) &&& 31)) (103 : Int32) hw) (va_cwS 2 hts gL_act_L_low rfl rfl rfl (by decide +kernel) ⟨Nat.le_of_ble_eq_true rfl, Nat.le_of_ble_eq_true rfl⟩) (pt_un_CY cs a σ) hK hP hD hS hA rfl hl.1 rfl (Nat.le_of_ble_eq_true rfl) dL_act_432 ⟨Nat.zero_le _, Nat.zero_le _⟩ (fun r432 u432 H locs hw hP hD hS => ?_)
        have hP : va_P D vwCl (ws_CY cs a σ) H := hP
        have hD : va_D A (ws_CY cs a σ) := hD
        refine lv_goto (tgt := 449) hx hb dL_act_435 (by decide) ?_
        exact B449 _ _ _ _ _ hw H locs ls (lv_sub hl [2, 3, 4] rfl) hP hD hS
    by_cases s1 : (13 : Int) < y1.toInt
    · have hw := hw.2.2.2.2.2.2.2.2.2.2.2.2.2.2 (Or.inr s1)
      refine lv_tableOut (tgt := 421) hx hb dL_act_79 (Or.inr s1) (by decide) ?_
      refine lv_aload_n hx hb dL_act_421 rfl (lv_at hl 1 rfl) ?_
      refine lv_iload_n hx hb dL_act_422 rfl (lv_at hl 3 rfl) ?_
      refine lv_if_eq (tgt := 438) hx hb dL_act_423 (by decide) (fun c423 => ?_) (fun c423 => ?_)
      · have hw := hw.1 c423
        refine lv_iconst (v := (1 : Int32)) hx hb dL_act_438 (by decide) ?_
        refine lv_iload_n hx hb dL_act_439 rfl (lv_at hl 2 rfl) ?_
        refine lv_bipush (v := (7 : Int32)) hx hb dL_act_440 (by decide) ?_
        refine lv_ishr hx hb dL_act_442 ?_
        refine lv_bipush (v := (12 : Int32)) hx hb dL_act_443 (by decide) ?_
        refine kSi (As := [.int (x1 >>> ((7 : Int32) &&& 31)), .int (12 : Int32)]) (rest := [.int (1 : Int32), .ref (a 0)]) ⟨hx, hb, hml, hown, hts⟩ (c_L_low l D cs a _ (x1 >>> ((7 : Int32) &&& 31)) (12 : Int32) hw) (va_cwS 2 hts gL_act_L_low rfl rfl rfl (by decide +kernel) ⟨Nat.le_of_ble_eq_true rfl, Nat.le_of_ble_eq_true rfl⟩) (pt_un_CY cs a σ) hK hP hD hS hA rfl hl.1 rfl (Nat.le_of_ble_eq_true rfl) dL_act_445 ⟨Nat.zero_le _, Nat.zero_le _⟩ (fun r445 u445 H locs hw hP hD hS => ?_)
        have hP : va_P D vwCl (ws_CY cs a σ) H := hP
        have hD : va_D A (ws_CY cs a σ) := hD
        refine lv_iadd hx hb dL_act_448 ?_
        exact B449 _ _ _ _ _ hw H locs ls (lv_sub hl [2, 3, 4] rfl) hP hD hS
      · have hw := hw.2 c423
        refine lv_iload_n hx hb dL_act_426 rfl (lv_at hl 2 rfl) ?_
        refine lv_bipush (v := (7 : Int32)) hx hb dL_act_427 (by decide) ?_
        refine lv_ishr hx hb dL_act_429 ?_
        refine lv_bipush (v := (103 : Int32)) hx hb dL_act_430 (by decide) ?_
        refine kSi (As := [.int (x1 >>> ((7 : Int32) &&& 31)), .int (103 : Int32)]) (rest := [.ref (a 0)]) ⟨hx, hb, hml, hown, hts⟩ (c_L_low l D cs a _ (x1 >>> ((7 : Int32) &&& 31)) (103 : Int32) hw) (va_cwS 2 hts gL_act_L_low rfl rfl rfl (by decide +kernel) ⟨Nat.le_of_ble_eq_true rfl, Nat.le_of_ble_eq_true rfl⟩) (pt_un_CY cs a σ) hK hP hD hS hA rfl hl.1 rfl (Nat.le_of_ble_eq_true rfl) dL_act_432 ⟨Nat.zero_le _, Nat.zero_le _⟩ (fun r432 u432 H locs hw hP hD hS => ?_)
        have hP : va_P D vwCl (ws_CY cs a σ) H := hP
        have hD : va_D A (ws_CY cs a σ) := hD
        refine lv_goto (tgt := 449) hx hb dL_act_435 (by decide) ?_
        exact B449 _ _ _ _ _ hw H locs ls (lv_sub hl [2, 3, 4] rfl) hP hD hS
    rcases (by omega : y1.toInt = 0 ∨ y1.toInt = 1 ∨ y1.toInt = 2 ∨ y1.toInt = 3 ∨ y1.toInt = 4 ∨ y1.toInt = 5 ∨ y1.toInt = 6 ∨ y1.toInt = 7 ∨ y1.toInt = 8 ∨ y1.toInt = 9 ∨ y1.toInt = 10 ∨ y1.toInt = 11 ∨ y1.toInt = 12 ∨ y1.toInt = 13) with sj | sj | sj | sj | sj | sj | sj | sj | sj | sj | sj | sj | sj | sj
    · have hw := hw.1 sj
      refine lv_tableIn (off := 69) (tgt := 148) hx hb dL_act_79 s0 s1 (by rw [sj]; decide +kernel) (by decide) ?_
      refine lv_aload_n hx hb dL_act_148 rfl (lv_at hl 1 rfl) ?_
      refine lv_iload_n hx hb dL_act_149 rfl (lv_at hl 2 rfl) ?_
      refine lv_iconst (v := (4 : Int32)) hx hb dL_act_150 (by decide) ?_
      refine lv_ishr hx hb dL_act_151 ?_
      refine lv_iload_n hx hb dL_act_152 rfl (lv_at hl 3 rfl) ?_
      refine lv_if_eq (tgt := 161) hx hb dL_act_153 (by decide) (fun c153 => ?_) (fun c153 => ?_)
      · have hw := hw.1 c153
        refine lv_iconst (v := (3 : Int32)) hx hb dL_act_161 (by decide) ?_
        exact B162 _ _ _ _ _ hw _ _ ls (lv_sub hl [2, 3] rfl) hP hD hS
      · have hw := hw.2 c153
        refine lv_bipush (v := (27 : Int32)) hx hb dL_act_156 (by decide) ?_
        refine lv_goto (tgt := 162) hx hb dL_act_158 (by decide) ?_
        exact B162 _ _ _ _ _ hw _ _ ls (lv_sub hl [2, 3] rfl) hP hD hS
    · have hw := hw.2.1 sj
      refine lv_tableIn (off := 142) (tgt := 221) hx hb dL_act_79 s0 s1 (by rw [sj]; decide +kernel) (by decide) ?_
      exact B221 _ _ _ _ hw _ _ ls (lv_sub hl [1, 2, 3, 0] rfl) hP hD hS
    · have hw := hw.2.2.1 sj
      refine lv_tableIn (off := 142) (tgt := 221) hx hb dL_act_79 s0 s1 (by rw [sj]; decide +kernel) (by decide) ?_
      exact B221 _ _ _ _ hw _ _ ls (lv_sub hl [1, 2, 3, 0] rfl) hP hD hS
    · have hw := hw.2.2.2.1 sj
      refine lv_tableIn (off := 181) (tgt := 260) hx hb dL_act_79 s0 s1 (by rw [sj]; decide +kernel) (by decide) ?_
      exact B260 _ _ _ hw _ _ ls (lv_sub hl [1, 2, 3] rfl) hP hD hS
    · have hw := hw.2.2.2.2.1 sj
      refine lv_tableIn (off := 181) (tgt := 260) hx hb dL_act_79 s0 s1 (by rw [sj]; decide +kernel) (by decide) ?_
      exact B260 _ _ _ hw _ _ ls (lv_sub hl [1, 2, 3] rfl) hP hD hS
    · have hw := hw.2.2.2.2.2.1 sj
      refine lv_tableIn (off := 246) (tgt := 325) hx hb dL_act_79 s0 s1 (by rw [sj]; decide +kernel) (by decide) ?_
      refine lv_aload_n hx hb dL_act_325 rfl (lv_at hl 1 rfl) ?_
      refine lv_iload_n hx hb dL_act_326 rfl (lv_at hl 2 rfl) ?_
      refine lv_iconst (v := (4 : Int32)) hx hb dL_act_327 (by decide) ?_
      refine lv_ishr hx hb dL_act_328 ?_
      refine lv_iload_n hx hb dL_act_329 rfl (lv_at hl 3 rfl) ?_
      refine lv_if_eq (tgt := 338) hx hb dL_act_330 (by decide) (fun c330 => ?_) (fun c330 => ?_)
      · have hw := hw.1 c330
        refine lv_iconst (v := (4 : Int32)) hx hb dL_act_338 (by decide) ?_
        exact B339 _ _ _ hw _ _ ls (lv_sub hl [] rfl) hP hD hS
      · have hw := hw.2 c330
        refine lv_bipush (v := (21 : Int32)) hx hb dL_act_333 (by decide) ?_
        refine lv_goto (tgt := 339) hx hb dL_act_335 (by decide) ?_
        exact B339 _ _ _ hw _ _ ls (lv_sub hl [] rfl) hP hD hS
    · have hw := hw.2.2.2.2.2.2.1 sj
      refine lv_tableIn (off := 267) (tgt := 346) hx hb dL_act_79 s0 s1 (by rw [sj]; decide +kernel) (by decide) ?_
      refine lv_aload_n hx hb dL_act_346 rfl (lv_at hl 1 rfl) ?_
      refine k0Li (As := [.ref (a 0)]) (rest := []) ⟨hx, hb, hml, hown, hts⟩ (c0_L_load l D cs a _ σ hw) (vx_cwSW 1 hts gL_act_L_load rfl rfl rfl (by decide +kernel) ⟨Nat.le_of_ble_eq_true rfl, Nat.le_of_ble_eq_true rfl⟩) (pt_self_CY cs a σ) hK hP hD hS hA rfl hl.1 rfl (Nat.le_of_ble_eq_true rfl) dL_act_347 ⟨Nat.zero_le _, Nat.zero_le _⟩ (fun r347 u347 H locs hw hP hD hS => ?_)
      have hP : va_P D vwCl (ws_CY cs a u347) H := hP
      have hD : va_D A (ws_CY cs a u347) := hD
      exact rI (wf := (ws_CY cs a)) (u := u347) hx hb hr hlocks hK hP hD hS hw dL_act_350
    · have hw := hw.2.2.2.2.2.2.2.1 sj
      refine lv_tableIn (off := 272) (tgt := 351) hx hb dL_act_79 s0 s1 (by rw [sj]; decide +kernel) (by decide) ?_
      refine lv_iload_n hx hb dL_act_351 rfl (lv_at hl 3 rfl) ?_
      refine lv_if_eq (tgt := 370) hx hb dL_act_352 (by decide) (fun c352 => ?_) (fun c352 => ?_)
      · have hw := hw.1 c352
        refine lv_iload_n hx hb dL_act_370 rfl (lv_at hl 2 rfl) ?_
        refine lv_bipush (v := (9 : Int32)) hx hb dL_act_371 (by decide) ?_
        refine lv_ishr hx hb dL_act_373 ?_
        refine lv_iconst (v := (3 : Int32)) hx hb dL_act_374 (by decide) ?_
        refine kSi (As := [.int (x1 >>> ((9 : Int32) &&& 31)), .int (3 : Int32)]) (rest := []) ⟨hx, hb, hml, hown, hts⟩ (c_L_low l D cs a _ (x1 >>> ((9 : Int32) &&& 31)) (3 : Int32) hw) (va_cwS 2 hts gL_act_L_low rfl rfl rfl (by decide +kernel) ⟨Nat.le_of_ble_eq_true rfl, Nat.le_of_ble_eq_true rfl⟩) (pt_un_CY cs a σ) hK hP hD hS hA rfl hl.1 rfl (Nat.le_of_ble_eq_true rfl) dL_act_375 ⟨Nat.zero_le _, Nat.zero_le _⟩ (fun r375 u375 H locs hw hP hD hS => ?_)
        have hP : va_P D vwCl (ws_CY cs a σ) H := hP
        have hD : va_D A (ws_CY cs a σ) := hD
        refine lv_if_ne (tgt := 388) hx hb dL_act_378 (by decide) (fun c378 => ?_) (fun c378 => ?_)
        · have hw := hw.2 c378
          refine lv_aload_n hx hb dL_act_388 rfl (lv_at hl 1 rfl) ?_
          refine lv_iconst (v := (1 : Int32)) hx hb dL_act_389 (by decide) ?_
          refine lv_iload_n hx hb dL_act_390 rfl (lv_at hl 2 rfl) ?_
          refine lv_iconst (v := (4 : Int32)) hx hb dL_act_391 (by decide) ?_
          refine lv_ishr hx hb dL_act_392 ?_
          refine lv_iconst (v := (3 : Int32)) hx hb dL_act_393 (by decide) ?_
          refine kSi (As := [.int (x1 >>> ((4 : Int32) &&& 31)), .int (3 : Int32)]) (rest := [.int (1 : Int32), .ref (a 0)]) ⟨hx, hb, hml, hown, hts⟩ (c_L_low l D cs a _ (x1 >>> ((4 : Int32) &&& 31)) (3 : Int32) hw) (va_cwS 2 hts gL_act_L_low rfl rfl rfl (by decide +kernel) ⟨Nat.le_of_ble_eq_true rfl, Nat.le_of_ble_eq_true rfl⟩) (pt_un_CY cs a σ) hK hP hD hS hA rfl hl.1 rfl (Nat.le_of_ble_eq_true rfl) dL_act_394 ⟨Nat.zero_le _, Nat.zero_le _⟩ (fun r394 u394 H locs hw hP hD hS => ?_)
          have hP : va_P D vwCl (ws_CY cs a σ) H := hP
          have hD : va_D A (ws_CY cs a σ) := hD
          refine lv_iadd hx hb dL_act_397 ?_
          refine k0Li (As := [.ref (a 0), .int ((1 : Int32) + r394)]) (rest := []) ⟨hx, hb, hml, hown, hts⟩ (c0_L_pass l D cs a _ σ ((1 : Int32) + r394) hw) (vx_cwSW 2 hts gL_act_L_pass rfl rfl rfl (by decide +kernel) ⟨Nat.le_of_ble_eq_true rfl, Nat.le_of_ble_eq_true rfl⟩) (pt_self_CY cs a σ) hK hP hD hS hA rfl hl.1 rfl (Nat.le_of_ble_eq_true rfl) dL_act_398 ⟨Nat.zero_le _, Nat.zero_le _⟩ (fun r398 u398 H locs hw hP hD hS => ?_)
          have hP : va_P D vwCl (ws_CY cs a u398) H := hP
          have hD : va_D A (ws_CY cs a u398) := hD
          exact B401 _ _ hw H locs ls (lv_sub hl [] rfl) hP hD hS
        · have hw := hw.1 c378
          refine lv_aload_n hx hb dL_act_381 rfl (lv_at hl 1 rfl) ?_
          refine kVi (As := []) (rest := []) ⟨hx, hb, hml, hown, hts⟩ (c_C_storm l D cs a _ σ hw) (cwV 0 hts gL_act_X3_storm rfl rfl rfl (by decide +kernel) ⟨Nat.le_of_ble_eq_true rfl, Nat.le_of_ble_eq_true rfl⟩) (pt_self_CY cs a σ) hK hP hD hS hA (ci := 3) rfl rfl rfl rfl hl.1 rfl (Nat.le_of_ble_eq_true rfl) dL_act_382 ⟨Nat.zero_le _, Nat.zero_le _⟩ (fun r382 u382 H locs hw hP hD hS => ?_)
          have hP : va_P D vwCl (ws_CY cs a u382) H := hP
          have hD : va_D A (ws_CY cs a u382) := hD
          refine lv_goto (tgt := 401) hx hb dL_act_385 (by decide) ?_
          exact B401 _ _ hw H locs ls (lv_sub hl [] rfl) hP hD hS
      · have hw := hw.2 c352
        refine lv_aload_n hx hb dL_act_355 rfl (lv_at hl 1 rfl) ?_
        refine lv_iload_n hx hb dL_act_356 rfl (lv_at hl 2 rfl) ?_
        refine lv_iconst (v := (4 : Int32)) hx hb dL_act_357 (by decide) ?_
        refine lv_ishr hx hb dL_act_358 ?_
        refine lv_bipush (v := (103 : Int32)) hx hb dL_act_359 (by decide) ?_
        refine kSi (As := [.int (x1 >>> ((4 : Int32) &&& 31)), .int (103 : Int32)]) (rest := [.ref (a 0)]) ⟨hx, hb, hml, hown, hts⟩ (c_L_low l D cs a _ (x1 >>> ((4 : Int32) &&& 31)) (103 : Int32) hw) (va_cwS 2 hts gL_act_L_low rfl rfl rfl (by decide +kernel) ⟨Nat.le_of_ble_eq_true rfl, Nat.le_of_ble_eq_true rfl⟩) (pt_un_CY cs a σ) hK hP hD hS hA rfl hl.1 rfl (Nat.le_of_ble_eq_true rfl) dL_act_361 ⟨Nat.zero_le _, Nat.zero_le _⟩ (fun r361 u361 H locs hw hP hD hS => ?_)
        have hP : va_P D vwCl (ws_CY cs a σ) H := hP
        have hD : va_D A (ws_CY cs a σ) := hD
        refine k0Li (As := [.ref (a 0), .int r361]) (rest := []) ⟨hx, hb, hml, hown, hts⟩ (c0_L_pass l D cs a _ σ r361 hw) (vx_cwSW 2 hts gL_act_L_pass rfl rfl rfl (by decide +kernel) ⟨Nat.le_of_ble_eq_true rfl, Nat.le_of_ble_eq_true rfl⟩) (pt_self_CY cs a σ) hK hP hD hS hA rfl hl.1 rfl (Nat.le_of_ble_eq_true rfl) dL_act_364 ⟨Nat.zero_le _, Nat.zero_le _⟩ (fun r364 u364 H locs hw hP hD hS => ?_)
        have hP : va_P D vwCl (ws_CY cs a u364) H := hP
        have hD : va_D A (ws_CY cs a u364) := hD
        refine lv_goto (tgt := 401) hx hb dL_act_367 (by decide) ?_
        exact B401 _ _ hw H locs ls (lv_sub hl [] rfl) hP hD hS
    · have hw := hw.2.2.2.2.2.2.2.2.1 sj
      refine lv_tableIn (off := 323) (tgt := 402) hx hb dL_act_79 s0 s1 (by rw [sj]; decide +kernel) (by decide) ?_
      exact B402 _ _ hw _ _ ls (lv_sub hl [1, 0] rfl) hP hD hS
    · have hw := hw.2.2.2.2.2.2.2.2.2.1 sj
      refine lv_tableIn (off := 323) (tgt := 402) hx hb dL_act_79 s0 s1 (by rw [sj]; decide +kernel) (by decide) ?_
      exact B402 _ _ hw _ _ ls (lv_sub hl [1, 0] rfl) hP hD hS
    · have hw := hw.2.2.2.2.2.2.2.2.2.2.1 sj
      refine lv_tableIn (off := 330) (tgt := 409) hx hb dL_act_79 s0 s1 (by rw [sj]; decide +kernel) (by decide) ?_
      refine lv_aload_n hx hb dL_act_409 rfl (lv_at hl 1 rfl) ?_
      refine lv_iload_n hx hb dL_act_410 rfl (lv_at hl 4 rfl) ?_
      refine k0Li (As := [.ref (a 0), .int x3]) (rest := []) ⟨hx, hb, hml, hown, hts⟩ (c0_L_lift l D cs a _ σ x3 hw) (vx_cwSW 2 hts gL_act_L_lift rfl rfl rfl (by decide +kernel) ⟨Nat.le_of_ble_eq_true rfl, Nat.le_of_ble_eq_true rfl⟩) (pt_self_CY cs a σ) hK hP hD hS hA rfl hl.1 rfl (Nat.le_of_ble_eq_true rfl) dL_act_411 ⟨Nat.zero_le _, Nat.zero_le _⟩ (fun r411 u411 H locs hw hP hD hS => ?_)
      have hP : va_P D vwCl (ws_CY cs a u411) H := hP
      have hD : va_D A (ws_CY cs a u411) := hD
      exact rI (wf := (ws_CY cs a)) (u := u411) hx hb hr hlocks hK hP hD hS hw dL_act_414
    · have hw := hw.2.2.2.2.2.2.2.2.2.2.2.1 sj
      refine lv_tableIn (off := 336) (tgt := 415) hx hb dL_act_79 s0 s1 (by rw [sj]; decide +kernel) (by decide) ?_
      exact B415 _ _ hw _ _ ls (lv_sub hl [1, 4] rfl) hP hD hS
    · have hw := hw.2.2.2.2.2.2.2.2.2.2.2.2.1 sj
      refine lv_tableIn (off := 336) (tgt := 415) hx hb dL_act_79 s0 s1 (by rw [sj]; decide +kernel) (by decide) ?_
      exact B415 _ _ hw _ _ ls (lv_sub hl [1, 4] rfl) hP hD hS
    · have hw := hw.2.2.2.2.2.2.2.2.2.2.2.2.2.1 sj
      refine lv_tableIn (off := 336) (tgt := 415) hx hb dL_act_79 s0 s1 (by rw [sj]; decide +kernel) (by decide) ?_
      exact B415 _ _ hw _ _ ls (lv_sub hl [1, 4] rfl) hP hD hS
  have B58 : ∀ (x1 : Int32) (x2 : Int32) (x3 : Int32) (t0 : Int32) (t1 : Int32) (σ : CY), b0_L_act_58 Φ x1 x2 x3 t0 t1 σ → At p l e (headSpec wsL_act rm0_L_act).room s m ([.ref (a 0), .int p1] : List Value).toArray below meth c (MQ below (va_Qi Φ (BG D cs A s.heap.size (ws_CY cs a)) A) ([.ref (a 0), .int p1] : List Value).toArray s 0 0 A) D A 5 [(0, .ref (a 0)), (1, .int x1), (2, .int x2), (3, .int x3)] (ws_CY cs a σ) 58 [.int t1, .int t0] := by
    intro x1 x2 x3 t0 t1 σ hw H locs ls hl hP hD hS
    unfold b0_L_act_58 at hw
    refine kSi (As := [.int t0, .int t1]) (rest := []) ⟨hx, hb, hml, hown, hts⟩ (c_L_low l D cs a _ t0 t1 hw) (va_cwS 2 hts gL_act_L_low rfl rfl rfl (by decide +kernel) ⟨Nat.le_of_ble_eq_true rfl, Nat.le_of_ble_eq_true rfl⟩) (pt_un_CY cs a σ) hK hP hD hS hA rfl hl.1 rfl (Nat.le_of_ble_eq_true rfl) dL_act_58 ⟨Nat.zero_le _, Nat.zero_le _⟩ (fun r58 u58 H locs hw hP hD hS => ?_)
    have hP : va_P D vwCl (ws_CY cs a σ) H := hP
    have hD : va_D A (ws_CY cs a σ) := hD
    refine lv_iload_n hx hb dL_act_61 rfl (lv_at hl 2 rfl) ?_
    refine lv_if_eq (tgt := 69) hx hb dL_act_62 (by decide) (fun c62 => ?_) (fun c62 => ?_)
    · have hw := hw.1 c62
      refine lv_iconst (v := (0 : Int32)) hx hb dL_act_69 (by decide) ?_
      exact B70 _ _ _ _ _ _ hw _ _ ls (lv_sub hl [0, 1, 2, 3] rfl) hP hD hS
    · have hw := hw.2 c62
      refine lv_iconst (v := (1 : Int32)) hx hb dL_act_65 (by decide) ?_
      refine lv_goto (tgt := 70) hx hb dL_act_66 (by decide) ?_
      exact B70 _ _ _ _ _ _ hw _ _ ls (lv_sub hl [0, 1, 2, 3] rfl) hP hD hS
  have B43 : ∀ (x1 : Int32) (x2 : Int32) (t0 : Int32) (σ : CY), b0_L_act_43 Φ x1 x2 t0 σ → At p l e (headSpec wsL_act rm0_L_act).room s m ([.ref (a 0), .int p1] : List Value).toArray below meth c (MQ below (va_Qi Φ (BG D cs A s.heap.size (ws_CY cs a)) A) ([.ref (a 0), .int p1] : List Value).toArray s 0 0 A) D A 5 [(0, .ref (a 0)), (1, .int x1), (2, .int x2)] (ws_CY cs a σ) 43 [.int t0] := by
    intro x1 x2 t0 σ hw H locs ls hl hP hD hS
    unfold b0_L_act_43 at hw
    refine lv_istore_n (lv' := [(3, .int t0), (0, .ref (a 0)), (1, .int x1), (2, .int x2)]) hx hb dL_act_43 rfl hl (by decide) rfl (fun ls hl => ?_)
    refine lv_iload_n hx hb dL_act_44 rfl (lv_at hl 2 rfl) ?_
    refine lv_iconst (v := (4 : Int32)) hx hb dL_act_45 (by decide) ?_
    refine lv_ishr hx hb dL_act_46 ?_
    refine lv_iload_n hx hb dL_act_47 rfl (lv_at hl 3 rfl) ?_
    refine lv_if_eq (tgt := 56) hx hb dL_act_48 (by decide) (fun c48 => ?_) (fun c48 => ?_)
    · have hw := hw.1 c48
      refine lv_bipush (v := (16 : Int32)) hx hb dL_act_56 (by decide) ?_
      exact B58 _ _ _ _ _ _ hw _ _ ls (lv_sub hl [1, 2, 3, 0] rfl) hP hD hS
    · have hw := hw.2 c48
      refine lv_bipush (v := (33 : Int32)) hx hb dL_act_51 (by decide) ?_
      refine lv_goto (tgt := 58) hx hb dL_act_53 (by decide) ?_
      exact B58 _ _ _ _ _ _ hw _ _ ls (lv_sub hl [1, 2, 3, 0] rfl) hP hD hS
  have B17 : ∀ (x1 : Int32) (t0 : Int32) (σ : CY), b0_L_act_17 Φ x1 t0 σ → At p l e (headSpec wsL_act rm0_L_act).room s m ([.ref (a 0), .int p1] : List Value).toArray below meth c (MQ below (va_Qi Φ (BG D cs A s.heap.size (ws_CY cs a)) A) ([.ref (a 0), .int p1] : List Value).toArray s 0 0 A) D A 5 [(0, .ref (a 0)), (1, .int x1)] (ws_CY cs a σ) 17 [.int t0] := by
    intro x1 t0 σ hw H locs ls hl hP hD hS
    unfold b0_L_act_17 at hw
    refine lv_istore_n (lv' := [(2, .int t0), (0, .ref (a 0)), (1, .int x1)]) hx hb dL_act_17 rfl hl (by decide) rfl (fun ls hl => ?_)
    refine lv_iload_n hx hb dL_act_18 rfl (lv_at hl 0 rfl) ?_
    refine lv_if_eq (tgt := 35) hx hb dL_act_19 (by decide) (fun c19 => ?_) (fun c19 => ?_)
    · have hw := hw.1 c19
      refine lv_iload_n hx hb dL_act_35 rfl (lv_at hl 2 rfl) ?_
      refine lv_iconst (v := (4 : Int32)) hx hb dL_act_36 (by decide) ?_
      refine lv_ishr hx hb dL_act_37 ?_
      refine lv_bipush (v := (6 : Int32)) hx hb dL_act_38 (by decide) ?_
      refine kSi (As := [.int (x1 >>> ((4 : Int32) &&& 31)), .int (6 : Int32)]) (rest := []) ⟨hx, hb, hml, hown, hts⟩ (c_L_low l D cs a _ (x1 >>> ((4 : Int32) &&& 31)) (6 : Int32) hw) (va_cwS 2 hts gL_act_L_low rfl rfl rfl (by decide +kernel) ⟨Nat.le_of_ble_eq_true rfl, Nat.le_of_ble_eq_true rfl⟩) (pt_un_CY cs a σ) hK hP hD hS hA rfl hl.1 rfl (Nat.le_of_ble_eq_true rfl) dL_act_40 ⟨Nat.zero_le _, Nat.zero_le _⟩ (fun r40 u40 H locs hw hP hD hS => ?_)
      have hP : va_P D vwCl (ws_CY cs a σ) H := hP
      have hD : va_D A (ws_CY cs a σ) := hD
      exact B43 _ _ _ _ hw H locs ls (lv_sub hl [1, 2, 0] rfl) hP hD hS
    · have hw := hw.2 c19
      refine lv_iload_n hx hb dL_act_22 rfl (lv_at hl 2 rfl) ?_
      refine lv_iconst (v := (4 : Int32)) hx hb dL_act_23 (by decide) ?_
      refine lv_ishr hx hb dL_act_24 ?_
      refine lv_bipush (v := (8 : Int32)) hx hb dL_act_25 (by decide) ?_
      refine kSi (As := [.int (x1 >>> ((4 : Int32) &&& 31)), .int (8 : Int32)]) (rest := []) ⟨hx, hb, hml, hown, hts⟩ (c_L_low l D cs a _ (x1 >>> ((4 : Int32) &&& 31)) (8 : Int32) hw) (va_cwS 2 hts gL_act_L_low rfl rfl rfl (by decide +kernel) ⟨Nat.le_of_ble_eq_true rfl, Nat.le_of_ble_eq_true rfl⟩) (pt_un_CY cs a σ) hK hP hD hS hA rfl hl.1 rfl (Nat.le_of_ble_eq_true rfl) dL_act_27 ⟨Nat.zero_le _, Nat.zero_le _⟩ (fun r27 u27 H locs hw hP hD hS => ?_)
      have hP : va_P D vwCl (ws_CY cs a σ) H := hP
      have hD : va_D A (ws_CY cs a σ) := hD
      refine lv_iconst (v := (1 : Int32)) hx hb dL_act_30 (by decide) ?_
      refine lv_isub hx hb dL_act_31 ?_
      refine lv_goto (tgt := 43) hx hb dL_act_32 (by decide) ?_
      exact B43 _ _ _ _ hw H locs ls (lv_sub hl [1, 2, 0] rfl) hP hD hS
  have hl := lv_entry ([.ref (a 0), .int p1]) (n := 5) (Nat.le_of_ble_eq_true rfl)
  rw [lg_entry_eq]
  generalize (lg_sl ([.ref (a 0), .int p1]) ++ List.replicate (5 - (lg_sl ([.ref (a 0), .int p1])).length) Slot.unset).toArray = ls at hl ⊢
  have hl : lv_has ls 5 [(0, .ref (a 0)), (1, .int p1)] := hl
  unfold w0_L_act at hw
  refine lv_iload_n hx hb dL_act_0 rfl (lv_at hl 1 rfl) ?_
  refine lv_bipush (v := (24 : Int32)) hx hb dL_act_1 (by decide) ?_
  refine lv_ishr hx hb dL_act_3 ?_
  refine lv_bipush (v := (9 : Int32)) hx hb dL_act_4 (by decide) ?_
  refine kSi (As := [.int (p1 >>> ((24 : Int32) &&& 31)), .int (9 : Int32)]) (rest := []) ⟨hx, hb, hml, hown, hts⟩ (c_L_low l D cs a _ (p1 >>> ((24 : Int32) &&& 31)) (9 : Int32) hw) (va_cwS 2 hts gL_act_L_low rfl rfl rfl (by decide +kernel) ⟨Nat.le_of_ble_eq_true rfl, Nat.le_of_ble_eq_true rfl⟩) (pt_un_CY cs a σ) hK hP hD hS hA rfl hl.1 rfl (Nat.le_of_ble_eq_true rfl) dL_act_6 ⟨Nat.zero_le _, Nat.zero_le _⟩ (fun r6 u6 H locs hw hP hD hS => ?_)
  have hP : va_P D vwCl (ws_CY cs a σ) H := hP
  have hD : va_D A (ws_CY cs a σ) := hD
  refine lv_if_ne (tgt := 16) hx hb dL_act_9 (by decide) (fun c9 => ?_) (fun c9 => ?_)
  · have hw := hw.2 c9
    refine lv_iconst (v := (0 : Int32)) hx hb dL_act_16 (by decide) ?_
    exact B17 _ _ _ hw _ _ ls (lv_sub hl [0, 1] rfl) hP hD hS
  · have hw := hw.1 c9
    refine lv_iconst (v := (1 : Int32)) hx hb dL_act_12 (by decide) ?_
    refine lv_goto (tgt := 17) hx hb dL_act_13 (by decide) ?_
    exact B17 _ _ _ hw _ _ ls (lv_sub hl [0, 1] rfl) hP hD hS
