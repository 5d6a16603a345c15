set_option linter.unusedVariables false
def BL {S : Type} (D : va_G) (cs : CS) (A : Nat → Prop) (wf : S → va_W) (u : S) (t : State) : Prop := va_P D vwCl (wf u) t.heap ∧ va_K D vwCl (tysG cs) t ∧ va_D A (wf u)
section HL1
variable {p : Program} {l : Launch} {e : Env} {R : Room} {s : State} {m : MethodId} {args : Array Value} {below : List Frame} {meth : Method} {c : Code} {H : Heap} {locs : List Loc} {cells slots : Nat}
variable {D : va_G} {cs : CS} {A : Nat → Prop} {cc : ByteArray} {pc : Nat} {ls : Array Slot}
theorem xIL {S : Type} {wf : S → va_W} {Φ : Int32 → S → Prop} {XC : String → State → State → Prop} {v : Int32} {u : S} (hx : p.tables.exec = Jvm.exec) (hb : c.code = cc) (hr : meth.sig.returnType = some .int) (hlocks : meth.locks = false) (hK : va_K D vwCl (tysG cs) s) (hP : va_P D vwCl (wf u) H) (hD : va_D A (wf u)) (hS : va_S A s.heap H locs) (hc : cells ≤ 1) (hs : slots ≤ 6) (hw : Φ v u) (hdg : decode cc pc = .ok (.ireturn, 1)) :
    W p l e R s m args below meth c H locs cells slots (vx_MQ below (va_Qi Φ (BL D cs A wf) A) XC args s 1 6 A) (F0 m pc ls [.int v]) :=
  W.widen (k := 1) (n := 6) hc hs (vx_ret (W.iret (v := v) hx hb hr (fun t ht hW => ⟨⟨v, u, rfl, hw, by rw [ht]; exact hP, va_K.moved hW.alike hK, hD⟩, hS.F ht⟩) hS.2.2 hdg hlocks))
end HL1
def w_L_arrive (σ : LH) (p1 : Int32) (p2 : Int32) (p3 : Int32) (Φ : Int32 → LH → Prop) : Prop := w_C_arrive (g_LH_cy σ) p1 p2 p3 (fun r u => ∀ z : LH, z = s_LH_out (s_LH_cy σ u) (vp_updL (g_LH_out (s_LH_cy σ u)) 0 r.toInt64) → Φ 0 z) (fun E u => (E = "java/lang/IllegalArgumentException" ∧ Φ 1 (s_LH_cy σ u)) ∨ (E = "java/lang/IllegalStateException" ∧ Φ 2 (s_LH_cy σ u)))
abbrev rm_L_arrive : Room := { frames := 8, cells := 1, slots := 6, locals := 138 }
def w_L_lift (σ : LH) (p1 : Int32) (Φ : Int32 → LH → Prop) : Prop := w_C_lift (g_LH_cy σ) p1 (fun r u => ∀ z : LH, z = s_LH_out (s_LH_cy σ u) (vp_updL (g_LH_out (s_LH_cy σ u)) 0 r.toInt64) → Φ 0 z) (fun E u => (E = "java/lang/IllegalArgumentException" ∧ Φ 1 (s_LH_cy σ u)) ∨ (E = "java/lang/IllegalStateException" ∧ Φ 2 (s_LH_cy σ u)))
abbrev rm_L_lift : Room := { frames := 8, cells := 1, slots := 6, locals := 133 }
def w_L_drop (σ : LH) (p1 : Int32) (Φ : Int32 → LH → Prop) : Prop := w_C_drop (g_LH_cy σ) p1 (fun r u => ∀ z : LH, z = s_LH_out (s_LH_cy σ u) (vp_updL (g_LH_out (s_LH_cy σ u)) 0 r.toInt64) → Φ 0 z) (fun E u => (E = "java/lang/IllegalArgumentException" ∧ Φ 1 (s_LH_cy σ u)) ∨ (E = "java/lang/IllegalStateException" ∧ Φ 2 (s_LH_cy σ u)))
abbrev rm_L_drop : Room := { frames := 8, cells := 1, slots := 6, locals := 135 }
def w_L_dig (σ : LH) (p1 : Int32) (Φ : Int32 → LH → Prop) : Prop := w_C_dig (g_LH_cy σ) p1 (fun r u => ∀ z : LH, z = s_LH_out (s_LH_cy σ u) (vp_updL (g_LH_out (s_LH_cy σ u)) 0 r.toInt64) → Φ 0 z) (fun E u => (E = "java/lang/IndexOutOfBoundsException" ∧ Φ 1 (s_LH_cy σ u)) ∨ (E = "java/lang/IllegalStateException" ∧ Φ 2 (s_LH_cy σ u)))
abbrev rm_L_dig : Room := { frames := 8, cells := 1, slots := 6, locals := 140 }
def w_L_height (σ : LH) (p1 : Int32) (Φ : Int32 → LH → Prop) : Prop := w_C_height (g_LH_cy σ) p1 (fun r u => ∀ z : LH, z = s_LH_out (s_LH_cy σ u) (vp_updL (g_LH_out (s_LH_cy σ u)) 0 r.toInt64) → Φ 0 z) (fun E u => (E = "java/lang/IllegalArgumentException" ∧ Φ 1 (s_LH_cy σ u)))
abbrev rm_L_height : Room := { frames := 8, cells := 1, slots := 6, locals := 133 }
def w_L_at (σ : LH) (p1 : Int32) (p2 : Int32) (Φ : Int32 → LH → Prop) : Prop := w_C_at (g_LH_cy σ) p1 p2 (fun r u => ∀ z : LH, z = s_LH_out (s_LH_cy σ u) (vp_updL (g_LH_out (s_LH_cy σ u)) 0 r.toInt64) → Φ 0 z) (fun E u => (E = "java/lang/IllegalArgumentException" ∧ Φ 1 (s_LH_cy σ u)))
abbrev rm_L_at : Room := { frames := 8, cells := 1, slots := 6, locals := 134 }
def w_L_stackOf (σ : LH) (p1 : Int32) (Φ : Int32 → LH → Prop) : Prop := w_C_stackOf (g_LH_cy σ) p1 (fun r u => ∀ z : LH, z = s_LH_out (s_LH_cy σ u) (vp_updL (g_LH_out (s_LH_cy σ u)) 0 r.toInt64) → Φ 0 z) (fun E u => (E = "java/lang/IndexOutOfBoundsException" ∧ Φ 1 (s_LH_cy σ u)))
abbrev rm_L_stackOf : Room := { frames := 8, cells := 1, slots := 6, locals := 134 }
def w_L_fewestLifts (σ : LH) (p1 : Int32) (Φ : Int32 → LH → Prop) : Prop := w_C_fewestLifts (g_LH_cy σ) p1 (fun r u => ∀ z : LH, z = s_LH_out (s_LH_cy σ u) (vp_updL (g_LH_out (s_LH_cy σ u)) 0 r.toInt64) → Φ 0 z) (fun E u => (E = "java/lang/IllegalArgumentException" ∧ Φ 1 (s_LH_cy σ u)) ∨ (E = "java/lang/IllegalStateException" ∧ Φ 2 (s_LH_cy σ u)))
abbrev rm_L_fewestLifts : Room := { frames := 8, cells := 1, slots := 6, locals := 171 }
def w_L_tell (σ : LH) (p1 : Int32) (p2 : Int32) (p3 : Int32) (p4 : Int32) (Φ : Int32 → LH → Prop) : Prop := w_C_tell (g_LH_cy σ) p1 p2 p3 p4 (fun r u => ∀ z : LH, z = s_LH_out (s_LH_cy σ u) (vp_updL (g_LH_out (s_LH_cy σ u)) 0 r.toInt64) → Φ 0 z) (fun E u => (E = "java/lang/IllegalArgumentException" ∧ Φ 1 (s_LH_cy σ u)) ∨ (E = "java/lang/IllegalStateException" ∧ Φ 2 (s_LH_cy σ u)))
abbrev rm_L_tell : Room := { frames := 8, cells := 1, slots := 6, locals := 137 }
def w_L_hasPaid (σ : LH) (p1 : Int32) (Φ : Int32 → LH → Prop) : Prop := w_C_hasPaid (g_LH_cy σ) p1 (fun r u => (r = 0 → ∀ z : LH, z = s_LH_out (s_LH_cy σ u) (vp_updL (g_LH_out (s_LH_cy σ u)) 0 (0 : Int64)) → Φ 0 z) ∧ (¬ r = 0 → ∀ z : LH, z = s_LH_out (s_LH_cy σ u) (vp_updL (g_LH_out (s_LH_cy σ u)) 0 (1 : Int64)) → Φ 0 z)) (fun E u => (E = "java/lang/IndexOutOfBoundsException" ∧ Φ 1 (s_LH_cy σ u)))
abbrev rm_L_hasPaid : Room := { frames := 7, cells := 1, slots := 6, locals := 113 }
def w_L_offer (σ : LH) (p1 : Int32) (p2 : Int32) (Φ : Int32 → LH → Prop) : Prop := w_C_offer (g_LH_cy σ) p1 p2 (fun r u => ∀ z : LH, z = s_LH_out (s_LH_cy σ u) (vp_updL (g_LH_out (s_LH_cy σ u)) 0 r.toInt64) → Φ 0 z) (fun E u => (E = "java/lang/IndexOutOfBoundsException" ∧ Φ 1 (s_LH_cy σ u)) ∨ (E = "java/lang/IllegalArgumentException" ∧ Φ 2 (s_LH_cy σ u)) ∨ (E = "java/lang/IllegalStateException" ∧ Φ 3 (s_LH_cy σ u)))
abbrev rm_L_offer : Room := { frames := 8, cells := 1, slots := 6, locals := 135 }
def w_L_bid (σ : LH) (p1 : Int32) (p2 : Int32) (p3 : Int32) (Φ : Int32 → LH → Prop) : Prop := w_C_bid (g_LH_cy σ) p1 p2 p3 (fun u => Φ 0 (s_LH_cy σ u)) (fun E u => (E = "java/lang/IndexOutOfBoundsException" ∧ Φ 1 (s_LH_cy σ u)) ∨ (E = "java/lang/IllegalArgumentException" ∧ Φ 2 (s_LH_cy σ u)) ∨ (E = "java/lang/IllegalStateException" ∧ Φ 3 (s_LH_cy σ u)))
abbrev rm_L_bid : Room := { frames := 8, cells := 1, slots := 6, locals := 136 }
def w_L_give (σ : LH) (p1 : Int32) (Φ : Int32 → LH → Prop) : Prop := w_C_give (g_LH_cy σ) p1 (fun r u => ∀ z : LH, z = s_LH_out (s_LH_cy σ u) (vp_updL (g_LH_out (s_LH_cy σ u)) 0 r.toInt64) → Φ 0 z) (fun E u => (E = "java/lang/IndexOutOfBoundsException" ∧ Φ 1 (s_LH_cy σ u)) ∨ (E = "java/lang/IllegalStateException" ∧ Φ 2 (s_LH_cy σ u)))
abbrev rm_L_give : Room := { frames := 8, cells := 1, slots := 6, locals := 135 }
def w_L_load (σ : LH)  (Φ : Int32 → LH → Prop) : Prop := w_C_load (g_LH_cy σ)  (fun r u => ∀ z : LH, z = s_LH_out (s_LH_cy σ u) (vp_updL (g_LH_out (s_LH_cy σ u)) 0 r.toInt64) → Φ 0 z) (fun E u => (E = "java/lang/IllegalStateException" ∧ Φ 1 (s_LH_cy σ u)))
abbrev rm_L_load : Room := { frames := 8, cells := 1, slots := 6, locals := 133 }
def w_L_state (σ : LH) (p1 : Int32) (Φ : Int32 → LH → Prop) : Prop := w_C_state (g_LH_cy σ) p1 (fun r u => ∀ z : LH, z = s_LH_out (s_LH_cy σ u) (vp_updL (g_LH_out (s_LH_cy σ u)) 0 r.toInt64) → Φ 0 z) (fun E u => (E = "java/lang/IndexOutOfBoundsException" ∧ Φ 1 (s_LH_cy σ u)))
abbrev rm_L_state : Room := { frames := 8, cells := 1, slots := 6, locals := 134 }
def w_L_pass (σ : LH) (p1 : Int32) (Φ : Int32 → LH → Prop) : Prop := w_C_pass (g_LH_cy σ) p1 (fun r u => ∀ z : LH, z = s_LH_out (s_LH_cy σ u) (vp_updL (g_LH_out (s_LH_cy σ u)) 0 r.toInt64) → Φ 0 z) (fun E u => (E = "java/lang/IllegalArgumentException" ∧ Φ 1 (s_LH_cy σ u)) ∨ (E = "java/lang/IllegalStateException" ∧ Φ 2 (s_LH_cy σ u)))
abbrev rm_L_pass : Room := { frames := 7, cells := 1, slots := 6, locals := 115 }
set_option maxHeartbeats 4000000 in
theorem c_L_arrive (l : Launch) (hfl : l.stackTraces = false) (D : va_G) (cs : CS) (a : Nat → Nat) (sz : Nat) (σ : LH) (p1 : Int32) (p2 : Int32) (p3 : Int32) {Φ : Int32 → LH → Prop} (hw : w_L_arrive σ p1 p2 p3 Φ) : vx_Met l yL_arrive wsL_arrive rm_L_arrive (PcX [.ref (a 0), .int p1, .int p2, .int p3, .ref (a 21)] D cs (ws_LH cs a σ) sz) (va_Qi Φ (BL D cs (va_A (ws_LH cs a σ) sz) (ws_LH cs a)) (va_A (ws_LH cs a σ) sz)) (XG D cs (va_A (ws_LH cs a σ) sz) (ws_LH cs a) (fun _ _ => False)) 1 6 (va_A (ws_LH cs a σ) sz) := by
  refine vx_ofWH (cc := cL_arrive) (maxL := 6) (ret := (some .int)) (hh := [(0, 12, 15, 13), (0, 12, 19, 15)]) (by decide) rfl ?_
  intro p e s m args below meth c s₁ B hml hv
  obtain ⟨rfl, hsz, hP, hK, hD0, hE⟩ := hv
  have hx := B.exec
  have hb := B.bytes
  have hr := B.returns
  have hts := atoms_spec (ws := wsL_arrive) B.pre
  have hown : s.vm.findClass RL = some m.cls := findClass_of_methodNamed B.named
  have hlocks := B.notSynchronized
  have htab : c.exceptionTable.toList = [⟨0, 12, 15, 13⟩, ⟨0, 12, 19, 15⟩] := vx_table (x := yL_arrive) B (hts _ List.mem_cons_self)
  subst hsz
  have hD := hD0.self (sz := s.heap.size)
  generalize hAe : va_A (ws_LH cs a σ) s.heap.size = A at hD hE ⊢
  have hA : ∀ q : Nat, s.heap.size ≤ q → A q := fun q h => by rw [← hAe]; exact Or.inr h
  have hS : va_S A s.heap s.heap [] := va_S.rf
  have hk13 : (Cond.classLink RL 13 "java/lang/IllegalArgumentException").before ([.ref (a 0), .int p1, .int p2, .int p3, .ref (a 21)] : List Value).toArray s = true := hts _ (List.mem_of_getElem? (i := 1) rfl)
  have hk15 : (Cond.classLink RL 15 "java/lang/IllegalStateException").before ([.ref (a 0), .int p1, .int p2, .int p3, .ref (a 21)] : List Value).toArray s = true := hts _ (List.mem_of_getElem? (i := 2) rfl)
  have hP : va_P D vwCl (ws_LH cs a σ) s.heap := hP
  have hl := lv_entry ([.ref (a 0), .int p1, .int p2, .int p3, .ref (a 21)]) (n := 6) (Nat.le_of_ble_eq_true rfl)
  rw [lg_entry_eq]
  generalize (lg_sl ([.ref (a 0), .int p1, .int p2, .int p3, .ref (a 21)]) ++ List.replicate (6 - (lg_sl ([.ref (a 0), .int p1, .int p2, .int p3, .ref (a 21)])).length) Slot.unset).toArray = ls at hl ⊢
  have hl : lv_has ls 6 [(0, .ref (a 0)), (1, .int p1), (2, .int p2), (3, .int p3), (4, .ref (a 21))] := hl
  unfold w_L_arrive at hw
  refine lv_aload hx hb dL_arrive_0 (lv_at hl 4 rfl) ?_
  refine lv_iconst (v := (0 : Int32)) hx hb dL_arrive_2 (by decide) ?_
  refine lv_aload_n hx hb dL_arrive_3 rfl (lv_at hl 0 rfl) ?_
  refine lv_iload_n hx hb dL_arrive_4 rfl (lv_at hl 1 rfl) ?_
  refine lv_iload_n hx hb dL_arrive_5 rfl (lv_at hl 2 rfl) ?_
  refine lv_iload_n hx hb dL_arrive_6 rfl (lv_at hl 3 rfl) ?_
  refine kxVi (As := [.int p1, .int p2, .int p3]) (rest := [.int 0, .ref (a 21)]) ⟨hx, hb, hml, hown, hts⟩ hE (c_C_arrive l hfl D cs a _ (g_LH_cy σ) p1 p2 p3 hw) (cwV 3 hts gL_arrive_X3_arrive rfl rfl rfl (by decide +kernel) ⟨Nat.le_of_ble_eq_true rfl, Nat.le_of_ble_eq_true rfl⟩) (pt_LH_cy cs a σ) hK hP hD hS hA (ci := 3) rfl rfl rfl rfl hl.1 rfl (Nat.le_of_ble_eq_true rfl) dL_arrive_7 ⟨Nat.le_of_ble_eq_true rfl, Nat.le_of_ble_eq_true rfl⟩ (fun E u H locs q9 ce hw hP hD hS hcell hv hcl => ?_) (fun r u H locs hw hP hD hS => ?_)
  · rcases hw with ⟨rfl, hw⟩ | ⟨rfl, hw⟩
    · refine vx_catch (name := "java/lang/IllegalArgumentException") hown [] ⟨0, 12, 15, 13⟩ [⟨0, 12, 19, 15⟩] htab (fun z hz => absurd hz List.not_mem_nil) (by decide) (by decide) hk13 (va_Nw.use rfl (hE.2.2.2.1 _ (by decide))) hcell hv hcl ?_
      refine lv_astore hx hb dL_arrive_15 hl (by decide) rfl (fun ls hl => ?_)
      refine lv_iconst (v := (1 : Int32)) hx hb dL_arrive_17 (by decide) ?_
      exact xIL (wf := ws_LH cs a) (u := s_LH_cy σ u) hx hb hr hlocks hK hP hD hS (Nat.le_refl _) (Nat.le_refl _) hw dL_arrive_18
    · refine vx_catch (name := "java/lang/IllegalStateException") hown [⟨0, 12, 15, 13⟩] ⟨0, 12, 19, 15⟩ [] htab (fun z hz => by rcases List.mem_cons.mp hz with rfl | hz; exact Or.inr ⟨by decide, "java/lang/IllegalArgumentException", hk13, hE.2.2.2.2.1 ("java/lang/IllegalStateException", "java/lang/IllegalArgumentException") (by decide)⟩; exact absurd hz List.not_mem_nil) (by decide) (by decide) hk15 (va_Nw.use rfl (hE.2.2.2.1 _ (by decide))) hcell hv hcl ?_
      refine lv_astore hx hb dL_arrive_19 hl (by decide) rfl (fun ls hl => ?_)
      refine lv_iconst (v := (2 : Int32)) hx hb dL_arrive_21 (by decide) ?_
      exact xIL (wf := ws_LH cs a) (u := s_LH_cy σ u) hx hb hr hlocks hK hP hD hS (Nat.le_refl _) (Nat.le_refl _) hw dL_arrive_22
  · have hP : va_P D vwCl (ws_LH cs a (s_LH_cy σ u)) H := hP
    have hD : va_D A (ws_LH cs a (s_LH_cy σ u)) := hD
    refine lv_i2l (v := r.toInt64) hx hb dL_arrive_10 rfl ?_
    refine va_last (n := 1) (x := r.toInt64) (f := g_LH_out (s_LH_cy σ u)) hx hb hK hP hD hS 21 2 rfl rfl (vp_in_nI (n := 0) (by omega) (by omega)) dL_arrive_11 (fun H locs hP hD hS => ?_)
    have hP : va_P D vwCl (ws_LH cs a (s_LH_out (s_LH_cy σ u) (vp_updL (g_LH_out (s_LH_cy σ u)) 0 r.toInt64))) H := hP
    have hD : va_D A (ws_LH cs a (s_LH_out (s_LH_cy σ u) (vp_updL (g_LH_out (s_LH_cy σ u)) 0 r.toInt64))) := hD
    have hw := hw _ rfl
    refine lv_goto (tgt := 23) hx hb dL_arrive_12 (by decide) ?_
    refine lv_iconst (v := (0 : Int32)) hx hb dL_arrive_23 (by decide) ?_
    exact xIL (wf := ws_LH cs a) (u := (s_LH_out (s_LH_cy σ u) (vp_updL (g_LH_out (s_LH_cy σ u)) 0 r.toInt64))) hx hb hr hlocks hK hP hD hS (Nat.zero_le _) (Nat.zero_le _) hw dL_arrive_24
set_option maxHeartbeats 4000000 in
theorem c_L_lift (l : Launch) (hfl : l.stackTraces = false) (D : va_G) (cs : CS) (a : Nat → Nat) (sz : Nat) (σ : LH) (p1 : Int32) {Φ : Int32 → LH → Prop} (hw : w_L_lift σ p1 Φ) : vx_Met l yL_lift wsL_lift rm_L_lift (PcX [.ref (a 0), .int p1, .ref (a 21)] D cs (ws_LH cs a σ) sz) (va_Qi Φ (BL D cs (va_A (ws_LH cs a σ) sz) (ws_LH cs a)) (va_A (ws_LH cs a σ) sz)) (XG D cs (va_A (ws_LH cs a σ) sz) (ws_LH cs a) (fun _ _ => False)) 1 6 (va_A (ws_LH cs a σ) sz) := by
  refine vx_ofWH (cc := cL_lift) (maxL := 4) (ret := (some .int)) (hh := [(0, 9, 12, 13), (0, 9, 15, 15)]) (by decide) rfl ?_
  intro p e s m args below meth c s₁ B hml hv
  obtain ⟨rfl, hsz, hP, hK, hD0, hE⟩ := hv
  have hx := B.exec
  have hb := B.bytes
  have hr := B.returns
  have hts := atoms_spec (ws := wsL_lift) B.pre
  have hown : s.vm.findClass RL = some m.cls := findClass_of_methodNamed B.named
  have hlocks := B.notSynchronized
  have htab : c.exceptionTable.toList = [⟨0, 9, 12, 13⟩, ⟨0, 9, 15, 15⟩] := vx_table (x := yL_lift) B (hts _ List.mem_cons_self)
  subst hsz
  have hD := hD0.self (sz := s.heap.size)
  generalize hAe : va_A (ws_LH cs a σ) s.heap.size = A at hD hE ⊢
  have hA : ∀ q : Nat, s.heap.size ≤ q → A q := fun q h => by rw [← hAe]; exact Or.inr h
  have hS : va_S A s.heap s.heap [] := va_S.rf
  have hk13 : (Cond.classLink RL 13 "java/lang/IllegalArgumentException").before ([.ref (a 0), .int p1, .ref (a 21)] : List Value).toArray s = true := hts _ (List.mem_of_getElem? (i := 1) rfl)
  have hk15 : (Cond.classLink RL 15 "java/lang/IllegalStateException").before ([.ref (a 0), .int p1, .ref (a 21)] : List Value).toArray s = true := hts _ (List.mem_of_getElem? (i := 2) rfl)
  have hP : va_P D vwCl (ws_LH cs a σ) s.heap := hP
  have hl := lv_entry ([.ref (a 0), .int p1, .ref (a 21)]) (n := 4) (Nat.le_of_ble_eq_true rfl)
  rw [lg_entry_eq]
  generalize (lg_sl ([.ref (a 0), .int p1, .ref (a 21)]) ++ List.replicate (4 - (lg_sl ([.ref (a 0), .int p1, .ref (a 21)])).length) Slot.unset).toArray = ls at hl ⊢
  have hl : lv_has ls 4 [(0, .ref (a 0)), (1, .int p1), (2, .ref (a 21))] := hl
  unfold w_L_lift at hw
  refine lv_aload_n hx hb dL_lift_0 rfl (lv_at hl 2 rfl) ?_
  refine lv_iconst (v := (0 : Int32)) hx hb dL_lift_1 (by decide) ?_
  refine lv_aload_n hx hb dL_lift_2 rfl (lv_at hl 0 rfl) ?_
  refine lv_iload_n hx hb dL_lift_3 rfl (lv_at hl 1 rfl) ?_
  refine kxVi (As := [.int p1]) (rest := [.int 0, .ref (a 21)]) ⟨hx, hb, hml, hown, hts⟩ hE (c_C_lift l hfl D cs a _ (g_LH_cy σ) p1 hw) (cwV 1 hts gL_lift_X3_lift rfl rfl rfl (by decide +kernel) ⟨Nat.le_of_ble_eq_true rfl, Nat.le_of_ble_eq_true rfl⟩) (pt_LH_cy cs a σ) hK hP hD hS hA (ci := 3) rfl rfl rfl rfl hl.1 rfl (Nat.le_of_ble_eq_true rfl) dL_lift_4 ⟨Nat.le_of_ble_eq_true rfl, Nat.le_of_ble_eq_true rfl⟩ (fun E u H locs q9 ce hw hP hD hS hcell hv hcl => ?_) (fun r u H locs hw hP hD hS => ?_)
  · rcases hw with ⟨rfl, hw⟩ | ⟨rfl, hw⟩
    · refine vx_catch (name := "java/lang/IllegalArgumentException") hown [] ⟨0, 9, 12, 13⟩ [⟨0, 9, 15, 15⟩] htab (fun z hz => absurd hz List.not_mem_nil) (by decide) (by decide) hk13 (va_Nw.use rfl (hE.2.2.2.1 _ (by decide))) hcell hv hcl ?_
      refine lv_astore_n hx hb dL_lift_12 rfl hl (by decide) rfl (fun ls hl => ?_)
      refine lv_iconst (v := (1 : Int32)) hx hb dL_lift_13 (by decide) ?_
      exact xIL (wf := ws_LH cs a) (u := s_LH_cy σ u) hx hb hr hlocks hK hP hD hS (Nat.le_refl _) (Nat.le_refl _) hw dL_lift_14
    · refine vx_catch (name := "java/lang/IllegalStateException") hown [⟨0, 9, 12, 13⟩] ⟨0, 9, 15, 15⟩ [] htab (fun z hz => by rcases List.mem_cons.mp hz with rfl | hz; exact Or.inr ⟨by decide, "java/lang/IllegalArgumentException", hk13, hE.2.2.2.2.1 ("java/lang/IllegalStateException", "java/lang/IllegalArgumentException") (by decide)⟩; exact absurd hz List.not_mem_nil) (by decide) (by decide) hk15 (va_Nw.use rfl (hE.2.2.2.1 _ (by decide))) hcell hv hcl ?_
      refine lv_astore_n hx hb dL_lift_15 rfl hl (by decide) rfl (fun ls hl => ?_)
      refine lv_iconst (v := (2 : Int32)) hx hb dL_lift_16 (by decide) ?_
      exact xIL (wf := ws_LH cs a) (u := s_LH_cy σ u) hx hb hr hlocks hK hP hD hS (Nat.le_refl _) (Nat.le_refl _) hw dL_lift_17
  · have hP : va_P D vwCl (ws_LH cs a (s_LH_cy σ u)) H := hP
    have hD : va_D A (ws_LH cs a (s_LH_cy σ u)) := hD
    refine lv_i2l (v := r.toInt64) hx hb dL_lift_7 rfl ?_
    refine va_last (n := 1) (x := r.toInt64) (f := g_LH_out (s_LH_cy σ u)) hx hb hK hP hD hS 21 2 rfl rfl (vp_in_nI (n := 0) (by omega) (by omega)) dL_lift_8 (fun H locs hP hD hS => ?_)
    have hP : va_P D vwCl (ws_LH cs a (s_LH_out (s_LH_cy σ u) (vp_updL (g_LH_out (s_LH_cy σ u)) 0 r.toInt64))) H := hP
    have hD : va_D A (ws_LH cs a (s_LH_out (s_LH_cy σ u) (vp_updL (g_LH_out (s_LH_cy σ u)) 0 r.toInt64))) := hD
    have hw := hw _ rfl
    refine lv_goto (tgt := 18) hx hb dL_lift_9 (by decide) ?_
    refine lv_iconst (v := (0 : Int32)) hx hb dL_lift_18 (by decide) ?_
    exact xIL (wf := ws_LH cs a) (u := (s_LH_out (s_LH_cy σ u) (vp_updL (g_LH_out (s_LH_cy σ u)) 0 r.toInt64))) hx hb hr hlocks hK hP hD hS (Nat.zero_le _) (Nat.zero_le _) hw dL_lift_19
set_option maxHeartbeats 4000000 in
theorem c_L_drop (l : Launch) (hfl : l.stackTraces = false) (D : va_G) (cs : CS) (a : Nat → Nat) (sz : Nat) (σ : LH) (p1 : Int32) {Φ : Int32 → LH → Prop} (hw : w_L_drop σ p1 Φ) : vx_Met l yL_drop wsL_drop rm_L_drop (PcX [.ref (a 0), .int p1, .ref (a 21)] D cs (ws_LH cs a σ) sz) (va_Qi Φ (BL D cs (va_A (ws_LH cs a σ) sz) (ws_LH cs a)) (va_A (ws_LH cs a σ) sz)) (XG D cs (va_A (ws_LH cs a σ) sz) (ws_LH cs a) (fun _ _ => False)) 1 6 (va_A (ws_LH cs a σ) sz) := by
  refine vx_ofWH (cc := cL_drop) (maxL := 4) (ret := (some .int)) (hh := [(0, 9, 12, 13), (0, 9, 15, 15)]) (by decide) rfl ?_
  intro p e s m args below meth c s₁ B hml hv
  obtain ⟨rfl, hsz, hP, hK, hD0, hE⟩ := hv
  have hx := B.exec
  have hb := B.bytes
  have hr := B.returns
  have hts := atoms_spec (ws := wsL_drop) B.pre
  have hown : s.vm.findClass RL = some m.cls := findClass_of_methodNamed B.named
  have hlocks := B.notSynchronized
  have htab : c.exceptionTable.toList = [⟨0, 9, 12, 13⟩, ⟨0, 9, 15, 15⟩] := vx_table (x := yL_drop) B (hts _ List.mem_cons_self)
  subst hsz
  have hD := hD0.self (sz := s.heap.size)
  generalize hAe : va_A (ws_LH cs a σ) s.heap.size = A at hD hE ⊢
  have hA : ∀ q : Nat, s.heap.size ≤ q → A q := fun q h => by rw [← hAe]; exact Or.inr h
  have hS : va_S A s.heap s.heap [] := va_S.rf
  have hk13 : (Cond.classLink RL 13 "java/lang/IllegalArgumentException").before ([.ref (a 0), .int p1, .ref (a 21)] : List Value).toArray s = true := hts _ (List.mem_of_getElem? (i := 1) rfl)
  have hk15 : (Cond.classLink RL 15 "java/lang/IllegalStateException").before ([.ref (a 0), .int p1, .ref (a 21)] : List Value).toArray s = true := hts _ (List.mem_of_getElem? (i := 2) rfl)
  have hP : va_P D vwCl (ws_LH cs a σ) s.heap := hP
  have hl := lv_entry ([.ref (a 0), .int p1, .ref (a 21)]) (n := 4) (Nat.le_of_ble_eq_true rfl)
  rw [lg_entry_eq]
  generalize (lg_sl ([.ref (a 0), .int p1, .ref (a 21)]) ++ List.replicate (4 - (lg_sl ([.ref (a 0), .int p1, .ref (a 21)])).length) Slot.unset).toArray = ls at hl ⊢
  have hl : lv_has ls 4 [(0, .ref (a 0)), (1, .int p1), (2, .ref (a 21))] := hl
  unfold w_L_drop at hw
  refine lv_aload_n hx hb dL_drop_0 rfl (lv_at hl 2 rfl) ?_
  refine lv_iconst (v := (0 : Int32)) hx hb dL_drop_1 (by decide) ?_
  refine lv_aload_n hx hb dL_drop_2 rfl (lv_at hl 0 rfl) ?_
  refine lv_iload_n hx hb dL_drop_3 rfl (lv_at hl 1 rfl) ?_
  refine kxVi (As := [.int p1]) (rest := [.int 0, .ref (a 21)]) ⟨hx, hb, hml, hown, hts⟩ hE (c_C_drop l hfl D cs a _ (g_LH_cy σ) p1 hw) (cwV 1 hts gL_drop_X3_drop rfl rfl rfl (by decide +kernel) ⟨Nat.le_of_ble_eq_true rfl, Nat.le_of_ble_eq_true rfl⟩) (pt_LH_cy cs a σ) hK hP hD hS hA (ci := 3) rfl rfl rfl rfl hl.1 rfl (Nat.le_of_ble_eq_true rfl) dL_drop_4 ⟨Nat.le_of_ble_eq_true rfl, Nat.le_of_ble_eq_true rfl⟩ (fun E u H locs q9 ce hw hP hD hS hcell hv hcl => ?_) (fun r u H locs hw hP hD hS => ?_)
  · rcases hw with ⟨rfl, hw⟩ | ⟨rfl, hw⟩
    · refine vx_catch (name := "java/lang/IllegalArgumentException") hown [] ⟨0, 9, 12, 13⟩ [⟨0, 9, 15, 15⟩] htab (fun z hz => absurd hz List.not_mem_nil) (by decide) (by decide) hk13 (va_Nw.use rfl (hE.2.2.2.1 _ (by decide))) hcell hv hcl ?_
      refine lv_astore_n hx hb dL_drop_12 rfl hl (by decide) rfl (fun ls hl => ?_)
      refine lv_iconst (v := (1 : Int32)) hx hb dL_drop_13 (by decide) ?_
      exact xIL (wf := ws_LH cs a) (u := s_LH_cy σ u) hx hb hr hlocks hK hP hD hS (Nat.le_refl _) (Nat.le_refl _) hw dL_drop_14
    · refine vx_catch (name := "java/lang/IllegalStateException") hown [⟨0, 9, 12, 13⟩] ⟨0, 9, 15, 15⟩ [] htab (fun z hz => by rcases List.mem_cons.mp hz with rfl | hz; exact Or.inr ⟨by decide, "java/lang/IllegalArgumentException", hk13, hE.2.2.2.2.1 ("java/lang/IllegalStateException", "java/lang/IllegalArgumentException") (by decide)⟩; exact absurd hz List.not_mem_nil) (by decide) (by decide) hk15 (va_Nw.use rfl (hE.2.2.2.1 _ (by decide))) hcell hv hcl ?_
      refine lv_astore_n hx hb dL_drop_15 rfl hl (by decide) rfl (fun ls hl => ?_)
      refine lv_iconst (v := (2 : Int32)) hx hb dL_drop_16 (by decide) ?_
      exact xIL (wf := ws_LH cs a) (u := s_LH_cy σ u) hx hb hr hlocks hK hP hD hS (Nat.le_refl _) (Nat.le_refl _) hw dL_drop_17
  · have hP : va_P D vwCl (ws_LH cs a (s_LH_cy σ u)) H := hP
    have hD : va_D A (ws_LH cs a (s_LH_cy σ u)) := hD
    refine lv_i2l (v := r.toInt64) hx hb dL_drop_7 rfl ?_
    refine va_last (n := 1) (x := r.toInt64) (f := g_LH_out (s_LH_cy σ u)) hx hb hK hP hD hS 21 2 rfl rfl (vp_in_nI (n := 0) (by omega) (by omega)) dL_drop_8 (fun H locs hP hD hS => ?_)
    have hP : va_P D vwCl (ws_LH cs a (s_LH_out (s_LH_cy σ u) (vp_updL (g_LH_out (s_LH_cy σ u)) 0 r.toInt64))) H := hP
    have hD : va_D A (ws_LH cs a (s_LH_out (s_LH_cy σ u) (vp_updL (g_LH_out (s_LH_cy σ u)) 0 r.toInt64))) := hD
    have hw := hw _ rfl
    refine lv_goto (tgt := 18) hx hb dL_drop_9 (by decide) ?_
    refine lv_iconst (v := (0 : Int32)) hx hb dL_drop_18 (by decide) ?_
    exact xIL (wf := ws_LH cs a) (u := (s_LH_out (s_LH_cy σ u) (vp_updL (g_LH_out (s_LH_cy σ u)) 0 r.toInt64))) hx hb hr hlocks hK hP hD hS (Nat.zero_le _) (Nat.zero_le _) hw dL_drop_19
set_option maxHeartbeats 4000000 in
theorem c_L_dig (l : Launch) (hfl : l.stackTraces = false) (D : va_G) (cs : CS) (a : Nat → Nat) (sz : Nat) (σ : LH) (p1 : Int32) {Φ : Int32 → LH → Prop} (hw : w_L_dig σ p1 Φ) : vx_Met l yL_dig wsL_dig rm_L_dig (PcX [.ref (a 0), .int p1, .ref (a 21)] D cs (ws_LH cs a σ) sz) (va_Qi Φ (BL D cs (va_A (ws_LH cs a σ) sz) (ws_LH cs a)) (va_A (ws_LH cs a σ) sz)) (XG D cs (va_A (ws_LH cs a σ) sz) (ws_LH cs a) (fun _ _ => False)) 1 6 (va_A (ws_LH cs a σ) sz) := by
  refine vx_ofWH (cc := cL_dig) (maxL := 4) (ret := (some .int)) (hh := [(0, 9, 12, 27), (0, 9, 15, 15)]) (by decide) rfl ?_
  intro p e s m args below meth c s₁ B hml hv
  obtain ⟨rfl, hsz, hP, hK, hD0, hE⟩ := hv
  have hx := B.exec
  have hb := B.bytes
  have hr := B.returns
  have hts := atoms_spec (ws := wsL_dig) B.pre
  have hown : s.vm.findClass RL = some m.cls := findClass_of_methodNamed B.named
  have hlocks := B.notSynchronized
  have htab : c.exceptionTable.toList = [⟨0, 9, 12, 27⟩, ⟨0, 9, 15, 15⟩] := vx_table (x := yL_dig) B (hts _ List.mem_cons_self)
  subst hsz
  have hD := hD0.self (sz := s.heap.size)
  generalize hAe : va_A (ws_LH cs a σ) s.heap.size = A at hD hE ⊢
  have hA : ∀ q : Nat, s.heap.size ≤ q → A q := fun q h => by rw [← hAe]; exact Or.inr h
  have hS : va_S A s.heap s.heap [] := va_S.rf
  have hk27 : (Cond.classLink RL 27 "java/lang/IndexOutOfBoundsException").before ([.ref (a 0), .int p1, .ref (a 21)] : List Value).toArray s = true := hts _ (List.mem_of_getElem? (i := 1) rfl)
  have hk15 : (Cond.classLink RL 15 "java/lang/IllegalStateException").before ([.ref (a 0), .int p1, .ref (a 21)] : List Value).toArray s = true := hts _ (List.mem_of_getElem? (i := 2) rfl)
  have hP : va_P D vwCl (ws_LH cs a σ) s.heap := hP
  have hl := lv_entry ([.ref (a 0), .int p1, .ref (a 21)]) (n := 4) (Nat.le_of_ble_eq_true rfl)
  rw [lg_entry_eq]
  generalize (lg_sl ([.ref (a 0), .int p1, .ref (a 21)]) ++ List.replicate (4 - (lg_sl ([.ref (a 0), .int p1, .ref (a 21)])).length) Slot.unset).toArray = ls at hl ⊢
  have hl : lv_has ls 4 [(0, .ref (a 0)), (1, .int p1), (2, .ref (a 21))] := hl
  unfold w_L_dig at hw
  refine lv_aload_n hx hb dL_dig_0 rfl (lv_at hl 2 rfl) ?_
  refine lv_iconst (v := (0 : Int32)) hx hb dL_dig_1 (by decide) ?_
  refine lv_aload_n hx hb dL_dig_2 rfl (lv_at hl 0 rfl) ?_
  refine lv_iload_n hx hb dL_dig_3 rfl (lv_at hl 1 rfl) ?_
  refine kxVi (As := [.int p1]) (rest := [.int 0, .ref (a 21)]) ⟨hx, hb, hml, hown, hts⟩ hE (c_C_dig l hfl D cs a _ (g_LH_cy σ) p1 hw) (cwV 1 hts gL_dig_X3_dig rfl rfl rfl (by decide +kernel) ⟨Nat.le_of_ble_eq_true rfl, Nat.le_of_ble_eq_true rfl⟩) (pt_LH_cy cs a σ) hK hP hD hS hA (ci := 3) rfl rfl rfl rfl hl.1 rfl (Nat.le_of_ble_eq_true rfl) dL_dig_4 ⟨Nat.le_of_ble_eq_true rfl, Nat.le_of_ble_eq_true rfl⟩ (fun E u H locs q9 ce hw hP hD hS hcell hv hcl => ?_) (fun r u H locs hw hP hD hS => ?_)
  · rcases hw with ⟨rfl, hw⟩ | ⟨rfl, hw⟩
    · refine vx_catch (name := "java/lang/IndexOutOfBoundsException") hown [] ⟨0, 9, 12, 27⟩ [⟨0, 9, 15, 15⟩] htab (fun z hz => absurd hz List.not_mem_nil) (by decide) (by decide) hk27 (va_Nw.use rfl (hE.2.2.2.1 _ (by decide))) hcell hv hcl ?_
      refine lv_astore_n hx hb dL_dig_12 rfl hl (by decide) rfl (fun ls hl => ?_)
      refine lv_iconst (v := (1 : Int32)) hx hb dL_dig_13 (by decide) ?_
      exact xIL (wf := ws_LH cs a) (u := s_LH_cy σ u) hx hb hr hlocks hK hP hD hS (Nat.le_refl _) (Nat.le_refl _) hw dL_dig_14
    · refine vx_catch (name := "java/lang/IllegalStateException") hown [⟨0, 9, 12, 27⟩] ⟨0, 9, 15, 15⟩ [] htab (fun z hz => by rcases List.mem_cons.mp hz with rfl | hz; exact Or.inr ⟨by decide, "java/lang/IndexOutOfBoundsException", hk27, hE.2.2.2.2.1 ("java/lang/IllegalStateException", "java/lang/IndexOutOfBoundsException") (by decide)⟩; exact absurd hz List.not_mem_nil) (by decide) (by decide) hk15 (va_Nw.use rfl (hE.2.2.2.1 _ (by decide))) hcell hv hcl ?_
      refine lv_astore_n hx hb dL_dig_15 rfl hl (by decide) rfl (fun ls hl => ?_)
      refine lv_iconst (v := (2 : Int32)) hx hb dL_dig_16 (by decide) ?_
      exact xIL (wf := ws_LH cs a) (u := s_LH_cy σ u) hx hb hr hlocks hK hP hD hS (Nat.le_refl _) (Nat.le_refl _) hw dL_dig_17
  · have hP : va_P D vwCl (ws_LH cs a (s_LH_cy σ u)) H := hP
    have hD : va_D A (ws_LH cs a (s_LH_cy σ u)) := hD
    refine lv_i2l (v := r.toInt64) hx hb dL_dig_7 rfl ?_
    refine va_last (n := 1) (x := r.toInt64) (f := g_LH_out (s_LH_cy σ u)) hx hb hK hP hD hS 21 2 rfl rfl (vp_in_nI (n := 0) (by omega) (by omega)) dL_dig_8 (fun H locs hP hD hS => ?_)
    have hP : va_P D vwCl (ws_LH cs a (s_LH_out (s_LH_cy σ u) (vp_updL (g_LH_out (s_LH_cy σ u)) 0 r.toInt64))) H := hP
    have hD : va_D A (ws_LH cs a (s_LH_out (s_LH_cy σ u) (vp_updL (g_LH_out (s_LH_cy σ u)) 0 r.toInt64))) := hD
    have hw := hw _ rfl
    refine lv_goto (tgt := 18) hx hb dL_dig_9 (by decide) ?_
    refine lv_iconst (v := (0 : Int32)) hx hb dL_dig_18 (by decide) ?_
    exact xIL (wf := ws_LH cs a) (u := (s_LH_out (s_LH_cy σ u) (vp_updL (g_LH_out (s_LH_cy σ u)) 0 r.toInt64))) hx hb hr hlocks hK hP hD hS (Nat.zero_le _) (Nat.zero_le _) hw dL_dig_19
set_option maxHeartbeats 4000000 in
theorem c_L_height (l : Launch) (hfl : l.stackTraces = false) (D : va_G) (cs : CS) (a : Nat → Nat) (sz : Nat) (σ : LH) (p1 : Int32) {Φ : Int32 → LH → Prop} (hw : w_L_height σ p1 Φ) : vx_Met l yL_height wsL_height rm_L_height (PcX [.ref (a 0), .int p1, .ref (a 21)] D cs (ws_LH cs a σ) sz) (va_Qi Φ (BL D cs (va_A (ws_LH cs a σ) sz) (ws_LH cs a)) (va_A (ws_LH cs a σ) sz)) (XG D cs (va_A (ws_LH cs a σ) sz) (ws_LH cs a) (fun _ _ => False)) 1 6 (va_A (ws_LH cs a σ) sz) := by
  refine vx_ofWH (cc := cL_height) (maxL := 4) (ret := (some .int)) (hh := [(0, 9, 12, 13)]) (by decide) rfl ?_
  intro p e s m args below meth c s₁ B hml hv
  obtain ⟨rfl, hsz, hP, hK, hD0, hE⟩ := hv
  have hx := B.exec
  have hb := B.bytes
  have hr := B.returns
  have hts := atoms_spec (ws := wsL_height) B.pre
  have hown : s.vm.findClass RL = some m.cls := findClass_of_methodNamed B.named
  have hlocks := B.notSynchronized
  have htab : c.exceptionTable.toList = [⟨0, 9, 12, 13⟩] := vx_table (x := yL_height) B (hts _ List.mem_cons_self)
  subst hsz
  have hD := hD0.self (sz := s.heap.size)
  generalize hAe : va_A (ws_LH cs a σ) s.heap.size = A at hD hE ⊢
  have hA : ∀ q : Nat, s.heap.size ≤ q → A q := fun q h => by rw [← hAe]; exact Or.inr h
  have hS : va_S A s.heap s.heap [] := va_S.rf
  have hk13 : (Cond.classLink RL 13 "java/lang/IllegalArgumentException").before ([.ref (a 0), .int p1, .ref (a 21)] : List Value).toArray s = true := hts _ (List.mem_of_getElem? (i := 1) rfl)
  have hP : va_P D vwCl (ws_LH cs a σ) s.heap := hP
  have hl := lv_entry ([.ref (a 0), .int p1, .ref (a 21)]) (n := 4) (Nat.le_of_ble_eq_true rfl)
  rw [lg_entry_eq]
  generalize (lg_sl ([.ref (a 0), .int p1, .ref (a 21)]) ++ List.replicate (4 - (lg_sl ([.ref (a 0), .int p1, .ref (a 21)])).length) Slot.unset).toArray = ls at hl ⊢
  have hl : lv_has ls 4 [(0, .ref (a 0)), (1, .int p1), (2, .ref (a 21))] := hl
  unfold w_L_height at hw
  refine lv_aload_n hx hb dL_height_0 rfl (lv_at hl 2 rfl) ?_
  refine lv_iconst (v := (0 : Int32)) hx hb dL_height_1 (by decide) ?_
  refine lv_aload_n hx hb dL_height_2 rfl (lv_at hl 0 rfl) ?_
  refine lv_iload_n hx hb dL_height_3 rfl (lv_at hl 1 rfl) ?_
  refine kxVi (As := [.int p1]) (rest := [.int 0, .ref (a 21)]) ⟨hx, hb, hml, hown, hts⟩ hE (c_C_height l hfl D cs a _ (g_LH_cy σ) p1 hw) (cwV 1 hts gL_height_X3_height rfl rfl rfl (by decide +kernel) ⟨Nat.le_of_ble_eq_true rfl, Nat.le_of_ble_eq_true rfl⟩) (pt_LH_cy cs a σ) hK hP hD hS hA (ci := 3) rfl rfl rfl rfl hl.1 rfl (Nat.le_of_ble_eq_true rfl) dL_height_4 ⟨Nat.le_of_ble_eq_true rfl, Nat.le_of_ble_eq_true rfl⟩ (fun E u H locs q9 ce hw hP hD hS hcell hv hcl => ?_) (fun r u H locs hw hP hD hS => ?_)
  · rcases hw with ⟨rfl, hw⟩
    · refine vx_catch (name := "java/lang/IllegalArgumentException") hown [] ⟨0, 9, 12, 13⟩ [] htab (fun z hz => absurd hz List.not_mem_nil) (by decide) (by decide) hk13 (va_Nw.use rfl (hE.2.2.2.1 _ (by decide))) hcell hv hcl ?_
      refine lv_astore_n hx hb dL_height_12 rfl hl (by decide) rfl (fun ls hl => ?_)
      refine lv_iconst (v := (1 : Int32)) hx hb dL_height_13 (by decide) ?_
      exact xIL (wf := ws_LH cs a) (u := s_LH_cy σ u) hx hb hr hlocks hK hP hD hS (Nat.le_refl _) (Nat.le_refl _) hw dL_height_14
  · have hP : va_P D vwCl (ws_LH cs a (s_LH_cy σ u)) H := hP
    have hD : va_D A (ws_LH cs a (s_LH_cy σ u)) := hD
    refine lv_i2l (v := r.toInt64) hx hb dL_height_7 rfl ?_
    refine va_last (n := 1) (x := r.toInt64) (f := g_LH_out (s_LH_cy σ u)) hx hb hK hP hD hS 21 2 rfl rfl (vp_in_nI (n := 0) (by omega) (by omega)) dL_height_8 (fun H locs hP hD hS => ?_)
    have hP : va_P D vwCl (ws_LH cs a (s_LH_out (s_LH_cy σ u) (vp_updL (g_LH_out (s_LH_cy σ u)) 0 r.toInt64))) H := hP
    have hD : va_D A (ws_LH cs a (s_LH_out (s_LH_cy σ u) (vp_updL (g_LH_out (s_LH_cy σ u)) 0 r.toInt64))) := hD
    have hw := hw _ rfl
    refine lv_goto (tgt := 15) hx hb dL_height_9 (by decide) ?_
    refine lv_iconst (v := (0 : Int32)) hx hb dL_height_15 (by decide) ?_
    exact xIL (wf := ws_LH cs a) (u := (s_LH_out (s_LH_cy σ u) (vp_updL (g_LH_out (s_LH_cy σ u)) 0 r.toInt64))) hx hb hr hlocks hK hP hD hS (Nat.zero_le _) (Nat.zero_le _) hw dL_height_16
set_option maxHeartbeats 4000000 in
theorem c_L_at (l : Launch) (hfl : l.stackTraces = false) (D : va_G) (cs : CS) (a : Nat → Nat) (sz : Nat) (σ : LH) (p1 : Int32) (p2 : Int32) {Φ : Int32 → LH → Prop} (hw : w_L_at σ p1 p2 Φ) : vx_Met l yL_at wsL_at rm_L_at (PcX [.ref (a 0), .int p1, .int p2, .ref (a 21)] D cs (ws_LH cs a σ) sz) (va_Qi Φ (BL D cs (va_A (ws_LH cs a σ) sz) (ws_LH cs a)) (va_A (ws_LH cs a σ) sz)) (XG D cs (va_A (ws_LH cs a σ) sz) (ws_LH cs a) (fun _ _ => False)) 1 6 (va_A (ws_LH cs a σ) sz) := by
  refine vx_ofWH (cc := cL_at) (maxL := 5) (ret := (some .int)) (hh := [(0, 10, 13, 13)]) (by decide) rfl ?_
  intro p e s m args below meth c s₁ B hml hv
  obtain ⟨rfl, hsz, hP, hK, hD0, hE⟩ := hv
  have hx := B.exec
  have hb := B.bytes
  have hr := B.returns
  have hts := atoms_spec (ws := wsL_at) B.pre
  have hown : s.vm.findClass RL = some m.cls := findClass_of_methodNamed B.named
  have hlocks := B.notSynchronized
  have htab : c.exceptionTable.toList = [⟨0, 10, 13, 13⟩] := vx_table (x := yL_at) B (hts _ List.mem_cons_self)
  subst hsz
  have hD := hD0.self (sz := s.heap.size)
  generalize hAe : va_A (ws_LH cs a σ) s.heap.size = A at hD hE ⊢
  have hA : ∀ q : Nat, s.heap.size ≤ q → A q := fun q h => by rw [← hAe]; exact Or.inr h
  have hS : va_S A s.heap s.heap [] := va_S.rf
  have hk13 : (Cond.classLink RL 13 "java/lang/IllegalArgumentException").before ([.ref (a 0), .int p1, .int p2, .ref (a 21)] : List Value).toArray s = true := hts _ (List.mem_of_getElem? (i := 1) rfl)
  have hP : va_P D vwCl (ws_LH cs a σ) s.heap := hP
  have hl := lv_entry ([.ref (a 0), .int p1, .int p2, .ref (a 21)]) (n := 5) (Nat.le_of_ble_eq_true rfl)
  rw [lg_entry_eq]
  generalize (lg_sl ([.ref (a 0), .int p1, .int p2, .ref (a 21)]) ++ List.replicate (5 - (lg_sl ([.ref (a 0), .int p1, .int p2, .ref (a 21)])).length) Slot.unset).toArray = ls at hl ⊢
  have hl : lv_has ls 5 [(0, .ref (a 0)), (1, .int p1), (2, .int p2), (3, .ref (a 21))] := hl
  unfold w_L_at at hw
  refine lv_aload_n hx hb dL_at_0 rfl (lv_at hl 3 rfl) ?_
  refine lv_iconst (v := (0 : Int32)) hx hb dL_at_1 (by decide) ?_
  refine lv_aload_n hx hb dL_at_2 rfl (lv_at hl 0 rfl) ?_
  refine lv_iload_n hx hb dL_at_3 rfl (lv_at hl 1 rfl) ?_
  refine lv_iload_n hx hb dL_at_4 rfl (lv_at hl 2 rfl) ?_
  refine kxVi (As := [.int p1, .int p2]) (rest := [.int 0, .ref (a 21)]) ⟨hx, hb, hml, hown, hts⟩ hE (c_C_at l hfl D cs a _ (g_LH_cy σ) p1 p2 hw) (cwV 2 hts gL_at_X3_at rfl rfl rfl (by decide +kernel) ⟨Nat.le_of_ble_eq_true rfl, Nat.le_of_ble_eq_true rfl⟩) (pt_LH_cy cs a σ) hK hP hD hS hA (ci := 3) rfl rfl rfl rfl hl.1 rfl (Nat.le_of_ble_eq_true rfl) dL_at_5 ⟨Nat.le_of_ble_eq_true rfl, Nat.le_of_ble_eq_true rfl⟩ (fun E u H locs q9 ce hw hP hD hS hcell hv hcl => ?_) (fun r u H locs hw hP hD hS => ?_)
  · rcases hw with ⟨rfl, hw⟩
    · refine vx_catch (name := "java/lang/IllegalArgumentException") hown [] ⟨0, 10, 13, 13⟩ [] htab (fun z hz => absurd hz List.not_mem_nil) (by decide) (by decide) hk13 (va_Nw.use rfl (hE.2.2.2.1 _ (by decide))) hcell hv hcl ?_
      refine lv_astore hx hb dL_at_13 hl (by decide) rfl (fun ls hl => ?_)
      refine lv_iconst (v := (1 : Int32)) hx hb dL_at_15 (by decide) ?_
      exact xIL (wf := ws_LH cs a) (u := s_LH_cy σ u) hx hb hr hlocks hK hP hD hS (Nat.le_refl _) (Nat.le_refl _) hw dL_at_16
  · have hP : va_P D vwCl (ws_LH cs a (s_LH_cy σ u)) H := hP
    have hD : va_D A (ws_LH cs a (s_LH_cy σ u)) := hD
    refine lv_i2l (v := r.toInt64) hx hb dL_at_8 rfl ?_
    refine va_last (n := 1) (x := r.toInt64) (f := g_LH_out (s_LH_cy σ u)) hx hb hK hP hD hS 21 2 rfl rfl (vp_in_nI (n := 0) (by omega) (by omega)) dL_at_9 (fun H locs hP hD hS => ?_)
    have hP : va_P D vwCl (ws_LH cs a (s_LH_out (s_LH_cy σ u) (vp_updL (g_LH_out (s_LH_cy σ u)) 0 r.toInt64))) H := hP
    have hD : va_D A (ws_LH cs a (s_LH_out (s_LH_cy σ u) (vp_updL (g_LH_out (s_LH_cy σ u)) 0 r.toInt64))) := hD
    have hw := hw _ rfl
    refine lv_goto (tgt := 17) hx hb dL_at_10 (by decide) ?_
    refine lv_iconst (v := (0 : Int32)) hx hb dL_at_17 (by decide) ?_
    exact xIL (wf := ws_LH cs a) (u := (s_LH_out (s_LH_cy σ u) (vp_updL (g_LH_out (s_LH_cy σ u)) 0 r.toInt64))) hx hb hr hlocks hK hP hD hS (Nat.zero_le _) (Nat.zero_le _) hw dL_at_18
set_option maxHeartbeats 4000000 in
theorem c_L_stackOf (l : Launch) (hfl : l.stackTraces = false) (D : va_G) (cs : CS) (a : Nat → Nat) (sz : Nat) (σ : LH) (p1 : Int32) {Φ : Int32 → LH → Prop} (hw : w_L_stackOf σ p1 Φ) : vx_Met l yL_stackOf wsL_stackOf rm_L_stackOf (PcX [.ref (a 0), .int p1, .ref (a 21)] D cs (ws_LH cs a σ) sz) (va_Qi Φ (BL D cs (va_A (ws_LH cs a σ) sz) (ws_LH cs a)) (va_A (ws_LH cs a σ) sz)) (XG D cs (va_A (ws_LH cs a σ) sz) (ws_LH cs a) (fun _ _ => False)) 1 6 (va_A (ws_LH cs a σ) sz) := by
  refine vx_ofWH (cc := cL_stackOf) (maxL := 4) (ret := (some .int)) (hh := [(0, 9, 12, 27)]) (by decide) rfl ?_
  intro p e s m args below meth c s₁ B hml hv
  obtain ⟨rfl, hsz, hP, hK, hD0, hE⟩ := hv
  have hx := B.exec
  have hb := B.bytes
  have hr := B.returns
  have hts := atoms_spec (ws := wsL_stackOf) B.pre
  have hown : s.vm.findClass RL = some m.cls := findClass_of_methodNamed B.named
  have hlocks := B.notSynchronized
  have htab : c.exceptionTable.toList = [⟨0, 9, 12, 27⟩] := vx_table (x := yL_stackOf) B (hts _ List.mem_cons_self)
  subst hsz
  have hD := hD0.self (sz := s.heap.size)
  generalize hAe : va_A (ws_LH cs a σ) s.heap.size = A at hD hE ⊢
  have hA : ∀ q : Nat, s.heap.size ≤ q → A q := fun q h => by rw [← hAe]; exact Or.inr h
  have hS : va_S A s.heap s.heap [] := va_S.rf
  have hk27 : (Cond.classLink RL 27 "java/lang/IndexOutOfBoundsException").before ([.ref (a 0), .int p1, .ref (a 21)] : List Value).toArray s = true := hts _ (List.mem_of_getElem? (i := 1) rfl)
  have hP : va_P D vwCl (ws_LH cs a σ) s.heap := hP
  have hl := lv_entry ([.ref (a 0), .int p1, .ref (a 21)]) (n := 4) (Nat.le_of_ble_eq_true rfl)
  rw [lg_entry_eq]
  generalize (lg_sl ([.ref (a 0), .int p1, .ref (a 21)]) ++ List.replicate (4 - (lg_sl ([.ref (a 0), .int p1, .ref (a 21)])).length) Slot.unset).toArray = ls at hl ⊢
  have hl : lv_has ls 4 [(0, .ref (a 0)), (1, .int p1), (2, .ref (a 21))] := hl
  unfold w_L_stackOf at hw
  refine lv_aload_n hx hb dL_stackOf_0 rfl (lv_at hl 2 rfl) ?_
  refine lv_iconst (v := (0 : Int32)) hx hb dL_stackOf_1 (by decide) ?_
  refine lv_aload_n hx hb dL_stackOf_2 rfl (lv_at hl 0 rfl) ?_
  refine lv_iload_n hx hb dL_stackOf_3 rfl (lv_at hl 1 rfl) ?_
  refine kxVi (As := [.int p1]) (rest := [.int 0, .ref (a 21)]) ⟨hx, hb, hml, hown, hts⟩ hE (c_C_stackOf l hfl D cs a _ (g_LH_cy σ) p1 hw) (cwV 1 hts gL_stackOf_X3_stackOf rfl rfl rfl (by decide +kernel) ⟨Nat.le_of_ble_eq_true rfl, Nat.le_of_ble_eq_true rfl⟩) (pt_LH_cy cs a σ) hK hP hD hS hA (ci := 3) rfl rfl rfl rfl hl.1 rfl (Nat.le_of_ble_eq_true rfl) dL_stackOf_4 ⟨Nat.le_of_ble_eq_true rfl, Nat.le_of_ble_eq_true rfl⟩ (fun E u H locs q9 ce hw hP hD hS hcell hv hcl => ?_) (fun r u H locs hw hP hD hS => ?_)
  · rcases hw with ⟨rfl, hw⟩
    · refine vx_catch (name := "java/lang/IndexOutOfBoundsException") hown [] ⟨0, 9, 12, 27⟩ [] htab (fun z hz => absurd hz List.not_mem_nil) (by decide) (by decide) hk27 (va_Nw.use rfl (hE.2.2.2.1 _ (by decide))) hcell hv hcl ?_
      refine lv_astore_n hx hb dL_stackOf_12 rfl hl (by decide) rfl (fun ls hl => ?_)
      refine lv_iconst (v := (1 : Int32)) hx hb dL_stackOf_13 (by decide) ?_
      exact xIL (wf := ws_LH cs a) (u := s_LH_cy σ u) hx hb hr hlocks hK hP hD hS (Nat.le_refl _) (Nat.le_refl _) hw dL_stackOf_14
  · have hP : va_P D vwCl (ws_LH cs a (s_LH_cy σ u)) H := hP
    have hD : va_D A (ws_LH cs a (s_LH_cy σ u)) := hD
    refine lv_i2l (v := r.toInt64) hx hb dL_stackOf_7 rfl ?_
    refine va_last (n := 1) (x := r.toInt64) (f := g_LH_out (s_LH_cy σ u)) hx hb hK hP hD hS 21 2 rfl rfl (vp_in_nI (n := 0) (by omega) (by omega)) dL_stackOf_8 (fun H locs hP hD hS => ?_)
    have hP : va_P D vwCl (ws_LH cs a (s_LH_out (s_LH_cy σ u) (vp_updL (g_LH_out (s_LH_cy σ u)) 0 r.toInt64))) H := hP
    have hD : va_D A (ws_LH cs a (s_LH_out (s_LH_cy σ u) (vp_updL (g_LH_out (s_LH_cy σ u)) 0 r.toInt64))) := hD
    have hw := hw _ rfl
    refine lv_goto (tgt := 15) hx hb dL_stackOf_9 (by decide) ?_
    refine lv_iconst (v := (0 : Int32)) hx hb dL_stackOf_15 (by decide) ?_
    exact xIL (wf := ws_LH cs a) (u := (s_LH_out (s_LH_cy σ u) (vp_updL (g_LH_out (s_LH_cy σ u)) 0 r.toInt64))) hx hb hr hlocks hK hP hD hS (Nat.zero_le _) (Nat.zero_le _) hw dL_stackOf_16
set_option maxHeartbeats 4000000 in
theorem c_L_fewestLifts (l : Launch) (hfl : l.stackTraces = false) (D : va_G) (cs : CS) (a : Nat → Nat) (sz : Nat) (σ : LH) (p1 : Int32) {Φ : Int32 → LH → Prop} (hw : w_L_fewestLifts σ p1 Φ) : vx_Met l yL_fewestLifts wsL_fewestLifts rm_L_fewestLifts (PcX [.ref (a 0), .int p1, .ref (a 21)] D cs (ws_LH cs a σ) sz) (va_Qi Φ (BL D cs (va_A (ws_LH cs a σ) sz) (ws_LH cs a)) (va_A (ws_LH cs a σ) sz)) (XG D cs (va_A (ws_LH cs a σ) sz) (ws_LH cs a) (fun _ _ => False)) 1 6 (va_A (ws_LH cs a σ) sz) := by
  refine vx_ofWH (cc := cL_fewestLifts) (maxL := 4) (ret := (some .int)) (hh := [(0, 9, 12, 13), (0, 9, 15, 15)]) (by decide) rfl ?_
  intro p e s m args below meth c s₁ B hml hv
  obtain ⟨rfl, hsz, hP, hK, hD0, hE⟩ := hv
  have hx := B.exec
  have hb := B.bytes
  have hr := B.returns
  have hts := atoms_spec (ws := wsL_fewestLifts) B.pre
  have hown : s.vm.findClass RL = some m.cls := findClass_of_methodNamed B.named
  have hlocks := B.notSynchronized
  have htab : c.exceptionTable.toList = [⟨0, 9, 12, 13⟩, ⟨0, 9, 15, 15⟩] := vx_table (x := yL_fewestLifts) B (hts _ List.mem_cons_self)
  subst hsz
  have hD := hD0.self (sz := s.heap.size)
  generalize hAe : va_A (ws_LH cs a σ) s.heap.size = A at hD hE ⊢
  have hA : ∀ q : Nat, s.heap.size ≤ q → A q := fun q h => by rw [← hAe]; exact Or.inr h
  have hS : va_S A s.heap s.heap [] := va_S.rf
  have hk13 : (Cond.classLink RL 13 "java/lang/IllegalArgumentException").before ([.ref (a 0), .int p1, .ref (a 21)] : List Value).toArray s = true := hts _ (List.mem_of_getElem? (i := 1) rfl)
  have hk15 : (Cond.classLink RL 15 "java/lang/IllegalStateException").before ([.ref (a 0), .int p1, .ref (a 21)] : List Value).toArray s = true := hts _ (List.mem_of_getElem? (i := 2) rfl)
  have hP : va_P D vwCl (ws_LH cs a σ) s.heap := hP
  have hl := lv_entry ([.ref (a 0), .int p1, .ref (a 21)]) (n := 4) (Nat.le_of_ble_eq_true rfl)
  rw [lg_entry_eq]
  generalize (lg_sl ([.ref (a 0), .int p1, .ref (a 21)]) ++ List.replicate (4 - (lg_sl ([.ref (a 0), .int p1, .ref (a 21)])).length) Slot.unset).toArray = ls at hl ⊢
  have hl : lv_has ls 4 [(0, .ref (a 0)), (1, .int p1), (2, .ref (a 21))] := hl
  unfold w_L_fewestLifts at hw
  refine lv_aload_n hx hb dL_fewestLifts_0 rfl (lv_at hl 2 rfl) ?_
  refine lv_iconst (v := (0 : Int32)) hx hb dL_fewestLifts_1 (by decide) ?_
  refine lv_aload_n hx hb dL_fewestLifts_2 rfl (lv_at hl 0 rfl) ?_
  refine lv_iload_n hx hb dL_fewestLifts_3 rfl (lv_at hl 1 rfl) ?_
  refine kxVi (As := [.int p1]) (rest := [.int 0, .ref (a 21)]) ⟨hx, hb, hml, hown, hts⟩ hE (c_C_fewestLifts l hfl D cs a _ (g_LH_cy σ) p1 hw) (cwV 1 hts gL_fewestLifts_X3_fewestLifts rfl rfl rfl (by decide +kernel) ⟨Nat.le_of_ble_eq_true rfl, Nat.le_of_ble_eq_true rfl⟩) (pt_LH_cy cs a σ) hK hP hD hS hA (ci := 3) rfl rfl rfl rfl hl.1 rfl (Nat.le_of_ble_eq_true rfl) dL_fewestLifts_4 ⟨Nat.le_of_ble_eq_true rfl, Nat.le_of_ble_eq_true rfl⟩ (fun E u H locs q9 ce hw hP hD hS hcell hv hcl => ?_) (fun r u H locs hw hP hD hS => ?_)
  · rcases hw with ⟨rfl, hw⟩ | ⟨rfl, hw⟩
    · refine vx_catch (name := "java/lang/IllegalArgumentException") hown [] ⟨0, 9, 12, 13⟩ [⟨0, 9, 15, 15⟩] htab (fun z hz => absurd hz List.not_mem_nil) (by decide) (by decide) hk13 (va_Nw.use rfl (hE.2.2.2.1 _ (by decide))) hcell hv hcl ?_
      refine lv_astore_n hx hb dL_fewestLifts_12 rfl hl (by decide) rfl (fun ls hl => ?_)
      refine lv_iconst (v := (1 : Int32)) hx hb dL_fewestLifts_13 (by decide) ?_
      exact xIL (wf := ws_LH cs a) (u := s_LH_cy σ u) hx hb hr hlocks hK hP hD hS (Nat.le_refl _) (Nat.le_refl _) hw dL_fewestLifts_14
    · refine vx_catch (name := "java/lang/IllegalStateException") hown [⟨0, 9, 12, 13⟩] ⟨0, 9, 15, 15⟩ [] htab (fun z hz => by rcases List.mem_cons.mp hz with rfl | hz; exact Or.inr ⟨by decide, "java/lang/IllegalArgumentException", hk13, hE.2.2.2.2.1 ("java/lang/IllegalStateException", "java/lang/IllegalArgumentException") (by decide)⟩; exact absurd hz List.not_mem_nil) (by decide) (by decide) hk15 (va_Nw.use rfl (hE.2.2.2.1 _ (by decide))) hcell hv hcl ?_
      refine lv_astore_n hx hb dL_fewestLifts_15 rfl hl (by decide) rfl (fun ls hl => ?_)
      refine lv_iconst (v := (2 : Int32)) hx hb dL_fewestLifts_16 (by decide) ?_
      exact xIL (wf := ws_LH cs a) (u := s_LH_cy σ u) hx hb hr hlocks hK hP hD hS (Nat.le_refl _) (Nat.le_refl _) hw dL_fewestLifts_17
  · have hP : va_P D vwCl (ws_LH cs a (s_LH_cy σ u)) H := hP
    have hD : va_D A (ws_LH cs a (s_LH_cy σ u)) := hD
    refine lv_i2l (v := r.toInt64) hx hb dL_fewestLifts_7 rfl ?_
    refine va_last (n := 1) (x := r.toInt64) (f := g_LH_out (s_LH_cy σ u)) hx hb hK hP hD hS 21 2 rfl rfl (vp_in_nI (n := 0) (by omega) (by omega)) dL_fewestLifts_8 (fun H locs hP hD hS => ?_)
    have hP : va_P D vwCl (ws_LH cs a (s_LH_out (s_LH_cy σ u) (vp_updL (g_LH_out (s_LH_cy σ u)) 0 r.toInt64))) H := hP
    have hD : va_D A (ws_LH cs a (s_LH_out (s_LH_cy σ u) (vp_updL (g_LH_out (s_LH_cy σ u)) 0 r.toInt64))) := hD
    have hw := hw _ rfl
    refine lv_goto (tgt := 18) hx hb dL_fewestLifts_9 (by decide) ?_
    refine lv_iconst (v := (0 : Int32)) hx hb dL_fewestLifts_18 (by decide) ?_
    exact xIL (wf := ws_LH cs a) (u := (s_LH_out (s_LH_cy σ u) (vp_updL (g_LH_out (s_LH_cy σ u)) 0 r.toInt64))) hx hb hr hlocks hK hP hD hS (Nat.zero_le _) (Nat.zero_le _) hw dL_fewestLifts_19
set_option maxHeartbeats 4000000 in
theorem c_L_tell (l : Launch) (hfl : l.stackTraces = false) (D : va_G) (cs : CS) (a : Nat → Nat) (sz : Nat) (σ : LH) (p1 : Int32) (p2 : Int32) (p3 : Int32) (p4 : Int32) {Φ : Int32 → LH → Prop} (hw : w_L_tell σ p1 p2 p3 p4 Φ) : vx_Met l yL_tell wsL_tell rm_L_tell (PcX [.ref (a 0), .int p1, .int p2, .int p3, .int p4, .ref (a 21)] D cs (ws_LH cs a σ) sz) (va_Qi Φ (BL D cs (va_A (ws_LH cs a σ) sz) (ws_LH cs a)) (va_A (ws_LH cs a σ) sz)) (XG D cs (va_A (ws_LH cs a σ) sz) (ws_LH cs a) (fun _ _ => False)) 1 6 (va_A (ws_LH cs a σ) sz) := by
  refine vx_ofWH (cc := cL_tell) (maxL := 7) (ret := (some .int)) (hh := [(0, 14, 17, 13), (0, 14, 21, 15)]) (by decide) rfl ?_
  intro p e s m args below meth c s₁ B hml hv
  obtain ⟨rfl, hsz, hP, hK, hD0, hE⟩ := hv
  have hx := B.exec
  have hb := B.bytes
  have hr := B.returns
  have hts := atoms_spec (ws := wsL_tell) B.pre
  have hown : s.vm.findClass RL = some m.cls := findClass_of_methodNamed B.named
  have hlocks := B.notSynchronized
  have htab : c.exceptionTable.toList = [⟨0, 14, 17, 13⟩, ⟨0, 14, 21, 15⟩] := vx_table (x := yL_tell) B (hts _ List.mem_cons_self)
  subst hsz
  have hD := hD0.self (sz := s.heap.size)
  generalize hAe : va_A (ws_LH cs a σ) s.heap.size = A at hD hE ⊢
  have hA : ∀ q : Nat, s.heap.size ≤ q → A q := fun q h => by rw [← hAe]; exact Or.inr h
  have hS : va_S A s.heap s.heap [] := va_S.rf
  have hk13 : (Cond.classLink RL 13 "java/lang/IllegalArgumentException").before ([.ref (a 0), .int p1, .int p2, .int p3, .int p4, .ref (a 21)] : List Value).toArray s = true := hts _ (List.mem_of_getElem? (i := 1) rfl)
  have hk15 : (Cond.classLink RL 15 "java/lang/IllegalStateException").before ([.ref (a 0), .int p1, .int p2, .int p3, .int p4, .ref (a 21)] : List Value).toArray s = true := hts _ (List.mem_of_getElem? (i := 2) rfl)
  have hP : va_P D vwCl (ws_LH cs a σ) s.heap := hP
  have hl := lv_entry ([.ref (a 0), .int p1, .int p2, .int p3, .int p4, .ref (a 21)]) (n := 7) (Nat.le_of_ble_eq_true rfl)
  rw [lg_entry_eq]
  generalize (lg_sl ([.ref (a 0), .int p1, .int p2, .int p3, .int p4, .ref (a 21)]) ++ List.replicate (7 - (lg_sl ([.ref (a 0), .int p1, .int p2, .int p3, .int p4, .ref (a 21)])).length) Slot.unset).toArray = ls at hl ⊢
  have hl : lv_has ls 7 [(0, .ref (a 0)), (1, .int p1), (2, .int p2), (3, .int p3), (4, .int p4), (5, .ref (a 21))] := hl
  unfold w_L_tell at hw
  refine lv_aload hx hb dL_tell_0 (lv_at hl 5 rfl) ?_
  refine lv_iconst (v := (0 : Int32)) hx hb dL_tell_2 (by decide) ?_
  refine lv_aload_n hx hb dL_tell_3 rfl (lv_at hl 0 rfl) ?_
  refine lv_iload_n hx hb dL_tell_4 rfl (lv_at hl 1 rfl) ?_
  refine lv_iload_n hx hb dL_tell_5 rfl (lv_at hl 2 rfl) ?_
  refine lv_iload_n hx hb dL_tell_6 rfl (lv_at hl 3 rfl) ?_
  refine lv_iload hx hb dL_tell_7 (lv_at hl 4 rfl) ?_
  refine kxVi (As := [.int p1, .int p2, .int p3, .int p4]) (rest := [.int 0, .ref (a 21)]) ⟨hx, hb, hml, hown, hts⟩ hE (c_C_tell l hfl D cs a _ (g_LH_cy σ) p1 p2 p3 p4 hw) (cwV 4 hts gL_tell_X3_tell rfl rfl rfl (by decide +kernel) ⟨Nat.le_of_ble_eq_true rfl, Nat.le_of_ble_eq_true rfl⟩) (pt_LH_cy cs a σ) hK hP hD hS hA (ci := 3) rfl rfl rfl rfl hl.1 rfl (Nat.le_of_ble_eq_true rfl) dL_tell_9 ⟨Nat.le_of_ble_eq_true rfl, Nat.le_of_ble_eq_true rfl⟩ (fun E u H locs q9 ce hw hP hD hS hcell hv hcl => ?_) (fun r u H locs hw hP hD hS => ?_)
  · rcases hw with ⟨rfl, hw⟩ | ⟨rfl, hw⟩
    · refine vx_catch (name := "java/lang/IllegalArgumentException") hown [] ⟨0, 14, 17, 13⟩ [⟨0, 14, 21, 15⟩] htab (fun z hz => absurd hz List.not_mem_nil) (by decide) (by decide) hk13 (va_Nw.use rfl (hE.2.2.2.1 _ (by decide))) hcell hv hcl ?_
      refine lv_astore hx hb dL_tell_17 hl (by decide) rfl (fun ls hl => ?_)
      refine lv_iconst (v := (1 : Int32)) hx hb dL_tell_19 (by decide) ?_
      exact xIL (wf := ws_LH cs a) (u := s_LH_cy σ u) hx hb hr hlocks hK hP hD hS (Nat.le_refl _) (Nat.le_refl _) hw dL_tell_20
    · refine vx_catch (name := "java/lang/IllegalStateException") hown [⟨0, 14, 17, 13⟩] ⟨0, 14, 21, 15⟩ [] htab (fun z hz => by rcases List.mem_cons.mp hz with rfl | hz; exact Or.inr ⟨by decide, "java/lang/IllegalArgumentException", hk13, hE.2.2.2.2.1 ("java/lang/IllegalStateException", "java/lang/IllegalArgumentException") (by decide)⟩; exact absurd hz List.not_mem_nil) (by decide) (by decide) hk15 (va_Nw.use rfl (hE.2.2.2.1 _ (by decide))) hcell hv hcl ?_
      refine lv_astore hx hb dL_tell_21 hl (by decide) rfl (fun ls hl => ?_)
      refine lv_iconst (v := (2 : Int32)) hx hb dL_tell_23 (by decide) ?_
      exact xIL (wf := ws_LH cs a) (u := s_LH_cy σ u) hx hb hr hlocks hK hP hD hS (Nat.le_refl _) (Nat.le_refl _) hw dL_tell_24
  · have hP : va_P D vwCl (ws_LH cs a (s_LH_cy σ u)) H := hP
    have hD : va_D A (ws_LH cs a (s_LH_cy σ u)) := hD
    refine lv_i2l (v := r.toInt64) hx hb dL_tell_12 rfl ?_
    refine va_last (n := 1) (x := r.toInt64) (f := g_LH_out (s_LH_cy σ u)) hx hb hK hP hD hS 21 2 rfl rfl (vp_in_nI (n := 0) (by omega) (by omega)) dL_tell_13 (fun H locs hP hD hS => ?_)
    have hP : va_P D vwCl (ws_LH cs a (s_LH_out (s_LH_cy σ u) (vp_updL (g_LH_out (s_LH_cy σ u)) 0 r.toInt64))) H := hP
    have hD : va_D A (ws_LH cs a (s_LH_out (s_LH_cy σ u) (vp_updL (g_LH_out (s_LH_cy σ u)) 0 r.toInt64))) := hD
    have hw := hw _ rfl
    refine lv_goto (tgt := 25) hx hb dL_tell_14 (by decide) ?_
    refine lv_iconst (v := (0 : Int32)) hx hb dL_tell_25 (by decide) ?_
    exact xIL (wf := ws_LH cs a) (u := (s_LH_out (s_LH_cy σ u) (vp_updL (g_LH_out (s_LH_cy σ u)) 0 r.toInt64))) hx hb hr hlocks hK hP hD hS (Nat.zero_le _) (Nat.zero_le _) hw dL_tell_26
set_option maxHeartbeats 4000000 in
theorem c_L_hasPaid (l : Launch) (hfl : l.stackTraces = false) (D : va_G) (cs : CS) (a : Nat → Nat) (sz : Nat) (σ : LH) (p1 : Int32) {Φ : Int32 → LH → Prop} (hw : w_L_hasPaid σ p1 Φ) : vx_Met l yL_hasPaid wsL_hasPaid rm_L_hasPaid (PcX [.ref (a 0), .int p1, .ref (a 21)] D cs (ws_LH cs a σ) sz) (va_Qi Φ (BL D cs (va_A (ws_LH cs a σ) sz) (ws_LH cs a)) (va_A (ws_LH cs a σ) sz)) (XG D cs (va_A (ws_LH cs a σ) sz) (ws_LH cs a) (fun _ _ => False)) 1 6 (va_A (ws_LH cs a σ) sz) := by
  refine vx_ofWH (cc := cL_hasPaid) (maxL := 4) (ret := (some .int)) (hh := [(0, 16, 19, 27)]) (by decide) rfl ?_
  intro p e s m args below meth c s₁ B hml hv
  obtain ⟨rfl, hsz, hP, hK, hD0, hE⟩ := hv
  have hx := B.exec
  have hb := B.bytes
  have hr := B.returns
  have hts := atoms_spec (ws := wsL_hasPaid) B.pre
  have hown : s.vm.findClass RL = some m.cls := findClass_of_methodNamed B.named
  have hlocks := B.notSynchronized
  have htab : c.exceptionTable.toList = [⟨0, 16, 19, 27⟩] := vx_table (x := yL_hasPaid) B (hts _ List.mem_cons_self)
  subst hsz
  have hD := hD0.self (sz := s.heap.size)
  generalize hAe : va_A (ws_LH cs a σ) s.heap.size = A at hD hE ⊢
  have hA : ∀ q : Nat, s.heap.size ≤ q → A q := fun q h => by rw [← hAe]; exact Or.inr h
  have hS : va_S A s.heap s.heap [] := va_S.rf
  have hk27 : (Cond.classLink RL 27 "java/lang/IndexOutOfBoundsException").before ([.ref (a 0), .int p1, .ref (a 21)] : List Value).toArray s = true := hts _ (List.mem_of_getElem? (i := 1) rfl)
  have hP : va_P D vwCl (ws_LH cs a σ) s.heap := hP
  have hl := lv_entry ([.ref (a 0), .int p1, .ref (a 21)]) (n := 4) (Nat.le_of_ble_eq_true rfl)
  rw [lg_entry_eq]
  generalize (lg_sl ([.ref (a 0), .int p1, .ref (a 21)]) ++ List.replicate (4 - (lg_sl ([.ref (a 0), .int p1, .ref (a 21)])).length) Slot.unset).toArray = ls at hl ⊢
  have hl : lv_has ls 4 [(0, .ref (a 0)), (1, .int p1), (2, .ref (a 21))] := hl
  unfold w_L_hasPaid at hw
  refine lv_aload_n hx hb dL_hasPaid_0 rfl (lv_at hl 2 rfl) ?_
  refine lv_iconst (v := (0 : Int32)) hx hb dL_hasPaid_1 (by decide) ?_
  refine lv_aload_n hx hb dL_hasPaid_2 rfl (lv_at hl 0 rfl) ?_
  refine lv_iload_n hx hb dL_hasPaid_3 rfl (lv_at hl 1 rfl) ?_
  refine kxVi (As := [.int p1]) (rest := [.int 0, .ref (a 21)]) ⟨hx, hb, hml, hown, hts⟩ hE (c_C_hasPaid l hfl D cs a _ (g_LH_cy σ) p1 hw) (cwV 1 hts gL_hasPaid_X3_hasPaid rfl rfl rfl (by decide +kernel) ⟨Nat.le_of_ble_eq_true rfl, Nat.le_of_ble_eq_true rfl⟩) (pt_LH_cy cs a σ) hK hP hD hS hA (ci := 3) rfl rfl rfl rfl hl.1 rfl (Nat.le_of_ble_eq_true rfl) dL_hasPaid_4 ⟨Nat.le_of_ble_eq_true rfl, Nat.le_of_ble_eq_true rfl⟩ (fun E u H locs q9 ce hw hP hD hS hcell hv hcl => ?_) (fun r u H locs hw hP hD hS => ?_)
  · rcases hw with ⟨rfl, hw⟩
    · refine vx_catch (name := "java/lang/IndexOutOfBoundsException") hown [] ⟨0, 16, 19, 27⟩ [] htab (fun z hz => absurd hz List.not_mem_nil) (by decide) (by decide) hk27 (va_Nw.use rfl (hE.2.2.2.1 _ (by decide))) hcell hv hcl ?_
      refine lv_astore_n hx hb dL_hasPaid_19 rfl hl (by decide) rfl (fun ls hl => ?_)
      refine lv_iconst (v := (1 : Int32)) hx hb dL_hasPaid_20 (by decide) ?_
      exact xIL (wf := ws_LH cs a) (u := s_LH_cy σ u) hx hb hr hlocks hK hP hD hS (Nat.le_refl _) (Nat.le_refl _) hw dL_hasPaid_21
  · have hP : va_P D vwCl (ws_LH cs a (s_LH_cy σ u)) H := hP
    have hD : va_D A (ws_LH cs a (s_LH_cy σ u)) := hD
    refine lv_if_eq (tgt := 14) hx hb dL_hasPaid_7 (by decide) (fun q => ?_) (fun q => ?_)
    · have hw := hw.1 q
      refine lv_lconst (v := (0 : Int64)) hx hb dL_hasPaid_14 (by decide) ?_
      refine va_last (n := 1) (x := (0 : Int64)) (f := g_LH_out (s_LH_cy σ u)) hx hb hK hP hD hS 21 2 rfl rfl (vp_in_nI (n := 0) (by omega) (by omega)) dL_hasPaid_15 (fun H locs hP hD hS => ?_)
      have hP : va_P D vwCl (ws_LH cs a (s_LH_out (s_LH_cy σ u) (vp_updL (g_LH_out (s_LH_cy σ u)) 0 (0 : Int64)))) H := hP
      have hD : va_D A (ws_LH cs a (s_LH_out (s_LH_cy σ u) (vp_updL (g_LH_out (s_LH_cy σ u)) 0 (0 : Int64)))) := hD
      have hw := hw _ rfl
      refine lv_goto (tgt := 22) hx hb dL_hasPaid_16 (by decide) ?_
      refine lv_iconst (v := (0 : Int32)) hx hb dL_hasPaid_22 (by decide) ?_
      exact xIL (wf := ws_LH cs a) (u := (s_LH_out (s_LH_cy σ u) (vp_updL (g_LH_out (s_LH_cy σ u)) 0 (0 : Int64)))) hx hb hr hlocks hK hP hD hS (Nat.zero_le _) (Nat.zero_le _) hw dL_hasPaid_23
    · have hw := hw.2 q
      refine lv_lconst (v := (1 : Int64)) hx hb dL_hasPaid_10 (by decide) ?_
      refine lv_goto (tgt := 15) hx hb dL_hasPaid_11 (by decide) ?_
      refine va_last (n := 1) (x := (1 : Int64)) (f := g_LH_out (s_LH_cy σ u)) hx hb hK hP hD hS 21 2 rfl rfl (vp_in_nI (n := 0) (by omega) (by omega)) dL_hasPaid_15 (fun H locs hP hD hS => ?_)
      have hP : va_P D vwCl (ws_LH cs a (s_LH_out (s_LH_cy σ u) (vp_updL (g_LH_out (s_LH_cy σ u)) 0 (1 : Int64)))) H := hP
      have hD : va_D A (ws_LH cs a (s_LH_out (s_LH_cy σ u) (vp_updL (g_LH_out (s_LH_cy σ u)) 0 (1 : Int64)))) := hD
      have hw := hw _ rfl
      refine lv_goto (tgt := 22) hx hb dL_hasPaid_16 (by decide) ?_
      refine lv_iconst (v := (0 : Int32)) hx hb dL_hasPaid_22 (by decide) ?_
      exact xIL (wf := ws_LH cs a) (u := (s_LH_out (s_LH_cy σ u) (vp_updL (g_LH_out (s_LH_cy σ u)) 0 (1 : Int64)))) hx hb hr hlocks hK hP hD hS (Nat.zero_le _) (Nat.zero_le _) hw dL_hasPaid_23
set_option maxHeartbeats 4000000 in
theorem c_L_offer (l : Launch) (hfl : l.stackTraces = false) (D : va_G) (cs : CS) (a : Nat → Nat) (sz : Nat) (σ : LH) (p1 : Int32) (p2 : Int32) {Φ : Int32 → LH → Prop} (hw : w_L_offer σ p1 p2 Φ) : vx_Met l yL_offer wsL_offer rm_L_offer (PcX [.ref (a 0), .int p1, .int p2, .ref (a 21)] D cs (ws_LH cs a σ) sz) (va_Qi Φ (BL D cs (va_A (ws_LH cs a σ) sz) (ws_LH cs a)) (va_A (ws_LH cs a σ) sz)) (XG D cs (va_A (ws_LH cs a σ) sz) (ws_LH cs a) (fun _ _ => False)) 1 6 (va_A (ws_LH cs a σ) sz) := by
  refine vx_ofWH (cc := cL_offer) (maxL := 5) (ret := (some .int)) (hh := [(0, 10, 13, 27), (0, 10, 17, 13), (0, 10, 21, 15)]) (by decide) rfl ?_
  intro p e s m args below meth c s₁ B hml hv
  obtain ⟨rfl, hsz, hP, hK, hD0, hE⟩ := hv
  have hx := B.exec
  have hb := B.bytes
  have hr := B.returns
  have hts := atoms_spec (ws := wsL_offer) B.pre
  have hown : s.vm.findClass RL = some m.cls := findClass_of_methodNamed B.named
  have hlocks := B.notSynchronized
  have htab : c.exceptionTable.toList = [⟨0, 10, 13, 27⟩, ⟨0, 10, 17, 13⟩, ⟨0, 10, 21, 15⟩] := vx_table (x := yL_offer) B (hts _ List.mem_cons_self)
  subst hsz
  have hD := hD0.self (sz := s.heap.size)
  generalize hAe : va_A (ws_LH cs a σ) s.heap.size = A at hD hE ⊢
  have hA : ∀ q : Nat, s.heap.size ≤ q → A q := fun q h => by rw [← hAe]; exact Or.inr h
  have hS : va_S A s.heap s.heap [] := va_S.rf
  have hk27 : (Cond.classLink RL 27 "java/lang/IndexOutOfBoundsException").before ([.ref (a 0), .int p1, .int p2, .ref (a 21)] : List Value).toArray s = true := hts _ (List.mem_of_getElem? (i := 1) rfl)
  have hk13 : (Cond.classLink RL 13 "java/lang/IllegalArgumentException").before ([.ref (a 0), .int p1, .int p2, .ref (a 21)] : List Value).toArray s = true := hts _ (List.mem_of_getElem? (i := 2) rfl)
  have hk15 : (Cond.classLink RL 15 "java/lang/IllegalStateException").before ([.ref (a 0), .int p1, .int p2, .ref (a 21)] : List Value).toArray s = true := hts _ (List.mem_of_getElem? (i := 3) rfl)
  have hP : va_P D vwCl (ws_LH cs a σ) s.heap := hP
  have hl := lv_entry ([.ref (a 0), .int p1, .int p2, .ref (a 21)]) (n := 5) (Nat.le_of_ble_eq_true rfl)
  rw [lg_entry_eq]
  generalize (lg_sl ([.ref (a 0), .int p1, .int p2, .ref (a 21)]) ++ List.replicate (5 - (lg_sl ([.ref (a 0), .int p1, .int p2, .ref (a 21)])).length) Slot.unset).toArray = ls at hl ⊢
  have hl : lv_has ls 5 [(0, .ref (a 0)), (1, .int p1), (2, .int p2), (3, .ref (a 21))] := hl
  unfold w_L_offer at hw
  refine lv_aload_n hx hb dL_offer_0 rfl (lv_at hl 3 rfl) ?_
  refine lv_iconst (v := (0 : Int32)) hx hb dL_offer_1 (by decide) ?_
  refine lv_aload_n hx hb dL_offer_2 rfl (lv_at hl 0 rfl) ?_
  refine lv_iload_n hx hb dL_offer_3 rfl (lv_at hl 1 rfl) ?_
  refine lv_iload_n hx hb dL_offer_4 rfl (lv_at hl 2 rfl) ?_
  refine kxVi (As := [.int p1, .int p2]) (rest := [.int 0, .ref (a 21)]) ⟨hx, hb, hml, hown, hts⟩ hE (c_C_offer l hfl D cs a _ (g_LH_cy σ) p1 p2 hw) (cwV 2 hts gL_offer_X3_offer rfl rfl rfl (by decide +kernel) ⟨Nat.le_of_ble_eq_true rfl, Nat.le_of_ble_eq_true rfl⟩) (pt_LH_cy cs a σ) hK hP hD hS hA (ci := 3) rfl rfl rfl rfl hl.1 rfl (Nat.le_of_ble_eq_true rfl) dL_offer_5 ⟨Nat.le_of_ble_eq_true rfl, Nat.le_of_ble_eq_true rfl⟩ (fun E u H locs q9 ce hw hP hD hS hcell hv hcl => ?_) (fun r u H locs hw hP hD hS => ?_)
  · rcases hw with ⟨rfl, hw⟩ | ⟨rfl, hw⟩ | ⟨rfl, hw⟩
    · refine vx_catch (name := "java/lang/IndexOutOfBoundsException") hown [] ⟨0, 10, 13, 27⟩ [⟨0, 10, 17, 13⟩, ⟨0, 10, 21, 15⟩] htab (fun z hz => absurd hz List.not_mem_nil) (by decide) (by decide) hk27 (va_Nw.use rfl (hE.2.2.2.1 _ (by decide))) hcell hv hcl ?_
      refine lv_astore hx hb dL_offer_13 hl (by decide) rfl (fun ls hl => ?_)
      refine lv_iconst (v := (1 : Int32)) hx hb dL_offer_15 (by decide) ?_
      exact xIL (wf := ws_LH cs a) (u := s_LH_cy σ u) hx hb hr hlocks hK hP hD hS (Nat.le_refl _) (Nat.le_refl _) hw dL_offer_16
    · refine vx_catch (name := "java/lang/IllegalArgumentException") hown [⟨0, 10, 13, 27⟩] ⟨0, 10, 17, 13⟩ [⟨0, 10, 21, 15⟩] htab (fun z hz => by rcases List.mem_cons.mp hz with rfl | hz; exact Or.inr ⟨by decide, "java/lang/IndexOutOfBoundsException", hk27, hE.2.2.2.2.1 ("java/lang/IllegalArgumentException", "java/lang/IndexOutOfBoundsException") (by decide)⟩; exact absurd hz List.not_mem_nil) (by decide) (by decide) hk13 (va_Nw.use rfl (hE.2.2.2.1 _ (by decide))) hcell hv hcl ?_
      refine lv_astore hx hb dL_offer_17 hl (by decide) rfl (fun ls hl => ?_)
      refine lv_iconst (v := (2 : Int32)) hx hb dL_offer_19 (by decide) ?_
      exact xIL (wf := ws_LH cs a) (u := s_LH_cy σ u) hx hb hr hlocks hK hP hD hS (Nat.le_refl _) (Nat.le_refl _) hw dL_offer_20
    · refine vx_catch (name := "java/lang/IllegalStateException") hown [⟨0, 10, 13, 27⟩, ⟨0, 10, 17, 13⟩] ⟨0, 10, 21, 15⟩ [] htab (fun z hz => by rcases List.mem_cons.mp hz with rfl | hz; exact Or.inr ⟨by decide, "java/lang/IndexOutOfBoundsException", hk27, hE.2.2.2.2.1 ("java/lang/IllegalStateException", "java/lang/IndexOutOfBoundsException") (by decide)⟩; rcases List.mem_cons.mp hz with rfl | hz; exact Or.inr ⟨by decide, "java/lang/IllegalArgumentException", hk13, hE.2.2.2.2.1 ("java/lang/IllegalStateException", "java/lang/IllegalArgumentException") (by decide)⟩; exact absurd hz List.not_mem_nil) (by decide) (by decide) hk15 (va_Nw.use rfl (hE.2.2.2.1 _ (by decide))) hcell hv hcl ?_
      refine lv_astore hx hb dL_offer_21 hl (by decide) rfl (fun ls hl => ?_)
      refine lv_iconst (v := (3 : Int32)) hx hb dL_offer_23 (by decide) ?_
      exact xIL (wf := ws_LH cs a) (u := s_LH_cy σ u) hx hb hr hlocks hK hP hD hS (Nat.le_refl _) (Nat.le_refl _) hw dL_offer_24
  · have hP : va_P D vwCl (ws_LH cs a (s_LH_cy σ u)) H := hP
    have hD : va_D A (ws_LH cs a (s_LH_cy σ u)) := hD
    refine lv_i2l (v := r.toInt64) hx hb dL_offer_8 rfl ?_
    refine va_last (n := 1) (x := r.toInt64) (f := g_LH_out (s_LH_cy σ u)) hx hb hK hP hD hS 21 2 rfl rfl (vp_in_nI (n := 0) (by omega) (by omega)) dL_offer_9 (fun H locs hP hD hS => ?_)
    have hP : va_P D vwCl (ws_LH cs a (s_LH_out (s_LH_cy σ u) (vp_updL (g_LH_out (s_LH_cy σ u)) 0 r.toInt64))) H := hP
    have hD : va_D A (ws_LH cs a (s_LH_out (s_LH_cy σ u) (vp_updL (g_LH_out (s_LH_cy σ u)) 0 r.toInt64))) := hD
    have hw := hw _ rfl
    refine lv_goto (tgt := 25) hx hb dL_offer_10 (by decide) ?_
    refine lv_iconst (v := (0 : Int32)) hx hb dL_offer_25 (by decide) ?_
    exact xIL (wf := ws_LH cs a) (u := (s_LH_out (s_LH_cy σ u) (vp_updL (g_LH_out (s_LH_cy σ u)) 0 r.toInt64))) hx hb hr hlocks hK hP hD hS (Nat.zero_le _) (Nat.zero_le _) hw dL_offer_26
set_option maxHeartbeats 4000000 in
theorem c_L_bid (l : Launch) (hfl : l.stackTraces = false) (D : va_G) (cs : CS) (a : Nat → Nat) (sz : Nat) (σ : LH) (p1 : Int32) (p2 : Int32) (p3 : Int32) {Φ : Int32 → LH → Prop} (hw : w_L_bid σ p1 p2 p3 Φ) : vx_Met l yL_bid wsL_bid rm_L_bid (PcX [.ref (a 0), .int p1, .int p2, .int p3] D cs (ws_LH cs a σ) sz) (va_Qi Φ (BL D cs (va_A (ws_LH cs a σ) sz) (ws_LH cs a)) (va_A (ws_LH cs a σ) sz)) (XG D cs (va_A (ws_LH cs a σ) sz) (ws_LH cs a) (fun _ _ => False)) 1 6 (va_A (ws_LH cs a σ) sz) := by
  refine vx_ofWH (cc := cL_bid) (maxL := 5) (ret := (some .int)) (hh := [(0, 7, 10, 27), (0, 7, 14, 13), (0, 7, 18, 15)]) (by decide) rfl ?_
  intro p e s m args below meth c s₁ B hml hv
  obtain ⟨rfl, hsz, hP, hK, hD0, hE⟩ := hv
  have hx := B.exec
  have hb := B.bytes
  have hr := B.returns
  have hts := atoms_spec (ws := wsL_bid) B.pre
  have hown : s.vm.findClass RL = some m.cls := findClass_of_methodNamed B.named
  have hlocks := B.notSynchronized
  have htab : c.exceptionTable.toList = [⟨0, 7, 10, 27⟩, ⟨0, 7, 14, 13⟩, ⟨0, 7, 18, 15⟩] := vx_table (x := yL_bid) B (hts _ List.mem_cons_self)
  subst hsz
  have hD := hD0.self (sz := s.heap.size)
  generalize hAe : va_A (ws_LH cs a σ) s.heap.size = A at hD hE ⊢
  have hA : ∀ q : Nat, s.heap.size ≤ q → A q := fun q h => by rw [← hAe]; exact Or.inr h
  have hS : va_S A s.heap s.heap [] := va_S.rf
  have hk27 : (Cond.classLink RL 27 "java/lang/IndexOutOfBoundsException").before ([.ref (a 0), .int p1, .int p2, .int p3] : List Value).toArray s = true := hts _ (List.mem_of_getElem? (i := 1) rfl)
  have hk13 : (Cond.classLink RL 13 "java/lang/IllegalArgumentException").before ([.ref (a 0), .int p1, .int p2, .int p3] : List Value).toArray s = true := hts _ (List.mem_of_getElem? (i := 2) rfl)
  have hk15 : (Cond.classLink RL 15 "java/lang/IllegalStateException").before ([.ref (a 0), .int p1, .int p2, .int p3] : List Value).toArray s = true := hts _ (List.mem_of_getElem? (i := 3) rfl)
  have hP : va_P D vwCl (ws_LH cs a σ) s.heap := hP
  have hl := lv_entry ([.ref (a 0), .int p1, .int p2, .int p3]) (n := 5) (Nat.le_of_ble_eq_true rfl)
  rw [lg_entry_eq]
  generalize (lg_sl ([.ref (a 0), .int p1, .int p2, .int p3]) ++ List.replicate (5 - (lg_sl ([.ref (a 0), .int p1, .int p2, .int p3])).length) Slot.unset).toArray = ls at hl ⊢
  have hl : lv_has ls 5 [(0, .ref (a 0)), (1, .int p1), (2, .int p2), (3, .int p3)] := hl
  unfold w_L_bid at hw
  refine lv_aload_n hx hb dL_bid_0 rfl (lv_at hl 0 rfl) ?_
  refine lv_iload_n hx hb dL_bid_1 rfl (lv_at hl 1 rfl) ?_
  refine lv_iload_n hx hb dL_bid_2 rfl (lv_at hl 2 rfl) ?_
  refine lv_iload_n hx hb dL_bid_3 rfl (lv_at hl 3 rfl) ?_
  refine kxVv (As := [.int p1, .int p2, .int p3]) (rest := []) ⟨hx, hb, hml, hown, hts⟩ hE (c_C_bid l hfl D cs a _ (g_LH_cy σ) p1 p2 p3 hw) (cwV 3 hts gL_bid_X3_bid rfl rfl rfl (by decide +kernel) ⟨Nat.le_of_ble_eq_true rfl, Nat.le_of_ble_eq_true rfl⟩) (pt_LH_cy cs a σ) hK hP hD hS hA (ci := 3) rfl rfl rfl rfl hl.1 rfl (Nat.le_of_ble_eq_true rfl) dL_bid_4 ⟨Nat.le_of_ble_eq_true rfl, Nat.le_of_ble_eq_true rfl⟩ (fun E u H locs q9 ce hw hP hD hS hcell hv hcl => ?_) (fun u H locs hw hP hD hS => ?_)
  · rcases hw with ⟨rfl, hw⟩ | ⟨rfl, hw⟩ | ⟨rfl, hw⟩
    · refine vx_catch (name := "java/lang/IndexOutOfBoundsException") hown [] ⟨0, 7, 10, 27⟩ [⟨0, 7, 14, 13⟩, ⟨0, 7, 18, 15⟩] htab (fun z hz => absurd hz List.not_mem_nil) (by decide) (by decide) hk27 (va_Nw.use rfl (hE.2.2.2.1 _ (by decide))) hcell hv hcl ?_
      refine lv_astore hx hb dL_bid_10 hl (by decide) rfl (fun ls hl => ?_)
      refine lv_iconst (v := (1 : Int32)) hx hb dL_bid_12 (by decide) ?_
      exact xIL (wf := ws_LH cs a) (u := s_LH_cy σ u) hx hb hr hlocks hK hP hD hS (Nat.le_refl _) (Nat.le_refl _) hw dL_bid_13
    · refine vx_catch (name := "java/lang/IllegalArgumentException") hown [⟨0, 7, 10, 27⟩] ⟨0, 7, 14, 13⟩ [⟨0, 7, 18, 15⟩] htab (fun z hz => by rcases List.mem_cons.mp hz with rfl | hz; exact Or.inr ⟨by decide, "java/lang/IndexOutOfBoundsException", hk27, hE.2.2.2.2.1 ("java/lang/IllegalArgumentException", "java/lang/IndexOutOfBoundsException") (by decide)⟩; exact absurd hz List.not_mem_nil) (by decide) (by decide) hk13 (va_Nw.use rfl (hE.2.2.2.1 _ (by decide))) hcell hv hcl ?_
      refine lv_astore hx hb dL_bid_14 hl (by decide) rfl (fun ls hl => ?_)
      refine lv_iconst (v := (2 : Int32)) hx hb dL_bid_16 (by decide) ?_
      exact xIL (wf := ws_LH cs a) (u := s_LH_cy σ u) hx hb hr hlocks hK hP hD hS (Nat.le_refl _) (Nat.le_refl _) hw dL_bid_17
    · refine vx_catch (name := "java/lang/IllegalStateException") hown [⟨0, 7, 10, 27⟩, ⟨0, 7, 14, 13⟩] ⟨0, 7, 18, 15⟩ [] htab (fun z hz => by rcases List.mem_cons.mp hz with rfl | hz; exact Or.inr ⟨by decide, "java/lang/IndexOutOfBoundsException", hk27, hE.2.2.2.2.1 ("java/lang/IllegalStateException", "java/lang/IndexOutOfBoundsException") (by decide)⟩; rcases List.mem_cons.mp hz with rfl | hz; exact Or.inr ⟨by decide, "java/lang/IllegalArgumentException", hk13, hE.2.2.2.2.1 ("java/lang/IllegalStateException", "java/lang/IllegalArgumentException") (by decide)⟩; exact absurd hz List.not_mem_nil) (by decide) (by decide) hk15 (va_Nw.use rfl (hE.2.2.2.1 _ (by decide))) hcell hv hcl ?_
      refine lv_astore hx hb dL_bid_18 hl (by decide) rfl (fun ls hl => ?_)
      refine lv_iconst (v := (3 : Int32)) hx hb dL_bid_20 (by decide) ?_
      exact xIL (wf := ws_LH cs a) (u := s_LH_cy σ u) hx hb hr hlocks hK hP hD hS (Nat.le_refl _) (Nat.le_refl _) hw dL_bid_21
  · have hP : va_P D vwCl (ws_LH cs a (s_LH_cy σ u)) H := hP
    have hD : va_D A (ws_LH cs a (s_LH_cy σ u)) := hD
    refine lv_goto (tgt := 22) hx hb dL_bid_7 (by decide) ?_
    refine lv_iconst (v := (0 : Int32)) hx hb dL_bid_22 (by decide) ?_
    exact xIL (wf := ws_LH cs a) (u := s_LH_cy σ u) hx hb hr hlocks hK hP hD hS (Nat.zero_le _) (Nat.zero_le _) hw dL_bid_23
set_option maxHeartbeats 4000000 in
theorem c_L_give (l : Launch) (hfl : l.stackTraces = false) (D : va_G) (cs : CS) (a : Nat → Nat) (sz : Nat) (σ : LH) (p1 : Int32) {Φ : Int32 → LH → Prop} (hw : w_L_give σ p1 Φ) : vx_Met l yL_give wsL_give rm_L_give (PcX [.ref (a 0), .int p1, .ref (a 21)] D cs (ws_LH cs a σ) sz) (va_Qi Φ (BL D cs (va_A (ws_LH cs a σ) sz) (ws_LH cs a)) (va_A (ws_LH cs a σ) sz)) (XG D cs (va_A (ws_LH cs a σ) sz) (ws_LH cs a) (fun _ _ => False)) 1 6 (va_A (ws_LH cs a σ) sz) := by
  refine vx_ofWH (cc := cL_give) (maxL := 4) (ret := (some .int)) (hh := [(0, 9, 12, 27), (0, 9, 15, 15)]) (by decide) rfl ?_
  intro p e s m args below meth c s₁ B hml hv
  obtain ⟨rfl, hsz, hP, hK, hD0, hE⟩ := hv
  have hx := B.exec
  have hb := B.bytes
  have hr := B.returns
  have hts := atoms_spec (ws := wsL_give) B.pre
  have hown : s.vm.findClass RL = some m.cls := findClass_of_methodNamed B.named
  have hlocks := B.notSynchronized
  have htab : c.exceptionTable.toList = [⟨0, 9, 12, 27⟩, ⟨0, 9, 15, 15⟩] := vx_table (x := yL_give) B (hts _ List.mem_cons_self)
  subst hsz
  have hD := hD0.self (sz := s.heap.size)
  generalize hAe : va_A (ws_LH cs a σ) s.heap.size = A at hD hE ⊢
  have hA : ∀ q : Nat, s.heap.size ≤ q → A q := fun q h => by rw [← hAe]; exact Or.inr h
  have hS : va_S A s.heap s.heap [] := va_S.rf
  have hk27 : (Cond.classLink RL 27 "java/lang/IndexOutOfBoundsException").before ([.ref (a 0), .int p1, .ref (a 21)] : List Value).toArray s = true := hts _ (List.mem_of_getElem? (i := 1) rfl)
  have hk15 : (Cond.classLink RL 15 "java/lang/IllegalStateException").before ([.ref (a 0), .int p1, .ref (a 21)] : List Value).toArray s = true := hts _ (List.mem_of_getElem? (i := 2) rfl)
  have hP : va_P D vwCl (ws_LH cs a σ) s.heap := hP
  have hl := lv_entry ([.ref (a 0), .int p1, .ref (a 21)]) (n := 4) (Nat.le_of_ble_eq_true rfl)
  rw [lg_entry_eq]
  generalize (lg_sl ([.ref (a 0), .int p1, .ref (a 21)]) ++ List.replicate (4 - (lg_sl ([.ref (a 0), .int p1, .ref (a 21)])).length) Slot.unset).toArray = ls at hl ⊢
  have hl : lv_has ls 4 [(0, .ref (a 0)), (1, .int p1), (2, .ref (a 21))] := hl
  unfold w_L_give at hw
  refine lv_aload_n hx hb dL_give_0 rfl (lv_at hl 2 rfl) ?_
  refine lv_iconst (v := (0 : Int32)) hx hb dL_give_1 (by decide) ?_
  refine lv_aload_n hx hb dL_give_2 rfl (lv_at hl 0 rfl) ?_
  refine lv_iload_n hx hb dL_give_3 rfl (lv_at hl 1 rfl) ?_
  refine kxVi (As := [.int p1]) (rest := [.int 0, .ref (a 21)]) ⟨hx, hb, hml, hown, hts⟩ hE (c_C_give l hfl D cs a _ (g_LH_cy σ) p1 hw) (cwV 1 hts gL_give_X3_give rfl rfl rfl (by decide +kernel) ⟨Nat.le_of_ble_eq_true rfl, Nat.le_of_ble_eq_true rfl⟩) (pt_LH_cy cs a σ) hK hP hD hS hA (ci := 3) rfl rfl rfl rfl hl.1 rfl (Nat.le_of_ble_eq_true rfl) dL_give_4 ⟨Nat.le_of_ble_eq_true rfl, Nat.le_of_ble_eq_true rfl⟩ (fun E u H locs q9 ce hw hP hD hS hcell hv hcl => ?_) (fun r u H locs hw hP hD hS => ?_)
  · rcases hw with ⟨rfl, hw⟩ | ⟨rfl, hw⟩
    · refine vx_catch (name := "java/lang/IndexOutOfBoundsException") hown [] ⟨0, 9, 12, 27⟩ [⟨0, 9, 15, 15⟩] htab (fun z hz => absurd hz List.not_mem_nil) (by decide) (by decide) hk27 (va_Nw.use rfl (hE.2.2.2.1 _ (by decide))) hcell hv hcl ?_
      refine lv_astore_n hx hb dL_give_12 rfl hl (by decide) rfl (fun ls hl => ?_)
      refine lv_iconst (v := (1 : Int32)) hx hb dL_give_13 (by decide) ?_
      exact xIL (wf := ws_LH cs a) (u := s_LH_cy σ u) hx hb hr hlocks hK hP hD hS (Nat.le_refl _) (Nat.le_refl _) hw dL_give_14
    · refine vx_catch (name := "java/lang/IllegalStateException") hown [⟨0, 9, 12, 27⟩] ⟨0, 9, 15, 15⟩ [] htab (fun z hz => by rcases List.mem_cons.mp hz with rfl | hz; exact Or.inr ⟨by decide, "java/lang/IndexOutOfBoundsException", hk27, hE.2.2.2.2.1 ("java/lang/IllegalStateException", "java/lang/IndexOutOfBoundsException") (by decide)⟩; exact absurd hz List.not_mem_nil) (by decide) (by decide) hk15 (va_Nw.use rfl (hE.2.2.2.1 _ (by decide))) hcell hv hcl ?_
      refine lv_astore_n hx hb dL_give_15 rfl hl (by decide) rfl (fun ls hl => ?_)
      refine lv_iconst (v := (2 : Int32)) hx hb dL_give_16 (by decide) ?_
      exact xIL (wf := ws_LH cs a) (u := s_LH_cy σ u) hx hb hr hlocks hK hP hD hS (Nat.le_refl _) (Nat.le_refl _) hw dL_give_17
  · have hP : va_P D vwCl (ws_LH cs a (s_LH_cy σ u)) H := hP
    have hD : va_D A (ws_LH cs a (s_LH_cy σ u)) := hD
    refine lv_i2l (v := r.toInt64) hx hb dL_give_7 rfl ?_
    refine va_last (n := 1) (x := r.toInt64) (f := g_LH_out (s_LH_cy σ u)) hx hb hK hP hD hS 21 2 rfl rfl (vp_in_nI (n := 0) (by omega) (by omega)) dL_give_8 (fun H locs hP hD hS => ?_)
    have hP : va_P D vwCl (ws_LH cs a (s_LH_out (s_LH_cy σ u) (vp_updL (g_LH_out (s_LH_cy σ u)) 0 r.toInt64))) H := hP
    have hD : va_D A (ws_LH cs a (s_LH_out (s_LH_cy σ u) (vp_updL (g_LH_out (s_LH_cy σ u)) 0 r.toInt64))) := hD
    have hw := hw _ rfl
    refine lv_goto (tgt := 18) hx hb dL_give_9 (by decide) ?_
    refine lv_iconst (v := (0 : Int32)) hx hb dL_give_18 (by decide) ?_
    exact xIL (wf := ws_LH cs a) (u := (s_LH_out (s_LH_cy σ u) (vp_updL (g_LH_out (s_LH_cy σ u)) 0 r.toInt64))) hx hb hr hlocks hK hP hD hS (Nat.zero_le _) (Nat.zero_le _) hw dL_give_19
set_option maxHeartbeats 4000000 in
theorem c_L_load (l : Launch) (hfl : l.stackTraces = false) (D : va_G) (cs : CS) (a : Nat → Nat) (sz : Nat) (σ : LH)  {Φ : Int32 → LH → Prop} (hw : w_L_load σ  Φ) : vx_Met l yL_load wsL_load rm_L_load (PcX [.ref (a 0), .ref (a 21)] D cs (ws_LH cs a σ) sz) (va_Qi Φ (BL D cs (va_A (ws_LH cs a σ) sz) (ws_LH cs a)) (va_A (ws_LH cs a σ) sz)) (XG D cs (va_A (ws_LH cs a σ) sz) (ws_LH cs a) (fun _ _ => False)) 1 6 (va_A (ws_LH cs a σ) sz) := by
  refine vx_ofWH (cc := cL_load) (maxL := 3) (ret := (some .int)) (hh := [(0, 8, 11, 15)]) (by decide) rfl ?_
  intro p e s m args below meth c s₁ B hml hv
  obtain ⟨rfl, hsz, hP, hK, hD0, hE⟩ := hv
  have hx := B.exec
  have hb := B.bytes
  have hr := B.returns
  have hts := atoms_spec (ws := wsL_load) B.pre
  have hown : s.vm.findClass RL = some m.cls := findClass_of_methodNamed B.named
  have hlocks := B.notSynchronized
  have htab : c.exceptionTable.toList = [⟨0, 8, 11, 15⟩] := vx_table (x := yL_load) B (hts _ List.mem_cons_self)
  subst hsz
  have hD := hD0.self (sz := s.heap.size)
  generalize hAe : va_A (ws_LH cs a σ) s.heap.size = A at hD hE ⊢
  have hA : ∀ q : Nat, s.heap.size ≤ q → A q := fun q h => by rw [← hAe]; exact Or.inr h
  have hS : va_S A s.heap s.heap [] := va_S.rf
  have hk15 : (Cond.classLink RL 15 "java/lang/IllegalStateException").before ([.ref (a 0), .ref (a 21)] : List Value).toArray s = true := hts _ (List.mem_of_getElem? (i := 1) rfl)
  have hP : va_P D vwCl (ws_LH cs a σ) s.heap := hP
  have hl := lv_entry ([.ref (a 0), .ref (a 21)]) (n := 3) (Nat.le_of_ble_eq_true rfl)
  rw [lg_entry_eq]
  generalize (lg_sl ([.ref (a 0), .ref (a 21)]) ++ List.replicate (3 - (lg_sl ([.ref (a 0), .ref (a 21)])).length) Slot.unset).toArray = ls at hl ⊢
  have hl : lv_has ls 3 [(0, .ref (a 0)), (1, .ref (a 21))] := hl
  unfold w_L_load at hw
  refine lv_aload_n hx hb dL_load_0 rfl (lv_at hl 1 rfl) ?_
  refine lv_iconst (v := (0 : Int32)) hx hb dL_load_1 (by decide) ?_
  refine lv_aload_n hx hb dL_load_2 rfl (lv_at hl 0 rfl) ?_
  refine kxVi (As := []) (rest := [.int 0, .ref (a 21)]) ⟨hx, hb, hml, hown, hts⟩ hE (c_C_load l hfl D cs a _ (g_LH_cy σ)  hw) (cwV 0 hts gL_load_X3_load rfl rfl rfl (by decide +kernel) ⟨Nat.le_of_ble_eq_true rfl, Nat.le_of_ble_eq_true rfl⟩) (pt_LH_cy cs a σ) hK hP hD hS hA (ci := 3) rfl rfl rfl rfl hl.1 rfl (Nat.le_of_ble_eq_true rfl) dL_load_3 ⟨Nat.le_of_ble_eq_true rfl, Nat.le_of_ble_eq_true rfl⟩ (fun E u H locs q9 ce hw hP hD hS hcell hv hcl => ?_) (fun r u H locs hw hP hD hS => ?_)
  · rcases hw with ⟨rfl, hw⟩
    · refine vx_catch (name := "java/lang/IllegalStateException") hown [] ⟨0, 8, 11, 15⟩ [] htab (fun z hz => absurd hz List.not_mem_nil) (by decide) (by decide) hk15 (va_Nw.use rfl (hE.2.2.2.1 _ (by decide))) hcell hv hcl ?_
      refine lv_astore_n hx hb dL_load_11 rfl hl (by decide) rfl (fun ls hl => ?_)
      refine lv_iconst (v := (1 : Int32)) hx hb dL_load_12 (by decide) ?_
      exact xIL (wf := ws_LH cs a) (u := s_LH_cy σ u) hx hb hr hlocks hK hP hD hS (Nat.le_refl _) (Nat.le_refl _) hw dL_load_13
  · have hP : va_P D vwCl (ws_LH cs a (s_LH_cy σ u)) H := hP
    have hD : va_D A (ws_LH cs a (s_LH_cy σ u)) := hD
    refine lv_i2l (v := r.toInt64) hx hb dL_load_6 rfl ?_
    refine va_last (n := 1) (x := r.toInt64) (f := g_LH_out (s_LH_cy σ u)) hx hb hK hP hD hS 21 2 rfl rfl (vp_in_nI (n := 0) (by omega) (by omega)) dL_load_7 (fun H locs hP hD hS => ?_)
    have hP : va_P D vwCl (ws_LH cs a (s_LH_out (s_LH_cy σ u) (vp_updL (g_LH_out (s_LH_cy σ u)) 0 r.toInt64))) H := hP
    have hD : va_D A (ws_LH cs a (s_LH_out (s_LH_cy σ u) (vp_updL (g_LH_out (s_LH_cy σ u)) 0 r.toInt64))) := hD
    have hw := hw _ rfl
    refine lv_goto (tgt := 14) hx hb dL_load_8 (by decide) ?_
    refine lv_iconst (v := (0 : Int32)) hx hb dL_load_14 (by decide) ?_
    exact xIL (wf := ws_LH cs a) (u := (s_LH_out (s_LH_cy σ u) (vp_updL (g_LH_out (s_LH_cy σ u)) 0 r.toInt64))) hx hb hr hlocks hK hP hD hS (Nat.zero_le _) (Nat.zero_le _) hw dL_load_15
set_option maxHeartbeats 4000000 in
theorem c_L_state (l : Launch) (hfl : l.stackTraces = false) (D : va_G) (cs : CS) (a : Nat → Nat) (sz : Nat) (σ : LH) (p1 : Int32) {Φ : Int32 → LH → Prop} (hw : w_L_state σ p1 Φ) : vx_Met l yL_state wsL_state rm_L_state (PcX [.ref (a 0), .int p1, .ref (a 21)] D cs (ws_LH cs a σ) sz) (va_Qi Φ (BL D cs (va_A (ws_LH cs a σ) sz) (ws_LH cs a)) (va_A (ws_LH cs a σ) sz)) (XG D cs (va_A (ws_LH cs a σ) sz) (ws_LH cs a) (fun _ _ => False)) 1 6 (va_A (ws_LH cs a σ) sz) := by
  refine vx_ofWH (cc := cL_state) (maxL := 4) (ret := (some .int)) (hh := [(0, 9, 12, 27)]) (by decide) rfl ?_
  intro p e s m args below meth c s₁ B hml hv
  obtain ⟨rfl, hsz, hP, hK, hD0, hE⟩ := hv
  have hx := B.exec
  have hb := B.bytes
  have hr := B.returns
  have hts := atoms_spec (ws := wsL_state) B.pre
  have hown : s.vm.findClass RL = some m.cls := findClass_of_methodNamed B.named
  have hlocks := B.notSynchronized
  have htab : c.exceptionTable.toList = [⟨0, 9, 12, 27⟩] := vx_table (x := yL_state) B (hts _ List.mem_cons_self)
  subst hsz
  have hD := hD0.self (sz := s.heap.size)
  generalize hAe : va_A (ws_LH cs a σ) s.heap.size = A at hD hE ⊢
  have hA : ∀ q : Nat, s.heap.size ≤ q → A q := fun q h => by rw [← hAe]; exact Or.inr h
  have hS : va_S A s.heap s.heap [] := va_S.rf
  have hk27 : (Cond.classLink RL 27 "java/lang/IndexOutOfBoundsException").before ([.ref (a 0), .int p1, .ref (a 21)] : List Value).toArray s = true := hts _ (List.mem_of_getElem? (i := 1) rfl)
  have hP : va_P D vwCl (ws_LH cs a σ) s.heap := hP
  have hl := lv_entry ([.ref (a 0), .int p1, .ref (a 21)]) (n := 4) (Nat.le_of_ble_eq_true rfl)
  rw [lg_entry_eq]
  generalize (lg_sl ([.ref (a 0), .int p1, .ref (a 21)]) ++ List.replicate (4 - (lg_sl ([.ref (a 0), .int p1, .ref (a 21)])).length) Slot.unset).toArray = ls at hl ⊢
  have hl : lv_has ls 4 [(0, .ref (a 0)), (1, .int p1), (2, .ref (a 21))] := hl
  unfold w_L_state at hw
  refine lv_aload_n hx hb dL_state_0 rfl (lv_at hl 2 rfl) ?_
  refine lv_iconst (v := (0 : Int32)) hx hb dL_state_1 (by decide) ?_
  refine lv_aload_n hx hb dL_state_2 rfl (lv_at hl 0 rfl) ?_
  refine lv_iload_n hx hb dL_state_3 rfl (lv_at hl 1 rfl) ?_
  refine kxVi (As := [.int p1]) (rest := [.int 0, .ref (a 21)]) ⟨hx, hb, hml, hown, hts⟩ hE (c_C_state l hfl D cs a _ (g_LH_cy σ) p1 hw) (cwV 1 hts gL_state_X3_state rfl rfl rfl (by decide +kernel) ⟨Nat.le_of_ble_eq_true rfl, Nat.le_of_ble_eq_true rfl⟩) (pt_LH_cy cs a σ) hK hP hD hS hA (ci := 3) rfl rfl rfl rfl hl.1 rfl (Nat.le_of_ble_eq_true rfl) dL_state_4 ⟨Nat.le_of_ble_eq_true rfl, Nat.le_of_ble_eq_true rfl⟩ (fun E u H locs q9 ce hw hP hD hS hcell hv hcl => ?_) (fun r u H locs hw hP hD hS => ?_)
  · rcases hw with ⟨rfl, hw⟩
    · refine vx_catch (name := "java/lang/IndexOutOfBoundsException") hown [] ⟨0, 9, 12, 27⟩ [] htab (fun z hz => absurd hz List.not_mem_nil) (by decide) (by decide) hk27 (va_Nw.use rfl (hE.2.2.2.1 _ (by decide))) hcell hv hcl ?_
      refine lv_astore_n hx hb dL_state_12 rfl hl (by decide) rfl (fun ls hl => ?_)
      refine lv_iconst (v := (1 : Int32)) hx hb dL_state_13 (by decide) ?_
      exact xIL (wf := ws_LH cs a) (u := s_LH_cy σ u) hx hb hr hlocks hK hP hD hS (Nat.le_refl _) (Nat.le_refl _) hw dL_state_14
  · have hP : va_P D vwCl (ws_LH cs a (s_LH_cy σ u)) H := hP
    have hD : va_D A (ws_LH cs a (s_LH_cy σ u)) := hD
    refine lv_i2l (v := r.toInt64) hx hb dL_state_7 rfl ?_
    refine va_last (n := 1) (x := r.toInt64) (f := g_LH_out (s_LH_cy σ u)) hx hb hK hP hD hS 21 2 rfl rfl (vp_in_nI (n := 0) (by omega) (by omega)) dL_state_8 (fun H locs hP hD hS => ?_)
    have hP : va_P D vwCl (ws_LH cs a (s_LH_out (s_LH_cy σ u) (vp_updL (g_LH_out (s_LH_cy σ u)) 0 r.toInt64))) H := hP
    have hD : va_D A (ws_LH cs a (s_LH_out (s_LH_cy σ u) (vp_updL (g_LH_out (s_LH_cy σ u)) 0 r.toInt64))) := hD
    have hw := hw _ rfl
    refine lv_goto (tgt := 15) hx hb dL_state_9 (by decide) ?_
    refine lv_iconst (v := (0 : Int32)) hx hb dL_state_15 (by decide) ?_
    exact xIL (wf := ws_LH cs a) (u := (s_LH_out (s_LH_cy σ u) (vp_updL (g_LH_out (s_LH_cy σ u)) 0 r.toInt64))) hx hb hr hlocks hK hP hD hS (Nat.zero_le _) (Nat.zero_le _) hw dL_state_16
set_option maxHeartbeats 4000000 in
theorem c_L_pass (l : Launch) (hfl : l.stackTraces = false) (D : va_G) (cs : CS) (a : Nat → Nat) (sz : Nat) (σ : LH) (p1 : Int32) {Φ : Int32 → LH → Prop} (hw : w_L_pass σ p1 Φ) : vx_Met l yL_pass wsL_pass rm_L_pass (PcX [.ref (a 0), .int p1, .ref (a 21)] D cs (ws_LH cs a σ) sz) (va_Qi Φ (BL D cs (va_A (ws_LH cs a σ) sz) (ws_LH cs a)) (va_A (ws_LH cs a σ) sz)) (XG D cs (va_A (ws_LH cs a σ) sz) (ws_LH cs a) (fun _ _ => False)) 1 6 (va_A (ws_LH cs a σ) sz) := by
  refine vx_ofWH (cc := cL_pass) (maxL := 4) (ret := (some .int)) (hh := [(0, 9, 12, 13), (0, 9, 15, 15)]) (by decide) rfl ?_
  intro p e s m args below meth c s₁ B hml hv
  obtain ⟨rfl, hsz, hP, hK, hD0, hE⟩ := hv
  have hx := B.exec
  have hb := B.bytes
  have hr := B.returns
  have hts := atoms_spec (ws := wsL_pass) B.pre
  have hown : s.vm.findClass RL = some m.cls := findClass_of_methodNamed B.named
  have hlocks := B.notSynchronized
  have htab : c.exceptionTable.toList = [⟨0, 9, 12, 13⟩, ⟨0, 9, 15, 15⟩] := vx_table (x := yL_pass) B (hts _ List.mem_cons_self)
  subst hsz
  have hD := hD0.self (sz := s.heap.size)
  generalize hAe : va_A (ws_LH cs a σ) s.heap.size = A at hD hE ⊢
  have hA : ∀ q : Nat, s.heap.size ≤ q → A q := fun q h => by rw [← hAe]; exact Or.inr h
  have hS : va_S A s.heap s.heap [] := va_S.rf
  have hk13 : (Cond.classLink RL 13 "java/lang/IllegalArgumentException").before ([.ref (a 0), .int p1, .ref (a 21)] : List Value).toArray s = true := hts _ (List.mem_of_getElem? (i := 1) rfl)
  have hk15 : (Cond.classLink RL 15 "java/lang/IllegalStateException").before ([.ref (a 0), .int p1, .ref (a 21)] : List Value).toArray s = true := hts _ (List.mem_of_getElem? (i := 2) rfl)
  have hP : va_P D vwCl (ws_LH cs a σ) s.heap := hP
  have hl := lv_entry ([.ref (a 0), .int p1, .ref (a 21)]) (n := 4) (Nat.le_of_ble_eq_true rfl)
  rw [lg_entry_eq]
  generalize (lg_sl ([.ref (a 0), .int p1, .ref (a 21)]) ++ List.replicate (4 - (lg_sl ([.ref (a 0), .int p1, .ref (a 21)])).length) Slot.unset).toArray = ls at hl ⊢
  have hl : lv_has ls 4 [(0, .ref (a 0)), (1, .int p1), (2, .ref (a 21))] := hl
  unfold w_L_pass at hw
  refine lv_aload_n hx hb dL_pass_0 rfl (lv_at hl 2 rfl) ?_
  refine lv_iconst (v := (0 : Int32)) hx hb dL_pass_1 (by decide) ?_
  refine lv_aload_n hx hb dL_pass_2 rfl (lv_at hl 0 rfl) ?_
  refine lv_iload_n hx hb dL_pass_3 rfl (lv_at hl 1 rfl) ?_
  refine kxVi (As := [.int p1]) (rest := [.int 0, .ref (a 21)]) ⟨hx, hb, hml, hown, hts⟩ hE (c_C_pass l hfl D cs a _ (g_LH_cy σ) p1 hw) (cwV 1 hts gL_pass_X3_pass rfl rfl rfl (by decide +kernel) ⟨Nat.le_of_ble_eq_true rfl, Nat.le_of_ble_eq_true rfl⟩) (pt_LH_cy cs a σ) hK hP hD hS hA (ci := 3) rfl rfl rfl rfl hl.1 rfl (Nat.le_of_ble_eq_true rfl) dL_pass_4 ⟨Nat.le_of_ble_eq_true rfl, Nat.le_of_ble_eq_true rfl⟩ (fun E u H locs q9 ce hw hP hD hS hcell hv hcl => ?_) (fun r u H locs hw hP hD hS => ?_)
  · rcases hw with ⟨rfl, hw⟩ | ⟨rfl, hw⟩
    · refine vx_catch (name := "java/lang/IllegalArgumentException") hown [] ⟨0, 9, 12, 13⟩ [⟨0, 9, 15, 15⟩] htab (fun z hz => absurd hz List.not_mem_nil) (by decide) (by decide) hk13 (va_Nw.use rfl (hE.2.2.2.1 _ (by decide))) hcell hv hcl ?_
      refine lv_astore_n hx hb dL_pass_12 rfl hl (by decide) rfl (fun ls hl => ?_)
      refine lv_iconst (v := (1 : Int32)) hx hb dL_pass_13 (by decide) ?_
      exact xIL (wf := ws_LH cs a) (u := s_LH_cy σ u) hx hb hr hlocks hK hP hD hS (Nat.le_refl _) (Nat.le_refl _) hw dL_pass_14
    · refine vx_catch (name := "java/lang/IllegalStateException") hown [⟨0, 9, 12, 13⟩] ⟨0, 9, 15, 15⟩ [] htab (fun z hz => by rcases List.mem_cons.mp hz with rfl | hz; exact Or.inr ⟨by decide, "java/lang/IllegalArgumentException", hk13, hE.2.2.2.2.1 ("java/lang/IllegalStateException", "java/lang/IllegalArgumentException") (by decide)⟩; exact absurd hz List.not_mem_nil) (by decide) (by decide) hk15 (va_Nw.use rfl (hE.2.2.2.1 _ (by decide))) hcell hv hcl ?_
      refine lv_astore_n hx hb dL_pass_15 rfl hl (by decide) rfl (fun ls hl => ?_)
      refine lv_iconst (v := (2 : Int32)) hx hb dL_pass_16 (by decide) ?_
      exact xIL (wf := ws_LH cs a) (u := s_LH_cy σ u) hx hb hr hlocks hK hP hD hS (Nat.le_refl _) (Nat.le_refl _) hw dL_pass_17
  · have hP : va_P D vwCl (ws_LH cs a (s_LH_cy σ u)) H := hP
    have hD : va_D A (ws_LH cs a (s_LH_cy σ u)) := hD
    refine lv_i2l (v := r.toInt64) hx hb dL_pass_7 rfl ?_
    refine va_last (n := 1) (x := r.toInt64) (f := g_LH_out (s_LH_cy σ u)) hx hb hK hP hD hS 21 2 rfl rfl (vp_in_nI (n := 0) (by omega) (by omega)) dL_pass_8 (fun H locs hP hD hS => ?_)
    have hP : va_P D vwCl (ws_LH cs a (s_LH_out (s_LH_cy σ u) (vp_updL (g_LH_out (s_LH_cy σ u)) 0 r.toInt64))) H := hP
    have hD : va_D A (ws_LH cs a (s_LH_out (s_LH_cy σ u) (vp_updL (g_LH_out (s_LH_cy σ u)) 0 r.toInt64))) := hD
    have hw := hw _ rfl
    refine lv_goto (tgt := 18) hx hb dL_pass_9 (by decide) ?_
    refine lv_iconst (v := (0 : Int32)) hx hb dL_pass_18 (by decide) ?_
    exact xIL (wf := ws_LH cs a) (u := (s_LH_out (s_LH_cy σ u) (vp_updL (g_LH_out (s_LH_cy σ u)) 0 r.toInt64))) hx hb hr hlocks hK hP hD hS (Nat.zero_le _) (Nat.zero_le _) hw dL_pass_19
