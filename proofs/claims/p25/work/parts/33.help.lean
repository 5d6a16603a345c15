set_option linter.unusedVariables false
def BL {S : Type} (D : va_G) (cs : CS) (A : Nat → Prop) (wf : S → va_W) (u : S) (t : State) : Prop := va_P D vwCl (wf u) t.heap ∧ va_K D vwCl (tysG cs) t ∧ va_D A (wf u)
section HL1
variable {p : Program} {l : Launch} {e : Env} {R : Room} {s : State} {m : MethodId} {args : Array Value} {below : List Frame} {meth : Method} {c : Code} {H : Heap} {locs : List Loc} {cells slots : Nat} {Q : State → Prop}
variable {D : va_G} {cs : CS} {A : Nat → Prop} {ws wc : va_W} {cc : ByteArray} {pc : Nat} {ls : Array Slot} {rest st0 : List Value}
variable {y : MethodName} {bytes : ByteArray} {maxL nL n index mc ms : Nat} {ret : Option FieldType} {hh : List (Nat × Nat × Nat × Nat)} {wsY : List Cond} {rm : Room} {Ts : List Cond} {own : String} {As : List Value}
theorem xIa {S : Type} {wf : S → va_W} {Φ : Int32 → S → Prop} {XC : String → State → State → Prop} {v : Int32} {u : S} (hx : p.tables.exec = Jvm.exec) (hb : c.code = cc) (hr : meth.sig.returnType = some .int) (hlocks : meth.locks = false) (hK : va_K D vwCl (tysG cs) s) (hP : va_P D vwCl (wf u) H) (hD : va_D A (wf u)) (hS : va_S A s.heap H locs) (hc : cells ≤ mc) (hs : slots ≤ ms) (hw : Φ v u) (hdg : decode cc pc = .ok (.ireturn, 1)) :
    W p l e R s m args below meth c H locs cells slots (vx_MQ below (va_Qi Φ (BL D cs A wf) A) XC args s mc ms A) (F0 m pc ls [.int v]) :=
  W.widen (k := mc) (n := ms) hc hs (vx_ret (W.iret (v := v) hx hb hr (fun t ht hW => ⟨⟨v, u, rfl, hw, by rw [ht]; exact hP, va_K.moved hW.alike hK, hD⟩, hS.F ht⟩) hS.2.2 hdg hlocks))
theorem xZa {S : Type} {wf : S → va_W} {Φ : Int32 → S → Prop} {XC : String → State → State → Prop} {v : Int32} {u : S} (hx : p.tables.exec = Jvm.exec) (hb : c.code = cc) (hr : meth.sig.returnType = some .boolean) (hlocks : meth.locks = false) (hK : va_K D vwCl (tysG cs) s) (hP : va_P D vwCl (wf u) H) (hD : va_D A (wf u)) (hS : va_S A s.heap H locs) (hc : cells ≤ mc) (hs : slots ≤ ms) (hw : bo v ∧ Φ v u) (hdg : decode cc pc = .ok (.ireturn, 1)) :
    W p l e R s m args below meth c H locs cells slots (vx_MQ below (va_Qi Φ (BL D cs A wf) A) XC args s mc ms A) (F0 m pc ls [.int v]) :=
  W.widen (k := mc) (n := ms) hc hs (vx_ret (W.zret (v := v) hx hb hr (bo_n hw.1) (fun t ht hW => ⟨⟨v, u, rfl, hw.2, by rw [ht]; exact hP, va_K.moved hW.alike hK, hD⟩, hS.F ht⟩) hS.2.2 hdg hlocks))
theorem xI0 {S : Type} {wf : S → va_W} {Φ : Int32 → S → Prop} {XC : String → State → State → Prop} {v : Int32} {u : S} (hx : p.tables.exec = Jvm.exec) (hb : c.code = cc) (hr : meth.sig.returnType = some .int) (hlocks : meth.locks = false) (hK : va_K D vwCl (tysG cs) s) (hP : va_P D vwCl (wf u) H) (hD : va_D A (wf u)) (hS : va_S A s.heap H locs) (hw : Φ v u) (hdg : decode cc pc = .ok (.ireturn, 1)) :
    W p l e R s m args below meth c H locs 0 0 (vx_MQ below (va_Qi Φ (BG D cs A s.heap.size wf) A) XC args s 0 0 A) (F0 m pc ls [.int v]) :=
  W.sized hS fun hz => vx_ret (W.iret (v := v) hx hb hr (fun t ht hW => ⟨⟨v, u, rfl, hw, by rw [ht]; exact hz, by rw [ht]; exact hP, va_K.moved hW.alike hK, hD⟩, hS.F ht⟩) hS.2.2 hdg hlocks)
/-- a helper's call: it catches what is thrown -/
theorem kLi {S : Type} {wf full : S → va_W} {Φ : Int32 → S → Prop} (F : CallFix p m c cc nL s args Ts own) (hE : XE A s s.heap)
    (hM : vx_Met l y wsY rm (PcX As D cs wc H.size) (va_Qi Φ (BL D cs (va_A wc H.size) wf) (va_A wc H.size)) (XG D cs (va_A wc H.size) wf (fun _ _ => False)) mc ms (va_A wc H.size))
    (cw : vx_CSW R s args own index y bytes maxL ret hh wsY rm mc ms n) (pt : Part ws wc wf full) (hK : va_K D vwCl (tysG cs) s) (hP : va_P D vwCl ws H) (hD : va_D A ws) (hS : va_S A s.heap H locs) (hA : ∀ q, s.heap.size ≤ q → A q)
    (hn : As.length = n) (hsz : ls.size = nL) (hst : st0 = As.reverse ++ rest) (hW : (rest.map fun v => v.category).sum ≤ 8) (hdg : decode cc pc = .ok (.invokestatic index, 3)) (hcl : cells + mc ≤ R.cells ∧ slots + ms ≤ R.slots)
    (kk : ∀ (r : Int32) (u : S) (H1 : Heap) (locs1 : List Loc), Φ r u → va_P D vwCl (full u) H1 → va_D A (full u) → va_S A s.heap H1 locs1 → W p l e R s m args below meth c H1 locs1 (cells + mc) (slots + ms) Q (F0 m (pc + 3) ls (.int r :: rest))) :
    W p l e R s m args below meth c H locs cells slots Q (F0 m pc ls st0) := by
  have hF := pt_free pt hD hS hA
  obtain ⟨hPc, hDc⟩ := pt_in pt hP hD
  refine vx_calli (vx_runSX (g := F0 m pc ls st0) (rest := rest) F hM cw ⟨PcX.blind, fun U hU hW => ⟨rfl, by rw [hU], by rw [hU]; exact hPc, va_K.moved hW.alike hK, hDc, hE_pre hE hS hF hU hW⟩⟩ rfl hn hsz hst (lv_room hW) hdg hcl) hS (fun q _ h => hF q h) hF (fun q _ h => hF q h) ?_ ?_
  · intro E ce q9 u t H1 locs1 ht hvm _ hB hz hk hS1 hcell hv hcl
    exact hB.1.elim
  · intro r u t H1 locs1 ht hvm hw hB hz hk hS1
    obtain ⟨b1, -, b3⟩ := hB
    rw [ht] at b1
    obtain ⟨o1, o2⟩ := pt_out pt hP hD hF hk b1 b3
    exact kk r u H1 locs1 hw o1 o2 hS1
/-- .. where nothing is thrown -/
theorem k0Li {S : Type} {wf full : S → va_W} {Φ : Int32 → S → Prop} (F : CallFix p m c cc nL s args Ts own)
    (hM : vx_Met l y wsY rm (PcG As D cs wc H.size) (va_Qi Φ (BG D cs (va_A wc H.size) H.size wf) (va_A wc H.size)) (XG D cs (va_A wc H.size) wf (fun _ _ => False)) 0 0 (va_A wc H.size))
    (cw : vx_CSW R s args own index y bytes maxL ret hh wsY rm 0 0 n) (pt : Part ws wc wf full) (hK : va_K D vwCl (tysG cs) s) (hP : va_P D vwCl ws H) (hD : va_D A ws) (hS : va_S A s.heap H locs) (hA : ∀ q, s.heap.size ≤ q → A q)
    (hn : As.length = n) (hsz : ls.size = nL) (hst : st0 = As.reverse ++ rest) (hW : (rest.map fun v => v.category).sum ≤ 8) (hdg : decode cc pc = .ok (.invokestatic index, 3)) (hcl : cells ≤ R.cells ∧ slots ≤ R.slots)
    (kk : ∀ (r : Int32) (u : S) (H1 : Heap) (locs1 : List Loc), Φ r u → va_P D vwCl (full u) H1 → va_D A (full u) → va_S A s.heap H1 locs1 → W p l e R s m args below meth c H1 locs1 cells slots Q (F0 m (pc + 3) ls (.int r :: rest))) :
    W p l e R s m args below meth c H locs cells slots Q (F0 m pc ls st0) := by
  have hF := pt_free pt hD hS hA
  obtain ⟨hPc, hDc⟩ := pt_in pt hP hD
  refine vx_calli (vx_runSX (g := F0 m pc ls st0) (rest := rest) F hM cw ⟨PcG.blind, fun U hU hW => ⟨rfl, by rw [hU], by rw [hU]; exact hPc, va_K.moved hW.alike hK, hDc⟩⟩ rfl hn hsz hst (lv_room hW) hdg hcl) hS (fun q _ h => hF q h) hF (fun q _ h => hF q h) ?_ ?_
  · intro E ce q9 u t H1 locs1 ht hvm _ hB hz hk hS1 hcell hv hcl
    exact hB.1.elim
  · intro r u t H1 locs1 ht hvm hw hB hz hk hS1
    obtain ⟨-, b1, -, b3⟩ := hB
    rw [ht] at b1
    obtain ⟨o1, o2⟩ := pt_out pt hP hD hF hk b1 b3
    exact kk r u H1 locs1 hw o1 o2 hS1
/-- a call of a method of the law that throws nothing, but whose helpers may make exceptions -/
theorem kAi {S : Type} {wf full : S → va_W} {Φ : Int32 → S → Prop} (F : CallFix p m c cc nL s args Ts own) (hE : XE A s s.heap)
    (hM : vx_Met l y wsY rm (PcX As D cs wc H.size) (va_Qi Φ (BL D cs (va_A wc H.size) wf) (va_A wc H.size)) (XG D cs (va_A wc H.size) wf (fun _ _ => False)) mc ms (va_A wc H.size))
    (cw : CallB R s args own index y bytes maxL ret wsY rm mc ms n ∧ (Cond.static y).before args s = true) (pt : Part ws wc wf full) (hK : va_K D vwCl (tysG cs) s) (hP : va_P D vwCl ws H) (hD : va_D A ws) (hS : va_S A s.heap H locs) (hA : ∀ q, s.heap.size ≤ q → A q)
    (hn : As.length = n) (hsz : ls.size = nL) (hst : st0 = As.reverse ++ rest) (hW : (rest.map fun v => v.category).sum ≤ 8) (hdg : decode cc pc = .ok (.invokestatic index, 3)) (hcl : cells + mc ≤ R.cells ∧ slots + ms ≤ R.slots)
    (kk : ∀ (r : Int32) (u : S) (H1 : Heap) (locs1 : List Loc), Φ r u → va_P D vwCl (full u) H1 → va_D A (full u) → va_S A s.heap H1 locs1 → W p l e R s m args below meth c H1 locs1 (cells + mc) (slots + ms) Q (F0 m (pc + 3) ls (.int r :: rest))) :
    W p l e R s m args below meth c H locs cells slots Q (F0 m pc ls st0) := by
  have hF := pt_free pt hD hS hA
  obtain ⟨hPc, hDc⟩ := pt_in pt hP hD
  refine vx_calli (vx_runS (g := F0 m pc ls st0) (rest := rest) F hM cw ⟨PcX.blind, fun U hU hW => ⟨rfl, by rw [hU], by rw [hU]; exact hPc, va_K.moved hW.alike hK, hDc, hE_pre hE hS hF hU hW⟩⟩ rfl hn hsz hst (lv_room hW) hdg hcl) hS (fun q _ h => hF q h) hF (fun q _ h => hF q h) ?_ ?_
  · intro E ce q9 u t H1 locs1 ht hvm _ hB hz hk hS1 hcell hv hcl
    exact hB.1.elim
  · intro r u t H1 locs1 ht hvm hw hB hz hk hS1
    obtain ⟨b1, -, b3⟩ := hB
    rw [ht] at b1
    obtain ⟨o1, o2⟩ := pt_out pt hP hD hF hk b1 b3
    exact kk r u H1 locs1 hw o1 o2 hS1
abbrev AtC (p : Program) (l : Launch) (e : Env) (R : Room) (s : State) (m : MethodId) (args : Array Value) (below : List Frame) (meth : Method) (c : Code) (Q : State → Prop) (D : va_G) (A : Nat → Prop) (nL : Nat) (lv : List (Nat × Value)) (w : va_W) (pc : Nat) (st : List Value) (cells slots : Nat) : Prop :=
  ∀ (H : Heap) (locs : List Loc) (ls : Array Slot), lv_has ls nL lv → va_P D vwCl w H → va_D A w → va_S A s.heap H locs → W p l e R s m args below meth c H locs cells slots Q (F0 m pc ls st)
end HL1
def w_L_arrive (σ : CY) (p1 : Int32) (p2 : Int32) (p3 : Int32) (Φ : Int32 → CY → Prop) : Prop := w_C_arrive σ p1 p2 p3 (fun r u => Φ r u) (fun E u => (E = "java/lang/IllegalArgumentException" ∧ Φ (-99999) u) ∨ (E = "java/lang/IllegalStateException" ∧ Φ (-99999) u))
def w0_L_arrive (σ : CY) (p1 : Int32) (p2 : Int32) (p3 : Int32) (Φ : Int32 → CY → Prop) : Prop := w_C_arrive σ p1 p2 p3 (fun r u => Φ r u) (fun _ _ => False)
abbrev rm_L_arrive : Room := { frames := 8, cells := 1, slots := 6, locals := 138 }
abbrev rm0_L_arrive : Room := { frames := 8, cells := 0, slots := 0, locals := 138 }
def w_L_lift (σ : CY) (p1 : Int32) (Φ : Int32 → CY → Prop) : Prop := w_C_lift σ p1 (fun r u => Φ r u) (fun E u => (E = "java/lang/IllegalArgumentException" ∧ Φ (-99999) u) ∨ (E = "java/lang/IllegalStateException" ∧ Φ (-99999) u))
def w0_L_lift (σ : CY) (p1 : Int32) (Φ : Int32 → CY → Prop) : Prop := w_C_lift σ p1 (fun r u => Φ r u) (fun _ _ => False)
abbrev rm_L_lift : Room := { frames := 8, cells := 1, slots := 6, locals := 133 }
abbrev rm0_L_lift : Room := { frames := 8, cells := 0, slots := 0, locals := 133 }
def w_L_drop (σ : CY) (p1 : Int32) (Φ : Int32 → CY → Prop) : Prop := w_C_drop σ p1 (fun r u => Φ r u) (fun E u => (E = "java/lang/IllegalArgumentException" ∧ Φ (-99999) u) ∨ (E = "java/lang/IllegalStateException" ∧ Φ (-99999) u))
def w0_L_drop (σ : CY) (p1 : Int32) (Φ : Int32 → CY → Prop) : Prop := w_C_drop σ p1 (fun r u => Φ r u) (fun _ _ => False)
abbrev rm_L_drop : Room := { frames := 8, cells := 1, slots := 6, locals := 135 }
abbrev rm0_L_drop : Room := { frames := 8, cells := 0, slots := 0, locals := 135 }
def w_L_dig (σ : CY) (p1 : Int32) (Φ : Int32 → CY → Prop) : Prop := w_C_dig σ p1 (fun r u => Φ r u) (fun E u => (E = "java/lang/IndexOutOfBoundsException" ∧ Φ (-99999) u) ∨ (E = "java/lang/IllegalStateException" ∧ Φ (-99998) u))
def w0_L_dig (σ : CY) (p1 : Int32) (Φ : Int32 → CY → Prop) : Prop := w_C_dig σ p1 (fun r u => Φ r u) (fun _ _ => False)
abbrev rm_L_dig : Room := { frames := 8, cells := 1, slots := 6, locals := 140 }
abbrev rm0_L_dig : Room := { frames := 8, cells := 0, slots := 0, locals := 140 }
def w_L_stackOf (σ : CY) (p1 : Int32) (Φ : Int32 → CY → Prop) : Prop := w_C_stackOf σ p1 (fun r u => Φ r u) (fun E u => (E = "java/lang/IndexOutOfBoundsException" ∧ Φ (-2) u))
def w0_L_stackOf (σ : CY) (p1 : Int32) (Φ : Int32 → CY → Prop) : Prop := w_C_stackOf σ p1 (fun r u => Φ r u) (fun _ _ => False)
abbrev rm_L_stackOf : Room := { frames := 8, cells := 1, slots := 6, locals := 134 }
abbrev rm0_L_stackOf : Room := { frames := 8, cells := 0, slots := 0, locals := 134 }
def w_L_fewest (σ : CY) (p1 : Int32) (Φ : Int32 → CY → Prop) : Prop := w_C_fewestLifts σ p1 (fun r u => Φ r u) (fun E u => (E = "java/lang/IllegalArgumentException" ∧ Φ (-2) u) ∨ (E = "java/lang/IllegalStateException" ∧ Φ (-3) u))
def w0_L_fewest (σ : CY) (p1 : Int32) (Φ : Int32 → CY → Prop) : Prop := w_C_fewestLifts σ p1 (fun r u => Φ r u) (fun _ _ => False)
abbrev rm_L_fewest : Room := { frames := 8, cells := 1, slots := 6, locals := 171 }
abbrev rm0_L_fewest : Room := { frames := 8, cells := 0, slots := 0, locals := 171 }
def w_L_tell (σ : CY) (p1 : Int32) (p2 : Int32) (p3 : Int32) (p4 : Int32) (Φ : Int32 → CY → Prop) : Prop := w_C_tell σ p1 p2 p3 p4 (fun r u => Φ r u) (fun E u => (E = "java/lang/IllegalArgumentException" ∧ Φ (-99999) u) ∨ (E = "java/lang/IllegalStateException" ∧ Φ (-99999) u))
def w0_L_tell (σ : CY) (p1 : Int32) (p2 : Int32) (p3 : Int32) (p4 : Int32) (Φ : Int32 → CY → Prop) : Prop := w_C_tell σ p1 p2 p3 p4 (fun r u => Φ r u) (fun _ _ => False)
abbrev rm_L_tell : Room := { frames := 8, cells := 1, slots := 6, locals := 137 }
abbrev rm0_L_tell : Room := { frames := 8, cells := 0, slots := 0, locals := 137 }
def w_L_offer (σ : CY) (p1 : Int32) (p2 : Int32) (Φ : Int32 → CY → Prop) : Prop := w_C_offer σ p1 p2 (fun r u => Φ r u) (fun E u => (E = "java/lang/IndexOutOfBoundsException" ∧ Φ (-99999) u) ∨ (E = "java/lang/IllegalArgumentException" ∧ Φ (-99999) u) ∨ (E = "java/lang/IllegalStateException" ∧ Φ (-99999) u))
def w0_L_offer (σ : CY) (p1 : Int32) (p2 : Int32) (Φ : Int32 → CY → Prop) : Prop := w_C_offer σ p1 p2 (fun r u => Φ r u) (fun _ _ => False)
abbrev rm_L_offer : Room := { frames := 8, cells := 1, slots := 6, locals := 135 }
abbrev rm0_L_offer : Room := { frames := 8, cells := 0, slots := 0, locals := 135 }
def w_L_bid (σ : CY) (p1 : Int32) (p2 : Int32) (p3 : Int32) (Φ : Int32 → CY → Prop) : Prop := w_C_bid σ p1 p2 p3 (fun u => Φ 0 u) (fun E u => (E = "java/lang/IndexOutOfBoundsException" ∧ Φ (-99999) u) ∨ (E = "java/lang/IllegalArgumentException" ∧ Φ (-99999) u) ∨ (E = "java/lang/IllegalStateException" ∧ Φ (-99999) u))
def w0_L_bid (σ : CY) (p1 : Int32) (p2 : Int32) (p3 : Int32) (Φ : Int32 → CY → Prop) : Prop := w_C_bid σ p1 p2 p3 (fun u => Φ 0 u) (fun _ _ => False)
abbrev rm_L_bid : Room := { frames := 8, cells := 1, slots := 6, locals := 136 }
abbrev rm0_L_bid : Room := { frames := 8, cells := 0, slots := 0, locals := 136 }
def w_L_give (σ : CY) (p1 : Int32) (Φ : Int32 → CY → Prop) : Prop := w_C_give σ p1 (fun r u => Φ r u) (fun E u => (E = "java/lang/IndexOutOfBoundsException" ∧ Φ (-99999) u) ∨ (E = "java/lang/IllegalStateException" ∧ Φ (-99999) u))
def w0_L_give (σ : CY) (p1 : Int32) (Φ : Int32 → CY → Prop) : Prop := w_C_give σ p1 (fun r u => Φ r u) (fun _ _ => False)
abbrev rm_L_give : Room := { frames := 8, cells := 1, slots := 6, locals := 135 }
abbrev rm0_L_give : Room := { frames := 8, cells := 0, slots := 0, locals := 135 }
def w_L_load (σ : CY)  (Φ : Int32 → CY → Prop) : Prop := w_C_load σ  (fun r u => Φ r u) (fun E u => (E = "java/lang/IllegalStateException" ∧ Φ (-99999) u))
def w0_L_load (σ : CY)  (Φ : Int32 → CY → Prop) : Prop := w_C_load σ  (fun r u => Φ r u) (fun _ _ => False)
abbrev rm_L_load : Room := { frames := 8, cells := 1, slots := 6, locals := 133 }
abbrev rm0_L_load : Room := { frames := 8, cells := 0, slots := 0, locals := 133 }
def w_L_pass (σ : CY) (p1 : Int32) (Φ : Int32 → CY → Prop) : Prop := w_C_pass σ p1 (fun r u => Φ r u) (fun E u => (E = "java/lang/IllegalArgumentException" ∧ Φ (-99999) u) ∨ (E = "java/lang/IllegalStateException" ∧ Φ (-99999) u))
def w0_L_pass (σ : CY) (p1 : Int32) (Φ : Int32 → CY → Prop) : Prop := w_C_pass σ p1 (fun r u => Φ r u) (fun _ _ => False)
abbrev rm_L_pass : Room := { frames := 7, cells := 1, slots := 6, locals := 115 }
abbrev rm0_L_pass : Room := { frames := 7, cells := 0, slots := 0, locals := 115 }
set_option maxHeartbeats 4000000 in
theorem c_L_arrive (l : Launch) (hfl : l.stackTraces = false) (D : va_G) (cs : CS) (a : Nat → Nat) (sz : Nat) (σ : CY) (p1 : Int32) (p2 : Int32) (p3 : Int32) {Φ : Int32 → CY → Prop} (hw : w_L_arrive σ p1 p2 p3 Φ) : vx_Met l yL_arrive wsL_arrive rm_L_arrive (PcX [.ref (a 0), .int p1, .int p2, .int p3] D cs (ws_CY cs a σ) sz) (va_Qi Φ (BL D cs (va_A (ws_CY cs a σ) sz) (ws_CY cs a)) (va_A (ws_CY cs a σ) sz)) (XG D cs (va_A (ws_CY cs a σ) sz) (ws_CY cs a) (fun _ _ => False)) 1 6 (va_A (ws_CY cs a σ) sz) := by
  refine vx_ofWH (cc := cL_arrive) (maxL := 5) (ret := (some .int)) (hh := [(0, 7, 8, 14), (0, 7, 13, 17)]) (by decide) rfl ?_
  intro p e s m args below meth c s₁ B hml hv
  obtain ⟨rfl, hsz, hP, hK, hD0, hE⟩ := hv
  have hx := B.exec
  have hb := B.bytes
  have hr := B.returns
  have hts := atoms_spec (ws := wsL_arrive) B.pre
  have hown : s.vm.findClass RL = some m.cls := findClass_of_methodNamed B.named
  have hlocks := B.notSynchronized
  have htab : c.exceptionTable.toList = [⟨0, 7, 8, 14⟩, ⟨0, 7, 13, 17⟩] := vx_table (x := yL_arrive) B (hts _ List.mem_cons_self)
  subst hsz
  have hD := hD0.self (sz := s.heap.size)
  generalize hAe : va_A (ws_CY cs a σ) s.heap.size = A at hD hE ⊢
  have hA : ∀ q : Nat, s.heap.size ≤ q → A q := fun q h => by rw [← hAe]; exact Or.inr h
  have hS : va_S A s.heap s.heap [] := va_S.rf
  have hk14 : (Cond.classLink RL 14 "java/lang/IllegalArgumentException").before ([.ref (a 0), .int p1, .int p2, .int p3] : List Value).toArray s = true := hts _ (List.mem_of_getElem? (i := 1) rfl)
  have hk17 : (Cond.classLink RL 17 "java/lang/IllegalStateException").before ([.ref (a 0), .int p1, .int p2, .int p3] : List Value).toArray s = true := hts _ (List.mem_of_getElem? (i := 2) rfl)
  have hc16 : (Cond.constant RL 16 (-99999 : Int32)).before ([.ref (a 0), .int p1, .int p2, .int p3] : List Value).toArray s = true := hts _ (List.mem_of_getElem? (i := 3) rfl)
  have hP : va_P D vwCl (ws_CY cs a σ) s.heap := hP
  have hl := lv_entry ([.ref (a 0), .int p1, .int p2, .int p3]) (n := 5) (Nat.le_of_ble_eq_true rfl)
  rw [lg_entry_eq]
  generalize (lg_sl ([.ref (a 0), .int p1, .int p2, .int p3]) ++ List.replicate (5 - (lg_sl ([.ref (a 0), .int p1, .int p2, .int p3])).length) Slot.unset).toArray = ls at hl ⊢
  have hl : lv_has ls 5 [(0, .ref (a 0)), (1, .int p1), (2, .int p2), (3, .int p3)] := hl
  unfold w_L_arrive at hw
  refine lv_aload_n hx hb dL_arrive_0 rfl (lv_at hl 0 rfl) ?_
  refine lv_iload_n hx hb dL_arrive_1 rfl (lv_at hl 1 rfl) ?_
  refine lv_iload_n hx hb dL_arrive_2 rfl (lv_at hl 2 rfl) ?_
  refine lv_iload_n hx hb dL_arrive_3 rfl (lv_at hl 3 rfl) ?_
  refine kxVi (As := [.int p1, .int p2, .int p3]) (rest := []) ⟨hx, hb, hml, hown, hts⟩ hE (c_C_arrive l hfl D cs a _ σ p1 p2 p3 hw) (cwV 3 hts gL_arrive_X3_arrive rfl rfl rfl (by decide +kernel) ⟨Nat.le_of_ble_eq_true rfl, Nat.le_of_ble_eq_true rfl⟩) (pt_self_CY cs a σ) hK hP hD hS hA (ci := 3) rfl rfl rfl rfl hl.1 rfl (Nat.le_of_ble_eq_true rfl) dL_arrive_4 ⟨Nat.le_of_ble_eq_true rfl, Nat.le_of_ble_eq_true rfl⟩ (fun E u H locs q9 ce hw hP hD hS hcell hv hcl => ?_) (fun r u H locs hw hP hD hS => ?_)
  · rcases hw with ⟨rfl, hw⟩ | ⟨rfl, hw⟩
    · refine vx_catch (name := "java/lang/IllegalArgumentException") hown [] ⟨0, 7, 8, 14⟩ [⟨0, 7, 13, 17⟩] htab (fun z hz => absurd hz List.not_mem_nil) (by decide) (by decide) hk14 (va_Nw.use rfl (hE.2.2.2.1 _ (by decide))) hcell hv hcl ?_
      refine lv_astore (lv' := [(4, .ref q9), (0, .ref (a 0)), (1, .int p1), (2, .int p2), (3, .int p3)]) hx hb dL_arrive_8 hl (by decide) rfl (fun ls hl => ?_)
      refine lv_ldc (v := (-99999 : Int32)) hx hb hown hc16 dL_arrive_10 ?_
      exact xIa (wf := ws_CY cs a) (u := u) hx hb hr hlocks hK hP hD hS (Nat.le_of_ble_eq_true rfl) (Nat.le_of_ble_eq_true rfl) hw dL_arrive_12
    · refine vx_catch (name := "java/lang/IllegalStateException") hown [⟨0, 7, 8, 14⟩] ⟨0, 7, 13, 17⟩ [] htab (fun z hz => by rcases List.mem_cons.mp hz with rfl | hz; exact Or.inr ⟨by decide, "java/lang/IllegalArgumentException", hk14, hE.2.2.2.2.1 ("java/lang/IllegalStateException", "java/lang/IllegalArgumentException") (by decide)⟩; exact absurd hz List.not_mem_nil) (by decide) (by decide) hk17 (va_Nw.use rfl (hE.2.2.2.1 _ (by decide))) hcell hv hcl ?_
      refine lv_astore (lv' := [(4, .ref q9), (0, .ref (a 0)), (1, .int p1), (2, .int p2), (3, .int p3)]) hx hb dL_arrive_13 hl (by decide) rfl (fun ls hl => ?_)
      refine lv_ldc (v := (-99999 : Int32)) hx hb hown hc16 dL_arrive_15 ?_
      exact xIa (wf := ws_CY cs a) (u := u) hx hb hr hlocks hK hP hD hS (Nat.le_of_ble_eq_true rfl) (Nat.le_of_ble_eq_true rfl) hw dL_arrive_17
  · exact xIa (wf := ws_CY cs a) (u := u) hx hb hr hlocks hK hP hD hS (Nat.le_of_ble_eq_true rfl) (Nat.le_of_ble_eq_true rfl) hw dL_arrive_7
set_option maxHeartbeats 4000000 in
theorem c0_L_arrive (l : Launch) (D : va_G) (cs : CS) (a : Nat → Nat) (sz : Nat) (σ : CY) (p1 : Int32) (p2 : Int32) (p3 : Int32) {Φ : Int32 → CY → Prop} (hw : w0_L_arrive σ p1 p2 p3 Φ) : vx_Met l yL_arrive wsL_arrive rm0_L_arrive (PcG [.ref (a 0), .int p1, .int p2, .int p3] D cs (ws_CY cs a σ) sz) (va_Qi Φ (BG D cs (va_A (ws_CY cs a σ) sz) sz (ws_CY cs a)) (va_A (ws_CY cs a σ) sz)) (XG D cs (va_A (ws_CY cs a σ) sz) (ws_CY cs a) (fun _ _ => False)) 0 0 (va_A (ws_CY cs a σ) sz) := by
  refine vx_ofWH (cc := cL_arrive) (maxL := 5) (ret := (some .int)) (hh := [(0, 7, 8, 14), (0, 7, 13, 17)]) (by decide) rfl ?_
  intro p e s m args below meth c s₁ B hml hv
  obtain ⟨rfl, hsz, hP, hK, hD0⟩ := hv
  have hx := B.exec
  have hb := B.bytes
  have hr := B.returns
  have hts := atoms_spec (ws := wsL_arrive) B.pre
  have hown : s.vm.findClass RL = some m.cls := findClass_of_methodNamed B.named
  have hlocks := B.notSynchronized
  subst hsz
  have hD := hD0.self (sz := s.heap.size)
  generalize hAe : va_A (ws_CY cs a σ) s.heap.size = A at hD ⊢
  have hA : ∀ q : Nat, s.heap.size ≤ q → A q := fun q h => by rw [← hAe]; exact Or.inr h
  have hS : va_S A s.heap s.heap [] := va_S.rf
  have hP : va_P D vwCl (ws_CY cs a σ) s.heap := hP
  have hl := lv_entry ([.ref (a 0), .int p1, .int p2, .int p3]) (n := 5) (Nat.le_of_ble_eq_true rfl)
  rw [lg_entry_eq]
  generalize (lg_sl ([.ref (a 0), .int p1, .int p2, .int p3]) ++ List.replicate (5 - (lg_sl ([.ref (a 0), .int p1, .int p2, .int p3])).length) Slot.unset).toArray = ls at hl ⊢
  have hl : lv_has ls 5 [(0, .ref (a 0)), (1, .int p1), (2, .int p2), (3, .int p3)] := hl
  unfold w0_L_arrive at hw
  refine lv_aload_n hx hb dL_arrive_0 rfl (lv_at hl 0 rfl) ?_
  refine lv_iload_n hx hb dL_arrive_1 rfl (lv_at hl 1 rfl) ?_
  refine lv_iload_n hx hb dL_arrive_2 rfl (lv_at hl 2 rfl) ?_
  refine lv_iload_n hx hb dL_arrive_3 rfl (lv_at hl 3 rfl) ?_
  refine kVi (As := [.int p1, .int p2, .int p3]) (rest := []) ⟨hx, hb, hml, hown, hts⟩ (c0_C_arrive l D cs a _ σ p1 p2 p3 hw) (cwV 3 hts gL_arrive_X3_arrive rfl rfl rfl (by decide +kernel) ⟨Nat.le_of_ble_eq_true rfl, Nat.le_of_ble_eq_true rfl⟩) (pt_self_CY cs a σ) hK hP hD hS hA (ci := 3) rfl rfl rfl rfl hl.1 rfl (Nat.le_of_ble_eq_true rfl) dL_arrive_4 ⟨Nat.zero_le _, Nat.zero_le _⟩ (fun r u H locs hw hP hD hS => ?_)
  exact xI0 (wf := ws_CY cs a) (u := u) hx hb hr hlocks hK hP hD hS hw dL_arrive_7
set_option maxHeartbeats 4000000 in
theorem c_L_lift (l : Launch) (hfl : l.stackTraces = false) (D : va_G) (cs : CS) (a : Nat → Nat) (sz : Nat) (σ : CY) (p1 : Int32) {Φ : Int32 → CY → Prop} (hw : w_L_lift σ p1 Φ) : vx_Met l yL_lift wsL_lift rm_L_lift (PcX [.ref (a 0), .int p1] D cs (ws_CY cs a σ) sz) (va_Qi Φ (BL D cs (va_A (ws_CY cs a σ) sz) (ws_CY cs a)) (va_A (ws_CY cs a σ) sz)) (XG D cs (va_A (ws_CY cs a σ) sz) (ws_CY cs a) (fun _ _ => False)) 1 6 (va_A (ws_CY cs a σ) sz) := by
  refine vx_ofWH (cc := cL_lift) (maxL := 3) (ret := (some .int)) (hh := [(0, 5, 6, 14), (0, 5, 10, 17)]) (by decide) rfl ?_
  intro p e s m args below meth c s₁ B hml hv
  obtain ⟨rfl, hsz, hP, hK, hD0, hE⟩ := hv
  have hx := B.exec
  have hb := B.bytes
  have hr := B.returns
  have hts := atoms_spec (ws := wsL_lift) B.pre
  have hown : s.vm.findClass RL = some m.cls := findClass_of_methodNamed B.named
  have hlocks := B.notSynchronized
  have htab : c.exceptionTable.toList = [⟨0, 5, 6, 14⟩, ⟨0, 5, 10, 17⟩] := vx_table (x := yL_lift) B (hts _ List.mem_cons_self)
  subst hsz
  have hD := hD0.self (sz := s.heap.size)
  generalize hAe : va_A (ws_CY cs a σ) s.heap.size = A at hD hE ⊢
  have hA : ∀ q : Nat, s.heap.size ≤ q → A q := fun q h => by rw [← hAe]; exact Or.inr h
  have hS : va_S A s.heap s.heap [] := va_S.rf
  have hk14 : (Cond.classLink RL 14 "java/lang/IllegalArgumentException").before ([.ref (a 0), .int p1] : List Value).toArray s = true := hts _ (List.mem_of_getElem? (i := 1) rfl)
  have hk17 : (Cond.classLink RL 17 "java/lang/IllegalStateException").before ([.ref (a 0), .int p1] : List Value).toArray s = true := hts _ (List.mem_of_getElem? (i := 2) rfl)
  have hc16 : (Cond.constant RL 16 (-99999 : Int32)).before ([.ref (a 0), .int p1] : List Value).toArray s = true := hts _ (List.mem_of_getElem? (i := 3) rfl)
  have hP : va_P D vwCl (ws_CY cs a σ) s.heap := hP
  have hl := lv_entry ([.ref (a 0), .int p1]) (n := 3) (Nat.le_of_ble_eq_true rfl)
  rw [lg_entry_eq]
  generalize (lg_sl ([.ref (a 0), .int p1]) ++ List.replicate (3 - (lg_sl ([.ref (a 0), .int p1])).length) Slot.unset).toArray = ls at hl ⊢
  have hl : lv_has ls 3 [(0, .ref (a 0)), (1, .int p1)] := hl
  unfold w_L_lift at hw
  refine lv_aload_n hx hb dL_lift_0 rfl (lv_at hl 0 rfl) ?_
  refine lv_iload_n hx hb dL_lift_1 rfl (lv_at hl 1 rfl) ?_
  refine kxVi (As := [.int p1]) (rest := []) ⟨hx, hb, hml, hown, hts⟩ hE (c_C_lift l hfl D cs a _ σ p1 hw) (cwV 1 hts gL_lift_X3_lift rfl rfl rfl (by decide +kernel) ⟨Nat.le_of_ble_eq_true rfl, Nat.le_of_ble_eq_true rfl⟩) (pt_self_CY cs a σ) hK hP hD hS hA (ci := 3) rfl rfl rfl rfl hl.1 rfl (Nat.le_of_ble_eq_true rfl) dL_lift_2 ⟨Nat.le_of_ble_eq_true rfl, Nat.le_of_ble_eq_true rfl⟩ (fun E u H locs q9 ce hw hP hD hS hcell hv hcl => ?_) (fun r u H locs hw hP hD hS => ?_)
  · rcases hw with ⟨rfl, hw⟩ | ⟨rfl, hw⟩
    · refine vx_catch (name := "java/lang/IllegalArgumentException") hown [] ⟨0, 5, 6, 14⟩ [⟨0, 5, 10, 17⟩] htab (fun z hz => absurd hz List.not_mem_nil) (by decide) (by decide) hk14 (va_Nw.use rfl (hE.2.2.2.1 _ (by decide))) hcell hv hcl ?_
      refine lv_astore_n (lv' := [(2, .ref q9), (0, .ref (a 0)), (1, .int p1)]) hx hb dL_lift_6 rfl hl (by decide) rfl (fun ls hl => ?_)
      refine lv_ldc (v := (-99999 : Int32)) hx hb hown hc16 dL_lift_7 ?_
      exact xIa (wf := ws_CY cs a) (u := u) hx hb hr hlocks hK hP hD hS (Nat.le_of_ble_eq_true rfl) (Nat.le_of_ble_eq_true rfl) hw dL_lift_9
    · refine vx_catch (name := "java/lang/IllegalStateException") hown [⟨0, 5, 6, 14⟩] ⟨0, 5, 10, 17⟩ [] htab (fun z hz => by rcases List.mem_cons.mp hz with rfl | hz; exact Or.inr ⟨by decide, "java/lang/IllegalArgumentException", hk14, hE.2.2.2.2.1 ("java/lang/IllegalStateException", "java/lang/IllegalArgumentException") (by decide)⟩; exact absurd hz List.not_mem_nil) (by decide) (by decide) hk17 (va_Nw.use rfl (hE.2.2.2.1 _ (by decide))) hcell hv hcl ?_
      refine lv_astore_n (lv' := [(2, .ref q9), (0, .ref (a 0)), (1, .int p1)]) hx hb dL_lift_10 rfl hl (by decide) rfl (fun ls hl => ?_)
      refine lv_ldc (v := (-99999 : Int32)) hx hb hown hc16 dL_lift_11 ?_
      exact xIa (wf := ws_CY cs a) (u := u) hx hb hr hlocks hK hP hD hS (Nat.le_of_ble_eq_true rfl) (Nat.le_of_ble_eq_true rfl) hw dL_lift_13
  · exact xIa (wf := ws_CY cs a) (u := u) hx hb hr hlocks hK hP hD hS (Nat.le_of_ble_eq_true rfl) (Nat.le_of_ble_eq_true rfl) hw dL_lift_5
set_option maxHeartbeats 4000000 in
theorem c0_L_lift (l : Launch) (D : va_G) (cs : CS) (a : Nat → Nat) (sz : Nat) (σ : CY) (p1 : Int32) {Φ : Int32 → CY → Prop} (hw : w0_L_lift σ p1 Φ) : vx_Met l yL_lift wsL_lift rm0_L_lift (PcG [.ref (a 0), .int p1] D cs (ws_CY cs a σ) sz) (va_Qi Φ (BG D cs (va_A (ws_CY cs a σ) sz) sz (ws_CY cs a)) (va_A (ws_CY cs a σ) sz)) (XG D cs (va_A (ws_CY cs a σ) sz) (ws_CY cs a) (fun _ _ => False)) 0 0 (va_A (ws_CY cs a σ) sz) := by
  refine vx_ofWH (cc := cL_lift) (maxL := 3) (ret := (some .int)) (hh := [(0, 5, 6, 14), (0, 5, 10, 17)]) (by decide) rfl ?_
  intro p e s m args below meth c s₁ B hml hv
  obtain ⟨rfl, hsz, hP, hK, hD0⟩ := hv
  have hx := B.exec
  have hb := B.bytes
  have hr := B.returns
  have hts := atoms_spec (ws := wsL_lift) B.pre
  have hown : s.vm.findClass RL = some m.cls := findClass_of_methodNamed B.named
  have hlocks := B.notSynchronized
  subst hsz
  have hD := hD0.self (sz := s.heap.size)
  generalize hAe : va_A (ws_CY cs a σ) s.heap.size = A at hD ⊢
  have hA : ∀ q : Nat, s.heap.size ≤ q → A q := fun q h => by rw [← hAe]; exact Or.inr h
  have hS : va_S A s.heap s.heap [] := va_S.rf
  have hP : va_P D vwCl (ws_CY cs a σ) s.heap := hP
  have hl := lv_entry ([.ref (a 0), .int p1]) (n := 3) (Nat.le_of_ble_eq_true rfl)
  rw [lg_entry_eq]
  generalize (lg_sl ([.ref (a 0), .int p1]) ++ List.replicate (3 - (lg_sl ([.ref (a 0), .int p1])).length) Slot.unset).toArray = ls at hl ⊢
  have hl : lv_has ls 3 [(0, .ref (a 0)), (1, .int p1)] := hl
  unfold w0_L_lift at hw
  refine lv_aload_n hx hb dL_lift_0 rfl (lv_at hl 0 rfl) ?_
  refine lv_iload_n hx hb dL_lift_1 rfl (lv_at hl 1 rfl) ?_
  refine kVi (As := [.int p1]) (rest := []) ⟨hx, hb, hml, hown, hts⟩ (c0_C_lift l D cs a _ σ p1 hw) (cwV 1 hts gL_lift_X3_lift rfl rfl rfl (by decide +kernel) ⟨Nat.le_of_ble_eq_true rfl, Nat.le_of_ble_eq_true rfl⟩) (pt_self_CY cs a σ) hK hP hD hS hA (ci := 3) rfl rfl rfl rfl hl.1 rfl (Nat.le_of_ble_eq_true rfl) dL_lift_2 ⟨Nat.zero_le _, Nat.zero_le _⟩ (fun r u H locs hw hP hD hS => ?_)
  exact xI0 (wf := ws_CY cs a) (u := u) hx hb hr hlocks hK hP hD hS hw dL_lift_5
set_option maxHeartbeats 4000000 in
theorem c_L_drop (l : Launch) (hfl : l.stackTraces = false) (D : va_G) (cs : CS) (a : Nat → Nat) (sz : Nat) (σ : CY) (p1 : Int32) {Φ : Int32 → CY → Prop} (hw : w_L_drop σ p1 Φ) : vx_Met l yL_drop wsL_drop rm_L_drop (PcX [.ref (a 0), .int p1] D cs (ws_CY cs a σ) sz) (va_Qi Φ (BL D cs (va_A (ws_CY cs a σ) sz) (ws_CY cs a)) (va_A (ws_CY cs a σ) sz)) (XG D cs (va_A (ws_CY cs a σ) sz) (ws_CY cs a) (fun _ _ => False)) 1 6 (va_A (ws_CY cs a σ) sz) := by
  refine vx_ofWH (cc := cL_drop) (maxL := 3) (ret := (some .int)) (hh := [(0, 5, 6, 14), (0, 5, 10, 17)]) (by decide) rfl ?_
  intro p e s m args below meth c s₁ B hml hv
  obtain ⟨rfl, hsz, hP, hK, hD0, hE⟩ := hv
  have hx := B.exec
  have hb := B.bytes
  have hr := B.returns
  have hts := atoms_spec (ws := wsL_drop) B.pre
  have hown : s.vm.findClass RL = some m.cls := findClass_of_methodNamed B.named
  have hlocks := B.notSynchronized
  have htab : c.exceptionTable.toList = [⟨0, 5, 6, 14⟩, ⟨0, 5, 10, 17⟩] := vx_table (x := yL_drop) B (hts _ List.mem_cons_self)
  subst hsz
  have hD := hD0.self (sz := s.heap.size)
  generalize hAe : va_A (ws_CY cs a σ) s.heap.size = A at hD hE ⊢
  have hA : ∀ q : Nat, s.heap.size ≤ q → A q := fun q h => by rw [← hAe]; exact Or.inr h
  have hS : va_S A s.heap s.heap [] := va_S.rf
  have hk14 : (Cond.classLink RL 14 "java/lang/IllegalArgumentException").before ([.ref (a 0), .int p1] : List Value).toArray s = true := hts _ (List.mem_of_getElem? (i := 1) rfl)
  have hk17 : (Cond.classLink RL 17 "java/lang/IllegalStateException").before ([.ref (a 0), .int p1] : List Value).toArray s = true := hts _ (List.mem_of_getElem? (i := 2) rfl)
  have hc16 : (Cond.constant RL 16 (-99999 : Int32)).before ([.ref (a 0), .int p1] : List Value).toArray s = true := hts _ (List.mem_of_getElem? (i := 3) rfl)
  have hP : va_P D vwCl (ws_CY cs a σ) s.heap := hP
  have hl := lv_entry ([.ref (a 0), .int p1]) (n := 3) (Nat.le_of_ble_eq_true rfl)
  rw [lg_entry_eq]
  generalize (lg_sl ([.ref (a 0), .int p1]) ++ List.replicate (3 - (lg_sl ([.ref (a 0), .int p1])).length) Slot.unset).toArray = ls at hl ⊢
  have hl : lv_has ls 3 [(0, .ref (a 0)), (1, .int p1)] := hl
  unfold w_L_drop at hw
  refine lv_aload_n hx hb dL_drop_0 rfl (lv_at hl 0 rfl) ?_
  refine lv_iload_n hx hb dL_drop_1 rfl (lv_at hl 1 rfl) ?_
  refine kxVi (As := [.int p1]) (rest := []) ⟨hx, hb, hml, hown, hts⟩ hE (c_C_drop l hfl D cs a _ σ p1 hw) (cwV 1 hts gL_drop_X3_drop rfl rfl rfl (by decide +kernel) ⟨Nat.le_of_ble_eq_true rfl, Nat.le_of_ble_eq_true rfl⟩) (pt_self_CY cs a σ) hK hP hD hS hA (ci := 3) rfl rfl rfl rfl hl.1 rfl (Nat.le_of_ble_eq_true rfl) dL_drop_2 ⟨Nat.le_of_ble_eq_true rfl, Nat.le_of_ble_eq_true rfl⟩ (fun E u H locs q9 ce hw hP hD hS hcell hv hcl => ?_) (fun r u H locs hw hP hD hS => ?_)
  · rcases hw with ⟨rfl, hw⟩ | ⟨rfl, hw⟩
    · refine vx_catch (name := "java/lang/IllegalArgumentException") hown [] ⟨0, 5, 6, 14⟩ [⟨0, 5, 10, 17⟩] htab (fun z hz => absurd hz List.not_mem_nil) (by decide) (by decide) hk14 (va_Nw.use rfl (hE.2.2.2.1 _ (by decide))) hcell hv hcl ?_
      refine lv_astore_n (lv' := [(2, .ref q9), (0, .ref (a 0)), (1, .int p1)]) hx hb dL_drop_6 rfl hl (by decide) rfl (fun ls hl => ?_)
      refine lv_ldc (v := (-99999 : Int32)) hx hb hown hc16 dL_drop_7 ?_
      exact xIa (wf := ws_CY cs a) (u := u) hx hb hr hlocks hK hP hD hS (Nat.le_of_ble_eq_true rfl) (Nat.le_of_ble_eq_true rfl) hw dL_drop_9
    · refine vx_catch (name := "java/lang/IllegalStateException") hown [⟨0, 5, 6, 14⟩] ⟨0, 5, 10, 17⟩ [] htab (fun z hz => by rcases List.mem_cons.mp hz with rfl | hz; exact Or.inr ⟨by decide, "java/lang/IllegalArgumentException", hk14, hE.2.2.2.2.1 ("java/lang/IllegalStateException", "java/lang/IllegalArgumentException") (by decide)⟩; exact absurd hz List.not_mem_nil) (by decide) (by decide) hk17 (va_Nw.use rfl (hE.2.2.2.1 _ (by decide))) hcell hv hcl ?_
      refine lv_astore_n (lv' := [(2, .ref q9), (0, .ref (a 0)), (1, .int p1)]) hx hb dL_drop_10 rfl hl (by decide) rfl (fun ls hl => ?_)
      refine lv_ldc (v := (-99999 : Int32)) hx hb hown hc16 dL_drop_11 ?_
      exact xIa (wf := ws_CY cs a) (u := u) hx hb hr hlocks hK hP hD hS (Nat.le_of_ble_eq_true rfl) (Nat.le_of_ble_eq_true rfl) hw dL_drop_13
  · exact xIa (wf := ws_CY cs a) (u := u) hx hb hr hlocks hK hP hD hS (Nat.le_of_ble_eq_true rfl) (Nat.le_of_ble_eq_true rfl) hw dL_drop_5
set_option maxHeartbeats 4000000 in
theorem c0_L_drop (l : Launch) (D : va_G) (cs : CS) (a : Nat → Nat) (sz : Nat) (σ : CY) (p1 : Int32) {Φ : Int32 → CY → Prop} (hw : w0_L_drop σ p1 Φ) : vx_Met l yL_drop wsL_drop rm0_L_drop (PcG [.ref (a 0), .int p1] D cs (ws_CY cs a σ) sz) (va_Qi Φ (BG D cs (va_A (ws_CY cs a σ) sz) sz (ws_CY cs a)) (va_A (ws_CY cs a σ) sz)) (XG D cs (va_A (ws_CY cs a σ) sz) (ws_CY cs a) (fun _ _ => False)) 0 0 (va_A (ws_CY cs a σ) sz) := by
  refine vx_ofWH (cc := cL_drop) (maxL := 3) (ret := (some .int)) (hh := [(0, 5, 6, 14), (0, 5, 10, 17)]) (by decide) rfl ?_
  intro p e s m args below meth c s₁ B hml hv
  obtain ⟨rfl, hsz, hP, hK, hD0⟩ := hv
  have hx := B.exec
  have hb := B.bytes
  have hr := B.returns
  have hts := atoms_spec (ws := wsL_drop) B.pre
  have hown : s.vm.findClass RL = some m.cls := findClass_of_methodNamed B.named
  have hlocks := B.notSynchronized
  subst hsz
  have hD := hD0.self (sz := s.heap.size)
  generalize hAe : va_A (ws_CY cs a σ) s.heap.size = A at hD ⊢
  have hA : ∀ q : Nat, s.heap.size ≤ q → A q := fun q h => by rw [← hAe]; exact Or.inr h
  have hS : va_S A s.heap s.heap [] := va_S.rf
  have hP : va_P D vwCl (ws_CY cs a σ) s.heap := hP
  have hl := lv_entry ([.ref (a 0), .int p1]) (n := 3) (Nat.le_of_ble_eq_true rfl)
  rw [lg_entry_eq]
  generalize (lg_sl ([.ref (a 0), .int p1]) ++ List.replicate (3 - (lg_sl ([.ref (a 0), .int p1])).length) Slot.unset).toArray = ls at hl ⊢
  have hl : lv_has ls 3 [(0, .ref (a 0)), (1, .int p1)] := hl
  unfold w0_L_drop at hw
  refine lv_aload_n hx hb dL_drop_0 rfl (lv_at hl 0 rfl) ?_
  refine lv_iload_n hx hb dL_drop_1 rfl (lv_at hl 1 rfl) ?_
  refine kVi (As := [.int p1]) (rest := []) ⟨hx, hb, hml, hown, hts⟩ (c0_C_drop l D cs a _ σ p1 hw) (cwV 1 hts gL_drop_X3_drop rfl rfl rfl (by decide +kernel) ⟨Nat.le_of_ble_eq_true rfl, Nat.le_of_ble_eq_true rfl⟩) (pt_self_CY cs a σ) hK hP hD hS hA (ci := 3) rfl rfl rfl rfl hl.1 rfl (Nat.le_of_ble_eq_true rfl) dL_drop_2 ⟨Nat.zero_le _, Nat.zero_le _⟩ (fun r u H locs hw hP hD hS => ?_)
  exact xI0 (wf := ws_CY cs a) (u := u) hx hb hr hlocks hK hP hD hS hw dL_drop_5
set_option maxHeartbeats 4000000 in
theorem c_L_dig (l : Launch) (hfl : l.stackTraces = false) (D : va_G) (cs : CS) (a : Nat → Nat) (sz : Nat) (σ : CY) (p1 : Int32) {Φ : Int32 → CY → Prop} (hw : w_L_dig σ p1 Φ) : vx_Met l yL_dig wsL_dig rm_L_dig (PcX [.ref (a 0), .int p1] D cs (ws_CY cs a σ) sz) (va_Qi Φ (BL D cs (va_A (ws_CY cs a σ) sz) (ws_CY cs a)) (va_A (ws_CY cs a σ) sz)) (XG D cs (va_A (ws_CY cs a σ) sz) (ws_CY cs a) (fun _ _ => False)) 1 6 (va_A (ws_CY cs a σ) sz) := by
  refine vx_ofWH (cc := cL_dig) (maxL := 3) (ret := (some .int)) (hh := [(0, 5, 6, 29), (0, 5, 10, 17)]) (by decide) rfl ?_
  intro p e s m args below meth c s₁ B hml hv
  obtain ⟨rfl, hsz, hP, hK, hD0, hE⟩ := hv
  have hx := B.exec
  have hb := B.bytes
  have hr := B.returns
  have hts := atoms_spec (ws := wsL_dig) B.pre
  have hown : s.vm.findClass RL = some m.cls := findClass_of_methodNamed B.named
  have hlocks := B.notSynchronized
  have htab : c.exceptionTable.toList = [⟨0, 5, 6, 29⟩, ⟨0, 5, 10, 17⟩] := vx_table (x := yL_dig) B (hts _ List.mem_cons_self)
  subst hsz
  have hD := hD0.self (sz := s.heap.size)
  generalize hAe : va_A (ws_CY cs a σ) s.heap.size = A at hD hE ⊢
  have hA : ∀ q : Nat, s.heap.size ≤ q → A q := fun q h => by rw [← hAe]; exact Or.inr h
  have hS : va_S A s.heap s.heap [] := va_S.rf
  have hk29 : (Cond.classLink RL 29 "java/lang/IndexOutOfBoundsException").before ([.ref (a 0), .int p1] : List Value).toArray s = true := hts _ (List.mem_of_getElem? (i := 1) rfl)
  have hk17 : (Cond.classLink RL 17 "java/lang/IllegalStateException").before ([.ref (a 0), .int p1] : List Value).toArray s = true := hts _ (List.mem_of_getElem? (i := 2) rfl)
  have hc16 : (Cond.constant RL 16 (-99999 : Int32)).before ([.ref (a 0), .int p1] : List Value).toArray s = true := hts _ (List.mem_of_getElem? (i := 3) rfl)
  have hc31 : (Cond.constant RL 31 (-99998 : Int32)).before ([.ref (a 0), .int p1] : List Value).toArray s = true := hts _ (List.mem_of_getElem? (i := 4) rfl)
  have hP : va_P D vwCl (ws_CY cs a σ) s.heap := hP
  have hl := lv_entry ([.ref (a 0), .int p1]) (n := 3) (Nat.le_of_ble_eq_true rfl)
  rw [lg_entry_eq]
  generalize (lg_sl ([.ref (a 0), .int p1]) ++ List.replicate (3 - (lg_sl ([.ref (a 0), .int p1])).length) Slot.unset).toArray = ls at hl ⊢
  have hl : lv_has ls 3 [(0, .ref (a 0)), (1, .int p1)] := hl
  unfold w_L_dig at hw
  refine lv_aload_n hx hb dL_dig_0 rfl (lv_at hl 0 rfl) ?_
  refine lv_iload_n hx hb dL_dig_1 rfl (lv_at hl 1 rfl) ?_
  refine kxVi (As := [.int p1]) (rest := []) ⟨hx, hb, hml, hown, hts⟩ hE (c_C_dig l hfl D cs a _ σ p1 hw) (cwV 1 hts gL_dig_X3_dig rfl rfl rfl (by decide +kernel) ⟨Nat.le_of_ble_eq_true rfl, Nat.le_of_ble_eq_true rfl⟩) (pt_self_CY cs a σ) hK hP hD hS hA (ci := 3) rfl rfl rfl rfl hl.1 rfl (Nat.le_of_ble_eq_true rfl) dL_dig_2 ⟨Nat.le_of_ble_eq_true rfl, Nat.le_of_ble_eq_true rfl⟩ (fun E u H locs q9 ce hw hP hD hS hcell hv hcl => ?_) (fun r u H locs hw hP hD hS => ?_)
  · rcases hw with ⟨rfl, hw⟩ | ⟨rfl, hw⟩
    · refine vx_catch (name := "java/lang/IndexOutOfBoundsException") hown [] ⟨0, 5, 6, 29⟩ [⟨0, 5, 10, 17⟩] htab (fun z hz => absurd hz List.not_mem_nil) (by decide) (by decide) hk29 (va_Nw.use rfl (hE.2.2.2.1 _ (by decide))) hcell hv hcl ?_
      refine lv_astore_n (lv' := [(2, .ref q9), (0, .ref (a 0)), (1, .int p1)]) hx hb dL_dig_6 rfl hl (by decide) rfl (fun ls hl => ?_)
      refine lv_ldc (v := (-99999 : Int32)) hx hb hown hc16 dL_dig_7 ?_
      exact xIa (wf := ws_CY cs a) (u := u) hx hb hr hlocks hK hP hD hS (Nat.le_of_ble_eq_true rfl) (Nat.le_of_ble_eq_true rfl) hw dL_dig_9
    · refine vx_catch (name := "java/lang/IllegalStateException") hown [⟨0, 5, 6, 29⟩] ⟨0, 5, 10, 17⟩ [] htab (fun z hz => by rcases List.mem_cons.mp hz with rfl | hz; exact Or.inr ⟨by decide, "java/lang/IndexOutOfBoundsException", hk29, hE.2.2.2.2.1 ("java/lang/IllegalStateException", "java/lang/IndexOutOfBoundsException") (by decide)⟩; exact absurd hz List.not_mem_nil) (by decide) (by decide) hk17 (va_Nw.use rfl (hE.2.2.2.1 _ (by decide))) hcell hv hcl ?_
      refine lv_astore_n (lv' := [(2, .ref q9), (0, .ref (a 0)), (1, .int p1)]) hx hb dL_dig_10 rfl hl (by decide) rfl (fun ls hl => ?_)
      refine lv_ldc (v := (-99998 : Int32)) hx hb hown hc31 dL_dig_11 ?_
      exact xIa (wf := ws_CY cs a) (u := u) hx hb hr hlocks hK hP hD hS (Nat.le_of_ble_eq_true rfl) (Nat.le_of_ble_eq_true rfl) hw dL_dig_13
  · exact xIa (wf := ws_CY cs a) (u := u) hx hb hr hlocks hK hP hD hS (Nat.le_of_ble_eq_true rfl) (Nat.le_of_ble_eq_true rfl) hw dL_dig_5
set_option maxHeartbeats 4000000 in
theorem c0_L_dig (l : Launch) (D : va_G) (cs : CS) (a : Nat → Nat) (sz : Nat) (σ : CY) (p1 : Int32) {Φ : Int32 → CY → Prop} (hw : w0_L_dig σ p1 Φ) : vx_Met l yL_dig wsL_dig rm0_L_dig (PcG [.ref (a 0), .int p1] D cs (ws_CY cs a σ) sz) (va_Qi Φ (BG D cs (va_A (ws_CY cs a σ) sz) sz (ws_CY cs a)) (va_A (ws_CY cs a σ) sz)) (XG D cs (va_A (ws_CY cs a σ) sz) (ws_CY cs a) (fun _ _ => False)) 0 0 (va_A (ws_CY cs a σ) sz) := by
  refine vx_ofWH (cc := cL_dig) (maxL := 3) (ret := (some .int)) (hh := [(0, 5, 6, 29), (0, 5, 10, 17)]) (by decide) rfl ?_
  intro p e s m args below meth c s₁ B hml hv
  obtain ⟨rfl, hsz, hP, hK, hD0⟩ := hv
  have hx := B.exec
  have hb := B.bytes
  have hr := B.returns
  have hts := atoms_spec (ws := wsL_dig) B.pre
  have hown : s.vm.findClass RL = some m.cls := findClass_of_methodNamed B.named
  have hlocks := B.notSynchronized
  subst hsz
  have hD := hD0.self (sz := s.heap.size)
  generalize hAe : va_A (ws_CY cs a σ) s.heap.size = A at hD ⊢
  have hA : ∀ q : Nat, s.heap.size ≤ q → A q := fun q h => by rw [← hAe]; exact Or.inr h
  have hS : va_S A s.heap s.heap [] := va_S.rf
  have hP : va_P D vwCl (ws_CY cs a σ) s.heap := hP
  have hl := lv_entry ([.ref (a 0), .int p1]) (n := 3) (Nat.le_of_ble_eq_true rfl)
  rw [lg_entry_eq]
  generalize (lg_sl ([.ref (a 0), .int p1]) ++ List.replicate (3 - (lg_sl ([.ref (a 0), .int p1])).length) Slot.unset).toArray = ls at hl ⊢
  have hl : lv_has ls 3 [(0, .ref (a 0)), (1, .int p1)] := hl
  unfold w0_L_dig at hw
  refine lv_aload_n hx hb dL_dig_0 rfl (lv_at hl 0 rfl) ?_
  refine lv_iload_n hx hb dL_dig_1 rfl (lv_at hl 1 rfl) ?_
  refine kVi (As := [.int p1]) (rest := []) ⟨hx, hb, hml, hown, hts⟩ (c0_C_dig l D cs a _ σ p1 hw) (cwV 1 hts gL_dig_X3_dig rfl rfl rfl (by decide +kernel) ⟨Nat.le_of_ble_eq_true rfl, Nat.le_of_ble_eq_true rfl⟩) (pt_self_CY cs a σ) hK hP hD hS hA (ci := 3) rfl rfl rfl rfl hl.1 rfl (Nat.le_of_ble_eq_true rfl) dL_dig_2 ⟨Nat.zero_le _, Nat.zero_le _⟩ (fun r u H locs hw hP hD hS => ?_)
  exact xI0 (wf := ws_CY cs a) (u := u) hx hb hr hlocks hK hP hD hS hw dL_dig_5
set_option maxHeartbeats 4000000 in
theorem c_L_stackOf (l : Launch) (hfl : l.stackTraces = false) (D : va_G) (cs : CS) (a : Nat → Nat) (sz : Nat) (σ : CY) (p1 : Int32) {Φ : Int32 → CY → Prop} (hw : w_L_stackOf σ p1 Φ) : vx_Met l yL_stackOf wsL_stackOf rm_L_stackOf (PcX [.ref (a 0), .int p1] D cs (ws_CY cs a σ) sz) (va_Qi Φ (BL D cs (va_A (ws_CY cs a σ) sz) (ws_CY cs a)) (va_A (ws_CY cs a σ) sz)) (XG D cs (va_A (ws_CY cs a σ) sz) (ws_CY cs a) (fun _ _ => False)) 1 6 (va_A (ws_CY cs a σ) sz) := by
  refine vx_ofWH (cc := cL_stackOf) (maxL := 3) (ret := (some .int)) (hh := [(0, 5, 6, 29)]) (by decide) rfl ?_
  intro p e s m args below meth c s₁ B hml hv
  obtain ⟨rfl, hsz, hP, hK, hD0, hE⟩ := hv
  have hx := B.exec
  have hb := B.bytes
  have hr := B.returns
  have hts := atoms_spec (ws := wsL_stackOf) B.pre
  have hown : s.vm.findClass RL = some m.cls := findClass_of_methodNamed B.named
  have hlocks := B.notSynchronized
  have htab : c.exceptionTable.toList = [⟨0, 5, 6, 29⟩] := vx_table (x := yL_stackOf) B (hts _ List.mem_cons_self)
  subst hsz
  have hD := hD0.self (sz := s.heap.size)
  generalize hAe : va_A (ws_CY cs a σ) s.heap.size = A at hD hE ⊢
  have hA : ∀ q : Nat, s.heap.size ≤ q → A q := fun q h => by rw [← hAe]; exact Or.inr h
  have hS : va_S A s.heap s.heap [] := va_S.rf
  have hk29 : (Cond.classLink RL 29 "java/lang/IndexOutOfBoundsException").before ([.ref (a 0), .int p1] : List Value).toArray s = true := hts _ (List.mem_of_getElem? (i := 1) rfl)
  have hP : va_P D vwCl (ws_CY cs a σ) s.heap := hP
  have hl := lv_entry ([.ref (a 0), .int p1]) (n := 3) (Nat.le_of_ble_eq_true rfl)
  rw [lg_entry_eq]
  generalize (lg_sl ([.ref (a 0), .int p1]) ++ List.replicate (3 - (lg_sl ([.ref (a 0), .int p1])).length) Slot.unset).toArray = ls at hl ⊢
  have hl : lv_has ls 3 [(0, .ref (a 0)), (1, .int p1)] := hl
  unfold w_L_stackOf at hw
  refine lv_aload_n hx hb dL_stackOf_0 rfl (lv_at hl 0 rfl) ?_
  refine lv_iload_n hx hb dL_stackOf_1 rfl (lv_at hl 1 rfl) ?_
  refine kxVi (As := [.int p1]) (rest := []) ⟨hx, hb, hml, hown, hts⟩ hE (c_C_stackOf l hfl D cs a _ σ p1 hw) (cwV 1 hts gL_stackOf_X3_stackOf rfl rfl rfl (by decide +kernel) ⟨Nat.le_of_ble_eq_true rfl, Nat.le_of_ble_eq_true rfl⟩) (pt_self_CY cs a σ) hK hP hD hS hA (ci := 3) rfl rfl rfl rfl hl.1 rfl (Nat.le_of_ble_eq_true rfl) dL_stackOf_2 ⟨Nat.le_of_ble_eq_true rfl, Nat.le_of_ble_eq_true rfl⟩ (fun E u H locs q9 ce hw hP hD hS hcell hv hcl => ?_) (fun r u H locs hw hP hD hS => ?_)
  · rcases hw with ⟨rfl, hw⟩
    refine vx_catch (name := "java/lang/IndexOutOfBoundsException") hown [] ⟨0, 5, 6, 29⟩ [] htab (fun z hz => absurd hz List.not_mem_nil) (by decide) (by decide) hk29 (va_Nw.use rfl (hE.2.2.2.1 _ (by decide))) hcell hv hcl ?_
    refine lv_astore_n (lv' := [(2, .ref q9), (0, .ref (a 0)), (1, .int p1)]) hx hb dL_stackOf_6 rfl hl (by decide) rfl (fun ls hl => ?_)
    refine lv_bipush (v := (-2 : Int32)) hx hb dL_stackOf_7 (by decide) ?_
    exact xIa (wf := ws_CY cs a) (u := u) hx hb hr hlocks hK hP hD hS (Nat.le_of_ble_eq_true rfl) (Nat.le_of_ble_eq_true rfl) hw dL_stackOf_9
  · exact xIa (wf := ws_CY cs a) (u := u) hx hb hr hlocks hK hP hD hS (Nat.le_of_ble_eq_true rfl) (Nat.le_of_ble_eq_true rfl) hw dL_stackOf_5
set_option maxHeartbeats 4000000 in
theorem c0_L_stackOf (l : Launch) (D : va_G) (cs : CS) (a : Nat → Nat) (sz : Nat) (σ : CY) (p1 : Int32) {Φ : Int32 → CY → Prop} (hw : w0_L_stackOf σ p1 Φ) : vx_Met l yL_stackOf wsL_stackOf rm0_L_stackOf (PcG [.ref (a 0), .int p1] D cs (ws_CY cs a σ) sz) (va_Qi Φ (BG D cs (va_A (ws_CY cs a σ) sz) sz (ws_CY cs a)) (va_A (ws_CY cs a σ) sz)) (XG D cs (va_A (ws_CY cs a σ) sz) (ws_CY cs a) (fun _ _ => False)) 0 0 (va_A (ws_CY cs a σ) sz) := by
  refine vx_ofWH (cc := cL_stackOf) (maxL := 3) (ret := (some .int)) (hh := [(0, 5, 6, 29)]) (by decide) rfl ?_
  intro p e s m args below meth c s₁ B hml hv
  obtain ⟨rfl, hsz, hP, hK, hD0⟩ := hv
  have hx := B.exec
  have hb := B.bytes
  have hr := B.returns
  have hts := atoms_spec (ws := wsL_stackOf) B.pre
  have hown : s.vm.findClass RL = some m.cls := findClass_of_methodNamed B.named
  have hlocks := B.notSynchronized
  subst hsz
  have hD := hD0.self (sz := s.heap.size)
  generalize hAe : va_A (ws_CY cs a σ) s.heap.size = A at hD ⊢
  have hA : ∀ q : Nat, s.heap.size ≤ q → A q := fun q h => by rw [← hAe]; exact Or.inr h
  have hS : va_S A s.heap s.heap [] := va_S.rf
  have hP : va_P D vwCl (ws_CY cs a σ) s.heap := hP
  have hl := lv_entry ([.ref (a 0), .int p1]) (n := 3) (Nat.le_of_ble_eq_true rfl)
  rw [lg_entry_eq]
  generalize (lg_sl ([.ref (a 0), .int p1]) ++ List.replicate (3 - (lg_sl ([.ref (a 0), .int p1])).length) Slot.unset).toArray = ls at hl ⊢
  have hl : lv_has ls 3 [(0, .ref (a 0)), (1, .int p1)] := hl
  unfold w0_L_stackOf at hw
  refine lv_aload_n hx hb dL_stackOf_0 rfl (lv_at hl 0 rfl) ?_
  refine lv_iload_n hx hb dL_stackOf_1 rfl (lv_at hl 1 rfl) ?_
  refine kVi (As := [.int p1]) (rest := []) ⟨hx, hb, hml, hown, hts⟩ (c0_C_stackOf l D cs a _ σ p1 hw) (cwV 1 hts gL_stackOf_X3_stackOf rfl rfl rfl (by decide +kernel) ⟨Nat.le_of_ble_eq_true rfl, Nat.le_of_ble_eq_true rfl⟩) (pt_self_CY cs a σ) hK hP hD hS hA (ci := 3) rfl rfl rfl rfl hl.1 rfl (Nat.le_of_ble_eq_true rfl) dL_stackOf_2 ⟨Nat.zero_le _, Nat.zero_le _⟩ (fun r u H locs hw hP hD hS => ?_)
  exact xI0 (wf := ws_CY cs a) (u := u) hx hb hr hlocks hK hP hD hS hw dL_stackOf_5
set_option maxHeartbeats 4000000 in
theorem c_L_fewest (l : Launch) (hfl : l.stackTraces = false) (D : va_G) (cs : CS) (a : Nat → Nat) (sz : Nat) (σ : CY) (p1 : Int32) {Φ : Int32 → CY → Prop} (hw : w_L_fewest σ p1 Φ) : vx_Met l yL_fewest wsL_fewest rm_L_fewest (PcX [.ref (a 0), .int p1] D cs (ws_CY cs a σ) sz) (va_Qi Φ (BL D cs (va_A (ws_CY cs a σ) sz) (ws_CY cs a)) (va_A (ws_CY cs a σ) sz)) (XG D cs (va_A (ws_CY cs a σ) sz) (ws_CY cs a) (fun _ _ => False)) 1 6 (va_A (ws_CY cs a σ) sz) := by
  refine vx_ofWH (cc := cL_fewest) (maxL := 3) (ret := (some .int)) (hh := [(0, 5, 6, 14), (0, 5, 10, 17)]) (by decide) rfl ?_
  intro p e s m args below meth c s₁ B hml hv
  obtain ⟨rfl, hsz, hP, hK, hD0, hE⟩ := hv
  have hx := B.exec
  have hb := B.bytes
  have hr := B.returns
  have hts := atoms_spec (ws := wsL_fewest) B.pre
  have hown : s.vm.findClass RL = some m.cls := findClass_of_methodNamed B.named
  have hlocks := B.notSynchronized
  have htab : c.exceptionTable.toList = [⟨0, 5, 6, 14⟩, ⟨0, 5, 10, 17⟩] := vx_table (x := yL_fewest) B (hts _ List.mem_cons_self)
  subst hsz
  have hD := hD0.self (sz := s.heap.size)
  generalize hAe : va_A (ws_CY cs a σ) s.heap.size = A at hD hE ⊢
  have hA : ∀ q : Nat, s.heap.size ≤ q → A q := fun q h => by rw [← hAe]; exact Or.inr h
  have hS : va_S A s.heap s.heap [] := va_S.rf
  have hk14 : (Cond.classLink RL 14 "java/lang/IllegalArgumentException").before ([.ref (a 0), .int p1] : List Value).toArray s = true := hts _ (List.mem_of_getElem? (i := 1) rfl)
  have hk17 : (Cond.classLink RL 17 "java/lang/IllegalStateException").before ([.ref (a 0), .int p1] : List Value).toArray s = true := hts _ (List.mem_of_getElem? (i := 2) rfl)
  have hP : va_P D vwCl (ws_CY cs a σ) s.heap := hP
  have hl := lv_entry ([.ref (a 0), .int p1]) (n := 3) (Nat.le_of_ble_eq_true rfl)
  rw [lg_entry_eq]
  generalize (lg_sl ([.ref (a 0), .int p1]) ++ List.replicate (3 - (lg_sl ([.ref (a 0), .int p1])).length) Slot.unset).toArray = ls at hl ⊢
  have hl : lv_has ls 3 [(0, .ref (a 0)), (1, .int p1)] := hl
  unfold w_L_fewest at hw
  refine lv_aload_n hx hb dL_fewest_0 rfl (lv_at hl 0 rfl) ?_
  refine lv_iload_n hx hb dL_fewest_1 rfl (lv_at hl 1 rfl) ?_
  refine kxVi (As := [.int p1]) (rest := []) ⟨hx, hb, hml, hown, hts⟩ hE (c_C_fewestLifts l hfl D cs a _ σ p1 hw) (cwV 1 hts gL_fewest_X3_fewestLifts rfl rfl rfl (by decide +kernel) ⟨Nat.le_of_ble_eq_true rfl, Nat.le_of_ble_eq_true rfl⟩) (pt_self_CY cs a σ) hK hP hD hS hA (ci := 3) rfl rfl rfl rfl hl.1 rfl (Nat.le_of_ble_eq_true rfl) dL_fewest_2 ⟨Nat.le_of_ble_eq_true rfl, Nat.le_of_ble_eq_true rfl⟩ (fun E u H locs q9 ce hw hP hD hS hcell hv hcl => ?_) (fun r u H locs hw hP hD hS => ?_)
  · rcases hw with ⟨rfl, hw⟩ | ⟨rfl, hw⟩
    · refine vx_catch (name := "java/lang/IllegalArgumentException") hown [] ⟨0, 5, 6, 14⟩ [⟨0, 5, 10, 17⟩] htab (fun z hz => absurd hz List.not_mem_nil) (by decide) (by decide) hk14 (va_Nw.use rfl (hE.2.2.2.1 _ (by decide))) hcell hv hcl ?_
      refine lv_astore_n (lv' := [(2, .ref q9), (0, .ref (a 0)), (1, .int p1)]) hx hb dL_fewest_6 rfl hl (by decide) rfl (fun ls hl => ?_)
      refine lv_bipush (v := (-2 : Int32)) hx hb dL_fewest_7 (by decide) ?_
      exact xIa (wf := ws_CY cs a) (u := u) hx hb hr hlocks hK hP hD hS (Nat.le_of_ble_eq_true rfl) (Nat.le_of_ble_eq_true rfl) hw dL_fewest_9
    · refine vx_catch (name := "java/lang/IllegalStateException") hown [⟨0, 5, 6, 14⟩] ⟨0, 5, 10, 17⟩ [] htab (fun z hz => by rcases List.mem_cons.mp hz with rfl | hz; exact Or.inr ⟨by decide, "java/lang/IllegalArgumentException", hk14, hE.2.2.2.2.1 ("java/lang/IllegalStateException", "java/lang/IllegalArgumentException") (by decide)⟩; exact absurd hz List.not_mem_nil) (by decide) (by decide) hk17 (va_Nw.use rfl (hE.2.2.2.1 _ (by decide))) hcell hv hcl ?_
      refine lv_astore_n (lv' := [(2, .ref q9), (0, .ref (a 0)), (1, .int p1)]) hx hb dL_fewest_10 rfl hl (by decide) rfl (fun ls hl => ?_)
      refine lv_bipush (v := (-3 : Int32)) hx hb dL_fewest_11 (by decide) ?_
      exact xIa (wf := ws_CY cs a) (u := u) hx hb hr hlocks hK hP hD hS (Nat.le_of_ble_eq_true rfl) (Nat.le_of_ble_eq_true rfl) hw dL_fewest_13
  · exact xIa (wf := ws_CY cs a) (u := u) hx hb hr hlocks hK hP hD hS (Nat.le_of_ble_eq_true rfl) (Nat.le_of_ble_eq_true rfl) hw dL_fewest_5
set_option maxHeartbeats 4000000 in
theorem c_L_tell (l : Launch) (hfl : l.stackTraces = false) (D : va_G) (cs : CS) (a : Nat → Nat) (sz : Nat) (σ : CY) (p1 : Int32) (p2 : Int32) (p3 : Int32) (p4 : Int32) {Φ : Int32 → CY → Prop} (hw : w_L_tell σ p1 p2 p3 p4 Φ) : vx_Met l yL_tell wsL_tell rm_L_tell (PcX [.ref (a 0), .int p1, .int p2, .int p3, .int p4] D cs (ws_CY cs a σ) sz) (va_Qi Φ (BL D cs (va_A (ws_CY cs a σ) sz) (ws_CY cs a)) (va_A (ws_CY cs a σ) sz)) (XG D cs (va_A (ws_CY cs a σ) sz) (ws_CY cs a) (fun _ _ => False)) 1 6 (va_A (ws_CY cs a σ) sz) := by
  refine vx_ofWH (cc := cL_tell) (maxL := 6) (ret := (some .int)) (hh := [(0, 9, 10, 14), (0, 9, 15, 17)]) (by decide) rfl ?_
  intro p e s m args below meth c s₁ B hml hv
  obtain ⟨rfl, hsz, hP, hK, hD0, hE⟩ := hv
  have hx := B.exec
  have hb := B.bytes
  have hr := B.returns
  have hts := atoms_spec (ws := wsL_tell) B.pre
  have hown : s.vm.findClass RL = some m.cls := findClass_of_methodNamed B.named
  have hlocks := B.notSynchronized
  have htab : c.exceptionTable.toList = [⟨0, 9, 10, 14⟩, ⟨0, 9, 15, 17⟩] := vx_table (x := yL_tell) B (hts _ List.mem_cons_self)
  subst hsz
  have hD := hD0.self (sz := s.heap.size)
  generalize hAe : va_A (ws_CY cs a σ) s.heap.size = A at hD hE ⊢
  have hA : ∀ q : Nat, s.heap.size ≤ q → A q := fun q h => by rw [← hAe]; exact Or.inr h
  have hS : va_S A s.heap s.heap [] := va_S.rf
  have hk14 : (Cond.classLink RL 14 "java/lang/IllegalArgumentException").before ([.ref (a 0), .int p1, .int p2, .int p3, .int p4] : List Value).toArray s = true := hts _ (List.mem_of_getElem? (i := 1) rfl)
  have hk17 : (Cond.classLink RL 17 "java/lang/IllegalStateException").before ([.ref (a 0), .int p1, .int p2, .int p3, .int p4] : List Value).toArray s = true := hts _ (List.mem_of_getElem? (i := 2) rfl)
  have hc16 : (Cond.constant RL 16 (-99999 : Int32)).before ([.ref (a 0), .int p1, .int p2, .int p3, .int p4] : List Value).toArray s = true := hts _ (List.mem_of_getElem? (i := 3) rfl)
  have hP : va_P D vwCl (ws_CY cs a σ) s.heap := hP
  have hl := lv_entry ([.ref (a 0), .int p1, .int p2, .int p3, .int p4]) (n := 6) (Nat.le_of_ble_eq_true rfl)
  rw [lg_entry_eq]
  generalize (lg_sl ([.ref (a 0), .int p1, .int p2, .int p3, .int p4]) ++ List.replicate (6 - (lg_sl ([.ref (a 0), .int p1, .int p2, .int p3, .int p4])).length) Slot.unset).toArray = ls at hl ⊢
  have hl : lv_has ls 6 [(0, .ref (a 0)), (1, .int p1), (2, .int p2), (3, .int p3), (4, .int p4)] := hl
  unfold w_L_tell at hw
  refine lv_aload_n hx hb dL_tell_0 rfl (lv_at hl 0 rfl) ?_
  refine lv_iload_n hx hb dL_tell_1 rfl (lv_at hl 1 rfl) ?_
  refine lv_iload_n hx hb dL_tell_2 rfl (lv_at hl 2 rfl) ?_
  refine lv_iload_n hx hb dL_tell_3 rfl (lv_at hl 3 rfl) ?_
  refine lv_iload hx hb dL_tell_4 (lv_at hl 4 rfl) ?_
  refine kxVi (As := [.int p1, .int p2, .int p3, .int p4]) (rest := []) ⟨hx, hb, hml, hown, hts⟩ hE (c_C_tell l hfl D cs a _ σ p1 p2 p3 p4 hw) (cwV 4 hts gL_tell_X3_tell rfl rfl rfl (by decide +kernel) ⟨Nat.le_of_ble_eq_true rfl, Nat.le_of_ble_eq_true rfl⟩) (pt_self_CY cs a σ) hK hP hD hS hA (ci := 3) rfl rfl rfl rfl hl.1 rfl (Nat.le_of_ble_eq_true rfl) dL_tell_6 ⟨Nat.le_of_ble_eq_true rfl, Nat.le_of_ble_eq_true rfl⟩ (fun E u H locs q9 ce hw hP hD hS hcell hv hcl => ?_) (fun r u H locs hw hP hD hS => ?_)
  · rcases hw with ⟨rfl, hw⟩ | ⟨rfl, hw⟩
    · refine vx_catch (name := "java/lang/IllegalArgumentException") hown [] ⟨0, 9, 10, 14⟩ [⟨0, 9, 15, 17⟩] htab (fun z hz => absurd hz List.not_mem_nil) (by decide) (by decide) hk14 (va_Nw.use rfl (hE.2.2.2.1 _ (by decide))) hcell hv hcl ?_
      refine lv_astore (lv' := [(5, .ref q9), (0, .ref (a 0)), (1, .int p1), (2, .int p2), (3, .int p3), (4, .int p4)]) hx hb dL_tell_10 hl (by decide) rfl (fun ls hl => ?_)
      refine lv_ldc (v := (-99999 : Int32)) hx hb hown hc16 dL_tell_12 ?_
      exact xIa (wf := ws_CY cs a) (u := u) hx hb hr hlocks hK hP hD hS (Nat.le_of_ble_eq_true rfl) (Nat.le_of_ble_eq_true rfl) hw dL_tell_14
    · refine vx_catch (name := "java/lang/IllegalStateException") hown [⟨0, 9, 10, 14⟩] ⟨0, 9, 15, 17⟩ [] htab (fun z hz => by rcases List.mem_cons.mp hz with rfl | hz; exact Or.inr ⟨by decide, "java/lang/IllegalArgumentException", hk14, hE.2.2.2.2.1 ("java/lang/IllegalStateException", "java/lang/IllegalArgumentException") (by decide)⟩; exact absurd hz List.not_mem_nil) (by decide) (by decide) hk17 (va_Nw.use rfl (hE.2.2.2.1 _ (by decide))) hcell hv hcl ?_
      refine lv_astore (lv' := [(5, .ref q9), (0, .ref (a 0)), (1, .int p1), (2, .int p2), (3, .int p3), (4, .int p4)]) hx hb dL_tell_15 hl (by decide) rfl (fun ls hl => ?_)
      refine lv_ldc (v := (-99999 : Int32)) hx hb hown hc16 dL_tell_17 ?_
      exact xIa (wf := ws_CY cs a) (u := u) hx hb hr hlocks hK hP hD hS (Nat.le_of_ble_eq_true rfl) (Nat.le_of_ble_eq_true rfl) hw dL_tell_19
  · exact xIa (wf := ws_CY cs a) (u := u) hx hb hr hlocks hK hP hD hS (Nat.le_of_ble_eq_true rfl) (Nat.le_of_ble_eq_true rfl) hw dL_tell_9
set_option maxHeartbeats 4000000 in
theorem c0_L_tell (l : Launch) (D : va_G) (cs : CS) (a : Nat → Nat) (sz : Nat) (σ : CY) (p1 : Int32) (p2 : Int32) (p3 : Int32) (p4 : Int32) {Φ : Int32 → CY → Prop} (hw : w0_L_tell σ p1 p2 p3 p4 Φ) : vx_Met l yL_tell wsL_tell rm0_L_tell (PcG [.ref (a 0), .int p1, .int p2, .int p3, .int p4] D cs (ws_CY cs a σ) sz) (va_Qi Φ (BG D cs (va_A (ws_CY cs a σ) sz) sz (ws_CY cs a)) (va_A (ws_CY cs a σ) sz)) (XG D cs (va_A (ws_CY cs a σ) sz) (ws_CY cs a) (fun _ _ => False)) 0 0 (va_A (ws_CY cs a σ) sz) := by
  refine vx_ofWH (cc := cL_tell) (maxL := 6) (ret := (some .int)) (hh := [(0, 9, 10, 14), (0, 9, 15, 17)]) (by decide) rfl ?_
  intro p e s m args below meth c s₁ B hml hv
  obtain ⟨rfl, hsz, hP, hK, hD0⟩ := hv
  have hx := B.exec
  have hb := B.bytes
  have hr := B.returns
  have hts := atoms_spec (ws := wsL_tell) B.pre
  have hown : s.vm.findClass RL = some m.cls := findClass_of_methodNamed B.named
  have hlocks := B.notSynchronized
  subst hsz
  have hD := hD0.self (sz := s.heap.size)
  generalize hAe : va_A (ws_CY cs a σ) s.heap.size = A at hD ⊢
  have hA : ∀ q : Nat, s.heap.size ≤ q → A q := fun q h => by rw [← hAe]; exact Or.inr h
  have hS : va_S A s.heap s.heap [] := va_S.rf
  have hP : va_P D vwCl (ws_CY cs a σ) s.heap := hP
  have hl := lv_entry ([.ref (a 0), .int p1, .int p2, .int p3, .int p4]) (n := 6) (Nat.le_of_ble_eq_true rfl)
  rw [lg_entry_eq]
  generalize (lg_sl ([.ref (a 0), .int p1, .int p2, .int p3, .int p4]) ++ List.replicate (6 - (lg_sl ([.ref (a 0), .int p1, .int p2, .int p3, .int p4])).length) Slot.unset).toArray = ls at hl ⊢
  have hl : lv_has ls 6 [(0, .ref (a 0)), (1, .int p1), (2, .int p2), (3, .int p3), (4, .int p4)] := hl
  unfold w0_L_tell at hw
  refine lv_aload_n hx hb dL_tell_0 rfl (lv_at hl 0 rfl) ?_
  refine lv_iload_n hx hb dL_tell_1 rfl (lv_at hl 1 rfl) ?_
  refine lv_iload_n hx hb dL_tell_2 rfl (lv_at hl 2 rfl) ?_
  refine lv_iload_n hx hb dL_tell_3 rfl (lv_at hl 3 rfl) ?_
  refine lv_iload hx hb dL_tell_4 (lv_at hl 4 rfl) ?_
  refine kVi (As := [.int p1, .int p2, .int p3, .int p4]) (rest := []) ⟨hx, hb, hml, hown, hts⟩ (c0_C_tell l D cs a _ σ p1 p2 p3 p4 hw) (cwV 4 hts gL_tell_X3_tell rfl rfl rfl (by decide +kernel) ⟨Nat.le_of_ble_eq_true rfl, Nat.le_of_ble_eq_true rfl⟩) (pt_self_CY cs a σ) hK hP hD hS hA (ci := 3) rfl rfl rfl rfl hl.1 rfl (Nat.le_of_ble_eq_true rfl) dL_tell_6 ⟨Nat.zero_le _, Nat.zero_le _⟩ (fun r u H locs hw hP hD hS => ?_)
  exact xI0 (wf := ws_CY cs a) (u := u) hx hb hr hlocks hK hP hD hS hw dL_tell_9
set_option maxHeartbeats 4000000 in
theorem c_L_offer (l : Launch) (hfl : l.stackTraces = false) (D : va_G) (cs : CS) (a : Nat → Nat) (sz : Nat) (σ : CY) (p1 : Int32) (p2 : Int32) {Φ : Int32 → CY → Prop} (hw : w_L_offer σ p1 p2 Φ) : vx_Met l yL_offer wsL_offer rm_L_offer (PcX [.ref (a 0), .int p1, .int p2] D cs (ws_CY cs a σ) sz) (va_Qi Φ (BL D cs (va_A (ws_CY cs a σ) sz) (ws_CY cs a)) (va_A (ws_CY cs a σ) sz)) (XG D cs (va_A (ws_CY cs a σ) sz) (ws_CY cs a) (fun _ _ => False)) 1 6 (va_A (ws_CY cs a σ) sz) := by
  refine vx_ofWH (cc := cL_offer) (maxL := 4) (ret := (some .int)) (hh := [(0, 6, 7, 29), (0, 6, 11, 14), (0, 6, 15, 17)]) (by decide) rfl ?_
  intro p e s m args below meth c s₁ B hml hv
  obtain ⟨rfl, hsz, hP, hK, hD0, hE⟩ := hv
  have hx := B.exec
  have hb := B.bytes
  have hr := B.returns
  have hts := atoms_spec (ws := wsL_offer) B.pre
  have hown : s.vm.findClass RL = some m.cls := findClass_of_methodNamed B.named
  have hlocks := B.notSynchronized
  have htab : c.exceptionTable.toList = [⟨0, 6, 7, 29⟩, ⟨0, 6, 11, 14⟩, ⟨0, 6, 15, 17⟩] := vx_table (x := yL_offer) B (hts _ List.mem_cons_self)
  subst hsz
  have hD := hD0.self (sz := s.heap.size)
  generalize hAe : va_A (ws_CY cs a σ) s.heap.size = A at hD hE ⊢
  have hA : ∀ q : Nat, s.heap.size ≤ q → A q := fun q h => by rw [← hAe]; exact Or.inr h
  have hS : va_S A s.heap s.heap [] := va_S.rf
  have hk29 : (Cond.classLink RL 29 "java/lang/IndexOutOfBoundsException").before ([.ref (a 0), .int p1, .int p2] : List Value).toArray s = true := hts _ (List.mem_of_getElem? (i := 1) rfl)
  have hk14 : (Cond.classLink RL 14 "java/lang/IllegalArgumentException").before ([.ref (a 0), .int p1, .int p2] : List Value).toArray s = true := hts _ (List.mem_of_getElem? (i := 2) rfl)
  have hk17 : (Cond.classLink RL 17 "java/lang/IllegalStateException").before ([.ref (a 0), .int p1, .int p2] : List Value).toArray s = true := hts _ (List.mem_of_getElem? (i := 3) rfl)
  have hc16 : (Cond.constant RL 16 (-99999 : Int32)).before ([.ref (a 0), .int p1, .int p2] : List Value).toArray s = true := hts _ (List.mem_of_getElem? (i := 4) rfl)
  have hP : va_P D vwCl (ws_CY cs a σ) s.heap := hP
  have hl := lv_entry ([.ref (a 0), .int p1, .int p2]) (n := 4) (Nat.le_of_ble_eq_true rfl)
  rw [lg_entry_eq]
  generalize (lg_sl ([.ref (a 0), .int p1, .int p2]) ++ List.replicate (4 - (lg_sl ([.ref (a 0), .int p1, .int p2])).length) Slot.unset).toArray = ls at hl ⊢
  have hl : lv_has ls 4 [(0, .ref (a 0)), (1, .int p1), (2, .int p2)] := hl
  unfold w_L_offer at hw
  refine lv_aload_n hx hb dL_offer_0 rfl (lv_at hl 0 rfl) ?_
  refine lv_iload_n hx hb dL_offer_1 rfl (lv_at hl 1 rfl) ?_
  refine lv_iload_n hx hb dL_offer_2 rfl (lv_at hl 2 rfl) ?_
  refine kxVi (As := [.int p1, .int p2]) (rest := []) ⟨hx, hb, hml, hown, hts⟩ hE (c_C_offer l hfl D cs a _ σ p1 p2 hw) (cwV 2 hts gL_offer_X3_offer rfl rfl rfl (by decide +kernel) ⟨Nat.le_of_ble_eq_true rfl, Nat.le_of_ble_eq_true rfl⟩) (pt_self_CY cs a σ) hK hP hD hS hA (ci := 3) rfl rfl rfl rfl hl.1 rfl (Nat.le_of_ble_eq_true rfl) dL_offer_3 ⟨Nat.le_of_ble_eq_true rfl, Nat.le_of_ble_eq_true rfl⟩ (fun E u H locs q9 ce hw hP hD hS hcell hv hcl => ?_) (fun r u H locs hw hP hD hS => ?_)
  · rcases hw with ⟨rfl, hw⟩ | ⟨rfl, hw⟩ | ⟨rfl, hw⟩
    · refine vx_catch (name := "java/lang/IndexOutOfBoundsException") hown [] ⟨0, 6, 7, 29⟩ [⟨0, 6, 11, 14⟩, ⟨0, 6, 15, 17⟩] htab (fun z hz => absurd hz List.not_mem_nil) (by decide) (by decide) hk29 (va_Nw.use rfl (hE.2.2.2.1 _ (by decide))) hcell hv hcl ?_
      refine lv_astore_n (lv' := [(3, .ref q9), (0, .ref (a 0)), (1, .int p1), (2, .int p2)]) hx hb dL_offer_7 rfl hl (by decide) rfl (fun ls hl => ?_)
      refine lv_ldc (v := (-99999 : Int32)) hx hb hown hc16 dL_offer_8 ?_
      exact xIa (wf := ws_CY cs a) (u := u) hx hb hr hlocks hK hP hD hS (Nat.le_of_ble_eq_true rfl) (Nat.le_of_ble_eq_true rfl) hw dL_offer_10
    · refine vx_catch (name := "java/lang/IllegalArgumentException") hown [⟨0, 6, 7, 29⟩] ⟨0, 6, 11, 14⟩ [⟨0, 6, 15, 17⟩] htab (fun z hz => by rcases List.mem_cons.mp hz with rfl | hz; exact Or.inr ⟨by decide, "java/lang/IndexOutOfBoundsException", hk29, hE.2.2.2.2.1 ("java/lang/IllegalArgumentException", "java/lang/IndexOutOfBoundsException") (by decide)⟩; exact absurd hz List.not_mem_nil) (by decide) (by decide) hk14 (va_Nw.use rfl (hE.2.2.2.1 _ (by decide))) hcell hv hcl ?_
      refine lv_astore_n (lv' := [(3, .ref q9), (0, .ref (a 0)), (1, .int p1), (2, .int p2)]) hx hb dL_offer_11 rfl hl (by decide) rfl (fun ls hl => ?_)
      refine lv_ldc (v := (-99999 : Int32)) hx hb hown hc16 dL_offer_12 ?_
      exact xIa (wf := ws_CY cs a) (u := u) hx hb hr hlocks hK hP hD hS (Nat.le_of_ble_eq_true rfl) (Nat.le_of_ble_eq_true rfl) hw dL_offer_14
    · refine vx_catch (name := "java/lang/IllegalStateException") hown [⟨0, 6, 7, 29⟩, ⟨0, 6, 11, 14⟩] ⟨0, 6, 15, 17⟩ [] htab (fun z hz => by rcases List.mem_cons.mp hz with rfl | hz; exact Or.inr ⟨by decide, "java/lang/IndexOutOfBoundsException", hk29, hE.2.2.2.2.1 ("java/lang/IllegalStateException", "java/lang/IndexOutOfBoundsException") (by decide)⟩; rcases List.mem_cons.mp hz with rfl | hz; exact Or.inr ⟨by decide, "java/lang/IllegalArgumentException", hk14, hE.2.2.2.2.1 ("java/lang/IllegalStateException", "java/lang/IllegalArgumentException") (by decide)⟩; exact absurd hz List.not_mem_nil) (by decide) (by decide) hk17 (va_Nw.use rfl (hE.2.2.2.1 _ (by decide))) hcell hv hcl ?_
      refine lv_astore_n (lv' := [(3, .ref q9), (0, .ref (a 0)), (1, .int p1), (2, .int p2)]) hx hb dL_offer_15 rfl hl (by decide) rfl (fun ls hl => ?_)
      refine lv_ldc (v := (-99999 : Int32)) hx hb hown hc16 dL_offer_16 ?_
      exact xIa (wf := ws_CY cs a) (u := u) hx hb hr hlocks hK hP hD hS (Nat.le_of_ble_eq_true rfl) (Nat.le_of_ble_eq_true rfl) hw dL_offer_18
  · exact xIa (wf := ws_CY cs a) (u := u) hx hb hr hlocks hK hP hD hS (Nat.le_of_ble_eq_true rfl) (Nat.le_of_ble_eq_true rfl) hw dL_offer_6
set_option maxHeartbeats 4000000 in
theorem c0_L_offer (l : Launch) (D : va_G) (cs : CS) (a : Nat → Nat) (sz : Nat) (σ : CY) (p1 : Int32) (p2 : Int32) {Φ : Int32 → CY → Prop} (hw : w0_L_offer σ p1 p2 Φ) : vx_Met l yL_offer wsL_offer rm0_L_offer (PcG [.ref (a 0), .int p1, .int p2] D cs (ws_CY cs a σ) sz) (va_Qi Φ (BG D cs (va_A (ws_CY cs a σ) sz) sz (ws_CY cs a)) (va_A (ws_CY cs a σ) sz)) (XG D cs (va_A (ws_CY cs a σ) sz) (ws_CY cs a) (fun _ _ => False)) 0 0 (va_A (ws_CY cs a σ) sz) := by
  refine vx_ofWH (cc := cL_offer) (maxL := 4) (ret := (some .int)) (hh := [(0, 6, 7, 29), (0, 6, 11, 14), (0, 6, 15, 17)]) (by decide) rfl ?_
  intro p e s m args below meth c s₁ B hml hv
  obtain ⟨rfl, hsz, hP, hK, hD0⟩ := hv
  have hx := B.exec
  have hb := B.bytes
  have hr := B.returns
  have hts := atoms_spec (ws := wsL_offer) B.pre
  have hown : s.vm.findClass RL = some m.cls := findClass_of_methodNamed B.named
  have hlocks := B.notSynchronized
  subst hsz
  have hD := hD0.self (sz := s.heap.size)
  generalize hAe : va_A (ws_CY cs a σ) s.heap.size = A at hD ⊢
  have hA : ∀ q : Nat, s.heap.size ≤ q → A q := fun q h => by rw [← hAe]; exact Or.inr h
  have hS : va_S A s.heap s.heap [] := va_S.rf
  have hP : va_P D vwCl (ws_CY cs a σ) s.heap := hP
  have hl := lv_entry ([.ref (a 0), .int p1, .int p2]) (n := 4) (Nat.le_of_ble_eq_true rfl)
  rw [lg_entry_eq]
  generalize (lg_sl ([.ref (a 0), .int p1, .int p2]) ++ List.replicate (4 - (lg_sl ([.ref (a 0), .int p1, .int p2])).length) Slot.unset).toArray = ls at hl ⊢
  have hl : lv_has ls 4 [(0, .ref (a 0)), (1, .int p1), (2, .int p2)] := hl
  unfold w0_L_offer at hw
  refine lv_aload_n hx hb dL_offer_0 rfl (lv_at hl 0 rfl) ?_
  refine lv_iload_n hx hb dL_offer_1 rfl (lv_at hl 1 rfl) ?_
  refine lv_iload_n hx hb dL_offer_2 rfl (lv_at hl 2 rfl) ?_
  refine kVi (As := [.int p1, .int p2]) (rest := []) ⟨hx, hb, hml, hown, hts⟩ (c0_C_offer l D cs a _ σ p1 p2 hw) (cwV 2 hts gL_offer_X3_offer rfl rfl rfl (by decide +kernel) ⟨Nat.le_of_ble_eq_true rfl, Nat.le_of_ble_eq_true rfl⟩) (pt_self_CY cs a σ) hK hP hD hS hA (ci := 3) rfl rfl rfl rfl hl.1 rfl (Nat.le_of_ble_eq_true rfl) dL_offer_3 ⟨Nat.zero_le _, Nat.zero_le _⟩ (fun r u H locs hw hP hD hS => ?_)
  exact xI0 (wf := ws_CY cs a) (u := u) hx hb hr hlocks hK hP hD hS hw dL_offer_6
set_option maxHeartbeats 4000000 in
theorem c_L_bid (l : Launch) (hfl : l.stackTraces = false) (D : va_G) (cs : CS) (a : Nat → Nat) (sz : Nat) (σ : CY) (p1 : Int32) (p2 : Int32) (p3 : Int32) {Φ : Int32 → CY → Prop} (hw : w_L_bid σ p1 p2 p3 Φ) : vx_Met l yL_bid wsL_bid rm_L_bid (PcX [.ref (a 0), .int p1, .int p2, .int p3] D cs (ws_CY cs a σ) sz) (va_Qi Φ (BL D cs (va_A (ws_CY cs a σ) sz) (ws_CY cs a)) (va_A (ws_CY cs a σ) sz)) (XG D cs (va_A (ws_CY cs a σ) sz) (ws_CY cs a) (fun _ _ => False)) 1 6 (va_A (ws_CY cs a σ) sz) := by
  refine vx_ofWH (cc := cL_bid) (maxL := 5) (ret := (some .int)) (hh := [(0, 8, 9, 29), (0, 8, 14, 14), (0, 8, 19, 17)]) (by decide) rfl ?_
  intro p e s m args below meth c s₁ B hml hv
  obtain ⟨rfl, hsz, hP, hK, hD0, hE⟩ := hv
  have hx := B.exec
  have hb := B.bytes
  have hr := B.returns
  have hts := atoms_spec (ws := wsL_bid) B.pre
  have hown : s.vm.findClass RL = some m.cls := findClass_of_methodNamed B.named
  have hlocks := B.notSynchronized
  have htab : c.exceptionTable.toList = [⟨0, 8, 9, 29⟩, ⟨0, 8, 14, 14⟩, ⟨0, 8, 19, 17⟩] := vx_table (x := yL_bid) B (hts _ List.mem_cons_self)
  subst hsz
  have hD := hD0.self (sz := s.heap.size)
  generalize hAe : va_A (ws_CY cs a σ) s.heap.size = A at hD hE ⊢
  have hA : ∀ q : Nat, s.heap.size ≤ q → A q := fun q h => by rw [← hAe]; exact Or.inr h
  have hS : va_S A s.heap s.heap [] := va_S.rf
  have hk29 : (Cond.classLink RL 29 "java/lang/IndexOutOfBoundsException").before ([.ref (a 0), .int p1, .int p2, .int p3] : List Value).toArray s = true := hts _ (List.mem_of_getElem? (i := 1) rfl)
  have hk14 : (Cond.classLink RL 14 "java/lang/IllegalArgumentException").before ([.ref (a 0), .int p1, .int p2, .int p3] : List Value).toArray s = true := hts _ (List.mem_of_getElem? (i := 2) rfl)
  have hk17 : (Cond.classLink RL 17 "java/lang/IllegalStateException").before ([.ref (a 0), .int p1, .int p2, .int p3] : List Value).toArray s = true := hts _ (List.mem_of_getElem? (i := 3) rfl)
  have hc16 : (Cond.constant RL 16 (-99999 : Int32)).before ([.ref (a 0), .int p1, .int p2, .int p3] : List Value).toArray s = true := hts _ (List.mem_of_getElem? (i := 4) rfl)
  have hP : va_P D vwCl (ws_CY cs a σ) s.heap := hP
  have hl := lv_entry ([.ref (a 0), .int p1, .int p2, .int p3]) (n := 5) (Nat.le_of_ble_eq_true rfl)
  rw [lg_entry_eq]
  generalize (lg_sl ([.ref (a 0), .int p1, .int p2, .int p3]) ++ List.replicate (5 - (lg_sl ([.ref (a 0), .int p1, .int p2, .int p3])).length) Slot.unset).toArray = ls at hl ⊢
  have hl : lv_has ls 5 [(0, .ref (a 0)), (1, .int p1), (2, .int p2), (3, .int p3)] := hl
  unfold w_L_bid at hw
  refine lv_aload_n hx hb dL_bid_0 rfl (lv_at hl 0 rfl) ?_
  refine lv_iload_n hx hb dL_bid_1 rfl (lv_at hl 1 rfl) ?_
  refine lv_iload_n hx hb dL_bid_2 rfl (lv_at hl 2 rfl) ?_
  refine lv_iload_n hx hb dL_bid_3 rfl (lv_at hl 3 rfl) ?_
  refine kxVv (As := [.int p1, .int p2, .int p3]) (rest := []) ⟨hx, hb, hml, hown, hts⟩ hE (c_C_bid l hfl D cs a _ σ p1 p2 p3 hw) (cwV 3 hts gL_bid_X3_bid rfl rfl rfl (by decide +kernel) ⟨Nat.le_of_ble_eq_true rfl, Nat.le_of_ble_eq_true rfl⟩) (pt_self_CY cs a σ) hK hP hD hS hA (ci := 3) rfl rfl rfl rfl hl.1 rfl (Nat.le_of_ble_eq_true rfl) dL_bid_4 ⟨Nat.le_of_ble_eq_true rfl, Nat.le_of_ble_eq_true rfl⟩ (fun E u H locs q9 ce hw hP hD hS hcell hv hcl => ?_) (fun u H locs hw hP hD hS => ?_)
  · rcases hw with ⟨rfl, hw⟩ | ⟨rfl, hw⟩ | ⟨rfl, hw⟩
    · refine vx_catch (name := "java/lang/IndexOutOfBoundsException") hown [] ⟨0, 8, 9, 29⟩ [⟨0, 8, 14, 14⟩, ⟨0, 8, 19, 17⟩] htab (fun z hz => absurd hz List.not_mem_nil) (by decide) (by decide) hk29 (va_Nw.use rfl (hE.2.2.2.1 _ (by decide))) hcell hv hcl ?_
      refine lv_astore (lv' := [(4, .ref q9), (0, .ref (a 0)), (1, .int p1), (2, .int p2), (3, .int p3)]) hx hb dL_bid_9 hl (by decide) rfl (fun ls hl => ?_)
      refine lv_ldc (v := (-99999 : Int32)) hx hb hown hc16 dL_bid_11 ?_
      exact xIa (wf := ws_CY cs a) (u := u) hx hb hr hlocks hK hP hD hS (Nat.le_of_ble_eq_true rfl) (Nat.le_of_ble_eq_true rfl) hw dL_bid_13
    · refine vx_catch (name := "java/lang/IllegalArgumentException") hown [⟨0, 8, 9, 29⟩] ⟨0, 8, 14, 14⟩ [⟨0, 8, 19, 17⟩] htab (fun z hz => by rcases List.mem_cons.mp hz with rfl | hz; exact Or.inr ⟨by decide, "java/lang/IndexOutOfBoundsException", hk29, hE.2.2.2.2.1 ("java/lang/IllegalArgumentException", "java/lang/IndexOutOfBoundsException") (by decide)⟩; exact absurd hz List.not_mem_nil) (by decide) (by decide) hk14 (va_Nw.use rfl (hE.2.2.2.1 _ (by decide))) hcell hv hcl ?_
      refine lv_astore (lv' := [(4, .ref q9), (0, .ref (a 0)), (1, .int p1), (2, .int p2), (3, .int p3)]) hx hb dL_bid_14 hl (by decide) rfl (fun ls hl => ?_)
      refine lv_ldc (v := (-99999 : Int32)) hx hb hown hc16 dL_bid_16 ?_
      exact xIa (wf := ws_CY cs a) (u := u) hx hb hr hlocks hK hP hD hS (Nat.le_of_ble_eq_true rfl) (Nat.le_of_ble_eq_true rfl) hw dL_bid_18
    · refine vx_catch (name := "java/lang/IllegalStateException") hown [⟨0, 8, 9, 29⟩, ⟨0, 8, 14, 14⟩] ⟨0, 8, 19, 17⟩ [] htab (fun z hz => by rcases List.mem_cons.mp hz with rfl | hz; exact Or.inr ⟨by decide, "java/lang/IndexOutOfBoundsException", hk29, hE.2.2.2.2.1 ("java/lang/IllegalStateException", "java/lang/IndexOutOfBoundsException") (by decide)⟩; rcases List.mem_cons.mp hz with rfl | hz; exact Or.inr ⟨by decide, "java/lang/IllegalArgumentException", hk14, hE.2.2.2.2.1 ("java/lang/IllegalStateException", "java/lang/IllegalArgumentException") (by decide)⟩; exact absurd hz List.not_mem_nil) (by decide) (by decide) hk17 (va_Nw.use rfl (hE.2.2.2.1 _ (by decide))) hcell hv hcl ?_
      refine lv_astore (lv' := [(4, .ref q9), (0, .ref (a 0)), (1, .int p1), (2, .int p2), (3, .int p3)]) hx hb dL_bid_19 hl (by decide) rfl (fun ls hl => ?_)
      refine lv_ldc (v := (-99999 : Int32)) hx hb hown hc16 dL_bid_21 ?_
      exact xIa (wf := ws_CY cs a) (u := u) hx hb hr hlocks hK hP hD hS (Nat.le_of_ble_eq_true rfl) (Nat.le_of_ble_eq_true rfl) hw dL_bid_23
  · refine lv_iconst (v := (0 : Int32)) hx hb dL_bid_7 (by decide) ?_
    exact xIa (wf := ws_CY cs a) (u := u) hx hb hr hlocks hK hP hD hS (Nat.le_of_ble_eq_true rfl) (Nat.le_of_ble_eq_true rfl) hw dL_bid_8
set_option maxHeartbeats 4000000 in
theorem c0_L_bid (l : Launch) (D : va_G) (cs : CS) (a : Nat → Nat) (sz : Nat) (σ : CY) (p1 : Int32) (p2 : Int32) (p3 : Int32) {Φ : Int32 → CY → Prop} (hw : w0_L_bid σ p1 p2 p3 Φ) : vx_Met l yL_bid wsL_bid rm0_L_bid (PcG [.ref (a 0), .int p1, .int p2, .int p3] D cs (ws_CY cs a σ) sz) (va_Qi Φ (BG D cs (va_A (ws_CY cs a σ) sz) sz (ws_CY cs a)) (va_A (ws_CY cs a σ) sz)) (XG D cs (va_A (ws_CY cs a σ) sz) (ws_CY cs a) (fun _ _ => False)) 0 0 (va_A (ws_CY cs a σ) sz) := by
  refine vx_ofWH (cc := cL_bid) (maxL := 5) (ret := (some .int)) (hh := [(0, 8, 9, 29), (0, 8, 14, 14), (0, 8, 19, 17)]) (by decide) rfl ?_
  intro p e s m args below meth c s₁ B hml hv
  obtain ⟨rfl, hsz, hP, hK, hD0⟩ := hv
  have hx := B.exec
  have hb := B.bytes
  have hr := B.returns
  have hts := atoms_spec (ws := wsL_bid) B.pre
  have hown : s.vm.findClass RL = some m.cls := findClass_of_methodNamed B.named
  have hlocks := B.notSynchronized
  subst hsz
  have hD := hD0.self (sz := s.heap.size)
  generalize hAe : va_A (ws_CY cs a σ) s.heap.size = A at hD ⊢
  have hA : ∀ q : Nat, s.heap.size ≤ q → A q := fun q h => by rw [← hAe]; exact Or.inr h
  have hS : va_S A s.heap s.heap [] := va_S.rf
  have hP : va_P D vwCl (ws_CY cs a σ) s.heap := hP
  have hl := lv_entry ([.ref (a 0), .int p1, .int p2, .int p3]) (n := 5) (Nat.le_of_ble_eq_true rfl)
  rw [lg_entry_eq]
  generalize (lg_sl ([.ref (a 0), .int p1, .int p2, .int p3]) ++ List.replicate (5 - (lg_sl ([.ref (a 0), .int p1, .int p2, .int p3])).length) Slot.unset).toArray = ls at hl ⊢
  have hl : lv_has ls 5 [(0, .ref (a 0)), (1, .int p1), (2, .int p2), (3, .int p3)] := hl
  unfold w0_L_bid at hw
  refine lv_aload_n hx hb dL_bid_0 rfl (lv_at hl 0 rfl) ?_
  refine lv_iload_n hx hb dL_bid_1 rfl (lv_at hl 1 rfl) ?_
  refine lv_iload_n hx hb dL_bid_2 rfl (lv_at hl 2 rfl) ?_
  refine lv_iload_n hx hb dL_bid_3 rfl (lv_at hl 3 rfl) ?_
  refine kVv (As := [.int p1, .int p2, .int p3]) (rest := []) ⟨hx, hb, hml, hown, hts⟩ (c0_C_bid l D cs a _ σ p1 p2 p3 hw) (cwV 3 hts gL_bid_X3_bid rfl rfl rfl (by decide +kernel) ⟨Nat.le_of_ble_eq_true rfl, Nat.le_of_ble_eq_true rfl⟩) (pt_self_CY cs a σ) hK hP hD hS hA (ci := 3) rfl rfl rfl rfl hl.1 rfl (Nat.le_of_ble_eq_true rfl) dL_bid_4 ⟨Nat.zero_le _, Nat.zero_le _⟩ (fun u H locs hw hP hD hS => ?_)
  refine lv_iconst (v := (0 : Int32)) hx hb dL_bid_7 (by decide) ?_
  exact xI0 (wf := ws_CY cs a) (u := u) hx hb hr hlocks hK hP hD hS hw dL_bid_8
set_option maxHeartbeats 4000000 in
theorem c_L_give (l : Launch) (hfl : l.stackTraces = false) (D : va_G) (cs : CS) (a : Nat → Nat) (sz : Nat) (σ : CY) (p1 : Int32) {Φ : Int32 → CY → Prop} (hw : w_L_give σ p1 Φ) : vx_Met l yL_give wsL_give rm_L_give (PcX [.ref (a 0), .int p1] D cs (ws_CY cs a σ) sz) (va_Qi Φ (BL D cs (va_A (ws_CY cs a σ) sz) (ws_CY cs a)) (va_A (ws_CY cs a σ) sz)) (XG D cs (va_A (ws_CY cs a σ) sz) (ws_CY cs a) (fun _ _ => False)) 1 6 (va_A (ws_CY cs a σ) sz) := by
  refine vx_ofWH (cc := cL_give) (maxL := 3) (ret := (some .int)) (hh := [(0, 5, 6, 29), (0, 5, 10, 17)]) (by decide) rfl ?_
  intro p e s m args below meth c s₁ B hml hv
  obtain ⟨rfl, hsz, hP, hK, hD0, hE⟩ := hv
  have hx := B.exec
  have hb := B.bytes
  have hr := B.returns
  have hts := atoms_spec (ws := wsL_give) B.pre
  have hown : s.vm.findClass RL = some m.cls := findClass_of_methodNamed B.named
  have hlocks := B.notSynchronized
  have htab : c.exceptionTable.toList = [⟨0, 5, 6, 29⟩, ⟨0, 5, 10, 17⟩] := vx_table (x := yL_give) B (hts _ List.mem_cons_self)
  subst hsz
  have hD := hD0.self (sz := s.heap.size)
  generalize hAe : va_A (ws_CY cs a σ) s.heap.size = A at hD hE ⊢
  have hA : ∀ q : Nat, s.heap.size ≤ q → A q := fun q h => by rw [← hAe]; exact Or.inr h
  have hS : va_S A s.heap s.heap [] := va_S.rf
  have hk29 : (Cond.classLink RL 29 "java/lang/IndexOutOfBoundsException").before ([.ref (a 0), .int p1] : List Value).toArray s = true := hts _ (List.mem_of_getElem? (i := 1) rfl)
  have hk17 : (Cond.classLink RL 17 "java/lang/IllegalStateException").before ([.ref (a 0), .int p1] : List Value).toArray s = true := hts _ (List.mem_of_getElem? (i := 2) rfl)
  have hc16 : (Cond.constant RL 16 (-99999 : Int32)).before ([.ref (a 0), .int p1] : List Value).toArray s = true := hts _ (List.mem_of_getElem? (i := 3) rfl)
  have hP : va_P D vwCl (ws_CY cs a σ) s.heap := hP
  have hl := lv_entry ([.ref (a 0), .int p1]) (n := 3) (Nat.le_of_ble_eq_true rfl)
  rw [lg_entry_eq]
  generalize (lg_sl ([.ref (a 0), .int p1]) ++ List.replicate (3 - (lg_sl ([.ref (a 0), .int p1])).length) Slot.unset).toArray = ls at hl ⊢
  have hl : lv_has ls 3 [(0, .ref (a 0)), (1, .int p1)] := hl
  unfold w_L_give at hw
  refine lv_aload_n hx hb dL_give_0 rfl (lv_at hl 0 rfl) ?_
  refine lv_iload_n hx hb dL_give_1 rfl (lv_at hl 1 rfl) ?_
  refine kxVi (As := [.int p1]) (rest := []) ⟨hx, hb, hml, hown, hts⟩ hE (c_C_give l hfl D cs a _ σ p1 hw) (cwV 1 hts gL_give_X3_give rfl rfl rfl (by decide +kernel) ⟨Nat.le_of_ble_eq_true rfl, Nat.le_of_ble_eq_true rfl⟩) (pt_self_CY cs a σ) hK hP hD hS hA (ci := 3) rfl rfl rfl rfl hl.1 rfl (Nat.le_of_ble_eq_true rfl) dL_give_2 ⟨Nat.le_of_ble_eq_true rfl, Nat.le_of_ble_eq_true rfl⟩ (fun E u H locs q9 ce hw hP hD hS hcell hv hcl => ?_) (fun r u H locs hw hP hD hS => ?_)
  · rcases hw with ⟨rfl, hw⟩ | ⟨rfl, hw⟩
    · refine vx_catch (name := "java/lang/IndexOutOfBoundsException") hown [] ⟨0, 5, 6, 29⟩ [⟨0, 5, 10, 17⟩] htab (fun z hz => absurd hz List.not_mem_nil) (by decide) (by decide) hk29 (va_Nw.use rfl (hE.2.2.2.1 _ (by decide))) hcell hv hcl ?_
      refine lv_astore_n (lv' := [(2, .ref q9), (0, .ref (a 0)), (1, .int p1)]) hx hb dL_give_6 rfl hl (by decide) rfl (fun ls hl => ?_)
      refine lv_ldc (v := (-99999 : Int32)) hx hb hown hc16 dL_give_7 ?_
      exact xIa (wf := ws_CY cs a) (u := u) hx hb hr hlocks hK hP hD hS (Nat.le_of_ble_eq_true rfl) (Nat.le_of_ble_eq_true rfl) hw dL_give_9
    · refine vx_catch (name := "java/lang/IllegalStateException") hown [⟨0, 5, 6, 29⟩] ⟨0, 5, 10, 17⟩ [] htab (fun z hz => by rcases List.mem_cons.mp hz with rfl | hz; exact Or.inr ⟨by decide, "java/lang/IndexOutOfBoundsException", hk29, hE.2.2.2.2.1 ("java/lang/IllegalStateException", "java/lang/IndexOutOfBoundsException") (by decide)⟩; exact absurd hz List.not_mem_nil) (by decide) (by decide) hk17 (va_Nw.use rfl (hE.2.2.2.1 _ (by decide))) hcell hv hcl ?_
      refine lv_astore_n (lv' := [(2, .ref q9), (0, .ref (a 0)), (1, .int p1)]) hx hb dL_give_10 rfl hl (by decide) rfl (fun ls hl => ?_)
      refine lv_ldc (v := (-99999 : Int32)) hx hb hown hc16 dL_give_11 ?_
      exact xIa (wf := ws_CY cs a) (u := u) hx hb hr hlocks hK hP hD hS (Nat.le_of_ble_eq_true rfl) (Nat.le_of_ble_eq_true rfl) hw dL_give_13
  · exact xIa (wf := ws_CY cs a) (u := u) hx hb hr hlocks hK hP hD hS (Nat.le_of_ble_eq_true rfl) (Nat.le_of_ble_eq_true rfl) hw dL_give_5
set_option maxHeartbeats 4000000 in
theorem c0_L_give (l : Launch) (D : va_G) (cs : CS) (a : Nat → Nat) (sz : Nat) (σ : CY) (p1 : Int32) {Φ : Int32 → CY → Prop} (hw : w0_L_give σ p1 Φ) : vx_Met l yL_give wsL_give rm0_L_give (PcG [.ref (a 0), .int p1] D cs (ws_CY cs a σ) sz) (va_Qi Φ (BG D cs (va_A (ws_CY cs a σ) sz) sz (ws_CY cs a)) (va_A (ws_CY cs a σ) sz)) (XG D cs (va_A (ws_CY cs a σ) sz) (ws_CY cs a) (fun _ _ => False)) 0 0 (va_A (ws_CY cs a σ) sz) := by
  refine vx_ofWH (cc := cL_give) (maxL := 3) (ret := (some .int)) (hh := [(0, 5, 6, 29), (0, 5, 10, 17)]) (by decide) rfl ?_
  intro p e s m args below meth c s₁ B hml hv
  obtain ⟨rfl, hsz, hP, hK, hD0⟩ := hv
  have hx := B.exec
  have hb := B.bytes
  have hr := B.returns
  have hts := atoms_spec (ws := wsL_give) B.pre
  have hown : s.vm.findClass RL = some m.cls := findClass_of_methodNamed B.named
  have hlocks := B.notSynchronized
  subst hsz
  have hD := hD0.self (sz := s.heap.size)
  generalize hAe : va_A (ws_CY cs a σ) s.heap.size = A at hD ⊢
  have hA : ∀ q : Nat, s.heap.size ≤ q → A q := fun q h => by rw [← hAe]; exact Or.inr h
  have hS : va_S A s.heap s.heap [] := va_S.rf
  have hP : va_P D vwCl (ws_CY cs a σ) s.heap := hP
  have hl := lv_entry ([.ref (a 0), .int p1]) (n := 3) (Nat.le_of_ble_eq_true rfl)
  rw [lg_entry_eq]
  generalize (lg_sl ([.ref (a 0), .int p1]) ++ List.replicate (3 - (lg_sl ([.ref (a 0), .int p1])).length) Slot.unset).toArray = ls at hl ⊢
  have hl : lv_has ls 3 [(0, .ref (a 0)), (1, .int p1)] := hl
  unfold w0_L_give at hw
  refine lv_aload_n hx hb dL_give_0 rfl (lv_at hl 0 rfl) ?_
  refine lv_iload_n hx hb dL_give_1 rfl (lv_at hl 1 rfl) ?_
  refine kVi (As := [.int p1]) (rest := []) ⟨hx, hb, hml, hown, hts⟩ (c0_C_give l D cs a _ σ p1 hw) (cwV 1 hts gL_give_X3_give rfl rfl rfl (by decide +kernel) ⟨Nat.le_of_ble_eq_true rfl, Nat.le_of_ble_eq_true rfl⟩) (pt_self_CY cs a σ) hK hP hD hS hA (ci := 3) rfl rfl rfl rfl hl.1 rfl (Nat.le_of_ble_eq_true rfl) dL_give_2 ⟨Nat.zero_le _, Nat.zero_le _⟩ (fun r u H locs hw hP hD hS => ?_)
  exact xI0 (wf := ws_CY cs a) (u := u) hx hb hr hlocks hK hP hD hS hw dL_give_5
set_option maxHeartbeats 4000000 in
theorem c_L_load (l : Launch) (hfl : l.stackTraces = false) (D : va_G) (cs : CS) (a : Nat → Nat) (sz : Nat) (σ : CY)  {Φ : Int32 → CY → Prop} (hw : w_L_load σ  Φ) : vx_Met l yL_load wsL_load rm_L_load (PcX [.ref (a 0)] D cs (ws_CY cs a σ) sz) (va_Qi Φ (BL D cs (va_A (ws_CY cs a σ) sz) (ws_CY cs a)) (va_A (ws_CY cs a σ) sz)) (XG D cs (va_A (ws_CY cs a σ) sz) (ws_CY cs a) (fun _ _ => False)) 1 6 (va_A (ws_CY cs a σ) sz) := by
  refine vx_ofWH (cc := cL_load) (maxL := 2) (ret := (some .int)) (hh := [(0, 4, 5, 17)]) (by decide) rfl ?_
  intro p e s m args below meth c s₁ B hml hv
  obtain ⟨rfl, hsz, hP, hK, hD0, hE⟩ := hv
  have hx := B.exec
  have hb := B.bytes
  have hr := B.returns
  have hts := atoms_spec (ws := wsL_load) B.pre
  have hown : s.vm.findClass RL = some m.cls := findClass_of_methodNamed B.named
  have hlocks := B.notSynchronized
  have htab : c.exceptionTable.toList = [⟨0, 4, 5, 17⟩] := vx_table (x := yL_load) B (hts _ List.mem_cons_self)
  subst hsz
  have hD := hD0.self (sz := s.heap.size)
  generalize hAe : va_A (ws_CY cs a σ) s.heap.size = A at hD hE ⊢
  have hA : ∀ q : Nat, s.heap.size ≤ q → A q := fun q h => by rw [← hAe]; exact Or.inr h
  have hS : va_S A s.heap s.heap [] := va_S.rf
  have hk17 : (Cond.classLink RL 17 "java/lang/IllegalStateException").before ([.ref (a 0)] : List Value).toArray s = true := hts _ (List.mem_of_getElem? (i := 1) rfl)
  have hc16 : (Cond.constant RL 16 (-99999 : Int32)).before ([.ref (a 0)] : List Value).toArray s = true := hts _ (List.mem_of_getElem? (i := 2) rfl)
  have hP : va_P D vwCl (ws_CY cs a σ) s.heap := hP
  have hl := lv_entry ([.ref (a 0)]) (n := 2) (Nat.le_of_ble_eq_true rfl)
  rw [lg_entry_eq]
  generalize (lg_sl ([.ref (a 0)]) ++ List.replicate (2 - (lg_sl ([.ref (a 0)])).length) Slot.unset).toArray = ls at hl ⊢
  have hl : lv_has ls 2 [(0, .ref (a 0))] := hl
  unfold w_L_load at hw
  refine lv_aload_n hx hb dL_load_0 rfl (lv_at hl 0 rfl) ?_
  refine kxVi (As := []) (rest := []) ⟨hx, hb, hml, hown, hts⟩ hE (c_C_load l hfl D cs a _ σ  hw) (cwV 0 hts gL_load_X3_load rfl rfl rfl (by decide +kernel) ⟨Nat.le_of_ble_eq_true rfl, Nat.le_of_ble_eq_true rfl⟩) (pt_self_CY cs a σ) hK hP hD hS hA (ci := 3) rfl rfl rfl rfl hl.1 rfl (Nat.le_of_ble_eq_true rfl) dL_load_1 ⟨Nat.le_of_ble_eq_true rfl, Nat.le_of_ble_eq_true rfl⟩ (fun E u H locs q9 ce hw hP hD hS hcell hv hcl => ?_) (fun r u H locs hw hP hD hS => ?_)
  · rcases hw with ⟨rfl, hw⟩
    refine vx_catch (name := "java/lang/IllegalStateException") hown [] ⟨0, 4, 5, 17⟩ [] htab (fun z hz => absurd hz List.not_mem_nil) (by decide) (by decide) hk17 (va_Nw.use rfl (hE.2.2.2.1 _ (by decide))) hcell hv hcl ?_
    refine lv_astore_n (lv' := [(1, .ref q9), (0, .ref (a 0))]) hx hb dL_load_5 rfl hl (by decide) rfl (fun ls hl => ?_)
    refine lv_ldc (v := (-99999 : Int32)) hx hb hown hc16 dL_load_6 ?_
    exact xIa (wf := ws_CY cs a) (u := u) hx hb hr hlocks hK hP hD hS (Nat.le_of_ble_eq_true rfl) (Nat.le_of_ble_eq_true rfl) hw dL_load_8
  · exact xIa (wf := ws_CY cs a) (u := u) hx hb hr hlocks hK hP hD hS (Nat.le_of_ble_eq_true rfl) (Nat.le_of_ble_eq_true rfl) hw dL_load_4
set_option maxHeartbeats 4000000 in
theorem c0_L_load (l : Launch) (D : va_G) (cs : CS) (a : Nat → Nat) (sz : Nat) (σ : CY)  {Φ : Int32 → CY → Prop} (hw : w0_L_load σ  Φ) : vx_Met l yL_load wsL_load rm0_L_load (PcG [.ref (a 0)] D cs (ws_CY cs a σ) sz) (va_Qi Φ (BG D cs (va_A (ws_CY cs a σ) sz) sz (ws_CY cs a)) (va_A (ws_CY cs a σ) sz)) (XG D cs (va_A (ws_CY cs a σ) sz) (ws_CY cs a) (fun _ _ => False)) 0 0 (va_A (ws_CY cs a σ) sz) := by
  refine vx_ofWH (cc := cL_load) (maxL := 2) (ret := (some .int)) (hh := [(0, 4, 5, 17)]) (by decide) rfl ?_
  intro p e s m args below meth c s₁ B hml hv
  obtain ⟨rfl, hsz, hP, hK, hD0⟩ := hv
  have hx := B.exec
  have hb := B.bytes
  have hr := B.returns
  have hts := atoms_spec (ws := wsL_load) B.pre
  have hown : s.vm.findClass RL = some m.cls := findClass_of_methodNamed B.named
  have hlocks := B.notSynchronized
  subst hsz
  have hD := hD0.self (sz := s.heap.size)
  generalize hAe : va_A (ws_CY cs a σ) s.heap.size = A at hD ⊢
  have hA : ∀ q : Nat, s.heap.size ≤ q → A q := fun q h => by rw [← hAe]; exact Or.inr h
  have hS : va_S A s.heap s.heap [] := va_S.rf
  have hP : va_P D vwCl (ws_CY cs a σ) s.heap := hP
  have hl := lv_entry ([.ref (a 0)]) (n := 2) (Nat.le_of_ble_eq_true rfl)
  rw [lg_entry_eq]
  generalize (lg_sl ([.ref (a 0)]) ++ List.replicate (2 - (lg_sl ([.ref (a 0)])).length) Slot.unset).toArray = ls at hl ⊢
  have hl : lv_has ls 2 [(0, .ref (a 0))] := hl
  unfold w0_L_load at hw
  refine lv_aload_n hx hb dL_load_0 rfl (lv_at hl 0 rfl) ?_
  refine kVi (As := []) (rest := []) ⟨hx, hb, hml, hown, hts⟩ (c0_C_load l D cs a _ σ  hw) (cwV 0 hts gL_load_X3_load rfl rfl rfl (by decide +kernel) ⟨Nat.le_of_ble_eq_true rfl, Nat.le_of_ble_eq_true rfl⟩) (pt_self_CY cs a σ) hK hP hD hS hA (ci := 3) rfl rfl rfl rfl hl.1 rfl (Nat.le_of_ble_eq_true rfl) dL_load_1 ⟨Nat.zero_le _, Nat.zero_le _⟩ (fun r u H locs hw hP hD hS => ?_)
  exact xI0 (wf := ws_CY cs a) (u := u) hx hb hr hlocks hK hP hD hS hw dL_load_4
set_option maxHeartbeats 4000000 in
theorem c_L_pass (l : Launch) (hfl : l.stackTraces = false) (D : va_G) (cs : CS) (a : Nat → Nat) (sz : Nat) (σ : CY) (p1 : Int32) {Φ : Int32 → CY → Prop} (hw : w_L_pass σ p1 Φ) : vx_Met l yL_pass wsL_pass rm_L_pass (PcX [.ref (a 0), .int p1] D cs (ws_CY cs a σ) sz) (va_Qi Φ (BL D cs (va_A (ws_CY cs a σ) sz) (ws_CY cs a)) (va_A (ws_CY cs a σ) sz)) (XG D cs (va_A (ws_CY cs a σ) sz) (ws_CY cs a) (fun _ _ => False)) 1 6 (va_A (ws_CY cs a σ) sz) := by
  refine vx_ofWH (cc := cL_pass) (maxL := 3) (ret := (some .int)) (hh := [(0, 5, 6, 14), (0, 5, 10, 17)]) (by decide) rfl ?_
  intro p e s m args below meth c s₁ B hml hv
  obtain ⟨rfl, hsz, hP, hK, hD0, hE⟩ := hv
  have hx := B.exec
  have hb := B.bytes
  have hr := B.returns
  have hts := atoms_spec (ws := wsL_pass) B.pre
  have hown : s.vm.findClass RL = some m.cls := findClass_of_methodNamed B.named
  have hlocks := B.notSynchronized
  have htab : c.exceptionTable.toList = [⟨0, 5, 6, 14⟩, ⟨0, 5, 10, 17⟩] := vx_table (x := yL_pass) B (hts _ List.mem_cons_self)
  subst hsz
  have hD := hD0.self (sz := s.heap.size)
  generalize hAe : va_A (ws_CY cs a σ) s.heap.size = A at hD hE ⊢
  have hA : ∀ q : Nat, s.heap.size ≤ q → A q := fun q h => by rw [← hAe]; exact Or.inr h
  have hS : va_S A s.heap s.heap [] := va_S.rf
  have hk14 : (Cond.classLink RL 14 "java/lang/IllegalArgumentException").before ([.ref (a 0), .int p1] : List Value).toArray s = true := hts _ (List.mem_of_getElem? (i := 1) rfl)
  have hk17 : (Cond.classLink RL 17 "java/lang/IllegalStateException").before ([.ref (a 0), .int p1] : List Value).toArray s = true := hts _ (List.mem_of_getElem? (i := 2) rfl)
  have hc16 : (Cond.constant RL 16 (-99999 : Int32)).before ([.ref (a 0), .int p1] : List Value).toArray s = true := hts _ (List.mem_of_getElem? (i := 3) rfl)
  have hP : va_P D vwCl (ws_CY cs a σ) s.heap := hP
  have hl := lv_entry ([.ref (a 0), .int p1]) (n := 3) (Nat.le_of_ble_eq_true rfl)
  rw [lg_entry_eq]
  generalize (lg_sl ([.ref (a 0), .int p1]) ++ List.replicate (3 - (lg_sl ([.ref (a 0), .int p1])).length) Slot.unset).toArray = ls at hl ⊢
  have hl : lv_has ls 3 [(0, .ref (a 0)), (1, .int p1)] := hl
  unfold w_L_pass at hw
  refine lv_aload_n hx hb dL_pass_0 rfl (lv_at hl 0 rfl) ?_
  refine lv_iload_n hx hb dL_pass_1 rfl (lv_at hl 1 rfl) ?_
  refine kxVi (As := [.int p1]) (rest := []) ⟨hx, hb, hml, hown, hts⟩ hE (c_C_pass l hfl D cs a _ σ p1 hw) (cwV 1 hts gL_pass_X3_pass rfl rfl rfl (by decide +kernel) ⟨Nat.le_of_ble_eq_true rfl, Nat.le_of_ble_eq_true rfl⟩) (pt_self_CY cs a σ) hK hP hD hS hA (ci := 3) rfl rfl rfl rfl hl.1 rfl (Nat.le_of_ble_eq_true rfl) dL_pass_2 ⟨Nat.le_of_ble_eq_true rfl, Nat.le_of_ble_eq_true rfl⟩ (fun E u H locs q9 ce hw hP hD hS hcell hv hcl => ?_) (fun r u H locs hw hP hD hS => ?_)
  · rcases hw with ⟨rfl, hw⟩ | ⟨rfl, hw⟩
    · refine vx_catch (name := "java/lang/IllegalArgumentException") hown [] ⟨0, 5, 6, 14⟩ [⟨0, 5, 10, 17⟩] htab (fun z hz => absurd hz List.not_mem_nil) (by decide) (by decide) hk14 (va_Nw.use rfl (hE.2.2.2.1 _ (by decide))) hcell hv hcl ?_
      refine lv_astore_n (lv' := [(2, .ref q9), (0, .ref (a 0)), (1, .int p1)]) hx hb dL_pass_6 rfl hl (by decide) rfl (fun ls hl => ?_)
      refine lv_ldc (v := (-99999 : Int32)) hx hb hown hc16 dL_pass_7 ?_
      exact xIa (wf := ws_CY cs a) (u := u) hx hb hr hlocks hK hP hD hS (Nat.le_of_ble_eq_true rfl) (Nat.le_of_ble_eq_true rfl) hw dL_pass_9
    · refine vx_catch (name := "java/lang/IllegalStateException") hown [⟨0, 5, 6, 14⟩] ⟨0, 5, 10, 17⟩ [] htab (fun z hz => by rcases List.mem_cons.mp hz with rfl | hz; exact Or.inr ⟨by decide, "java/lang/IllegalArgumentException", hk14, hE.2.2.2.2.1 ("java/lang/IllegalStateException", "java/lang/IllegalArgumentException") (by decide)⟩; exact absurd hz List.not_mem_nil) (by decide) (by decide) hk17 (va_Nw.use rfl (hE.2.2.2.1 _ (by decide))) hcell hv hcl ?_
      refine lv_astore_n (lv' := [(2, .ref q9), (0, .ref (a 0)), (1, .int p1)]) hx hb dL_pass_10 rfl hl (by decide) rfl (fun ls hl => ?_)
      refine lv_ldc (v := (-99999 : Int32)) hx hb hown hc16 dL_pass_11 ?_
      exact xIa (wf := ws_CY cs a) (u := u) hx hb hr hlocks hK hP hD hS (Nat.le_of_ble_eq_true rfl) (Nat.le_of_ble_eq_true rfl) hw dL_pass_13
  · exact xIa (wf := ws_CY cs a) (u := u) hx hb hr hlocks hK hP hD hS (Nat.le_of_ble_eq_true rfl) (Nat.le_of_ble_eq_true rfl) hw dL_pass_5
set_option maxHeartbeats 4000000 in
theorem c0_L_pass (l : Launch) (D : va_G) (cs : CS) (a : Nat → Nat) (sz : Nat) (σ : CY) (p1 : Int32) {Φ : Int32 → CY → Prop} (hw : w0_L_pass σ p1 Φ) : vx_Met l yL_pass wsL_pass rm0_L_pass (PcG [.ref (a 0), .int p1] D cs (ws_CY cs a σ) sz) (va_Qi Φ (BG D cs (va_A (ws_CY cs a σ) sz) sz (ws_CY cs a)) (va_A (ws_CY cs a σ) sz)) (XG D cs (va_A (ws_CY cs a σ) sz) (ws_CY cs a) (fun _ _ => False)) 0 0 (va_A (ws_CY cs a σ) sz) := by
  refine vx_ofWH (cc := cL_pass) (maxL := 3) (ret := (some .int)) (hh := [(0, 5, 6, 14), (0, 5, 10, 17)]) (by decide) rfl ?_
  intro p e s m args below meth c s₁ B hml hv
  obtain ⟨rfl, hsz, hP, hK, hD0⟩ := hv
  have hx := B.exec
  have hb := B.bytes
  have hr := B.returns
  have hts := atoms_spec (ws := wsL_pass) B.pre
  have hown : s.vm.findClass RL = some m.cls := findClass_of_methodNamed B.named
  have hlocks := B.notSynchronized
  subst hsz
  have hD := hD0.self (sz := s.heap.size)
  generalize hAe : va_A (ws_CY cs a σ) s.heap.size = A at hD ⊢
  have hA : ∀ q : Nat, s.heap.size ≤ q → A q := fun q h => by rw [← hAe]; exact Or.inr h
  have hS : va_S A s.heap s.heap [] := va_S.rf
  have hP : va_P D vwCl (ws_CY cs a σ) s.heap := hP
  have hl := lv_entry ([.ref (a 0), .int p1]) (n := 3) (Nat.le_of_ble_eq_true rfl)
  rw [lg_entry_eq]
  generalize (lg_sl ([.ref (a 0), .int p1]) ++ List.replicate (3 - (lg_sl ([.ref (a 0), .int p1])).length) Slot.unset).toArray = ls at hl ⊢
  have hl : lv_has ls 3 [(0, .ref (a 0)), (1, .int p1)] := hl
  unfold w0_L_pass at hw
  refine lv_aload_n hx hb dL_pass_0 rfl (lv_at hl 0 rfl) ?_
  refine lv_iload_n hx hb dL_pass_1 rfl (lv_at hl 1 rfl) ?_
  refine kVi (As := [.int p1]) (rest := []) ⟨hx, hb, hml, hown, hts⟩ (c0_C_pass l D cs a _ σ p1 hw) (cwV 1 hts gL_pass_X3_pass rfl rfl rfl (by decide +kernel) ⟨Nat.le_of_ble_eq_true rfl, Nat.le_of_ble_eq_true rfl⟩) (pt_self_CY cs a σ) hK hP hD hS hA (ci := 3) rfl rfl rfl rfl hl.1 rfl (Nat.le_of_ble_eq_true rfl) dL_pass_2 ⟨Nat.zero_le _, Nat.zero_le _⟩ (fun r u H locs hw hP hD hS => ?_)
  exact xI0 (wf := ws_CY cs a) (u := u) hx hb hr hlocks hK hP hD hS hw dL_pass_5
