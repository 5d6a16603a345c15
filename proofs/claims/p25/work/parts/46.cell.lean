set_option linter.unusedVariables false
/-- the script's cell: a call that reads it -/
def PcS (av : List Value) (D : va_G) (cs : CS) (b L : Nat) (xs : Nat → Int32) (sz : Nat) : Array Value → State → Prop := va_Pc av (fun U => U.heap.size = sz ∧ va_P D vwCl ([] : va_W) U.heap ∧ va_K D vwCl (tysG cs) U ∧ va_D (fun _ => True) ([] : va_W) ∧ va_X b L xs U U.heap ∧ b < sz)
theorem PcS.blind {av : List Value} {D : va_G} {cs : CS} {b L : Nat} {xs : Nat → Int32} {sz : Nat} : FrameBlind (PcS av D cs b L xs sz) := fun a U g mk q => by
  obtain ⟨q0, q1, qP, qK, qD, qX, qb⟩ := q
  exact ⟨q0, q1, qP, va_K.moved (u := U) (U := U.calling g mk a) (Vm.Alike.refl U.vm) qK, qD, va_X.moved (u := U) (U := U.calling g mk a) (Vm.Alike.refl U.vm) qX, qb⟩
abbrev rm_L_cell : Room := { frames := 0, cells := 0, slots := 0, locals := 0 }
set_option maxHeartbeats 4000000 in
theorem c_L_cell (l : Launch) (D : va_G) (cs : CS) (b L : Nat) (xs : Nat → Int32) (hL : L ≤ 260) (i : Nat) (hi : i < 90) (sz : Nat) : Met l yL_cell wsL_cell rm_L_cell (PcS [.ref b, .int (nI i)] D cs b L xs sz) (va_Qi (fun _ _ => True) (BG D cs (va_A ([] : va_W) sz) sz (fun _ : Unit => ([] : va_W))) (va_A ([] : va_W) sz)) 0 0 (va_A ([] : va_W) sz) := by
  refine Met.ofW (cc := cL_cell) (maxL := 2) (ret := (some .int)) (by decide) rfl ?_
  intro p e s m args below meth c s₁ B hml hv
  obtain ⟨rfl, hsz, hP, hK, hD0, hX, hbl⟩ := hv
  have hx := B.exec
  have hb := B.bytes
  have hr := B.returns
  have hlocks := B.notSynchronized
  subst hsz
  have hD := hD0.self (sz := s.heap.size)
  have hbA : ¬ va_A ([] : va_W) s.heap.size b := fun z => by
    rcases z with z | z
    · obtain ⟨k, q, h1⟩ := z
      simp at h1
    · exact absurd hbl (Nat.not_lt.mpr z)
  generalize hAe : va_A ([] : va_W) s.heap.size = A at hD hbA ⊢
  have hS : va_S A s.heap s.heap [] := va_S.rf
  have hP : va_P D vwCl ([] : va_W) s.heap := hP
  have hl := lv_entry ([.ref b, .int (nI i)]) (n := 2) (Nat.le_of_ble_eq_true rfl)
  rw [lg_entry_eq]
  generalize (lg_sl ([.ref b, .int (nI i)]) ++ List.replicate (2 - (lg_sl ([.ref b, .int (nI i)])).length) Slot.unset).toArray = ls at hl ⊢
  have hl : lv_has ls 2 [(0, .ref b), (1, .int (nI i))] := hl
  refine lv_iload_n hx hb dL_cell_0 rfl (lv_at hl 1 rfl) ?_
  refine lv_aload_n hx hb dL_cell_1 rfl (lv_at hl 0 rfl) ?_
  refine va_slen hx hb hX hbl hbA hS dL_cell_2 ?_
  refine lv_icmp_ge (tgt := 12) hx hb dL_cell_3 (by decide) (fun c3 => ?_) (fun c3 => ?_)
  · refine lv_sipush (v := (7919 : Int32)) hx hb dL_cell_12 (by decide) ?_
    refine lv_iload_n hx hb dL_cell_15 rfl (lv_at hl 1 rfl) ?_
    refine lv_sipush (v := (967 : Int32)) hx hb dL_cell_16 (by decide) ?_
    refine lv_iadd hx hb dL_cell_19 ?_
    refine lv_imul hx hb dL_cell_20 ?_
    refine lv_iload_n hx hb dL_cell_21 rfl (lv_at hl 1 rfl) ?_
    refine lv_sipush (v := (907 : Int32)) hx hb dL_cell_22 (by decide) ?_
    refine lv_iadd hx hb dL_cell_25 ?_
    refine lv_imul hx hb dL_cell_26 ?_
    exact rI (wf := (fun _ : Unit => ([] : va_W))) (u := ()) hx hb hr hlocks hK hP hD hS trivial dL_cell_27
  · have hiL : i < L := by
      have c3 : ¬ nI L ≤ nI i := c3
      exact Nat.lt_of_not_le (fun z => c3 (nI_le z (by omega)))
    refine lv_aload_n hx hb dL_cell_6 rfl (lv_at hl 0 rfl) ?_
    refine lv_iload_n hx hb dL_cell_7 rfl (lv_at hl 1 rfl) ?_
    refine va_sld hx hb hX hbl hbA hS (vp_in_nI hiL (by omega)) dL_cell_8 ?_
    refine lv_goto (tgt := 27) hx hb dL_cell_9 (by decide) ?_
    exact rI (wf := (fun _ : Unit => ([] : va_W))) (u := ()) hx hb hr hlocks hK hP hD hS trivial dL_cell_27
section KC
variable {p : Program} {l : Launch} {e : Env} {R : Room} {s : State} {m : MethodId} {args : Array Value} {below : List Frame} {meth : Method} {c : Code} {H : Heap} {locs : List Loc} {cells slots : Nat} {Q : State → Prop}
variable {D : va_G} {cs : CS} {A : Nat → Prop} {ws : va_W} {cc : ByteArray} {pc : Nat} {ls : Array Slot} {rest st0 : List Value}
variable {y : MethodName} {bytes : ByteArray} {maxL nL n index : Nat} {ret : Option FieldType} {wsY : List Cond} {rm : Room} {Ts : List Cond} {own : String} {As : List Value} {b L : Nat} {xs : Nat → Int32}
theorem kCell {Φ : Int32 → Unit → Prop} (F : CallFix p m c cc nL s args Ts own)
    (hM : Met l y wsY rm (PcS As D cs b L xs H.size) (va_Qi Φ (BG D cs (va_A ([] : va_W) H.size) H.size (fun _ : Unit => ([] : va_W))) (va_A ([] : va_W) H.size)) 0 0 (va_A ([] : va_W) H.size))
    (cw : CallB R s args own index y bytes maxL ret wsY rm 0 0 n ∧ (Cond.static y).before args s = true) (pt : Part ws ([] : va_W) (fun _ : Unit => ([] : va_W)) (fun _ : Unit => ws)) (hX : va_X b L xs s s.heap) (hbl : b < s.heap.size) (hbA : ¬ A b) (hK : va_K D vwCl (tysG cs) s) (hP : va_P D vwCl ws H) (hD : va_D A ws) (hS : va_S A s.heap H locs) (hA : ∀ q, s.heap.size ≤ q → A q)
    (hn : As.length = n) (hsz : ls.size = nL) (hst : st0 = As.reverse ++ rest) (hW : (rest.map fun v => v.category).sum ≤ 8) (hdg : decode cc pc = .ok (.invokestatic index, 3)) (hcl : cells ≤ R.cells ∧ slots ≤ R.slots)
    (kk : ∀ (r : Int32) (H1 : Heap) (locs1 : List Loc), va_P D vwCl ws H1 → va_D A ws → va_S A s.heap H1 locs1 → W p l e R s m args below meth c H1 locs1 cells slots Q (F0 m (pc + 3) ls (.int r :: rest))) :
    W p l e R s m args below meth c H locs cells slots Q (F0 m pc ls st0) := by
  have hF := pt_free pt hD hS hA
  obtain ⟨hPc, hDc⟩ := pt_in pt hP hD
  have hXH : va_X b L xs s H := hX.kept (hS.2.1 b hbl hbA)
  refine va_calli (va_runS (g := F0 m pc ls st0) (rest := rest) F hM cw ⟨PcS.blind, fun U hU hW => ⟨rfl, by rw [hU], by rw [hU]; exact hPc, va_K.moved hW.alike hK, hDc, by rw [hU]; exact va_X.moved hW.alike hXH, Nat.lt_of_lt_of_le hbl hS.1⟩⟩ rfl hn hsz hst (lv_room hW) hdg hcl) hS (fun q _ h => hF q h) hF ?_
  intro r u t H1 locs1 ht hvm hw hB hz hk hS1
  obtain ⟨-, b1, -, b3⟩ := hB
  rw [ht] at b1
  obtain ⟨o1, o2⟩ := pt_out (u := ()) pt hP hD hF hk b1 b3
  exact kk r H1 locs1 o1 o2 hS1
end KC
