set_option linter.unusedVariables false
theorem wr_1 : ∀ w ∈ wsL_law0_r1, w ∈ wsL_law := fun w h => List.mem_append_left _ (List.mem_append_left _ (List.mem_append_left _ (List.mem_append_left _ (List.mem_append_left _ (List.mem_append_left _ (List.mem_append_left _ (List.mem_append_left _ (List.mem_append_left _ h))))))))
theorem wr_2 : ∀ w ∈ wsL_law0_r2, w ∈ wsL_law := fun w h => List.mem_append_left _ (List.mem_append_left _ (List.mem_append_left _ (List.mem_append_left _ (List.mem_append_left _ (List.mem_append_left _ (List.mem_append_left _ (List.mem_append_left _ (List.mem_append_right _ (List.mem_append_left _ h)))))))))
theorem w_arrI : Cond.arrayClass .int ∈ wsL_law := wr_1 _ (List.mem_of_getElem? (i := 23) rfl)
theorem w_arrZ : Cond.arrayClass .boolean ∈ wsL_law := wr_2 _ (List.mem_of_getElem? (i := 19) rfl)
theorem w_in0 : Cond.instantiable RX0 8 ∈ wsL_law := wr_1 _ (List.mem_of_getElem? (i := 20) rfl)
theorem w_in1 : Cond.instantiable RX1 3 ∈ wsL_law := wr_1 _ (List.mem_of_getElem? (i := 11) rfl)
theorem w_in2 : Cond.instantiable RX2 5 ∈ wsL_law := wr_1 _ (List.mem_of_getElem? (i := 16) rfl)
theorem w_in3 : Cond.instantiable RX3 12 ∈ wsL_law := wr_1 _ (List.mem_of_getElem? (i := 1) rfl)
theorem w_cl3 : Cond.classLink RL 9 RX3 ∈ wsL_law := wr_1 _ (List.mem_of_getElem? (i := 0) rfl)
theorem w_ini3 : Cond.initialized RX3 ∈ wsL_law := wr_1 _ (List.mem_of_getElem? (i := 2) rfl)
theorem w_ml3 : Cond.methodLink RL 119 yX3_init ∈ wsL_law := wr_1 _ (List.mem_of_getElem? (i := 4) rfl)
theorem w_im3 : Cond.instanceMethod yX3_init ∈ wsL_law := wr_1 _ (List.mem_of_getElem? (i := 5) rfl)
theorem w_c98 : Cond.constant RL 31 (-99998) ∈ wsL_law := wr_1 _ (List.mem_of_getElem? (i := 3) rfl)
theorem law_hts {args : Array Value} {s : State} (hts : ∀ w ∈ lw_tbl, w.before args s = true) : ∀ w ∈ wsL_law, w.before args s = true := fun w h => hts w (wsL_law_in w h)
theorem arr_K {args : Array Value} {s : State} {ty : FieldType} (h : (Cond.arrayClass ty).before args s = true) (hty : ty = .int ∨ ty = .boolean ∨ ty = .long) : ∃ cA : ClassId, ArrOfT s cA ty ∧ va_RA s cA ty := by
  obtain ⟨cA, kA, comp, h1, h2, h3⟩ := Cond.arrayClass_spec h
  refine ⟨cA, fun n z => ⟨fun k h => (by cases h), kA, h2, comp, h3⟩, ?_⟩
  rcases hty with e | e | e <;> subst e <;> exact h1
theorem law_K {args : Array Value} {s : State} (hts : ∀ w ∈ wsL_law, w.before args s = true) : ∃ (D : va_G) (cs : CS), va_K D vwCl (tysG cs) s := by
  obtain ⟨c1, h1⟩ := arr_K (hts (.arrayClass .int) w_arrI) (Or.inl rfl)
  obtain ⟨c2, h2⟩ := arr_K (hts (.arrayClass .boolean) w_arrZ) (Or.inr (Or.inl rfl))
  obtain ⟨k0, i0, hK0⟩ := u_known (C := RX0) (T := TX0) (N := 8) (n := 8) hts inlX0 (hts (.instantiable RX0 8) w_in0)
  obtain ⟨k1, i1, hK1⟩ := u_known (C := RX1) (T := TX1) (N := 3) (n := 3) hts inlX1 (hts (.instantiable RX1 3) w_in1)
  obtain ⟨k2, i2, hK2⟩ := u_known (C := RX2) (T := TX2) (N := 5) (n := 5) hts inlX2 (hts (.instantiable RX2 5) w_in2)
  obtain ⟨k3, i3, hK3⟩ := u_known (C := RX3) (T := TX3) (N := 12) (n := 12) hts inlX3 (hts (.instantiable RX3 12) w_in3)
  refine ⟨(fun k => if k = 0 then k0 else if k = 1 then k1 else if k = 2 then k2 else k3, fun k => if k = 0 then i0 else if k = 1 then i1 else if k = 2 then i2 else i3), (c1, c2), fun k q hq => ?_, fun k q hq => ?_⟩
  · match k, hq with
    | 0, hq => cases hq; exact hK0
    | 1, hq => cases hq; exact hK1
    | 2, hq => cases hq; exact hK2
    | 3, hq => cases hq; exact hK3
    | k + 4, hq => simp [vwCl] at hq
  · match k, hq with
    | 0, hq => cases hq; exact h1
    | 1, hq => cases hq; exact h2
    | k + 2, hq => simp at hq
def nar : List Cond := (strs.map fun q => Cond.stringRef RX3 q.1 q.2) ++ (excs.map fun c => Cond.castable c c) ++ (dcl.map fun x => Cond.declares (Bundle.initS x)) ++ nests
theorem nar_tbl : ∀ w ∈ nar, w ∈ tables_1 := by decide +kernel
def narN : List Cond := [.laysStatic Bundle.tN "UNASSIGNED_STACK" Bundle.steD, .laysStatic Bundle.tN "SUPPRESSED_SENTINEL" Bundle.listD, .initialized Bundle.tN, .isRef (.static Bundle.tN "UNASSIGNED_STACK" Bundle.steD), .isRef (.static Bundle.tN "SUPPRESSED_SENTINEL" Bundle.listD)]
theorem narN_any : ∀ w ∈ narN, w ∈ tables_1 ∨ w ∈ flatC (Jvm.Cond.and given_1 narrow_1) := by decide +kernel
theorem ncs_any : ∀ q ∈ ncs, Cond.not (.castable q.1 q.2) ∈ flatC (Jvm.Cond.and given_1 narrow_1) := by decide +kernel
theorem law_XE {args : Array Value} {s : State} (hts : ∀ w ∈ lw_tbl, w.before args s = true) (hgv : (Jvm.Cond.and given_1 narrow_1).before args s = true) (hk : ∃ cu, s.vm.findClass RX3 = some cu) : XE (fun q => s.heap.size ≤ q) s s.heap ∧ ∀ w ∈ nests, va_Nw w s := by
  have ht : ∀ w ∈ tables_1, w.before args s = true := fun w h => hts w (List.mem_append_right _ h)
  have hf := flat_of_before _ hgv
  have hn : ∀ w ∈ nar, w.before args s = true := fun w h => ht w (nar_tbl w h)
  have hN : ∀ w ∈ narN, w.before args s = true := fun w h => (narN_any w h).elim (ht w) (hf w)
  have hA : ∀ a : Nat, a < s.heap.size → ¬ s.heap.size ≤ a := fun a h => Nat.not_le.mpr h
  obtain ⟨cu, hcu⟩ := hk
  refine ⟨⟨vx_Zqof (hN _ (List.mem_of_getElem? (i := 0) rfl)) (hN _ (List.mem_of_getElem? (i := 2) rfl)) (hN _ (List.mem_of_getElem? (i := 3) rfl)) hA, vx_Zqof (hN _ (List.mem_of_getElem? (i := 1) rfl)) (hN _ (List.mem_of_getElem? (i := 2) rfl)) (hN _ (List.mem_of_getElem? (i := 4) rfl)) hA, fun q hq => ?_, fun c hc => ?_, fun q hq => va_Nc.of (hf _ (ncs_any q hq)), fun x hx => ?_⟩, fun w hw => ?_⟩
  · have h1 : (Cond.stringRef RX3 q.1 q.2).before args s = true := hn _ (List.mem_append_left _ (List.mem_append_left _ (List.mem_append_left _ (List.mem_map.mpr ⟨q, hq, rfl⟩))))
    obtain ⟨k, cf, i, a, -, -, -, -, -, hev⟩ := Cond.stringRef_spec hcu h1
    exact ⟨a, vk_R.of h1 hev⟩
  · exact va_Nw.of rfl (hn _ (List.mem_append_left _ (List.mem_append_left _ (List.mem_append_right _ (List.mem_map.mpr ⟨c, hc, rfl⟩)))))
  · exact va_Nw.of rfl (hn _ (List.mem_append_left _ (List.mem_append_right _ (List.mem_map.mpr ⟨x, hx, rfl⟩))))
  · have h1 := hn w (List.mem_append_right _ hw)
    have h2 : w.onTables = true := by
      rcases List.mem_cons.mp hw with e | hw2
      · rw [e]; rfl
      rcases List.mem_cons.mp hw2 with e | hw3
      · rw [e]; rfl
      rcases List.mem_cons.mp hw3 with e | hw4
      · rw [e]; rfl
      · exact absurd hw4 List.not_mem_nil
    exact va_Nw.of h2 h1
theorem law_fl {l : Launch} (h : l.flags = flags0) : l.stackTraces = false := by
  unfold Launch.stackTraces
  rw [h]
  decide +kernel
def R_law : String := "CraneYardLaw"
def lw_P (b : Addr) (xs : List Int32) (args : Array Value) (s : State) : Prop := args = #[.ref b] ∧ s.IntsAt b xs ∧ xs.length ≤ 260 ∧ (Jvm.Cond.and given_1 narrow_1).before args s = true
def lw_Q (_ : Array Value) (s : State) (o : Outcome) (t : State) : Prop := o = .returned (some (.int 1)) ∧ Framed s o t [] 173 1808
def lw_Z (below : List Frame) (a : Array Value) (s : State) : State → Prop := fun t => ∃ o, t.status = .running ∧ Ended t below o ∧ lw_Q a s o t
/-- the law's own end, with 1 on the stack, nothing written that was there before, its room as the claim has it -/
theorem lw_ret {p : Program} {l : Launch} {e : Env} {s : State} {m : MethodId} {below : List Frame} {meth : Method} {c : Code} {b : Nat} (hx : p.tables.exec = Jvm.exec) (hb : c.code = code) (hr : meth.sig.returnType = ret) (hlocks : meth.locks = false) {pc : Nat} {H : Heap} {ls : Array Slot} (hdg : decode code pc = .ok (.ireturn, 1)) : W p l e room_1 s m #[Value.ref b] below meth c H [] 173 1808 (lw_Z below #[Value.ref b] s) (F0 m pc ls [.int 1]) := by
  intro T hT X
  obtain ⟨fs, hret, hrun, hended, hW, hframe⟩ := X.leave (v := some (.int 1)) (hlocks := hlocks) (fun h => by rw [hr] at h; cases h)
  have hmeth' : T.vm.method? m = some meth := X.method'
  refine ⟨T.setFrames fs, ?_, .returned (some (.int 1)), hrun, hended, rfl, ⟨_, rfl⟩, hW, hframe⟩
  jvm_step X.here [X.here.top, hx, hb, hdg, hmeth', hr, ret, narrow_b1]
  (try refine ⟨rfl, ?_⟩); (try refine ⟨rfl, ?_⟩)
  first | (intro acts; rw [hret _ acts rfl rfl rfl]) | rw [hret _ _ rfl rfl rfl]
  exact Steps.refl _
/-- what holds at the law's entry: the machine, the code, the tables' words (any of lw_tbl by 'hts w (by decide +kernel)'), the script of L ints xs at the cell b, what the Statement gives of the start (any of its parts by flat_of_before) -/
def lw_At (p : Program) (s : State) (m : MethodId) (meth : Method) (c : Code) (b L : Nat) (xs : Nat → Int32) : Prop :=
  p.tables.exec = Jvm.exec ∧ c.code = code ∧ meth.sig.returnType = ret ∧ c.maxLocals = 6 ∧ s.vm.findClass R_law = some m.cls ∧ (∀ w ∈ lw_tbl, w.before #[Value.ref b] s = true) ∧ va_X b L xs s s.heap ∧ b < s.heap.size ∧ meth.locks = false ∧ (Jvm.Cond.and given_1 narrow_1).before #[Value.ref b] s = true
