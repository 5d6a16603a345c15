set_option linter.unusedVariables false
def ws_LW (cs : CS) (a d : Nat → Nat) (u : LH × MD) : va_W := ws_LH cs a u.1 ++ ws_MD cs d u.2
theorem pt_LW_lh (cs : CS) (a d : Nat → Nat) (σ : LH) (τ : MD) : Part (S := LH) (ws_LW cs a d (σ, τ)) (ws_LH cs a σ) (ws_LH cs a) (fun u => ws_LW cs a d (u, τ)) := ⟨[0, 1, 2, 3, 4, 5, 6, 7, 8, 9, 10, 11, 12, 13, 14, 15, 16, 17, 18, 19, 20, 21], [22, 23, 24, 25, 26, 27, 28, 29, 30, 31, 32, 33, 34, 35], ws_MD cs d τ, rfl, by decide, rfl, by decide, by decide, fun u => ⟨[14, 15, 16, 17, 18, 19, 20, 21, 22, 23, 24, 25, 26, 27, 28, 29, 30, 31, 32, 33, 34, 35, 0, 1, 2, 3, 4, 5, 6, 7, 8, 9, 10, 11, 12, 13], by decide, rfl⟩⟩
theorem pt_LW_cy (cs : CS) (a d : Nat → Nat) (σ : LH) (τ : MD) : Part (S := CY) (ws_LW cs a d (σ, τ)) (ws_CY cs a σ.1) (ws_CY cs a) (fun u => ws_LW cs a d (s_LH_cy σ u, τ)) := ⟨[0, 1, 2, 3, 4, 5, 6, 7, 8, 9, 10, 11, 12, 13, 14, 15, 16, 17, 18, 19, 20], [21, 22, 23, 24, 25, 26, 27, 28, 29, 30, 31, 32, 33, 34, 35], (a 21, .inl (cs.2.2, 1, .inr (.inl (g_LH_out σ)))) :: ws_MD cs d τ, rfl, by decide, rfl, by decide, by decide, fun u => ⟨[15, 16, 17, 18, 19, 20, 21, 22, 23, 24, 25, 26, 27, 28, 29, 30, 31, 32, 33, 34, 35, 0, 1, 2, 3, 4, 5, 6, 7, 8, 9, 10, 11, 12, 13, 14], by decide, rfl⟩⟩
theorem pt_LW_md (cs : CS) (a d : Nat → Nat) (σ : LH) (τ : MD) : Part (S := MD) (ws_LW cs a d (σ, τ)) (ws_MD cs d τ) (ws_MD cs d) (fun u => ws_LW cs a d (σ, u)) := ⟨[22, 23, 24, 25, 26, 27, 28, 29, 30, 31, 32, 33, 34, 35], [0, 1, 2, 3, 4, 5, 6, 7, 8, 9, 10, 11, 12, 13, 14, 15, 16, 17, 18, 19, 20, 21], ws_LH cs a σ, rfl, by decide, rfl, by decide, by decide, fun u => ⟨[0, 1, 2, 3, 4, 5, 6, 7, 8, 9, 10, 11, 12, 13, 14, 15, 16, 17, 18, 19, 20, 21, 22, 23, 24, 25, 26, 27, 28, 29, 30, 31, 32, 33, 34, 35], by decide, rfl⟩⟩
section KL
variable {p : Program} {l : Launch} {e : Env} {R : Room} {s : State} {m : MethodId} {args : Array Value} {below : List Frame} {meth : Method} {c : Code} {H : Heap} {locs : List Loc} {cells slots : Nat} {Q : State → Prop}
variable {D : va_G} {cs : CS} {A : Nat → Prop} {ws wc : va_W} {cc : ByteArray} {pc : Nat} {ls : Array Slot} {rest st0 : List Value}
variable {y : MethodName} {bytes : ByteArray} {maxL nL n index : Nat} {ret : Option FieldType} {hh : List (Nat × Nat × Nat × Nat)} {wsY : List Cond} {rm : Room} {Ts : List Cond} {own : String} {As : List Value}
theorem kLi {S : Type} {wf full : S → va_W} {Φ : Int32 → S → Prop} (F : CallFix p m c cc nL s args Ts own) (hE : XE A s s.heap)
    (hM : vx_Met l y wsY rm (PcX As D cs wc H.size) (va_Qi Φ (BL D cs (va_A wc H.size) wf) (va_A wc H.size)) (XG D cs (va_A wc H.size) wf (fun _ _ => False)) 1 6 (va_A wc H.size))
    (cw : vx_CSW R s args own index y bytes maxL ret hh wsY rm 1 6 n) (pt : Part ws wc wf full) (hK : va_K D vwCl (tysG cs) s) (hP : va_P D vwCl ws H) (hD : va_D A ws) (hS : va_S A s.heap H locs) (hA : ∀ q, s.heap.size ≤ q → A q)
    (hn : As.length = n) (hsz : ls.size = nL) (hst : st0 = As.reverse ++ rest) (hW : (rest.map fun v => v.category).sum ≤ 8) (hdg : decode cc pc = .ok (.invokestatic index, 3)) (hcl : cells + 1 ≤ R.cells ∧ slots + 6 ≤ R.slots)
    (kk : ∀ (r : Int32) (u : S) (H1 : Heap) (locs1 : List Loc), Φ r u → va_P D vwCl (full u) H1 → va_D A (full u) → va_S A s.heap H1 locs1 → W p l e R s m args below meth c H1 locs1 (cells + 1) (slots + 6) Q (F0 m (pc + 3) ls (.int r :: rest))) :
    W p l e R s m args below meth c H locs cells slots Q (F0 m pc ls st0) := by
  have hF := pt_free pt hD hS hA
  obtain ⟨hPc, hDc⟩ := pt_in pt hP hD
  refine vx_calli (vx_runSX (g := F0 m pc ls st0) (rest := rest) F hM cw ⟨PcX.blind, fun U hU hW => ⟨rfl, by rw [hU], by rw [hU]; exact hPc, va_K.moved hW.alike hK, hDc, hE_pre hE hS hF hU hW⟩⟩ rfl hn hsz hst (lv_room hW) hdg hcl) hS (fun q _ h => hF q h) hF (fun q _ h => hF q h) ?_ ?_
  · intro E ce q9 u t H1 locs1 ht hvm _ hB hz hk hS1 hcell hv hcl
    exact hB.1.elim
  · intro r u t H1 locs1 ht hvm hw hB hz hk hS1
    obtain ⟨b1, -, b3⟩ := hB
    rw [ht] at b1
    obtain ⟨o1, o2⟩ := pt_out pt hP hD hF hk b1 b3
    exact kk r u H1 locs1 hw o1 o2 hS1
end KL
theorem lg_same (x : Int64) : lg_cmp x x = 0 := by
  unfold lg_cmp
  rw [if_neg (by show ¬ x < x; rw [Int64.lt_iff_toInt_lt]; omega), if_pos rfl]
set_option maxHeartbeats 4000000 in
theorem k_arrive {p : Program} {l : Launch} {e : Env} {s : State} {m : MethodId} {below : List Frame} {meth : Method} {c : Code} {b L : Nat} {xs : Nat → Int32} {D : va_G} {cs : CS} {a d : Nat → Nat} {A : Nat → Prop} {Q : State → Prop} (hfl : l.stackTraces = false) (hx : p.tables.exec = Jvm.exec) (hb : c.code = cL_law) (hml : c.maxLocals = 7) (hown : s.vm.findClass RL = some m.cls) (hts : ∀ w ∈ wsL_law, w.before #[Value.ref b] s = true) (hE : XE A s s.heap) (hK : va_K D vwCl (tysG cs) s) (hA : ∀ q, s.heap.size ≤ q → A q) (hX : va_X b L xs s s.heap) (hbl : b < s.heap.size) (hbA : ¬ A b) {i : Int32} (v1 : vp_in (i + (1 : Int32)) L) (v2 : vp_in (i + (2 : Int32)) L) (v3 : vp_in (i + (3 : Int32)) L) (v4 : vp_in (i + (4 : Int32)) L) {σ : LH} {τ : MD} (g : Inv σ.1 τ) {H : Heap} {locs : List Loc} {ls : Array Slot} {cells slots : Nat} (hc1 : cells + 1 ≤ 1088 ∧ slots + 6 ≤ 9123) (hP : va_P D vwCl (ws_LW cs a d (σ, τ)) H) (hD : va_D A (ws_LW cs a d (σ, τ))) (hS : va_S A s.heap H locs) (hl : lv_has ls 7 [(0, .ref b), (1, .ref (a 0)), (2, .ref (d 0)), (3, .ref (a 21)), (4, .int i)]) (kk : ∀ (σ' : LH) (τ' : MD) (H : Heap) (locs : List Loc) (ls : Array Slot), Inv σ'.1 τ' → lv_has ls 7 [(0, .ref b), (1, .ref (a 0)), (2, .ref (d 0)), (3, .ref (a 21)), (4, .int i)] → va_P D vwCl (ws_LW cs a d (σ', τ')) H → va_D A (ws_LW cs a d (σ', τ')) → va_S A s.heap H locs → W p l e room_1 s m #[Value.ref b] below meth c H locs (cells + 1) (slots + 6) Q (F0 m 1197 ls [])) : W p l e room_1 s m #[Value.ref b] below meth c H locs cells slots Q (F0 m 140 ls []) := by
  obtain ⟨k9, r9, P9, Q9, hI9, w1, w2⟩ := rl_arrive g (xs (i + (1 : Int32)).toNatClampNeg) (xs (i + (2 : Int32)).toNatClampNeg) (xs (i + (3 : Int32)).toNatClampNeg)
  refine lv_aload_n hx hb dL_law_140 rfl (lv_at hl 1 rfl) ?_
  refine lv_aload_n hx hb dL_law_141 rfl (lv_at hl 0 rfl) ?_
  refine lv_iload hx hb dL_law_142 (lv_at hl 4 rfl) ?_
  refine lv_iconst (v := (1 : Int32)) hx hb dL_law_144 (by decide) ?_
  refine lv_iadd hx hb dL_law_145 ?_
  refine va_sld hx hb hX hbl hbA hS v1 dL_law_146 ?_
  refine lv_aload_n hx hb dL_law_147 rfl (lv_at hl 0 rfl) ?_
  refine lv_iload hx hb dL_law_148 (lv_at hl 4 rfl) ?_
  refine lv_iconst (v := (2 : Int32)) hx hb dL_law_150 (by decide) ?_
  refine lv_iadd hx hb dL_law_151 ?_
  refine va_sld hx hb hX hbl hbA hS v2 dL_law_152 ?_
  refine lv_aload_n hx hb dL_law_153 rfl (lv_at hl 0 rfl) ?_
  refine lv_iload hx hb dL_law_154 (lv_at hl 4 rfl) ?_
  refine lv_iconst (v := (3 : Int32)) hx hb dL_law_156 (by decide) ?_
  refine lv_iadd hx hb dL_law_157 ?_
  refine va_sld hx hb hX hbl hbA hS v3 dL_law_158 ?_
  refine lv_aload_n hx hb dL_law_159 rfl (lv_at hl 3 rfl) ?_
  refine kLi (As := [.ref (a 0), .int (xs (i + (1 : Int32)).toNatClampNeg), .int (xs (i + (2 : Int32)).toNatClampNeg), .int (xs (i + (3 : Int32)).toNatClampNeg), .ref (a 21)]) (rest := []) ⟨hx, hb, hml, hown, hts⟩ hE (c_L_arrive l hfl D cs a _ σ (xs (i + (1 : Int32)).toNatClampNeg) (xs (i + (2 : Int32)).toNatClampNeg) (xs (i + (3 : Int32)).toNatClampNeg) (w1 (fun k z => k = k9 ∧ P9 z) (fun z q => ⟨rfl, q⟩))) (vx_cwSW 5 hts gL_law_L_arrive rfl rfl rfl (by decide +kernel) ⟨Nat.le_of_ble_eq_true rfl, Nat.le_of_ble_eq_true rfl⟩) (pt_LW_lh cs a d σ τ) hK hP hD hS hA rfl hl.1 rfl (Nat.le_of_ble_eq_true rfl) dL_law_160 hc1 (fun r u1 H locs hw hP hD hS => ?_)
  obtain ⟨rfl, hw⟩ := hw
  have hP : va_P D vwCl (ws_LW cs a d (u1, τ)) H := hP
  have hD : va_D A (ws_LW cs a d (u1, τ)) := hD
  refine lv_istore (lv' := [(5, .int r), (0, .ref b), (1, .ref (a 0)), (2, .ref (d 0)), (3, .ref (a 21)), (4, .int i)]) hx hb dL_law_163 hl (by decide) rfl (fun ls hl => ?_)
  refine lv_aload_n hx hb dL_law_165 rfl (lv_at hl 3 rfl) ?_
  refine lv_aload_n hx hb dL_law_166 rfl (lv_at hl 1 rfl) ?_
  refine lv_iload hx hb dL_law_167 (lv_at hl 5 rfl) ?_
  refine lv_iconst (v := (1 : Int32)) hx hb dL_law_169 (by decide) ?_
  refine lv_iadd hx hb dL_law_170 ?_
  refine va_sld hx hb hX hbl hbA hS v1 dL_law_171 ?_
  refine lv_aload_n hx hb dL_law_172 rfl (lv_at hl 1 rfl) ?_
  refine lv_iload hx hb dL_law_173 (lv_at hl 5 rfl) ?_
  refine lv_iconst (v := (2 : Int32)) hx hb dL_law_175 (by decide) ?_
  refine lv_iadd hx hb dL_law_176 ?_
  refine va_sld hx hb hX hbl hbA hS v2 dL_law_177 ?_
  refine lv_aload_n hx hb dL_law_178 rfl (lv_at hl 1 rfl) ?_
  refine lv_iload hx hb dL_law_179 (lv_at hl 5 rfl) ?_
  refine lv_iconst (v := (3 : Int32)) hx hb dL_law_181 (by decide) ?_
  refine lv_iadd hx hb dL_law_182 ?_
  refine va_sld hx hb hX hbl hbA hS v3 dL_law_183 ?_
  refine kVi (As := [.int (xs (i + (1 : Int32)).toNatClampNeg), .int (xs (i + (2 : Int32)).toNatClampNeg), .int (xs (i + (3 : Int32)).toNatClampNeg)]) (rest := []) ⟨hx, hb, hml, hown, hts⟩ (c_M_arrive l D cs d _ τ (xs (i + (1 : Int32)).toNatClampNeg) (xs (i + (2 : Int32)).toNatClampNeg) (xs (i + (3 : Int32)).toNatClampNeg) (w2 (fun b u => Q9 b u) (fun b u q => q))) (cwV 3 hts gL_law_X4_arrive rfl rfl rfl (by decide +kernel) ⟨Nat.le_of_ble_eq_true rfl, Nat.le_of_ble_eq_true rfl⟩) (pt_LW_md cs a d u1 τ) hK hP hD hS hA (ci := 4) rfl rfl rfl rfl hl.1 rfl (Nat.le_of_ble_eq_true rfl) dL_law_184 hc1 (fun r2 u2 H locs hq hP hD hS => ?_)
  have hP : va_P D vwCl (ws_LW cs a d (u1, u2)) H := hP
  have hD : va_D A (ws_LW cs a d (u1, u2)) := hD
  obtain ⟨hI, ht9, h09⟩ := hI9 u1 u2 r2 hw hq
  refine lv_istore (lv' := [(6, .int r2), (5, .int r), (0, .ref b), (1, .ref (a 0)), (2, .ref (d 0)), (3, .ref (a 21)), (4, .int i)]) hx hb dL_law_187 hl (by decide) rfl (fun ls hl => ?_)
  refine lv_aload_n hx hb dL_law_189 rfl (lv_at hl 4 rfl) ?_
  refine kVi (As := []) (rest := []) ⟨hx, hb, hml, hown, hts⟩ (c_M_thrown l D cs d _ u2 (Φ := fun r3 u3 => r3 = g_MD_thrown u2 ∧ u3 = u2) ⟨rfl, rfl⟩) (cwV 0 hts gL_law_X4_thrown rfl rfl rfl (by decide +kernel) ⟨Nat.le_of_ble_eq_true rfl, Nat.le_of_ble_eq_true rfl⟩) (pt_LW_md cs a d u1 u2) hK hP hD hS hA (ci := 4) rfl rfl rfl rfl hl.1 rfl (Nat.le_of_ble_eq_true rfl) dL_law_190 hc1 (fun r3 u3 H locs hq3 hP hD hS => ?_)
  obtain ⟨q3a, q3b⟩ := hq3
  rw [q3a]
  rw [q3b] at hP hD
  have hP : va_P D vwCl (ws_LW cs a d (u1, u2)) H := hP
  have hD : va_D A (ws_LW cs a d (u1, u2)) := hD
  refine lv_iload hx hb dL_law_193 (lv_at hl 1 rfl) ?_
  refine lv_icmp_eq (tgt := 200) hx hb dL_law_195 (by decide) (fun c9 => ?_) (fun c9 => absurd ht9 c9)
  refine lv_iload hx hb dL_law_200 (lv_at hl 1 rfl) ?_
  refine lv_if_ne (tgt := 217) hx hb dL_law_202 (by decide) (fun c9 => ?_) (fun c9 => ?_)
  · exact lv_goto (tgt := 1197) hx hb dL_law_217 (by decide) (kk u1 u2 H locs ls hI (lv_sub hl [2, 3, 4, 5, 6] rfl) hP hD hS)
  · obtain ⟨e1, e2⟩ := h09 c9
    subst e1
    refine lv_aload_n hx hb dL_law_205 rfl (lv_at hl 5 rfl) ?_
    refine lv_iconst (v := (0 : Int32)) hx hb dL_law_206 (by decide) ?_
    refine va_lald (n := 1) (f := g_LH_out u1) hx hb hK hP 21 2 rfl rfl (vp_in_nI (n := 0) (by omega) (by omega)) dL_law_207 ?_
    have e2 : g_LH_out u1 (0 : Int32).toNatClampNeg = Int32.toInt64 r2 := e2
    rw [e2]
    refine lv_iload hx hb dL_law_208 (lv_at hl 0 rfl) ?_
    refine lv_i2l (v := Int32.toInt64 r2) hx hb dL_law_210 rfl ?_
    refine W.lcmp hx hb dL_law_211 ?_
    rw [lg_same]
    refine lv_if_eq (tgt := 217) hx hb dL_law_212 (by decide) (fun _ => ?_) (fun c9 => absurd rfl c9)
    exact lv_goto (tgt := 1197) hx hb dL_law_217 (by decide) (kk u1 u2 H locs ls hI (lv_sub hl [2, 3, 4, 5, 6] rfl) hP hD hS)
set_option maxHeartbeats 4000000 in
theorem k_lift {p : Program} {l : Launch} {e : Env} {s : State} {m : MethodId} {below : List Frame} {meth : Method} {c : Code} {b L : Nat} {xs : Nat → Int32} {D : va_G} {cs : CS} {a d : Nat → Nat} {A : Nat → Prop} {Q : State → Prop} (hfl : l.stackTraces = false) (hx : p.tables.exec = Jvm.exec) (hb : c.code = cL_law) (hml : c.maxLocals = 7) (hown : s.vm.findClass RL = some m.cls) (hts : ∀ w ∈ wsL_law, w.before #[Value.ref b] s = true) (hE : XE A s s.heap) (hK : va_K D vwCl (tysG cs) s) (hA : ∀ q, s.heap.size ≤ q → A q) (hX : va_X b L xs s s.heap) (hbl : b < s.heap.size) (hbA : ¬ A b) {i : Int32} (v1 : vp_in (i + (1 : Int32)) L) (v2 : vp_in (i + (2 : Int32)) L) (v3 : vp_in (i + (3 : Int32)) L) (v4 : vp_in (i + (4 : Int32)) L) {σ : LH} {τ : MD} (g : Inv σ.1 τ) {H : Heap} {locs : List Loc} {ls : Array Slot} {cells slots : Nat} (hc1 : cells + 1 ≤ 1088 ∧ slots + 6 ≤ 9123) (hP : va_P D vwCl (ws_LW cs a d (σ, τ)) H) (hD : va_D A (ws_LW cs a d (σ, τ))) (hS : va_S A s.heap H locs) (hl : lv_has ls 7 [(0, .ref b), (1, .ref (a 0)), (2, .ref (d 0)), (3, .ref (a 21)), (4, .int i)]) (kk : ∀ (σ' : LH) (τ' : MD) (H : Heap) (locs : List Loc) (ls : Array Slot), Inv σ'.1 τ' → lv_has ls 7 [(0, .ref b), (1, .ref (a 0)), (2, .ref (d 0)), (3, .ref (a 21)), (4, .int i)] → va_P D vwCl (ws_LW cs a d (σ', τ')) H → va_D A (ws_LW cs a d (σ', τ')) → va_S A s.heap H locs → W p l e room_1 s m #[Value.ref b] below meth c H locs (cells + 1) (slots + 6) Q (F0 m 1197 ls [])) : W p l e room_1 s m #[Value.ref b] below meth c H locs cells slots Q (F0 m 220 ls []) := by
  obtain ⟨k9, r9, P9, Q9, hI9, w1, w2⟩ := rl_lift g (xs (i + (1 : Int32)).toNatClampNeg)
  refine lv_aload_n hx hb dL_law_220 rfl (lv_at hl 1 rfl) ?_
  refine lv_aload_n hx hb dL_law_221 rfl (lv_at hl 0 rfl) ?_
  refine lv_iload hx hb dL_law_222 (lv_at hl 4 rfl) ?_
  refine lv_iconst (v := (1 : Int32)) hx hb dL_law_224 (by decide) ?_
  refine lv_iadd hx hb dL_law_225 ?_
  refine va_sld hx hb hX hbl hbA hS v1 dL_law_226 ?_
  refine lv_aload_n hx hb dL_law_227 rfl (lv_at hl 3 rfl) ?_
  refine kLi (As := [.ref (a 0), .int (xs (i + (1 : Int32)).toNatClampNeg), .ref (a 21)]) (rest := []) ⟨hx, hb, hml, hown, hts⟩ hE (c_L_lift l hfl D cs a _ σ (xs (i + (1 : Int32)).toNatClampNeg) (w1 (fun k z => k = k9 ∧ P9 z) (fun z q => ⟨rfl, q⟩))) (vx_cwSW 3 hts gL_law_L_lift rfl rfl rfl (by decide +kernel) ⟨Nat.le_of_ble_eq_true rfl, Nat.le_of_ble_eq_true rfl⟩) (pt_LW_lh cs a d σ τ) hK hP hD hS hA rfl hl.1 rfl (Nat.le_of_ble_eq_true rfl) dL_law_228 hc1 (fun r u1 H locs hw hP hD hS => ?_)
  obtain ⟨rfl, hw⟩ := hw
  have hP : va_P D vwCl (ws_LW cs a d (u1, τ)) H := hP
  have hD : va_D A (ws_LW cs a d (u1, τ)) := hD
  refine lv_istore (lv' := [(5, .int r), (0, .ref b), (1, .ref (a 0)), (2, .ref (d 0)), (3, .ref (a 21)), (4, .int i)]) hx hb dL_law_231 hl (by decide) rfl (fun ls hl => ?_)
  refine lv_aload_n hx hb dL_law_233 rfl (lv_at hl 3 rfl) ?_
  refine lv_aload_n hx hb dL_law_234 rfl (lv_at hl 1 rfl) ?_
  refine lv_iload hx hb dL_law_235 (lv_at hl 5 rfl) ?_
  refine lv_iconst (v := (1 : Int32)) hx hb dL_law_237 (by decide) ?_
  refine lv_iadd hx hb dL_law_238 ?_
  refine va_sld hx hb hX hbl hbA hS v1 dL_law_239 ?_
  refine kVi (As := [.int (xs (i + (1 : Int32)).toNatClampNeg)]) (rest := []) ⟨hx, hb, hml, hown, hts⟩ (c_M_lift l D cs d _ τ (xs (i + (1 : Int32)).toNatClampNeg) (w2 (fun b u => Q9 b u) (fun b u q => q))) (cwV 1 hts gL_law_X4_lift rfl rfl rfl (by decide +kernel) ⟨Nat.le_of_ble_eq_true rfl, Nat.le_of_ble_eq_true rfl⟩) (pt_LW_md cs a d u1 τ) hK hP hD hS hA (ci := 4) rfl rfl rfl rfl hl.1 rfl (Nat.le_of_ble_eq_true rfl) dL_law_240 hc1 (fun r2 u2 H locs hq hP hD hS => ?_)
  have hP : va_P D vwCl (ws_LW cs a d (u1, u2)) H := hP
  have hD : va_D A (ws_LW cs a d (u1, u2)) := hD
  obtain ⟨hI, ht9, h09⟩ := hI9 u1 u2 r2 hw hq
  refine lv_istore (lv' := [(6, .int r2), (5, .int r), (0, .ref b), (1, .ref (a 0)), (2, .ref (d 0)), (3, .ref (a 21)), (4, .int i)]) hx hb dL_law_243 hl (by decide) rfl (fun ls hl => ?_)
  refine lv_aload_n hx hb dL_law_245 rfl (lv_at hl 4 rfl) ?_
  refine kVi (As := []) (rest := []) ⟨hx, hb, hml, hown, hts⟩ (c_M_thrown l D cs d _ u2 (Φ := fun r3 u3 => r3 = g_MD_thrown u2 ∧ u3 = u2) ⟨rfl, rfl⟩) (cwV 0 hts gL_law_X4_thrown rfl rfl rfl (by decide +kernel) ⟨Nat.le_of_ble_eq_true rfl, Nat.le_of_ble_eq_true rfl⟩) (pt_LW_md cs a d u1 u2) hK hP hD hS hA (ci := 4) rfl rfl rfl rfl hl.1 rfl (Nat.le_of_ble_eq_true rfl) dL_law_246 hc1 (fun r3 u3 H locs hq3 hP hD hS => ?_)
  obtain ⟨q3a, q3b⟩ := hq3
  rw [q3a]
  rw [q3b] at hP hD
  have hP : va_P D vwCl (ws_LW cs a d (u1, u2)) H := hP
  have hD : va_D A (ws_LW cs a d (u1, u2)) := hD
  refine lv_iload hx hb dL_law_249 (lv_at hl 1 rfl) ?_
  refine lv_icmp_eq (tgt := 256) hx hb dL_law_251 (by decide) (fun c9 => ?_) (fun c9 => absurd ht9 c9)
  refine lv_iload hx hb dL_law_256 (lv_at hl 1 rfl) ?_
  refine lv_if_ne (tgt := 273) hx hb dL_law_258 (by decide) (fun c9 => ?_) (fun c9 => ?_)
  · exact lv_goto (tgt := 1197) hx hb dL_law_273 (by decide) (kk u1 u2 H locs ls hI (lv_sub hl [2, 3, 4, 5, 6] rfl) hP hD hS)
  · obtain ⟨e1, e2⟩ := h09 c9
    subst e1
    refine lv_aload_n hx hb dL_law_261 rfl (lv_at hl 5 rfl) ?_
    refine lv_iconst (v := (0 : Int32)) hx hb dL_law_262 (by decide) ?_
    refine va_lald (n := 1) (f := g_LH_out u1) hx hb hK hP 21 2 rfl rfl (vp_in_nI (n := 0) (by omega) (by omega)) dL_law_263 ?_
    have e2 : g_LH_out u1 (0 : Int32).toNatClampNeg = Int32.toInt64 r2 := e2
    rw [e2]
    refine lv_iload hx hb dL_law_264 (lv_at hl 0 rfl) ?_
    refine lv_i2l (v := Int32.toInt64 r2) hx hb dL_law_266 rfl ?_
    refine W.lcmp hx hb dL_law_267 ?_
    rw [lg_same]
    refine lv_if_eq (tgt := 273) hx hb dL_law_268 (by decide) (fun _ => ?_) (fun c9 => absurd rfl c9)
    exact lv_goto (tgt := 1197) hx hb dL_law_273 (by decide) (kk u1 u2 H locs ls hI (lv_sub hl [2, 3, 4, 5, 6] rfl) hP hD hS)
set_option maxHeartbeats 4000000 in
theorem k_drop {p : Program} {l : Launch} {e : Env} {s : State} {m : MethodId} {below : List Frame} {meth : Method} {c : Code} {b L : Nat} {xs : Nat → Int32} {D : va_G} {cs : CS} {a d : Nat → Nat} {A : Nat → Prop} {Q : State → Prop} (hfl : l.stackTraces = false) (hx : p.tables.exec = Jvm.exec) (hb : c.code = cL_law) (hml : c.maxLocals = 7) (hown : s.vm.findClass RL = some m.cls) (hts : ∀ w ∈ wsL_law, w.before #[Value.ref b] s = true) (hE : XE A s s.heap) (hK : va_K D vwCl (tysG cs) s) (hA : ∀ q, s.heap.size ≤ q → A q) (hX : va_X b L xs s s.heap) (hbl : b < s.heap.size) (hbA : ¬ A b) {i : Int32} (v1 : vp_in (i + (1 : Int32)) L) (v2 : vp_in (i + (2 : Int32)) L) (v3 : vp_in (i + (3 : Int32)) L) (v4 : vp_in (i + (4 : Int32)) L) {σ : LH} {τ : MD} (g : Inv σ.1 τ) {H : Heap} {locs : List Loc} {ls : Array Slot} {cells slots : Nat} (hc1 : cells + 1 ≤ 1088 ∧ slots + 6 ≤ 9123) (hP : va_P D vwCl (ws_LW cs a d (σ, τ)) H) (hD : va_D A (ws_LW cs a d (σ, τ))) (hS : va_S A s.heap H locs) (hl : lv_has ls 7 [(0, .ref b), (1, .ref (a 0)), (2, .ref (d 0)), (3, .ref (a 21)), (4, .int i)]) (kk : ∀ (σ' : LH) (τ' : MD) (H : Heap) (locs : List Loc) (ls : Array Slot), Inv σ'.1 τ' → lv_has ls 7 [(0, .ref b), (1, .ref (a 0)), (2, .ref (d 0)), (3, .ref (a 21)), (4, .int i)] → va_P D vwCl (ws_LW cs a d (σ', τ')) H → va_D A (ws_LW cs a d (σ', τ')) → va_S A s.heap H locs → W p l e room_1 s m #[Value.ref b] below meth c H locs (cells + 1) (slots + 6) Q (F0 m 1197 ls [])) : W p l e room_1 s m #[Value.ref b] below meth c H locs cells slots Q (F0 m 276 ls []) := by
  obtain ⟨k9, r9, P9, Q9, hI9, w1, w2⟩ := rl_drop g (xs (i + (1 : Int32)).toNatClampNeg)
  refine lv_aload_n hx hb dL_law_276 rfl (lv_at hl 1 rfl) ?_
  refine lv_aload_n hx hb dL_law_277 rfl (lv_at hl 0 rfl) ?_
  refine lv_iload hx hb dL_law_278 (lv_at hl 4 rfl) ?_
  refine lv_iconst (v := (1 : Int32)) hx hb dL_law_280 (by decide) ?_
  refine lv_iadd hx hb dL_law_281 ?_
  refine va_sld hx hb hX hbl hbA hS v1 dL_law_282 ?_
  refine lv_aload_n hx hb dL_law_283 rfl (lv_at hl 3 rfl) ?_
  refine kLi (As := [.ref (a 0), .int (xs (i + (1 : Int32)).toNatClampNeg), .ref (a 21)]) (rest := []) ⟨hx, hb, hml, hown, hts⟩ hE (c_L_drop l hfl D cs a _ σ (xs (i + (1 : Int32)).toNatClampNeg) (w1 (fun k z => k = k9 ∧ P9 z) (fun z q => ⟨rfl, q⟩))) (vx_cwSW 3 hts gL_law_L_drop rfl rfl rfl (by decide +kernel) ⟨Nat.le_of_ble_eq_true rfl, Nat.le_of_ble_eq_true rfl⟩) (pt_LW_lh cs a d σ τ) hK hP hD hS hA rfl hl.1 rfl (Nat.le_of_ble_eq_true rfl) dL_law_284 hc1 (fun r u1 H locs hw hP hD hS => ?_)
  obtain ⟨rfl, hw⟩ := hw
  have hP : va_P D vwCl (ws_LW cs a d (u1, τ)) H := hP
  have hD : va_D A (ws_LW cs a d (u1, τ)) := hD
  refine lv_istore (lv' := [(5, .int r), (0, .ref b), (1, .ref (a 0)), (2, .ref (d 0)), (3, .ref (a 21)), (4, .int i)]) hx hb dL_law_287 hl (by decide) rfl (fun ls hl => ?_)
  refine lv_aload_n hx hb dL_law_289 rfl (lv_at hl 3 rfl) ?_
  refine lv_aload_n hx hb dL_law_290 rfl (lv_at hl 1 rfl) ?_
  refine lv_iload hx hb dL_law_291 (lv_at hl 5 rfl) ?_
  refine lv_iconst (v := (1 : Int32)) hx hb dL_law_293 (by decide) ?_
  refine lv_iadd hx hb dL_law_294 ?_
  refine va_sld hx hb hX hbl hbA hS v1 dL_law_295 ?_
  refine kVi (As := [.int (xs (i + (1 : Int32)).toNatClampNeg)]) (rest := []) ⟨hx, hb, hml, hown, hts⟩ (c_M_drop l D cs d _ τ (xs (i + (1 : Int32)).toNatClampNeg) (w2 (fun b u => Q9 b u) (fun b u q => q))) (cwV 1 hts gL_law_X4_drop rfl rfl rfl (by decide +kernel) ⟨Nat.le_of_ble_eq_true rfl, Nat.le_of_ble_eq_true rfl⟩) (pt_LW_md cs a d u1 τ) hK hP hD hS hA (ci := 4) rfl rfl rfl rfl hl.1 rfl (Nat.le_of_ble_eq_true rfl) dL_law_296 hc1 (fun r2 u2 H locs hq hP hD hS => ?_)
  have hP : va_P D vwCl (ws_LW cs a d (u1, u2)) H := hP
  have hD : va_D A (ws_LW cs a d (u1, u2)) := hD
  obtain ⟨hI, ht9, h09⟩ := hI9 u1 u2 r2 hw hq
  refine lv_istore (lv' := [(6, .int r2), (5, .int r), (0, .ref b), (1, .ref (a 0)), (2, .ref (d 0)), (3, .ref (a 21)), (4, .int i)]) hx hb dL_law_299 hl (by decide) rfl (fun ls hl => ?_)
  refine lv_aload_n hx hb dL_law_301 rfl (lv_at hl 4 rfl) ?_
  refine kVi (As := []) (rest := []) ⟨hx, hb, hml, hown, hts⟩ (c_M_thrown l D cs d _ u2 (Φ := fun r3 u3 => r3 = g_MD_thrown u2 ∧ u3 = u2) ⟨rfl, rfl⟩) (cwV 0 hts gL_law_X4_thrown rfl rfl rfl (by decide +kernel) ⟨Nat.le_of_ble_eq_true rfl, Nat.le_of_ble_eq_true rfl⟩) (pt_LW_md cs a d u1 u2) hK hP hD hS hA (ci := 4) rfl rfl rfl rfl hl.1 rfl (Nat.le_of_ble_eq_true rfl) dL_law_302 hc1 (fun r3 u3 H locs hq3 hP hD hS => ?_)
  obtain ⟨q3a, q3b⟩ := hq3
  rw [q3a]
  rw [q3b] at hP hD
  have hP : va_P D vwCl (ws_LW cs a d (u1, u2)) H := hP
  have hD : va_D A (ws_LW cs a d (u1, u2)) := hD
  refine lv_iload hx hb dL_law_305 (lv_at hl 1 rfl) ?_
  refine lv_icmp_eq (tgt := 312) hx hb dL_law_307 (by decide) (fun c9 => ?_) (fun c9 => absurd ht9 c9)
  refine lv_iload hx hb dL_law_312 (lv_at hl 1 rfl) ?_
  refine lv_if_ne (tgt := 329) hx hb dL_law_314 (by decide) (fun c9 => ?_) (fun c9 => ?_)
  · exact lv_goto (tgt := 1197) hx hb dL_law_329 (by decide) (kk u1 u2 H locs ls hI (lv_sub hl [2, 3, 4, 5, 6] rfl) hP hD hS)
  · obtain ⟨e1, e2⟩ := h09 c9
    subst e1
    refine lv_aload_n hx hb dL_law_317 rfl (lv_at hl 5 rfl) ?_
    refine lv_iconst (v := (0 : Int32)) hx hb dL_law_318 (by decide) ?_
    refine va_lald (n := 1) (f := g_LH_out u1) hx hb hK hP 21 2 rfl rfl (vp_in_nI (n := 0) (by omega) (by omega)) dL_law_319 ?_
    have e2 : g_LH_out u1 (0 : Int32).toNatClampNeg = Int32.toInt64 r2 := e2
    rw [e2]
    refine lv_iload hx hb dL_law_320 (lv_at hl 0 rfl) ?_
    refine lv_i2l (v := Int32.toInt64 r2) hx hb dL_law_322 rfl ?_
    refine W.lcmp hx hb dL_law_323 ?_
    rw [lg_same]
    refine lv_if_eq (tgt := 329) hx hb dL_law_324 (by decide) (fun _ => ?_) (fun c9 => absurd rfl c9)
    exact lv_goto (tgt := 1197) hx hb dL_law_329 (by decide) (kk u1 u2 H locs ls hI (lv_sub hl [2, 3, 4, 5, 6] rfl) hP hD hS)
set_option maxHeartbeats 4000000 in
theorem k_dig {p : Program} {l : Launch} {e : Env} {s : State} {m : MethodId} {below : List Frame} {meth : Method} {c : Code} {b L : Nat} {xs : Nat → Int32} {D : va_G} {cs : CS} {a d : Nat → Nat} {A : Nat → Prop} {Q : State → Prop} (hfl : l.stackTraces = false) (hx : p.tables.exec = Jvm.exec) (hb : c.code = cL_law) (hml : c.maxLocals = 7) (hown : s.vm.findClass RL = some m.cls) (hts : ∀ w ∈ wsL_law, w.before #[Value.ref b] s = true) (hE : XE A s s.heap) (hK : va_K D vwCl (tysG cs) s) (hA : ∀ q, s.heap.size ≤ q → A q) (hX : va_X b L xs s s.heap) (hbl : b < s.heap.size) (hbA : ¬ A b) {i : Int32} (v1 : vp_in (i + (1 : Int32)) L) (v2 : vp_in (i + (2 : Int32)) L) (v3 : vp_in (i + (3 : Int32)) L) (v4 : vp_in (i + (4 : Int32)) L) {σ : LH} {τ : MD} (g : Inv σ.1 τ) {H : Heap} {locs : List Loc} {ls : Array Slot} {cells slots : Nat} (hc1 : cells + 1 ≤ 1088 ∧ slots + 6 ≤ 9123) (hP : va_P D vwCl (ws_LW cs a d (σ, τ)) H) (hD : va_D A (ws_LW cs a d (σ, τ))) (hS : va_S A s.heap H locs) (hl : lv_has ls 7 [(0, .ref b), (1, .ref (a 0)), (2, .ref (d 0)), (3, .ref (a 21)), (4, .int i)]) (kk : ∀ (σ' : LH) (τ' : MD) (H : Heap) (locs : List Loc) (ls : Array Slot), Inv σ'.1 τ' → lv_has ls 7 [(0, .ref b), (1, .ref (a 0)), (2, .ref (d 0)), (3, .ref (a 21)), (4, .int i)] → va_P D vwCl (ws_LW cs a d (σ', τ')) H → va_D A (ws_LW cs a d (σ', τ')) → va_S A s.heap H locs → W p l e room_1 s m #[Value.ref b] below meth c H locs (cells + 1) (slots + 6) Q (F0 m 1197 ls [])) : W p l e room_1 s m #[Value.ref b] below meth c H locs cells slots Q (F0 m 332 ls []) := by
  obtain ⟨k9, r9, P9, Q9, hI9, w1, w2⟩ := rl_dig g (xs (i + (1 : Int32)).toNatClampNeg)
  refine lv_aload_n hx hb dL_law_332 rfl (lv_at hl 1 rfl) ?_
  refine lv_aload_n hx hb dL_law_333 rfl (lv_at hl 0 rfl) ?_
  refine lv_iload hx hb dL_law_334 (lv_at hl 4 rfl) ?_
  refine lv_iconst (v := (1 : Int32)) hx hb dL_law_336 (by decide) ?_
  refine lv_iadd hx hb dL_law_337 ?_
  refine va_sld hx hb hX hbl hbA hS v1 dL_law_338 ?_
  refine lv_aload_n hx hb dL_law_339 rfl (lv_at hl 3 rfl) ?_
  refine kLi (As := [.ref (a 0), .int (xs (i + (1 : Int32)).toNatClampNeg), .ref (a 21)]) (rest := []) ⟨hx, hb, hml, hown, hts⟩ hE (c_L_dig l hfl D cs a _ σ (xs (i + (1 : Int32)).toNatClampNeg) (w1 (fun k z => k = k9 ∧ P9 z) (fun z q => ⟨rfl, q⟩))) (vx_cwSW 3 hts gL_law_L_dig rfl rfl rfl (by decide +kernel) ⟨Nat.le_of_ble_eq_true rfl, Nat.le_of_ble_eq_true rfl⟩) (pt_LW_lh cs a d σ τ) hK hP hD hS hA rfl hl.1 rfl (Nat.le_of_ble_eq_true rfl) dL_law_340 hc1 (fun r u1 H locs hw hP hD hS => ?_)
  obtain ⟨rfl, hw⟩ := hw
  have hP : va_P D vwCl (ws_LW cs a d (u1, τ)) H := hP
  have hD : va_D A (ws_LW cs a d (u1, τ)) := hD
  refine lv_istore (lv' := [(5, .int r), (0, .ref b), (1, .ref (a 0)), (2, .ref (d 0)), (3, .ref (a 21)), (4, .int i)]) hx hb dL_law_343 hl (by decide) rfl (fun ls hl => ?_)
  refine lv_aload_n hx hb dL_law_345 rfl (lv_at hl 3 rfl) ?_
  refine lv_aload_n hx hb dL_law_346 rfl (lv_at hl 1 rfl) ?_
  refine lv_iload hx hb dL_law_347 (lv_at hl 5 rfl) ?_
  refine lv_iconst (v := (1 : Int32)) hx hb dL_law_349 (by decide) ?_
  refine lv_iadd hx hb dL_law_350 ?_
  refine va_sld hx hb hX hbl hbA hS v1 dL_law_351 ?_
  refine kVi (As := [.int (xs (i + (1 : Int32)).toNatClampNeg)]) (rest := []) ⟨hx, hb, hml, hown, hts⟩ (c_M_dig l D cs d _ τ (xs (i + (1 : Int32)).toNatClampNeg) (w2 (fun b u => Q9 b u) (fun b u q => q))) (cwV 1 hts gL_law_X4_dig rfl rfl rfl (by decide +kernel) ⟨Nat.le_of_ble_eq_true rfl, Nat.le_of_ble_eq_true rfl⟩) (pt_LW_md cs a d u1 τ) hK hP hD hS hA (ci := 4) rfl rfl rfl rfl hl.1 rfl (Nat.le_of_ble_eq_true rfl) dL_law_352 hc1 (fun r2 u2 H locs hq hP hD hS => ?_)
  have hP : va_P D vwCl (ws_LW cs a d (u1, u2)) H := hP
  have hD : va_D A (ws_LW cs a d (u1, u2)) := hD
  obtain ⟨hI, ht9, h09⟩ := hI9 u1 u2 r2 hw hq
  refine lv_istore (lv' := [(6, .int r2), (5, .int r), (0, .ref b), (1, .ref (a 0)), (2, .ref (d 0)), (3, .ref (a 21)), (4, .int i)]) hx hb dL_law_355 hl (by decide) rfl (fun ls hl => ?_)
  refine lv_aload_n hx hb dL_law_357 rfl (lv_at hl 4 rfl) ?_
  refine kVi (As := []) (rest := []) ⟨hx, hb, hml, hown, hts⟩ (c_M_thrown l D cs d _ u2 (Φ := fun r3 u3 => r3 = g_MD_thrown u2 ∧ u3 = u2) ⟨rfl, rfl⟩) (cwV 0 hts gL_law_X4_thrown rfl rfl rfl (by decide +kernel) ⟨Nat.le_of_ble_eq_true rfl, Nat.le_of_ble_eq_true rfl⟩) (pt_LW_md cs a d u1 u2) hK hP hD hS hA (ci := 4) rfl rfl rfl rfl hl.1 rfl (Nat.le_of_ble_eq_true rfl) dL_law_358 hc1 (fun r3 u3 H locs hq3 hP hD hS => ?_)
  obtain ⟨q3a, q3b⟩ := hq3
  rw [q3a]
  rw [q3b] at hP hD
  have hP : va_P D vwCl (ws_LW cs a d (u1, u2)) H := hP
  have hD : va_D A (ws_LW cs a d (u1, u2)) := hD
  refine lv_iload hx hb dL_law_361 (lv_at hl 1 rfl) ?_
  refine lv_icmp_eq (tgt := 368) hx hb dL_law_363 (by decide) (fun c9 => ?_) (fun c9 => absurd ht9 c9)
  refine lv_iload hx hb dL_law_368 (lv_at hl 1 rfl) ?_
  refine lv_if_ne (tgt := 385) hx hb dL_law_370 (by decide) (fun c9 => ?_) (fun c9 => ?_)
  · exact lv_goto (tgt := 1197) hx hb dL_law_385 (by decide) (kk u1 u2 H locs ls hI (lv_sub hl [2, 3, 4, 5, 6] rfl) hP hD hS)
  · obtain ⟨e1, e2⟩ := h09 c9
    subst e1
    refine lv_aload_n hx hb dL_law_373 rfl (lv_at hl 5 rfl) ?_
    refine lv_iconst (v := (0 : Int32)) hx hb dL_law_374 (by decide) ?_
    refine va_lald (n := 1) (f := g_LH_out u1) hx hb hK hP 21 2 rfl rfl (vp_in_nI (n := 0) (by omega) (by omega)) dL_law_375 ?_
    have e2 : g_LH_out u1 (0 : Int32).toNatClampNeg = Int32.toInt64 r2 := e2
    rw [e2]
    refine lv_iload hx hb dL_law_376 (lv_at hl 0 rfl) ?_
    refine lv_i2l (v := Int32.toInt64 r2) hx hb dL_law_378 rfl ?_
    refine W.lcmp hx hb dL_law_379 ?_
    rw [lg_same]
    refine lv_if_eq (tgt := 385) hx hb dL_law_380 (by decide) (fun _ => ?_) (fun c9 => absurd rfl c9)
    exact lv_goto (tgt := 1197) hx hb dL_law_385 (by decide) (kk u1 u2 H locs ls hI (lv_sub hl [2, 3, 4, 5, 6] rfl) hP hD hS)
set_option maxHeartbeats 4000000 in
theorem k_crane {p : Program} {l : Launch} {e : Env} {s : State} {m : MethodId} {below : List Frame} {meth : Method} {c : Code} {b L : Nat} {xs : Nat → Int32} {D : va_G} {cs : CS} {a d : Nat → Nat} {A : Nat → Prop} {Q : State → Prop} (hfl : l.stackTraces = false) (hx : p.tables.exec = Jvm.exec) (hb : c.code = cL_law) (hml : c.maxLocals = 7) (hown : s.vm.findClass RL = some m.cls) (hts : ∀ w ∈ wsL_law, w.before #[Value.ref b] s = true) (hE : XE A s s.heap) (hK : va_K D vwCl (tysG cs) s) (hA : ∀ q, s.heap.size ≤ q → A q) (hX : va_X b L xs s s.heap) (hbl : b < s.heap.size) (hbA : ¬ A b) {i : Int32} (v1 : vp_in (i + (1 : Int32)) L) (v2 : vp_in (i + (2 : Int32)) L) (v3 : vp_in (i + (3 : Int32)) L) (v4 : vp_in (i + (4 : Int32)) L) {σ : LH} {τ : MD} (g : Inv σ.1 τ) {H : Heap} {locs : List Loc} {ls : Array Slot} {cells slots : Nat} (hc1 : cells + 1 ≤ 1088 ∧ slots + 6 ≤ 9123) (hP : va_P D vwCl (ws_LW cs a d (σ, τ)) H) (hD : va_D A (ws_LW cs a d (σ, τ))) (hS : va_S A s.heap H locs) (hl : lv_has ls 7 [(0, .ref b), (1, .ref (a 0)), (2, .ref (d 0)), (3, .ref (a 21)), (4, .int i)]) (kk : ∀ (σ' : LH) (τ' : MD) (H : Heap) (locs : List Loc) (ls : Array Slot), Inv σ'.1 τ' → lv_has ls 7 [(0, .ref b), (1, .ref (a 0)), (2, .ref (d 0)), (3, .ref (a 21)), (4, .int i)] → va_P D vwCl (ws_LW cs a d (σ', τ')) H → va_D A (ws_LW cs a d (σ', τ')) → va_S A s.heap H locs → W p l e room_1 s m #[Value.ref b] below meth c H locs (cells + 1) (slots + 6) Q (F0 m 1197 ls [])) : W p l e room_1 s m #[Value.ref b] below meth c H locs cells slots Q (F0 m 388 ls []) := by
  obtain ⟨h, c9, w, le, n, cr, lc, ltr, len, p9, m9, s9, lo, ld, st, pri, bd, q, pp, ow, d9, sy, fe, tr, lids, th, td, tdh, g, e1, e2⟩ := g
  obtain ⟨r9, σ9, τ9, hI, w1, w2⟩ := st_crane (tr := tr) (lids := lids) (th := th) (td := td) (tdh := tdh) (w := w) (le := le) (lc := lc) (s := s9) (lo := lo) (ld := ld) (fe := fe) g
  rw [← e1] at w1
  rw [← e2] at w2
  refine lv_aload_n hx hb dL_law_388 rfl (lv_at hl 1 rfl) ?_
  refine kVi (As := []) (rest := []) ⟨hx, hb, hml, hown, hts⟩ (c_C_crane l D cs a _ σ.1 (w1 (fun r u => r = r9 ∧ u = σ9) ⟨rfl, rfl⟩)) (cwV 0 hts gL_law_X3_crane rfl rfl rfl (by decide +kernel) ⟨Nat.le_of_ble_eq_true rfl, Nat.le_of_ble_eq_true rfl⟩) (pt_LW_cy cs a d σ τ) hK hP hD hS hA (ci := 3) rfl rfl rfl rfl hl.1 rfl (Nat.le_of_ble_eq_true rfl) dL_law_389 ⟨Nat.le_of_lt hc1.1, Nat.le_trans (Nat.le_add_right _ 6) hc1.2⟩ (fun r1 u1 H locs hw hP hD hS => ?_)
  obtain ⟨rfl, rfl⟩ := hw
  have hP : va_P D vwCl (ws_LW cs a d (s_LH_cy σ u1, τ)) H := hP
  have hD : va_D A (ws_LW cs a d (s_LH_cy σ u1, τ)) := hD
  refine lv_aload_n hx hb dL_law_392 rfl (lv_at hl 2 rfl) ?_
  refine kVi (As := []) (rest := [.int r1]) ⟨hx, hb, hml, hown, hts⟩ (c_M_crane l D cs d _ τ (w2 (fun r u => r = r1 ∧ u = τ9) ⟨rfl, rfl⟩)) (cwV 0 hts gL_law_X4_crane rfl rfl rfl (by decide +kernel) ⟨Nat.le_of_ble_eq_true rfl, Nat.le_of_ble_eq_true rfl⟩) (pt_LW_md cs a d (s_LH_cy σ u1) τ) hK hP hD hS hA (ci := 4) rfl rfl rfl rfl hl.1 rfl (Nat.le_of_ble_eq_true rfl) dL_law_393 ⟨Nat.le_of_lt hc1.1, Nat.le_trans (Nat.le_add_right _ 6) hc1.2⟩ (fun r2 u2 H locs hw hP hD hS => ?_)
  obtain ⟨rfl, rfl⟩ := hw
  have hP : va_P D vwCl (ws_LW cs a d (s_LH_cy σ u1, u2)) H := hP
  have hD : va_D A (ws_LW cs a d (s_LH_cy σ u1, u2)) := hD
  refine lv_icmp_eq (tgt := 1197) hx hb dL_law_396 (by decide) (fun _ => ?_) (fun c9 => absurd rfl c9)
  exact W.widen (k := cells + 1) (n := slots + 6) (Nat.le_succ _) (Nat.le_add_right _ 6) (kk (s_LH_cy σ u1) u2 H locs ls hI hl hP hD hS)
set_option maxHeartbeats 4000000 in
theorem k_height {p : Program} {l : Launch} {e : Env} {s : State} {m : MethodId} {below : List Frame} {meth : Method} {c : Code} {b L : Nat} {xs : Nat → Int32} {D : va_G} {cs : CS} {a d : Nat → Nat} {A : Nat → Prop} {Q : State → Prop} (hfl : l.stackTraces = false) (hx : p.tables.exec = Jvm.exec) (hb : c.code = cL_law) (hml : c.maxLocals = 7) (hown : s.vm.findClass RL = some m.cls) (hts : ∀ w ∈ wsL_law, w.before #[Value.ref b] s = true) (hE : XE A s s.heap) (hK : va_K D vwCl (tysG cs) s) (hA : ∀ q, s.heap.size ≤ q → A q) (hX : va_X b L xs s s.heap) (hbl : b < s.heap.size) (hbA : ¬ A b) {i : Int32} (v1 : vp_in (i + (1 : Int32)) L) (v2 : vp_in (i + (2 : Int32)) L) (v3 : vp_in (i + (3 : Int32)) L) (v4 : vp_in (i + (4 : Int32)) L) {σ : LH} {τ : MD} (g : Inv σ.1 τ) {H : Heap} {locs : List Loc} {ls : Array Slot} {cells slots : Nat} (hc1 : cells + 1 ≤ 1088 ∧ slots + 6 ≤ 9123) (hP : va_P D vwCl (ws_LW cs a d (σ, τ)) H) (hD : va_D A (ws_LW cs a d (σ, τ))) (hS : va_S A s.heap H locs) (hl : lv_has ls 7 [(0, .ref b), (1, .ref (a 0)), (2, .ref (d 0)), (3, .ref (a 21)), (4, .int i)]) (kk : ∀ (σ' : LH) (τ' : MD) (H : Heap) (locs : List Loc) (ls : Array Slot), Inv σ'.1 τ' → lv_has ls 7 [(0, .ref b), (1, .ref (a 0)), (2, .ref (d 0)), (3, .ref (a 21)), (4, .int i)] → va_P D vwCl (ws_LW cs a d (σ', τ')) H → va_D A (ws_LW cs a d (σ', τ')) → va_S A s.heap H locs → W p l e room_1 s m #[Value.ref b] below meth c H locs (cells + 1) (slots + 6) Q (F0 m 1197 ls [])) : W p l e room_1 s m #[Value.ref b] below meth c H locs cells slots Q (F0 m 401 ls []) := by
  obtain ⟨k9, r9, P9, Q9, hI9, w1, w2⟩ := rl_height g (xs (i + (1 : Int32)).toNatClampNeg)
  refine lv_aload_n hx hb dL_law_401 rfl (lv_at hl 1 rfl) ?_
  refine lv_aload_n hx hb dL_law_402 rfl (lv_at hl 0 rfl) ?_
  refine lv_iload hx hb dL_law_403 (lv_at hl 4 rfl) ?_
  refine lv_iconst (v := (1 : Int32)) hx hb dL_law_405 (by decide) ?_
  refine lv_iadd hx hb dL_law_406 ?_
  refine va_sld hx hb hX hbl hbA hS v1 dL_law_407 ?_
  refine lv_aload_n hx hb dL_law_408 rfl (lv_at hl 3 rfl) ?_
  refine kLi (As := [.ref (a 0), .int (xs (i + (1 : Int32)).toNatClampNeg), .ref (a 21)]) (rest := []) ⟨hx, hb, hml, hown, hts⟩ hE (c_L_height l hfl D cs a _ σ (xs (i + (1 : Int32)).toNatClampNeg) (w1 (fun k z => k = k9 ∧ P9 z) (fun z q => ⟨rfl, q⟩))) (vx_cwSW 3 hts gL_law_L_height rfl rfl rfl (by decide +kernel) ⟨Nat.le_of_ble_eq_true rfl, Nat.le_of_ble_eq_true rfl⟩) (pt_LW_lh cs a d σ τ) hK hP hD hS hA rfl hl.1 rfl (Nat.le_of_ble_eq_true rfl) dL_law_409 hc1 (fun r u1 H locs hw hP hD hS => ?_)
  obtain ⟨rfl, hw⟩ := hw
  have hP : va_P D vwCl (ws_LW cs a d (u1, τ)) H := hP
  have hD : va_D A (ws_LW cs a d (u1, τ)) := hD
  refine lv_istore (lv' := [(5, .int r), (0, .ref b), (1, .ref (a 0)), (2, .ref (d 0)), (3, .ref (a 21)), (4, .int i)]) hx hb dL_law_412 hl (by decide) rfl (fun ls hl => ?_)
  refine lv_aload_n hx hb dL_law_414 rfl (lv_at hl 3 rfl) ?_
  refine lv_aload_n hx hb dL_law_415 rfl (lv_at hl 1 rfl) ?_
  refine lv_iload hx hb dL_law_416 (lv_at hl 5 rfl) ?_
  refine lv_iconst (v := (1 : Int32)) hx hb dL_law_418 (by decide) ?_
  refine lv_iadd hx hb dL_law_419 ?_
  refine va_sld hx hb hX hbl hbA hS v1 dL_law_420 ?_
  refine kVi (As := [.int (xs (i + (1 : Int32)).toNatClampNeg)]) (rest := []) ⟨hx, hb, hml, hown, hts⟩ (c_M_height l D cs d _ τ (xs (i + (1 : Int32)).toNatClampNeg) (w2 (fun b u => Q9 b u) (fun b u q => q))) (cwV 1 hts gL_law_X4_height rfl rfl rfl (by decide +kernel) ⟨Nat.le_of_ble_eq_true rfl, Nat.le_of_ble_eq_true rfl⟩) (pt_LW_md cs a d u1 τ) hK hP hD hS hA (ci := 4) rfl rfl rfl rfl hl.1 rfl (Nat.le_of_ble_eq_true rfl) dL_law_421 hc1 (fun r2 u2 H locs hq hP hD hS => ?_)
  have hP : va_P D vwCl (ws_LW cs a d (u1, u2)) H := hP
  have hD : va_D A (ws_LW cs a d (u1, u2)) := hD
  obtain ⟨hI, ht9, h09⟩ := hI9 u1 u2 r2 hw hq
  refine lv_istore (lv' := [(6, .int r2), (5, .int r), (0, .ref b), (1, .ref (a 0)), (2, .ref (d 0)), (3, .ref (a 21)), (4, .int i)]) hx hb dL_law_424 hl (by decide) rfl (fun ls hl => ?_)
  refine lv_aload_n hx hb dL_law_426 rfl (lv_at hl 4 rfl) ?_
  refine kVi (As := []) (rest := []) ⟨hx, hb, hml, hown, hts⟩ (c_M_thrown l D cs d _ u2 (Φ := fun r3 u3 => r3 = g_MD_thrown u2 ∧ u3 = u2) ⟨rfl, rfl⟩) (cwV 0 hts gL_law_X4_thrown rfl rfl rfl (by decide +kernel) ⟨Nat.le_of_ble_eq_true rfl, Nat.le_of_ble_eq_true rfl⟩) (pt_LW_md cs a d u1 u2) hK hP hD hS hA (ci := 4) rfl rfl rfl rfl hl.1 rfl (Nat.le_of_ble_eq_true rfl) dL_law_427 hc1 (fun r3 u3 H locs hq3 hP hD hS => ?_)
  obtain ⟨q3a, q3b⟩ := hq3
  rw [q3a]
  rw [q3b] at hP hD
  have hP : va_P D vwCl (ws_LW cs a d (u1, u2)) H := hP
  have hD : va_D A (ws_LW cs a d (u1, u2)) := hD
  refine lv_iload hx hb dL_law_430 (lv_at hl 1 rfl) ?_
  refine lv_icmp_eq (tgt := 437) hx hb dL_law_432 (by decide) (fun c9 => ?_) (fun c9 => absurd ht9 c9)
  refine lv_iload hx hb dL_law_437 (lv_at hl 1 rfl) ?_
  refine lv_if_ne (tgt := 454) hx hb dL_law_439 (by decide) (fun c9 => ?_) (fun c9 => ?_)
  · exact lv_goto (tgt := 1197) hx hb dL_law_454 (by decide) (kk u1 u2 H locs ls hI (lv_sub hl [2, 3, 4, 5, 6] rfl) hP hD hS)
  · obtain ⟨e1, e2⟩ := h09 c9
    subst e1
    refine lv_aload_n hx hb dL_law_442 rfl (lv_at hl 5 rfl) ?_
    refine lv_iconst (v := (0 : Int32)) hx hb dL_law_443 (by decide) ?_
    refine va_lald (n := 1) (f := g_LH_out u1) hx hb hK hP 21 2 rfl rfl (vp_in_nI (n := 0) (by omega) (by omega)) dL_law_444 ?_
    have e2 : g_LH_out u1 (0 : Int32).toNatClampNeg = Int32.toInt64 r2 := e2
    rw [e2]
    refine lv_iload hx hb dL_law_445 (lv_at hl 0 rfl) ?_
    refine lv_i2l (v := Int32.toInt64 r2) hx hb dL_law_447 rfl ?_
    refine W.lcmp hx hb dL_law_448 ?_
    rw [lg_same]
    refine lv_if_eq (tgt := 454) hx hb dL_law_449 (by decide) (fun _ => ?_) (fun c9 => absurd rfl c9)
    exact lv_goto (tgt := 1197) hx hb dL_law_454 (by decide) (kk u1 u2 H locs ls hI (lv_sub hl [2, 3, 4, 5, 6] rfl) hP hD hS)
set_option maxHeartbeats 4000000 in
theorem k_at {p : Program} {l : Launch} {e : Env} {s : State} {m : MethodId} {below : List Frame} {meth : Method} {c : Code} {b L : Nat} {xs : Nat → Int32} {D : va_G} {cs : CS} {a d : Nat → Nat} {A : Nat → Prop} {Q : State → Prop} (hfl : l.stackTraces = false) (hx : p.tables.exec = Jvm.exec) (hb : c.code = cL_law) (hml : c.maxLocals = 7) (hown : s.vm.findClass RL = some m.cls) (hts : ∀ w ∈ wsL_law, w.before #[Value.ref b] s = true) (hE : XE A s s.heap) (hK : va_K D vwCl (tysG cs) s) (hA : ∀ q, s.heap.size ≤ q → A q) (hX : va_X b L xs s s.heap) (hbl : b < s.heap.size) (hbA : ¬ A b) {i : Int32} (v1 : vp_in (i + (1 : Int32)) L) (v2 : vp_in (i + (2 : Int32)) L) (v3 : vp_in (i + (3 : Int32)) L) (v4 : vp_in (i + (4 : Int32)) L) {σ : LH} {τ : MD} (g : Inv σ.1 τ) {H : Heap} {locs : List Loc} {ls : Array Slot} {cells slots : Nat} (hc1 : cells + 1 ≤ 1088 ∧ slots + 6 ≤ 9123) (hP : va_P D vwCl (ws_LW cs a d (σ, τ)) H) (hD : va_D A (ws_LW cs a d (σ, τ))) (hS : va_S A s.heap H locs) (hl : lv_has ls 7 [(0, .ref b), (1, .ref (a 0)), (2, .ref (d 0)), (3, .ref (a 21)), (4, .int i)]) (kk : ∀ (σ' : LH) (τ' : MD) (H : Heap) (locs : List Loc) (ls : Array Slot), Inv σ'.1 τ' → lv_has ls 7 [(0, .ref b), (1, .ref (a 0)), (2, .ref (d 0)), (3, .ref (a 21)), (4, .int i)] → va_P D vwCl (ws_LW cs a d (σ', τ')) H → va_D A (ws_LW cs a d (σ', τ')) → va_S A s.heap H locs → W p l e room_1 s m #[Value.ref b] below meth c H locs (cells + 1) (slots + 6) Q (F0 m 1197 ls [])) : W p l e room_1 s m #[Value.ref b] below meth c H locs cells slots Q (F0 m 457 ls []) := by
  obtain ⟨k9, r9, P9, Q9, hI9, w1, w2⟩ := rl_at g (xs (i + (1 : Int32)).toNatClampNeg) (xs (i + (2 : Int32)).toNatClampNeg)
  refine lv_aload_n hx hb dL_law_457 rfl (lv_at hl 1 rfl) ?_
  refine lv_aload_n hx hb dL_law_458 rfl (lv_at hl 0 rfl) ?_
  refine lv_iload hx hb dL_law_459 (lv_at hl 4 rfl) ?_
  refine lv_iconst (v := (1 : Int32)) hx hb dL_law_461 (by decide) ?_
  refine lv_iadd hx hb dL_law_462 ?_
  refine va_sld hx hb hX hbl hbA hS v1 dL_law_463 ?_
  refine lv_aload_n hx hb dL_law_464 rfl (lv_at hl 0 rfl) ?_
  refine lv_iload hx hb dL_law_465 (lv_at hl 4 rfl) ?_
  refine lv_iconst (v := (2 : Int32)) hx hb dL_law_467 (by decide) ?_
  refine lv_iadd hx hb dL_law_468 ?_
  refine va_sld hx hb hX hbl hbA hS v2 dL_law_469 ?_
  refine lv_aload_n hx hb dL_law_470 rfl (lv_at hl 3 rfl) ?_
  refine kLi (As := [.ref (a 0), .int (xs (i + (1 : Int32)).toNatClampNeg), .int (xs (i + (2 : Int32)).toNatClampNeg), .ref (a 21)]) (rest := []) ⟨hx, hb, hml, hown, hts⟩ hE (c_L_at l hfl D cs a _ σ (xs (i + (1 : Int32)).toNatClampNeg) (xs (i + (2 : Int32)).toNatClampNeg) (w1 (fun k z => k = k9 ∧ P9 z) (fun z q => ⟨rfl, q⟩))) (vx_cwSW 4 hts gL_law_L_at rfl rfl rfl (by decide +kernel) ⟨Nat.le_of_ble_eq_true rfl, Nat.le_of_ble_eq_true rfl⟩) (pt_LW_lh cs a d σ τ) hK hP hD hS hA rfl hl.1 rfl (Nat.le_of_ble_eq_true rfl) dL_law_471 hc1 (fun r u1 H locs hw hP hD hS => ?_)
  obtain ⟨rfl, hw⟩ := hw
  have hP : va_P D vwCl (ws_LW cs a d (u1, τ)) H := hP
  have hD : va_D A (ws_LW cs a d (u1, τ)) := hD
  refine lv_istore (lv' := [(5, .int r), (0, .ref b), (1, .ref (a 0)), (2, .ref (d 0)), (3, .ref (a 21)), (4, .int i)]) hx hb dL_law_474 hl (by decide) rfl (fun ls hl => ?_)
  refine lv_aload_n hx hb dL_law_476 rfl (lv_at hl 3 rfl) ?_
  refine lv_aload_n hx hb dL_law_477 rfl (lv_at hl 1 rfl) ?_
  refine lv_iload hx hb dL_law_478 (lv_at hl 5 rfl) ?_
  refine lv_iconst (v := (1 : Int32)) hx hb dL_law_480 (by decide) ?_
  refine lv_iadd hx hb dL_law_481 ?_
  refine va_sld hx hb hX hbl hbA hS v1 dL_law_482 ?_
  refine lv_aload_n hx hb dL_law_483 rfl (lv_at hl 1 rfl) ?_
  refine lv_iload hx hb dL_law_484 (lv_at hl 5 rfl) ?_
  refine lv_iconst (v := (2 : Int32)) hx hb dL_law_486 (by decide) ?_
  refine lv_iadd hx hb dL_law_487 ?_
  refine va_sld hx hb hX hbl hbA hS v2 dL_law_488 ?_
  refine kVi (As := [.int (xs (i + (1 : Int32)).toNatClampNeg), .int (xs (i + (2 : Int32)).toNatClampNeg)]) (rest := []) ⟨hx, hb, hml, hown, hts⟩ (c_M_at l D cs d _ τ (xs (i + (1 : Int32)).toNatClampNeg) (xs (i + (2 : Int32)).toNatClampNeg) (w2 (fun b u => Q9 b u) (fun b u q => q))) (cwV 2 hts gL_law_X4_at rfl rfl rfl (by decide +kernel) ⟨Nat.le_of_ble_eq_true rfl, Nat.le_of_ble_eq_true rfl⟩) (pt_LW_md cs a d u1 τ) hK hP hD hS hA (ci := 4) rfl rfl rfl rfl hl.1 rfl (Nat.le_of_ble_eq_true rfl) dL_law_489 hc1 (fun r2 u2 H locs hq hP hD hS => ?_)
  have hP : va_P D vwCl (ws_LW cs a d (u1, u2)) H := hP
  have hD : va_D A (ws_LW cs a d (u1, u2)) := hD
  obtain ⟨hI, ht9, h09⟩ := hI9 u1 u2 r2 hw hq
  refine lv_istore (lv' := [(6, .int r2), (5, .int r), (0, .ref b), (1, .ref (a 0)), (2, .ref (d 0)), (3, .ref (a 21)), (4, .int i)]) hx hb dL_law_492 hl (by decide) rfl (fun ls hl => ?_)
  refine lv_aload_n hx hb dL_law_494 rfl (lv_at hl 4 rfl) ?_
  refine kVi (As := []) (rest := []) ⟨hx, hb, hml, hown, hts⟩ (c_M_thrown l D cs d _ u2 (Φ := fun r3 u3 => r3 = g_MD_thrown u2 ∧ u3 = u2) ⟨rfl, rfl⟩) (cwV 0 hts gL_law_X4_thrown rfl rfl rfl (by decide +kernel) ⟨Nat.le_of_ble_eq_true rfl, Nat.le_of_ble_eq_true rfl⟩) (pt_LW_md cs a d u1 u2) hK hP hD hS hA (ci := 4) rfl rfl rfl rfl hl.1 rfl (Nat.le_of_ble_eq_true rfl) dL_law_495 hc1 (fun r3 u3 H locs hq3 hP hD hS => ?_)
  obtain ⟨q3a, q3b⟩ := hq3
  rw [q3a]
  rw [q3b] at hP hD
  have hP : va_P D vwCl (ws_LW cs a d (u1, u2)) H := hP
  have hD : va_D A (ws_LW cs a d (u1, u2)) := hD
  refine lv_iload hx hb dL_law_498 (lv_at hl 1 rfl) ?_
  refine lv_icmp_eq (tgt := 505) hx hb dL_law_500 (by decide) (fun c9 => ?_) (fun c9 => absurd ht9 c9)
  refine lv_iload hx hb dL_law_505 (lv_at hl 1 rfl) ?_
  refine lv_if_ne (tgt := 522) hx hb dL_law_507 (by decide) (fun c9 => ?_) (fun c9 => ?_)
  · exact lv_goto (tgt := 1197) hx hb dL_law_522 (by decide) (kk u1 u2 H locs ls hI (lv_sub hl [2, 3, 4, 5, 6] rfl) hP hD hS)
  · obtain ⟨e1, e2⟩ := h09 c9
    subst e1
    refine lv_aload_n hx hb dL_law_510 rfl (lv_at hl 5 rfl) ?_
    refine lv_iconst (v := (0 : Int32)) hx hb dL_law_511 (by decide) ?_
    refine va_lald (n := 1) (f := g_LH_out u1) hx hb hK hP 21 2 rfl rfl (vp_in_nI (n := 0) (by omega) (by omega)) dL_law_512 ?_
    have e2 : g_LH_out u1 (0 : Int32).toNatClampNeg = Int32.toInt64 r2 := e2
    rw [e2]
    refine lv_iload hx hb dL_law_513 (lv_at hl 0 rfl) ?_
    refine lv_i2l (v := Int32.toInt64 r2) hx hb dL_law_515 rfl ?_
    refine W.lcmp hx hb dL_law_516 ?_
    rw [lg_same]
    refine lv_if_eq (tgt := 522) hx hb dL_law_517 (by decide) (fun _ => ?_) (fun c9 => absurd rfl c9)
    exact lv_goto (tgt := 1197) hx hb dL_law_522 (by decide) (kk u1 u2 H locs ls hI (lv_sub hl [2, 3, 4, 5, 6] rfl) hP hD hS)
set_option maxHeartbeats 4000000 in
theorem k_stackOf {p : Program} {l : Launch} {e : Env} {s : State} {m : MethodId} {below : List Frame} {meth : Method} {c : Code} {b L : Nat} {xs : Nat → Int32} {D : va_G} {cs : CS} {a d : Nat → Nat} {A : Nat → Prop} {Q : State → Prop} (hfl : l.stackTraces = false) (hx : p.tables.exec = Jvm.exec) (hb : c.code = cL_law) (hml : c.maxLocals = 7) (hown : s.vm.findClass RL = some m.cls) (hts : ∀ w ∈ wsL_law, w.before #[Value.ref b] s = true) (hE : XE A s s.heap) (hK : va_K D vwCl (tysG cs) s) (hA : ∀ q, s.heap.size ≤ q → A q) (hX : va_X b L xs s s.heap) (hbl : b < s.heap.size) (hbA : ¬ A b) {i : Int32} (v1 : vp_in (i + (1 : Int32)) L) (v2 : vp_in (i + (2 : Int32)) L) (v3 : vp_in (i + (3 : Int32)) L) (v4 : vp_in (i + (4 : Int32)) L) {σ : LH} {τ : MD} (g : Inv σ.1 τ) {H : Heap} {locs : List Loc} {ls : Array Slot} {cells slots : Nat} (hc1 : cells + 1 ≤ 1088 ∧ slots + 6 ≤ 9123) (hP : va_P D vwCl (ws_LW cs a d (σ, τ)) H) (hD : va_D A (ws_LW cs a d (σ, τ))) (hS : va_S A s.heap H locs) (hl : lv_has ls 7 [(0, .ref b), (1, .ref (a 0)), (2, .ref (d 0)), (3, .ref (a 21)), (4, .int i)]) (kk : ∀ (σ' : LH) (τ' : MD) (H : Heap) (locs : List Loc) (ls : Array Slot), Inv σ'.1 τ' → lv_has ls 7 [(0, .ref b), (1, .ref (a 0)), (2, .ref (d 0)), (3, .ref (a 21)), (4, .int i)] → va_P D vwCl (ws_LW cs a d (σ', τ')) H → va_D A (ws_LW cs a d (σ', τ')) → va_S A s.heap H locs → W p l e room_1 s m #[Value.ref b] below meth c H locs (cells + 1) (slots + 6) Q (F0 m 1197 ls [])) : W p l e room_1 s m #[Value.ref b] below meth c H locs cells slots Q (F0 m 525 ls []) := by
  obtain ⟨k9, r9, P9, Q9, hI9, w1, w2⟩ := rl_stackOf g (xs (i + (1 : Int32)).toNatClampNeg)
  refine lv_aload_n hx hb dL_law_525 rfl (lv_at hl 1 rfl) ?_
  refine lv_aload_n hx hb dL_law_526 rfl (lv_at hl 0 rfl) ?_
  refine lv_iload hx hb dL_law_527 (lv_at hl 4 rfl) ?_
  refine lv_iconst (v := (1 : Int32)) hx hb dL_law_529 (by decide) ?_
  refine lv_iadd hx hb dL_law_530 ?_
  refine va_sld hx hb hX hbl hbA hS v1 dL_law_531 ?_
  refine lv_aload_n hx hb dL_law_532 rfl (lv_at hl 3 rfl) ?_
  refine kLi (As := [.ref (a 0), .int (xs (i + (1 : Int32)).toNatClampNeg), .ref (a 21)]) (rest := []) ⟨hx, hb, hml, hown, hts⟩ hE (c_L_stackOf l hfl D cs a _ σ (xs (i + (1 : Int32)).toNatClampNeg) (w1 (fun k z => k = k9 ∧ P9 z) (fun z q => ⟨rfl, q⟩))) (vx_cwSW 3 hts gL_law_L_stackOf rfl rfl rfl (by decide +kernel) ⟨Nat.le_of_ble_eq_true rfl, Nat.le_of_ble_eq_true rfl⟩) (pt_LW_lh cs a d σ τ) hK hP hD hS hA rfl hl.1 rfl (Nat.le_of_ble_eq_true rfl) dL_law_533 hc1 (fun r u1 H locs hw hP hD hS => ?_)
  obtain ⟨rfl, hw⟩ := hw
  have hP : va_P D vwCl (ws_LW cs a d (u1, τ)) H := hP
  have hD : va_D A (ws_LW cs a d (u1, τ)) := hD
  refine lv_istore (lv' := [(5, .int r), (0, .ref b), (1, .ref (a 0)), (2, .ref (d 0)), (3, .ref (a 21)), (4, .int i)]) hx hb dL_law_536 hl (by decide) rfl (fun ls hl => ?_)
  refine lv_aload_n hx hb dL_law_538 rfl (lv_at hl 3 rfl) ?_
  refine lv_aload_n hx hb dL_law_539 rfl (lv_at hl 1 rfl) ?_
  refine lv_iload hx hb dL_law_540 (lv_at hl 5 rfl) ?_
  refine lv_iconst (v := (1 : Int32)) hx hb dL_law_542 (by decide) ?_
  refine lv_iadd hx hb dL_law_543 ?_
  refine va_sld hx hb hX hbl hbA hS v1 dL_law_544 ?_
  refine kVi (As := [.int (xs (i + (1 : Int32)).toNatClampNeg)]) (rest := []) ⟨hx, hb, hml, hown, hts⟩ (c_M_stackOf l D cs d _ τ (xs (i + (1 : Int32)).toNatClampNeg) (w2 (fun b u => Q9 b u) (fun b u q => q))) (cwV 1 hts gL_law_X4_stackOf rfl rfl rfl (by decide +kernel) ⟨Nat.le_of_ble_eq_true rfl, Nat.le_of_ble_eq_true rfl⟩) (pt_LW_md cs a d u1 τ) hK hP hD hS hA (ci := 4) rfl rfl rfl rfl hl.1 rfl (Nat.le_of_ble_eq_true rfl) dL_law_545 hc1 (fun r2 u2 H locs hq hP hD hS => ?_)
  have hP : va_P D vwCl (ws_LW cs a d (u1, u2)) H := hP
  have hD : va_D A (ws_LW cs a d (u1, u2)) := hD
  obtain ⟨hI, ht9, h09⟩ := hI9 u1 u2 r2 hw hq
  refine lv_istore (lv' := [(6, .int r2), (5, .int r), (0, .ref b), (1, .ref (a 0)), (2, .ref (d 0)), (3, .ref (a 21)), (4, .int i)]) hx hb dL_law_548 hl (by decide) rfl (fun ls hl => ?_)
  refine lv_aload_n hx hb dL_law_550 rfl (lv_at hl 4 rfl) ?_
  refine kVi (As := []) (rest := []) ⟨hx, hb, hml, hown, hts⟩ (c_M_thrown l D cs d _ u2 (Φ := fun r3 u3 => r3 = g_MD_thrown u2 ∧ u3 = u2) ⟨rfl, rfl⟩) (cwV 0 hts gL_law_X4_thrown rfl rfl rfl (by decide +kernel) ⟨Nat.le_of_ble_eq_true rfl, Nat.le_of_ble_eq_true rfl⟩) (pt_LW_md cs a d u1 u2) hK hP hD hS hA (ci := 4) rfl rfl rfl rfl hl.1 rfl (Nat.le_of_ble_eq_true rfl) dL_law_551 hc1 (fun r3 u3 H locs hq3 hP hD hS => ?_)
  obtain ⟨q3a, q3b⟩ := hq3
  rw [q3a]
  rw [q3b] at hP hD
  have hP : va_P D vwCl (ws_LW cs a d (u1, u2)) H := hP
  have hD : va_D A (ws_LW cs a d (u1, u2)) := hD
  refine lv_iload hx hb dL_law_554 (lv_at hl 1 rfl) ?_
  refine lv_icmp_eq (tgt := 561) hx hb dL_law_556 (by decide) (fun c9 => ?_) (fun c9 => absurd ht9 c9)
  refine lv_iload hx hb dL_law_561 (lv_at hl 1 rfl) ?_
  refine lv_if_ne (tgt := 578) hx hb dL_law_563 (by decide) (fun c9 => ?_) (fun c9 => ?_)
  · exact lv_goto (tgt := 1197) hx hb dL_law_578 (by decide) (kk u1 u2 H locs ls hI (lv_sub hl [2, 3, 4, 5, 6] rfl) hP hD hS)
  · obtain ⟨e1, e2⟩ := h09 c9
    subst e1
    refine lv_aload_n hx hb dL_law_566 rfl (lv_at hl 5 rfl) ?_
    refine lv_iconst (v := (0 : Int32)) hx hb dL_law_567 (by decide) ?_
    refine va_lald (n := 1) (f := g_LH_out u1) hx hb hK hP 21 2 rfl rfl (vp_in_nI (n := 0) (by omega) (by omega)) dL_law_568 ?_
    have e2 : g_LH_out u1 (0 : Int32).toNatClampNeg = Int32.toInt64 r2 := e2
    rw [e2]
    refine lv_iload hx hb dL_law_569 (lv_at hl 0 rfl) ?_
    refine lv_i2l (v := Int32.toInt64 r2) hx hb dL_law_571 rfl ?_
    refine W.lcmp hx hb dL_law_572 ?_
    rw [lg_same]
    refine lv_if_eq (tgt := 578) hx hb dL_law_573 (by decide) (fun _ => ?_) (fun c9 => absurd rfl c9)
    exact lv_goto (tgt := 1197) hx hb dL_law_578 (by decide) (kk u1 u2 H locs ls hI (lv_sub hl [2, 3, 4, 5, 6] rfl) hP hD hS)
set_option maxHeartbeats 4000000 in
theorem k_lifts {p : Program} {l : Launch} {e : Env} {s : State} {m : MethodId} {below : List Frame} {meth : Method} {c : Code} {b L : Nat} {xs : Nat → Int32} {D : va_G} {cs : CS} {a d : Nat → Nat} {A : Nat → Prop} {Q : State → Prop} (hfl : l.stackTraces = false) (hx : p.tables.exec = Jvm.exec) (hb : c.code = cL_law) (hml : c.maxLocals = 7) (hown : s.vm.findClass RL = some m.cls) (hts : ∀ w ∈ wsL_law, w.before #[Value.ref b] s = true) (hE : XE A s s.heap) (hK : va_K D vwCl (tysG cs) s) (hA : ∀ q, s.heap.size ≤ q → A q) (hX : va_X b L xs s s.heap) (hbl : b < s.heap.size) (hbA : ¬ A b) {i : Int32} (v1 : vp_in (i + (1 : Int32)) L) (v2 : vp_in (i + (2 : Int32)) L) (v3 : vp_in (i + (3 : Int32)) L) (v4 : vp_in (i + (4 : Int32)) L) {σ : LH} {τ : MD} (g : Inv σ.1 τ) {H : Heap} {locs : List Loc} {ls : Array Slot} {cells slots : Nat} (hc1 : cells + 1 ≤ 1088 ∧ slots + 6 ≤ 9123) (hP : va_P D vwCl (ws_LW cs a d (σ, τ)) H) (hD : va_D A (ws_LW cs a d (σ, τ))) (hS : va_S A s.heap H locs) (hl : lv_has ls 7 [(0, .ref b), (1, .ref (a 0)), (2, .ref (d 0)), (3, .ref (a 21)), (4, .int i)]) (kk : ∀ (σ' : LH) (τ' : MD) (H : Heap) (locs : List Loc) (ls : Array Slot), Inv σ'.1 τ' → lv_has ls 7 [(0, .ref b), (1, .ref (a 0)), (2, .ref (d 0)), (3, .ref (a 21)), (4, .int i)] → va_P D vwCl (ws_LW cs a d (σ', τ')) H → va_D A (ws_LW cs a d (σ', τ')) → va_S A s.heap H locs → W p l e room_1 s m #[Value.ref b] below meth c H locs (cells + 1) (slots + 6) Q (F0 m 1197 ls [])) : W p l e room_1 s m #[Value.ref b] below meth c H locs cells slots Q (F0 m 581 ls []) := by
  obtain ⟨h, c9, w, le, n, cr, lc, ltr, len, p9, m9, s9, lo, ld, st, pri, bd, q, pp, ow, d9, sy, fe, tr, lids, th, td, tdh, g, e1, e2⟩ := g
  obtain ⟨r9, σ9, τ9, hI, w1, w2⟩ := st_lifts (tr := tr) (lids := lids) (th := th) (td := td) (tdh := tdh) (w := w) (le := le) (lc := lc) (s := s9) (lo := lo) (ld := ld) (fe := fe) g
  rw [← e1] at w1
  rw [← e2] at w2
  refine lv_aload_n hx hb dL_law_581 rfl (lv_at hl 1 rfl) ?_
  refine kVi (As := []) (rest := []) ⟨hx, hb, hml, hown, hts⟩ (c_C_lifts l D cs a _ σ.1 (w1 (fun r u => r = r9 ∧ u = σ9) ⟨rfl, rfl⟩)) (cwV 0 hts gL_law_X3_lifts rfl rfl rfl (by decide +kernel) ⟨Nat.le_of_ble_eq_true rfl, Nat.le_of_ble_eq_true rfl⟩) (pt_LW_cy cs a d σ τ) hK hP hD hS hA (ci := 3) rfl rfl rfl rfl hl.1 rfl (Nat.le_of_ble_eq_true rfl) dL_law_582 ⟨Nat.le_of_lt hc1.1, Nat.le_trans (Nat.le_add_right _ 6) hc1.2⟩ (fun r1 u1 H locs hw hP hD hS => ?_)
  obtain ⟨rfl, rfl⟩ := hw
  have hP : va_P D vwCl (ws_LW cs a d (s_LH_cy σ u1, τ)) H := hP
  have hD : va_D A (ws_LW cs a d (s_LH_cy σ u1, τ)) := hD
  refine lv_aload_n hx hb dL_law_585 rfl (lv_at hl 2 rfl) ?_
  refine kVi (As := []) (rest := [.int r1]) ⟨hx, hb, hml, hown, hts⟩ (c_M_lifts l D cs d _ τ (w2 (fun r u => r = r1 ∧ u = τ9) ⟨rfl, rfl⟩)) (cwV 0 hts gL_law_X4_lifts rfl rfl rfl (by decide +kernel) ⟨Nat.le_of_ble_eq_true rfl, Nat.le_of_ble_eq_true rfl⟩) (pt_LW_md cs a d (s_LH_cy σ u1) τ) hK hP hD hS hA (ci := 4) rfl rfl rfl rfl hl.1 rfl (Nat.le_of_ble_eq_true rfl) dL_law_586 ⟨Nat.le_of_lt hc1.1, Nat.le_trans (Nat.le_add_right _ 6) hc1.2⟩ (fun r2 u2 H locs hw hP hD hS => ?_)
  obtain ⟨rfl, rfl⟩ := hw
  have hP : va_P D vwCl (ws_LW cs a d (s_LH_cy σ u1, u2)) H := hP
  have hD : va_D A (ws_LW cs a d (s_LH_cy σ u1, u2)) := hD
  refine lv_icmp_eq (tgt := 1197) hx hb dL_law_589 (by decide) (fun _ => ?_) (fun c9 => absurd rfl c9)
  exact W.widen (k := cells + 1) (n := slots + 6) (Nat.le_succ _) (Nat.le_add_right _ 6) (kk (s_LH_cy σ u1) u2 H locs ls hI hl hP hD hS)
set_option maxHeartbeats 4000000 in
theorem k_fewestLifts {p : Program} {l : Launch} {e : Env} {s : State} {m : MethodId} {below : List Frame} {meth : Method} {c : Code} {b L : Nat} {xs : Nat → Int32} {D : va_G} {cs : CS} {a d : Nat → Nat} {A : Nat → Prop} {Q : State → Prop} (hfl : l.stackTraces = false) (hx : p.tables.exec = Jvm.exec) (hb : c.code = cL_law) (hml : c.maxLocals = 7) (hown : s.vm.findClass RL = some m.cls) (hts : ∀ w ∈ wsL_law, w.before #[Value.ref b] s = true) (hE : XE A s s.heap) (hK : va_K D vwCl (tysG cs) s) (hA : ∀ q, s.heap.size ≤ q → A q) (hX : va_X b L xs s s.heap) (hbl : b < s.heap.size) (hbA : ¬ A b) {i : Int32} (v1 : vp_in (i + (1 : Int32)) L) (v2 : vp_in (i + (2 : Int32)) L) (v3 : vp_in (i + (3 : Int32)) L) (v4 : vp_in (i + (4 : Int32)) L) {σ : LH} {τ : MD} (g : Inv σ.1 τ) {H : Heap} {locs : List Loc} {ls : Array Slot} {cells slots : Nat} (hc1 : cells + 1 ≤ 1088 ∧ slots + 6 ≤ 9123) (hP : va_P D vwCl (ws_LW cs a d (σ, τ)) H) (hD : va_D A (ws_LW cs a d (σ, τ))) (hS : va_S A s.heap H locs) (hl : lv_has ls 7 [(0, .ref b), (1, .ref (a 0)), (2, .ref (d 0)), (3, .ref (a 21)), (4, .int i)]) (kk : ∀ (σ' : LH) (τ' : MD) (H : Heap) (locs : List Loc) (ls : Array Slot), Inv σ'.1 τ' → lv_has ls 7 [(0, .ref b), (1, .ref (a 0)), (2, .ref (d 0)), (3, .ref (a 21)), (4, .int i)] → va_P D vwCl (ws_LW cs a d (σ', τ')) H → va_D A (ws_LW cs a d (σ', τ')) → va_S A s.heap H locs → W p l e room_1 s m #[Value.ref b] below meth c H locs (cells + 1) (slots + 6) Q (F0 m 1197 ls [])) : W p l e room_1 s m #[Value.ref b] below meth c H locs cells slots Q (F0 m 594 ls []) := by
  obtain ⟨k9, r9, P9, Q9, hI9, w1, w2⟩ := rl_fewestLifts g (xs (i + (1 : Int32)).toNatClampNeg)
  refine lv_aload_n hx hb dL_law_594 rfl (lv_at hl 1 rfl) ?_
  refine lv_aload_n hx hb dL_law_595 rfl (lv_at hl 0 rfl) ?_
  refine lv_iload hx hb dL_law_596 (lv_at hl 4 rfl) ?_
  refine lv_iconst (v := (1 : Int32)) hx hb dL_law_598 (by decide) ?_
  refine lv_iadd hx hb dL_law_599 ?_
  refine va_sld hx hb hX hbl hbA hS v1 dL_law_600 ?_
  refine lv_aload_n hx hb dL_law_601 rfl (lv_at hl 3 rfl) ?_
  refine kLi (As := [.ref (a 0), .int (xs (i + (1 : Int32)).toNatClampNeg), .ref (a 21)]) (rest := []) ⟨hx, hb, hml, hown, hts⟩ hE (c_L_fewestLifts l hfl D cs a _ σ (xs (i + (1 : Int32)).toNatClampNeg) (w1 (fun k z => k = k9 ∧ P9 z) (fun z q => ⟨rfl, q⟩))) (vx_cwSW 3 hts gL_law_L_fewestLifts rfl rfl rfl (by decide +kernel) ⟨Nat.le_of_ble_eq_true rfl, Nat.le_of_ble_eq_true rfl⟩) (pt_LW_lh cs a d σ τ) hK hP hD hS hA rfl hl.1 rfl (Nat.le_of_ble_eq_true rfl) dL_law_602 hc1 (fun r u1 H locs hw hP hD hS => ?_)
  obtain ⟨rfl, hw⟩ := hw
  have hP : va_P D vwCl (ws_LW cs a d (u1, τ)) H := hP
  have hD : va_D A (ws_LW cs a d (u1, τ)) := hD
  refine lv_istore (lv' := [(5, .int r), (0, .ref b), (1, .ref (a 0)), (2, .ref (d 0)), (3, .ref (a 21)), (4, .int i)]) hx hb dL_law_605 hl (by decide) rfl (fun ls hl => ?_)
  refine lv_aload_n hx hb dL_law_607 rfl (lv_at hl 3 rfl) ?_
  refine lv_aload_n hx hb dL_law_608 rfl (lv_at hl 1 rfl) ?_
  refine lv_iload hx hb dL_law_609 (lv_at hl 5 rfl) ?_
  refine lv_iconst (v := (1 : Int32)) hx hb dL_law_611 (by decide) ?_
  refine lv_iadd hx hb dL_law_612 ?_
  refine va_sld hx hb hX hbl hbA hS v1 dL_law_613 ?_
  refine kVi (As := [.int (xs (i + (1 : Int32)).toNatClampNeg)]) (rest := []) ⟨hx, hb, hml, hown, hts⟩ (c_M_fewestLifts l D cs d _ τ (xs (i + (1 : Int32)).toNatClampNeg) (w2 (fun b u => Q9 b u) (fun b u q => q))) (cwV 1 hts gL_law_X4_fewestLifts rfl rfl rfl (by decide +kernel) ⟨Nat.le_of_ble_eq_true rfl, Nat.le_of_ble_eq_true rfl⟩) (pt_LW_md cs a d u1 τ) hK hP hD hS hA (ci := 4) rfl rfl rfl rfl hl.1 rfl (Nat.le_of_ble_eq_true rfl) dL_law_614 hc1 (fun r2 u2 H locs hq hP hD hS => ?_)
  have hP : va_P D vwCl (ws_LW cs a d (u1, u2)) H := hP
  have hD : va_D A (ws_LW cs a d (u1, u2)) := hD
  obtain ⟨hI, ht9, h09⟩ := hI9 u1 u2 r2 hw hq
  refine lv_istore (lv' := [(6, .int r2), (5, .int r), (0, .ref b), (1, .ref (a 0)), (2, .ref (d 0)), (3, .ref (a 21)), (4, .int i)]) hx hb dL_law_617 hl (by decide) rfl (fun ls hl => ?_)
  refine lv_aload_n hx hb dL_law_619 rfl (lv_at hl 4 rfl) ?_
  refine kVi (As := []) (rest := []) ⟨hx, hb, hml, hown, hts⟩ (c_M_thrown l D cs d _ u2 (Φ := fun r3 u3 => r3 = g_MD_thrown u2 ∧ u3 = u2) ⟨rfl, rfl⟩) (cwV 0 hts gL_law_X4_thrown rfl rfl rfl (by decide +kernel) ⟨Nat.le_of_ble_eq_true rfl, Nat.le_of_ble_eq_true rfl⟩) (pt_LW_md cs a d u1 u2) hK hP hD hS hA (ci := 4) rfl rfl rfl rfl hl.1 rfl (Nat.le_of_ble_eq_true rfl) dL_law_620 hc1 (fun r3 u3 H locs hq3 hP hD hS => ?_)
  obtain ⟨q3a, q3b⟩ := hq3
  rw [q3a]
  rw [q3b] at hP hD
  have hP : va_P D vwCl (ws_LW cs a d (u1, u2)) H := hP
  have hD : va_D A (ws_LW cs a d (u1, u2)) := hD
  refine lv_iload hx hb dL_law_623 (lv_at hl 1 rfl) ?_
  refine lv_icmp_eq (tgt := 630) hx hb dL_law_625 (by decide) (fun c9 => ?_) (fun c9 => absurd ht9 c9)
  refine lv_iload hx hb dL_law_630 (lv_at hl 1 rfl) ?_
  refine lv_if_ne (tgt := 647) hx hb dL_law_632 (by decide) (fun c9 => ?_) (fun c9 => ?_)
  · exact lv_goto (tgt := 1197) hx hb dL_law_647 (by decide) (kk u1 u2 H locs ls hI (lv_sub hl [2, 3, 4, 5, 6] rfl) hP hD hS)
  · obtain ⟨e1, e2⟩ := h09 c9
    subst e1
    refine lv_aload_n hx hb dL_law_635 rfl (lv_at hl 5 rfl) ?_
    refine lv_iconst (v := (0 : Int32)) hx hb dL_law_636 (by decide) ?_
    refine va_lald (n := 1) (f := g_LH_out u1) hx hb hK hP 21 2 rfl rfl (vp_in_nI (n := 0) (by omega) (by omega)) dL_law_637 ?_
    have e2 : g_LH_out u1 (0 : Int32).toNatClampNeg = Int32.toInt64 r2 := e2
    rw [e2]
    refine lv_iload hx hb dL_law_638 (lv_at hl 0 rfl) ?_
    refine lv_i2l (v := Int32.toInt64 r2) hx hb dL_law_640 rfl ?_
    refine W.lcmp hx hb dL_law_641 ?_
    rw [lg_same]
    refine lv_if_eq (tgt := 647) hx hb dL_law_642 (by decide) (fun _ => ?_) (fun c9 => absurd rfl c9)
    exact lv_goto (tgt := 1197) hx hb dL_law_647 (by decide) (kk u1 u2 H locs ls hI (lv_sub hl [2, 3, 4, 5, 6] rfl) hP hD hS)
set_option maxHeartbeats 4000000 in
theorem k_tell {p : Program} {l : Launch} {e : Env} {s : State} {m : MethodId} {below : List Frame} {meth : Method} {c : Code} {b L : Nat} {xs : Nat → Int32} {D : va_G} {cs : CS} {a d : Nat → Nat} {A : Nat → Prop} {Q : State → Prop} (hfl : l.stackTraces = false) (hx : p.tables.exec = Jvm.exec) (hb : c.code = cL_law) (hml : c.maxLocals = 7) (hown : s.vm.findClass RL = some m.cls) (hts : ∀ w ∈ wsL_law, w.before #[Value.ref b] s = true) (hE : XE A s s.heap) (hK : va_K D vwCl (tysG cs) s) (hA : ∀ q, s.heap.size ≤ q → A q) (hX : va_X b L xs s s.heap) (hbl : b < s.heap.size) (hbA : ¬ A b) {i : Int32} (v1 : vp_in (i + (1 : Int32)) L) (v2 : vp_in (i + (2 : Int32)) L) (v3 : vp_in (i + (3 : Int32)) L) (v4 : vp_in (i + (4 : Int32)) L) {σ : LH} {τ : MD} (g : Inv σ.1 τ) {H : Heap} {locs : List Loc} {ls : Array Slot} {cells slots : Nat} (hc1 : cells + 1 ≤ 1088 ∧ slots + 6 ≤ 9123) (hP : va_P D vwCl (ws_LW cs a d (σ, τ)) H) (hD : va_D A (ws_LW cs a d (σ, τ))) (hS : va_S A s.heap H locs) (hl : lv_has ls 7 [(0, .ref b), (1, .ref (a 0)), (2, .ref (d 0)), (3, .ref (a 21)), (4, .int i)]) (kk : ∀ (σ' : LH) (τ' : MD) (H : Heap) (locs : List Loc) (ls : Array Slot), Inv σ'.1 τ' → lv_has ls 7 [(0, .ref b), (1, .ref (a 0)), (2, .ref (d 0)), (3, .ref (a 21)), (4, .int i)] → va_P D vwCl (ws_LW cs a d (σ', τ')) H → va_D A (ws_LW cs a d (σ', τ')) → va_S A s.heap H locs → W p l e room_1 s m #[Value.ref b] below meth c H locs (cells + 1) (slots + 6) Q (F0 m 1197 ls [])) : W p l e room_1 s m #[Value.ref b] below meth c H locs cells slots Q (F0 m 650 ls []) := by
  obtain ⟨k9, r9, P9, Q9, hI9, w1, w2⟩ := rl_tell g (xs (i + (1 : Int32)).toNatClampNeg) (xs (i + (2 : Int32)).toNatClampNeg) (xs (i + (3 : Int32)).toNatClampNeg) (xs (i + (4 : Int32)).toNatClampNeg)
  refine lv_aload_n hx hb dL_law_650 rfl (lv_at hl 1 rfl) ?_
  refine lv_aload_n hx hb dL_law_651 rfl (lv_at hl 0 rfl) ?_
  refine lv_iload hx hb dL_law_652 (lv_at hl 4 rfl) ?_
  refine lv_iconst (v := (1 : Int32)) hx hb dL_law_654 (by decide) ?_
  refine lv_iadd hx hb dL_law_655 ?_
  refine va_sld hx hb hX hbl hbA hS v1 dL_law_656 ?_
  refine lv_aload_n hx hb dL_law_657 rfl (lv_at hl 0 rfl) ?_
  refine lv_iload hx hb dL_law_658 (lv_at hl 4 rfl) ?_
  refine lv_iconst (v := (2 : Int32)) hx hb dL_law_660 (by decide) ?_
  refine lv_iadd hx hb dL_law_661 ?_
  refine va_sld hx hb hX hbl hbA hS v2 dL_law_662 ?_
  refine lv_aload_n hx hb dL_law_663 rfl (lv_at hl 0 rfl) ?_
  refine lv_iload hx hb dL_law_664 (lv_at hl 4 rfl) ?_
  refine lv_iconst (v := (3 : Int32)) hx hb dL_law_666 (by decide) ?_
  refine lv_iadd hx hb dL_law_667 ?_
  refine va_sld hx hb hX hbl hbA hS v3 dL_law_668 ?_
  refine lv_aload_n hx hb dL_law_669 rfl (lv_at hl 0 rfl) ?_
  refine lv_iload hx hb dL_law_670 (lv_at hl 4 rfl) ?_
  refine lv_iconst (v := (4 : Int32)) hx hb dL_law_672 (by decide) ?_
  refine lv_iadd hx hb dL_law_673 ?_
  refine va_sld hx hb hX hbl hbA hS v4 dL_law_674 ?_
  refine lv_aload_n hx hb dL_law_675 rfl (lv_at hl 3 rfl) ?_
  refine kLi (As := [.ref (a 0), .int (xs (i + (1 : Int32)).toNatClampNeg), .int (xs (i + (2 : Int32)).toNatClampNeg), .int (xs (i + (3 : Int32)).toNatClampNeg), .int (xs (i + (4 : Int32)).toNatClampNeg), .ref (a 21)]) (rest := []) ⟨hx, hb, hml, hown, hts⟩ hE (c_L_tell l hfl D cs a _ σ (xs (i + (1 : Int32)).toNatClampNeg) (xs (i + (2 : Int32)).toNatClampNeg) (xs (i + (3 : Int32)).toNatClampNeg) (xs (i + (4 : Int32)).toNatClampNeg) (w1 (fun k z => k = k9 ∧ P9 z) (fun z q => ⟨rfl, q⟩))) (vx_cwSW 6 hts gL_law_L_tell rfl rfl rfl (by decide +kernel) ⟨Nat.le_of_ble_eq_true rfl, Nat.le_of_ble_eq_true rfl⟩) (pt_LW_lh cs a d σ τ) hK hP hD hS hA rfl hl.1 rfl (Nat.le_of_ble_eq_true rfl) dL_law_676 hc1 (fun r u1 H locs hw hP hD hS => ?_)
  obtain ⟨rfl, hw⟩ := hw
  have hP : va_P D vwCl (ws_LW cs a d (u1, τ)) H := hP
  have hD : va_D A (ws_LW cs a d (u1, τ)) := hD
  refine lv_istore (lv' := [(5, .int r), (0, .ref b), (1, .ref (a 0)), (2, .ref (d 0)), (3, .ref (a 21)), (4, .int i)]) hx hb dL_law_679 hl (by decide) rfl (fun ls hl => ?_)
  refine lv_aload_n hx hb dL_law_681 rfl (lv_at hl 3 rfl) ?_
  refine lv_aload_n hx hb dL_law_682 rfl (lv_at hl 1 rfl) ?_
  refine lv_iload hx hb dL_law_683 (lv_at hl 5 rfl) ?_
  refine lv_iconst (v := (1 : Int32)) hx hb dL_law_685 (by decide) ?_
  refine lv_iadd hx hb dL_law_686 ?_
  refine va_sld hx hb hX hbl hbA hS v1 dL_law_687 ?_
  refine lv_aload_n hx hb dL_law_688 rfl (lv_at hl 1 rfl) ?_
  refine lv_iload hx hb dL_law_689 (lv_at hl 5 rfl) ?_
  refine lv_iconst (v := (2 : Int32)) hx hb dL_law_691 (by decide) ?_
  refine lv_iadd hx hb dL_law_692 ?_
  refine va_sld hx hb hX hbl hbA hS v2 dL_law_693 ?_
  refine lv_aload_n hx hb dL_law_694 rfl (lv_at hl 1 rfl) ?_
  refine lv_iload hx hb dL_law_695 (lv_at hl 5 rfl) ?_
  refine lv_iconst (v := (3 : Int32)) hx hb dL_law_697 (by decide) ?_
  refine lv_iadd hx hb dL_law_698 ?_
  refine va_sld hx hb hX hbl hbA hS v3 dL_law_699 ?_
  refine lv_aload_n hx hb dL_law_700 rfl (lv_at hl 1 rfl) ?_
  refine lv_iload hx hb dL_law_701 (lv_at hl 5 rfl) ?_
  refine lv_iconst (v := (4 : Int32)) hx hb dL_law_703 (by decide) ?_
  refine lv_iadd hx hb dL_law_704 ?_
  refine va_sld hx hb hX hbl hbA hS v4 dL_law_705 ?_
  refine kVi (As := [.int (xs (i + (1 : Int32)).toNatClampNeg), .int (xs (i + (2 : Int32)).toNatClampNeg), .int (xs (i + (3 : Int32)).toNatClampNeg), .int (xs (i + (4 : Int32)).toNatClampNeg)]) (rest := []) ⟨hx, hb, hml, hown, hts⟩ (c_M_tell l D cs d _ τ (xs (i + (1 : Int32)).toNatClampNeg) (xs (i + (2 : Int32)).toNatClampNeg) (xs (i + (3 : Int32)).toNatClampNeg) (xs (i + (4 : Int32)).toNatClampNeg) (w2 (fun b u => Q9 b u) (fun b u q => q))) (cwV 4 hts gL_law_X4_tell rfl rfl rfl (by decide +kernel) ⟨Nat.le_of_ble_eq_true rfl, Nat.le_of_ble_eq_true rfl⟩) (pt_LW_md cs a d u1 τ) hK hP hD hS hA (ci := 4) rfl rfl rfl rfl hl.1 rfl (Nat.le_of_ble_eq_true rfl) dL_law_706 hc1 (fun r2 u2 H locs hq hP hD hS => ?_)
  have hP : va_P D vwCl (ws_LW cs a d (u1, u2)) H := hP
  have hD : va_D A (ws_LW cs a d (u1, u2)) := hD
  obtain ⟨hI, ht9, h09⟩ := hI9 u1 u2 r2 hw hq
  refine lv_istore (lv' := [(6, .int r2), (5, .int r), (0, .ref b), (1, .ref (a 0)), (2, .ref (d 0)), (3, .ref (a 21)), (4, .int i)]) hx hb dL_law_709 hl (by decide) rfl (fun ls hl => ?_)
  refine lv_aload_n hx hb dL_law_711 rfl (lv_at hl 4 rfl) ?_
  refine kVi (As := []) (rest := []) ⟨hx, hb, hml, hown, hts⟩ (c_M_thrown l D cs d _ u2 (Φ := fun r3 u3 => r3 = g_MD_thrown u2 ∧ u3 = u2) ⟨rfl, rfl⟩) (cwV 0 hts gL_law_X4_thrown rfl rfl rfl (by decide +kernel) ⟨Nat.le_of_ble_eq_true rfl, Nat.le_of_ble_eq_true rfl⟩) (pt_LW_md cs a d u1 u2) hK hP hD hS hA (ci := 4) rfl rfl rfl rfl hl.1 rfl (Nat.le_of_ble_eq_true rfl) dL_law_712 hc1 (fun r3 u3 H locs hq3 hP hD hS => ?_)
  obtain ⟨q3a, q3b⟩ := hq3
  rw [q3a]
  rw [q3b] at hP hD
  have hP : va_P D vwCl (ws_LW cs a d (u1, u2)) H := hP
  have hD : va_D A (ws_LW cs a d (u1, u2)) := hD
  refine lv_iload hx hb dL_law_715 (lv_at hl 1 rfl) ?_
  refine lv_icmp_eq (tgt := 722) hx hb dL_law_717 (by decide) (fun c9 => ?_) (fun c9 => absurd ht9 c9)
  refine lv_iload hx hb dL_law_722 (lv_at hl 1 rfl) ?_
  refine lv_if_ne (tgt := 739) hx hb dL_law_724 (by decide) (fun c9 => ?_) (fun c9 => ?_)
  · exact lv_goto (tgt := 1197) hx hb dL_law_739 (by decide) (kk u1 u2 H locs ls hI (lv_sub hl [2, 3, 4, 5, 6] rfl) hP hD hS)
  · obtain ⟨e1, e2⟩ := h09 c9
    subst e1
    refine lv_aload_n hx hb dL_law_727 rfl (lv_at hl 5 rfl) ?_
    refine lv_iconst (v := (0 : Int32)) hx hb dL_law_728 (by decide) ?_
    refine va_lald (n := 1) (f := g_LH_out u1) hx hb hK hP 21 2 rfl rfl (vp_in_nI (n := 0) (by omega) (by omega)) dL_law_729 ?_
    have e2 : g_LH_out u1 (0 : Int32).toNatClampNeg = Int32.toInt64 r2 := e2
    rw [e2]
    refine lv_iload hx hb dL_law_730 (lv_at hl 0 rfl) ?_
    refine lv_i2l (v := Int32.toInt64 r2) hx hb dL_law_732 rfl ?_
    refine W.lcmp hx hb dL_law_733 ?_
    rw [lg_same]
    refine lv_if_eq (tgt := 739) hx hb dL_law_734 (by decide) (fun _ => ?_) (fun c9 => absurd rfl c9)
    exact lv_goto (tgt := 1197) hx hb dL_law_739 (by decide) (kk u1 u2 H locs ls hI (lv_sub hl [2, 3, 4, 5, 6] rfl) hP hD hS)
set_option maxHeartbeats 4000000 in
theorem k_hasPaid {p : Program} {l : Launch} {e : Env} {s : State} {m : MethodId} {below : List Frame} {meth : Method} {c : Code} {b L : Nat} {xs : Nat → Int32} {D : va_G} {cs : CS} {a d : Nat → Nat} {A : Nat → Prop} {Q : State → Prop} (hfl : l.stackTraces = false) (hx : p.tables.exec = Jvm.exec) (hb : c.code = cL_law) (hml : c.maxLocals = 7) (hown : s.vm.findClass RL = some m.cls) (hts : ∀ w ∈ wsL_law, w.before #[Value.ref b] s = true) (hE : XE A s s.heap) (hK : va_K D vwCl (tysG cs) s) (hA : ∀ q, s.heap.size ≤ q → A q) (hX : va_X b L xs s s.heap) (hbl : b < s.heap.size) (hbA : ¬ A b) {i : Int32} (v1 : vp_in (i + (1 : Int32)) L) (v2 : vp_in (i + (2 : Int32)) L) (v3 : vp_in (i + (3 : Int32)) L) (v4 : vp_in (i + (4 : Int32)) L) {σ : LH} {τ : MD} (g : Inv σ.1 τ) {H : Heap} {locs : List Loc} {ls : Array Slot} {cells slots : Nat} (hc1 : cells + 1 ≤ 1088 ∧ slots + 6 ≤ 9123) (hP : va_P D vwCl (ws_LW cs a d (σ, τ)) H) (hD : va_D A (ws_LW cs a d (σ, τ))) (hS : va_S A s.heap H locs) (hl : lv_has ls 7 [(0, .ref b), (1, .ref (a 0)), (2, .ref (d 0)), (3, .ref (a 21)), (4, .int i)]) (kk : ∀ (σ' : LH) (τ' : MD) (H : Heap) (locs : List Loc) (ls : Array Slot), Inv σ'.1 τ' → lv_has ls 7 [(0, .ref b), (1, .ref (a 0)), (2, .ref (d 0)), (3, .ref (a 21)), (4, .int i)] → va_P D vwCl (ws_LW cs a d (σ', τ')) H → va_D A (ws_LW cs a d (σ', τ')) → va_S A s.heap H locs → W p l e room_1 s m #[Value.ref b] below meth c H locs (cells + 1) (slots + 6) Q (F0 m 1197 ls [])) : W p l e room_1 s m #[Value.ref b] below meth c H locs cells slots Q (F0 m 742 ls []) := by
  obtain ⟨k9, r9, P9, Q9, hI9, w1, w2⟩ := rl_hasPaid g (xs (i + (1 : Int32)).toNatClampNeg)
  refine lv_aload_n hx hb dL_law_742 rfl (lv_at hl 1 rfl) ?_
  refine lv_aload_n hx hb dL_law_743 rfl (lv_at hl 0 rfl) ?_
  refine lv_iload hx hb dL_law_744 (lv_at hl 4 rfl) ?_
  refine lv_iconst (v := (1 : Int32)) hx hb dL_law_746 (by decide) ?_
  refine lv_iadd hx hb dL_law_747 ?_
  refine va_sld hx hb hX hbl hbA hS v1 dL_law_748 ?_
  refine lv_aload_n hx hb dL_law_749 rfl (lv_at hl 3 rfl) ?_
  refine kLi (As := [.ref (a 0), .int (xs (i + (1 : Int32)).toNatClampNeg), .ref (a 21)]) (rest := []) ⟨hx, hb, hml, hown, hts⟩ hE (c_L_hasPaid l hfl D cs a _ σ (xs (i + (1 : Int32)).toNatClampNeg) (w1 (fun k z => k = k9 ∧ P9 z) (fun z q => ⟨rfl, q⟩))) (vx_cwSW 3 hts gL_law_L_hasPaid rfl rfl rfl (by decide +kernel) ⟨Nat.le_of_ble_eq_true rfl, Nat.le_of_ble_eq_true rfl⟩) (pt_LW_lh cs a d σ τ) hK hP hD hS hA rfl hl.1 rfl (Nat.le_of_ble_eq_true rfl) dL_law_750 hc1 (fun r u1 H locs hw hP hD hS => ?_)
  obtain ⟨rfl, hw⟩ := hw
  have hP : va_P D vwCl (ws_LW cs a d (u1, τ)) H := hP
  have hD : va_D A (ws_LW cs a d (u1, τ)) := hD
  refine lv_istore (lv' := [(5, .int r), (0, .ref b), (1, .ref (a 0)), (2, .ref (d 0)), (3, .ref (a 21)), (4, .int i)]) hx hb dL_law_753 hl (by decide) rfl (fun ls hl => ?_)
  refine lv_aload_n hx hb dL_law_755 rfl (lv_at hl 3 rfl) ?_
  refine lv_aload_n hx hb dL_law_756 rfl (lv_at hl 1 rfl) ?_
  refine lv_iload hx hb dL_law_757 (lv_at hl 5 rfl) ?_
  refine lv_iconst (v := (1 : Int32)) hx hb dL_law_759 (by decide) ?_
  refine lv_iadd hx hb dL_law_760 ?_
  refine va_sld hx hb hX hbl hbA hS v1 dL_law_761 ?_
  refine kVi (As := [.int (xs (i + (1 : Int32)).toNatClampNeg)]) (rest := []) ⟨hx, hb, hml, hown, hts⟩ (c_M_hasPaid l D cs d _ τ (xs (i + (1 : Int32)).toNatClampNeg) (w2 (fun b u => Q9 b u) (fun b u q => q))) (cwV 1 hts gL_law_X4_hasPaid rfl rfl rfl (by decide +kernel) ⟨Nat.le_of_ble_eq_true rfl, Nat.le_of_ble_eq_true rfl⟩) (pt_LW_md cs a d u1 τ) hK hP hD hS hA (ci := 4) rfl rfl rfl rfl hl.1 rfl (Nat.le_of_ble_eq_true rfl) dL_law_762 hc1 (fun r2 u2 H locs hq hP hD hS => ?_)
  have hP : va_P D vwCl (ws_LW cs a d (u1, u2)) H := hP
  have hD : va_D A (ws_LW cs a d (u1, u2)) := hD
  obtain ⟨hI, ht9, h09⟩ := hI9 u1 u2 r2 hw hq
  refine lv_istore (lv' := [(6, .int r2), (5, .int r), (0, .ref b), (1, .ref (a 0)), (2, .ref (d 0)), (3, .ref (a 21)), (4, .int i)]) hx hb dL_law_765 hl (by decide) rfl (fun ls hl => ?_)
  refine lv_aload_n hx hb dL_law_767 rfl (lv_at hl 4 rfl) ?_
  refine kVi (As := []) (rest := []) ⟨hx, hb, hml, hown, hts⟩ (c_M_thrown l D cs d _ u2 (Φ := fun r3 u3 => r3 = g_MD_thrown u2 ∧ u3 = u2) ⟨rfl, rfl⟩) (cwV 0 hts gL_law_X4_thrown rfl rfl rfl (by decide +kernel) ⟨Nat.le_of_ble_eq_true rfl, Nat.le_of_ble_eq_true rfl⟩) (pt_LW_md cs a d u1 u2) hK hP hD hS hA (ci := 4) rfl rfl rfl rfl hl.1 rfl (Nat.le_of_ble_eq_true rfl) dL_law_768 hc1 (fun r3 u3 H locs hq3 hP hD hS => ?_)
  obtain ⟨q3a, q3b⟩ := hq3
  rw [q3a]
  rw [q3b] at hP hD
  have hP : va_P D vwCl (ws_LW cs a d (u1, u2)) H := hP
  have hD : va_D A (ws_LW cs a d (u1, u2)) := hD
  refine lv_iload hx hb dL_law_771 (lv_at hl 1 rfl) ?_
  refine lv_icmp_eq (tgt := 778) hx hb dL_law_773 (by decide) (fun c9 => ?_) (fun c9 => absurd ht9 c9)
  refine lv_iload hx hb dL_law_778 (lv_at hl 1 rfl) ?_
  refine lv_if_ne (tgt := 802) hx hb dL_law_780 (by decide) (fun c9 => ?_) (fun c9 => ?_)
  · exact lv_goto (tgt := 1197) hx hb dL_law_802 (by decide) (kk u1 u2 H locs ls hI (lv_sub hl [2, 3, 4, 5, 6] rfl) hP hD hS)
  · obtain ⟨e1, e2⟩ := h09 c9
    subst e1
    refine lv_aload_n hx hb dL_law_783 rfl (lv_at hl 5 rfl) ?_
    refine lv_iconst (v := (0 : Int32)) hx hb dL_law_784 (by decide) ?_
    refine va_lald (n := 1) (f := g_LH_out u1) hx hb hK hP 21 2 rfl rfl (vp_in_nI (n := 0) (by omega) (by omega)) dL_law_785 ?_
    have e2 : g_LH_out u1 (0 : Int32).toNatClampNeg = oP r2 := e2
    rw [e2]
    refine lv_iload hx hb dL_law_786 (lv_at hl 0 rfl) ?_
    refine lv_if_eq (tgt := 795) hx hb dL_law_788 (by decide) (fun q => ?_) (fun q => ?_)
    · rw [oP, if_pos q]
      refine lv_lconst (v := (0 : Int64)) hx hb dL_law_795 (by decide) ?_
      refine W.lcmp hx hb dL_law_796 ?_
      rw [lg_same]
      refine lv_if_eq (tgt := 802) hx hb dL_law_797 (by decide) (fun _ => ?_) (fun c9 => absurd rfl c9)
      exact lv_goto (tgt := 1197) hx hb dL_law_802 (by decide) (kk u1 u2 H locs ls hI (lv_sub hl [2, 3, 4, 5, 6] rfl) hP hD hS)
    · rw [oP, if_neg q]
      refine lv_lconst (v := (1 : Int64)) hx hb dL_law_791 (by decide) ?_
      refine lv_goto (tgt := 796) hx hb dL_law_792 (by decide) ?_
      refine W.lcmp hx hb dL_law_796 ?_
      rw [lg_same]
      refine lv_if_eq (tgt := 802) hx hb dL_law_797 (by decide) (fun _ => ?_) (fun c9 => absurd rfl c9)
      exact lv_goto (tgt := 1197) hx hb dL_law_802 (by decide) (kk u1 u2 H locs ls hI (lv_sub hl [2, 3, 4, 5, 6] rfl) hP hD hS)
set_option maxHeartbeats 4000000 in
theorem k_bonus {p : Program} {l : Launch} {e : Env} {s : State} {m : MethodId} {below : List Frame} {meth : Method} {c : Code} {b L : Nat} {xs : Nat → Int32} {D : va_G} {cs : CS} {a d : Nat → Nat} {A : Nat → Prop} {Q : State → Prop} (hfl : l.stackTraces = false) (hx : p.tables.exec = Jvm.exec) (hb : c.code = cL_law) (hml : c.maxLocals = 7) (hown : s.vm.findClass RL = some m.cls) (hts : ∀ w ∈ wsL_law, w.before #[Value.ref b] s = true) (hE : XE A s s.heap) (hK : va_K D vwCl (tysG cs) s) (hA : ∀ q, s.heap.size ≤ q → A q) (hX : va_X b L xs s s.heap) (hbl : b < s.heap.size) (hbA : ¬ A b) {i : Int32} (v1 : vp_in (i + (1 : Int32)) L) (v2 : vp_in (i + (2 : Int32)) L) (v3 : vp_in (i + (3 : Int32)) L) (v4 : vp_in (i + (4 : Int32)) L) {σ : LH} {τ : MD} (g : Inv σ.1 τ) {H : Heap} {locs : List Loc} {ls : Array Slot} {cells slots : Nat} (hc1 : cells + 1 ≤ 1088 ∧ slots + 6 ≤ 9123) (hP : va_P D vwCl (ws_LW cs a d (σ, τ)) H) (hD : va_D A (ws_LW cs a d (σ, τ))) (hS : va_S A s.heap H locs) (hl : lv_has ls 7 [(0, .ref b), (1, .ref (a 0)), (2, .ref (d 0)), (3, .ref (a 21)), (4, .int i)]) (kk : ∀ (σ' : LH) (τ' : MD) (H : Heap) (locs : List Loc) (ls : Array Slot), Inv σ'.1 τ' → lv_has ls 7 [(0, .ref b), (1, .ref (a 0)), (2, .ref (d 0)), (3, .ref (a 21)), (4, .int i)] → va_P D vwCl (ws_LW cs a d (σ', τ')) H → va_D A (ws_LW cs a d (σ', τ')) → va_S A s.heap H locs → W p l e room_1 s m #[Value.ref b] below meth c H locs (cells + 1) (slots + 6) Q (F0 m 1197 ls [])) : W p l e room_1 s m #[Value.ref b] below meth c H locs cells slots Q (F0 m 805 ls []) := by
  obtain ⟨h, c9, w, le, n, cr, lc, ltr, len, p9, m9, s9, lo, ld, st, pri, bd, q, pp, ow, d9, sy, fe, tr, lids, th, td, tdh, g, e1, e2⟩ := g
  obtain ⟨r9, σ9, τ9, hI, w1, w2⟩ := st_bonus (tr := tr) (lids := lids) (th := th) (td := td) (tdh := tdh) (w := w) (le := le) (lc := lc) (s := s9) (lo := lo) (ld := ld) (fe := fe) g
  rw [← e1] at w1
  rw [← e2] at w2
  refine lv_aload_n hx hb dL_law_805 rfl (lv_at hl 1 rfl) ?_
  refine kVi (As := []) (rest := []) ⟨hx, hb, hml, hown, hts⟩ (c_C_bonus l D cs a _ σ.1 (w1 (fun r u => r = r9 ∧ u = σ9) ⟨rfl, rfl⟩)) (cwV 0 hts gL_law_X3_bonus rfl rfl rfl (by decide +kernel) ⟨Nat.le_of_ble_eq_true rfl, Nat.le_of_ble_eq_true rfl⟩) (pt_LW_cy cs a d σ τ) hK hP hD hS hA (ci := 3) rfl rfl rfl rfl hl.1 rfl (Nat.le_of_ble_eq_true rfl) dL_law_806 ⟨Nat.le_of_lt hc1.1, Nat.le_trans (Nat.le_add_right _ 6) hc1.2⟩ (fun r1 u1 H locs hw hP hD hS => ?_)
  obtain ⟨rfl, rfl⟩ := hw
  have hP : va_P D vwCl (ws_LW cs a d (s_LH_cy σ u1, τ)) H := hP
  have hD : va_D A (ws_LW cs a d (s_LH_cy σ u1, τ)) := hD
  refine lv_aload_n hx hb dL_law_809 rfl (lv_at hl 2 rfl) ?_
  refine kVi (As := []) (rest := [.int r1]) ⟨hx, hb, hml, hown, hts⟩ (c_M_bonus l D cs d _ τ (w2 (fun r u => r = r1 ∧ u = τ9) ⟨rfl, rfl⟩)) (cwV 0 hts gL_law_X4_bonus rfl rfl rfl (by decide +kernel) ⟨Nat.le_of_ble_eq_true rfl, Nat.le_of_ble_eq_true rfl⟩) (pt_LW_md cs a d (s_LH_cy σ u1) τ) hK hP hD hS hA (ci := 4) rfl rfl rfl rfl hl.1 rfl (Nat.le_of_ble_eq_true rfl) dL_law_810 ⟨Nat.le_of_lt hc1.1, Nat.le_trans (Nat.le_add_right _ 6) hc1.2⟩ (fun r2 u2 H locs hw hP hD hS => ?_)
  obtain ⟨rfl, rfl⟩ := hw
  have hP : va_P D vwCl (ws_LW cs a d (s_LH_cy σ u1, u2)) H := hP
  have hD : va_D A (ws_LW cs a d (s_LH_cy σ u1, u2)) := hD
  refine lv_icmp_eq (tgt := 1197) hx hb dL_law_813 (by decide) (fun _ => ?_) (fun c9 => absurd rfl c9)
  exact W.widen (k := cells + 1) (n := slots + 6) (Nat.le_succ _) (Nat.le_add_right _ 6) (kk (s_LH_cy σ u1) u2 H locs ls hI hl hP hD hS)
set_option maxHeartbeats 4000000 in
theorem k_offer {p : Program} {l : Launch} {e : Env} {s : State} {m : MethodId} {below : List Frame} {meth : Method} {c : Code} {b L : Nat} {xs : Nat → Int32} {D : va_G} {cs : CS} {a d : Nat → Nat} {A : Nat → Prop} {Q : State → Prop} (hfl : l.stackTraces = false) (hx : p.tables.exec = Jvm.exec) (hb : c.code = cL_law) (hml : c.maxLocals = 7) (hown : s.vm.findClass RL = some m.cls) (hts : ∀ w ∈ wsL_law, w.before #[Value.ref b] s = true) (hE : XE A s s.heap) (hK : va_K D vwCl (tysG cs) s) (hA : ∀ q, s.heap.size ≤ q → A q) (hX : va_X b L xs s s.heap) (hbl : b < s.heap.size) (hbA : ¬ A b) {i : Int32} (v1 : vp_in (i + (1 : Int32)) L) (v2 : vp_in (i + (2 : Int32)) L) (v3 : vp_in (i + (3 : Int32)) L) (v4 : vp_in (i + (4 : Int32)) L) {σ : LH} {τ : MD} (g : Inv σ.1 τ) {H : Heap} {locs : List Loc} {ls : Array Slot} {cells slots : Nat} (hc1 : cells + 1 ≤ 1088 ∧ slots + 6 ≤ 9123) (hP : va_P D vwCl (ws_LW cs a d (σ, τ)) H) (hD : va_D A (ws_LW cs a d (σ, τ))) (hS : va_S A s.heap H locs) (hl : lv_has ls 7 [(0, .ref b), (1, .ref (a 0)), (2, .ref (d 0)), (3, .ref (a 21)), (4, .int i)]) (kk : ∀ (σ' : LH) (τ' : MD) (H : Heap) (locs : List Loc) (ls : Array Slot), Inv σ'.1 τ' → lv_has ls 7 [(0, .ref b), (1, .ref (a 0)), (2, .ref (d 0)), (3, .ref (a 21)), (4, .int i)] → va_P D vwCl (ws_LW cs a d (σ', τ')) H → va_D A (ws_LW cs a d (σ', τ')) → va_S A s.heap H locs → W p l e room_1 s m #[Value.ref b] below meth c H locs (cells + 1) (slots + 6) Q (F0 m 1197 ls [])) : W p l e room_1 s m #[Value.ref b] below meth c H locs cells slots Q (F0 m 818 ls []) := by
  obtain ⟨k9, r9, P9, Q9, hI9, w1, w2⟩ := rl_offer g (xs (i + (1 : Int32)).toNatClampNeg) (xs (i + (2 : Int32)).toNatClampNeg)
  refine lv_aload_n hx hb dL_law_818 rfl (lv_at hl 1 rfl) ?_
  refine lv_aload_n hx hb dL_law_819 rfl (lv_at hl 0 rfl) ?_
  refine lv_iload hx hb dL_law_820 (lv_at hl 4 rfl) ?_
  refine lv_iconst (v := (1 : Int32)) hx hb dL_law_822 (by decide) ?_
  refine lv_iadd hx hb dL_law_823 ?_
  refine va_sld hx hb hX hbl hbA hS v1 dL_law_824 ?_
  refine lv_aload_n hx hb dL_law_825 rfl (lv_at hl 0 rfl) ?_
  refine lv_iload hx hb dL_law_826 (lv_at hl 4 rfl) ?_
  refine lv_iconst (v := (2 : Int32)) hx hb dL_law_828 (by decide) ?_
  refine lv_iadd hx hb dL_law_829 ?_
  refine va_sld hx hb hX hbl hbA hS v2 dL_law_830 ?_
  refine lv_aload_n hx hb dL_law_831 rfl (lv_at hl 3 rfl) ?_
  refine kLi (As := [.ref (a 0), .int (xs (i + (1 : Int32)).toNatClampNeg), .int (xs (i + (2 : Int32)).toNatClampNeg), .ref (a 21)]) (rest := []) ⟨hx, hb, hml, hown, hts⟩ hE (c_L_offer l hfl D cs a _ σ (xs (i + (1 : Int32)).toNatClampNeg) (xs (i + (2 : Int32)).toNatClampNeg) (w1 (fun k z => k = k9 ∧ P9 z) (fun z q => ⟨rfl, q⟩))) (vx_cwSW 4 hts gL_law_L_offer rfl rfl rfl (by decide +kernel) ⟨Nat.le_of_ble_eq_true rfl, Nat.le_of_ble_eq_true rfl⟩) (pt_LW_lh cs a d σ τ) hK hP hD hS hA rfl hl.1 rfl (Nat.le_of_ble_eq_true rfl) dL_law_832 hc1 (fun r u1 H locs hw hP hD hS => ?_)
  obtain ⟨rfl, hw⟩ := hw
  have hP : va_P D vwCl (ws_LW cs a d (u1, τ)) H := hP
  have hD : va_D A (ws_LW cs a d (u1, τ)) := hD
  refine lv_istore (lv' := [(5, .int r), (0, .ref b), (1, .ref (a 0)), (2, .ref (d 0)), (3, .ref (a 21)), (4, .int i)]) hx hb dL_law_835 hl (by decide) rfl (fun ls hl => ?_)
  refine lv_aload_n hx hb dL_law_837 rfl (lv_at hl 3 rfl) ?_
  refine lv_aload_n hx hb dL_law_838 rfl (lv_at hl 1 rfl) ?_
  refine lv_iload hx hb dL_law_839 (lv_at hl 5 rfl) ?_
  refine lv_iconst (v := (1 : Int32)) hx hb dL_law_841 (by decide) ?_
  refine lv_iadd hx hb dL_law_842 ?_
  refine va_sld hx hb hX hbl hbA hS v1 dL_law_843 ?_
  refine lv_aload_n hx hb dL_law_844 rfl (lv_at hl 1 rfl) ?_
  refine lv_iload hx hb dL_law_845 (lv_at hl 5 rfl) ?_
  refine lv_iconst (v := (2 : Int32)) hx hb dL_law_847 (by decide) ?_
  refine lv_iadd hx hb dL_law_848 ?_
  refine va_sld hx hb hX hbl hbA hS v2 dL_law_849 ?_
  refine kVi (As := [.int (xs (i + (1 : Int32)).toNatClampNeg), .int (xs (i + (2 : Int32)).toNatClampNeg)]) (rest := []) ⟨hx, hb, hml, hown, hts⟩ (c_M_offer l D cs d _ τ (xs (i + (1 : Int32)).toNatClampNeg) (xs (i + (2 : Int32)).toNatClampNeg) (w2 (fun b u => Q9 b u) (fun b u q => q))) (cwV 2 hts gL_law_X4_offer rfl rfl rfl (by decide +kernel) ⟨Nat.le_of_ble_eq_true rfl, Nat.le_of_ble_eq_true rfl⟩) (pt_LW_md cs a d u1 τ) hK hP hD hS hA (ci := 4) rfl rfl rfl rfl hl.1 rfl (Nat.le_of_ble_eq_true rfl) dL_law_850 hc1 (fun r2 u2 H locs hq hP hD hS => ?_)
  have hP : va_P D vwCl (ws_LW cs a d (u1, u2)) H := hP
  have hD : va_D A (ws_LW cs a d (u1, u2)) := hD
  obtain ⟨hI, ht9, h09⟩ := hI9 u1 u2 r2 hw hq
  refine lv_istore (lv' := [(6, .int r2), (5, .int r), (0, .ref b), (1, .ref (a 0)), (2, .ref (d 0)), (3, .ref (a 21)), (4, .int i)]) hx hb dL_law_853 hl (by decide) rfl (fun ls hl => ?_)
  refine lv_aload_n hx hb dL_law_855 rfl (lv_at hl 4 rfl) ?_
  refine kVi (As := []) (rest := []) ⟨hx, hb, hml, hown, hts⟩ (c_M_thrown l D cs d _ u2 (Φ := fun r3 u3 => r3 = g_MD_thrown u2 ∧ u3 = u2) ⟨rfl, rfl⟩) (cwV 0 hts gL_law_X4_thrown rfl rfl rfl (by decide +kernel) ⟨Nat.le_of_ble_eq_true rfl, Nat.le_of_ble_eq_true rfl⟩) (pt_LW_md cs a d u1 u2) hK hP hD hS hA (ci := 4) rfl rfl rfl rfl hl.1 rfl (Nat.le_of_ble_eq_true rfl) dL_law_856 hc1 (fun r3 u3 H locs hq3 hP hD hS => ?_)
  obtain ⟨q3a, q3b⟩ := hq3
  rw [q3a]
  rw [q3b] at hP hD
  have hP : va_P D vwCl (ws_LW cs a d (u1, u2)) H := hP
  have hD : va_D A (ws_LW cs a d (u1, u2)) := hD
  refine lv_iload hx hb dL_law_859 (lv_at hl 1 rfl) ?_
  refine lv_icmp_eq (tgt := 866) hx hb dL_law_861 (by decide) (fun c9 => ?_) (fun c9 => absurd ht9 c9)
  refine lv_iload hx hb dL_law_866 (lv_at hl 1 rfl) ?_
  refine lv_if_ne (tgt := 883) hx hb dL_law_868 (by decide) (fun c9 => ?_) (fun c9 => ?_)
  · exact lv_goto (tgt := 1197) hx hb dL_law_883 (by decide) (kk u1 u2 H locs ls hI (lv_sub hl [2, 3, 4, 5, 6] rfl) hP hD hS)
  · obtain ⟨e1, e2⟩ := h09 c9
    subst e1
    refine lv_aload_n hx hb dL_law_871 rfl (lv_at hl 5 rfl) ?_
    refine lv_iconst (v := (0 : Int32)) hx hb dL_law_872 (by decide) ?_
    refine va_lald (n := 1) (f := g_LH_out u1) hx hb hK hP 21 2 rfl rfl (vp_in_nI (n := 0) (by omega) (by omega)) dL_law_873 ?_
    have e2 : g_LH_out u1 (0 : Int32).toNatClampNeg = Int32.toInt64 r2 := e2
    rw [e2]
    refine lv_iload hx hb dL_law_874 (lv_at hl 0 rfl) ?_
    refine lv_i2l (v := Int32.toInt64 r2) hx hb dL_law_876 rfl ?_
    refine W.lcmp hx hb dL_law_877 ?_
    rw [lg_same]
    refine lv_if_eq (tgt := 883) hx hb dL_law_878 (by decide) (fun _ => ?_) (fun c9 => absurd rfl c9)
    exact lv_goto (tgt := 1197) hx hb dL_law_883 (by decide) (kk u1 u2 H locs ls hI (lv_sub hl [2, 3, 4, 5, 6] rfl) hP hD hS)
set_option maxHeartbeats 4000000 in
theorem k_bid {p : Program} {l : Launch} {e : Env} {s : State} {m : MethodId} {below : List Frame} {meth : Method} {c : Code} {b L : Nat} {xs : Nat → Int32} {D : va_G} {cs : CS} {a d : Nat → Nat} {A : Nat → Prop} {Q : State → Prop} (hfl : l.stackTraces = false) (hx : p.tables.exec = Jvm.exec) (hb : c.code = cL_law) (hml : c.maxLocals = 7) (hown : s.vm.findClass RL = some m.cls) (hts : ∀ w ∈ wsL_law, w.before #[Value.ref b] s = true) (hE : XE A s s.heap) (hK : va_K D vwCl (tysG cs) s) (hA : ∀ q, s.heap.size ≤ q → A q) (hX : va_X b L xs s s.heap) (hbl : b < s.heap.size) (hbA : ¬ A b) {i : Int32} (v1 : vp_in (i + (1 : Int32)) L) (v2 : vp_in (i + (2 : Int32)) L) (v3 : vp_in (i + (3 : Int32)) L) (v4 : vp_in (i + (4 : Int32)) L) {σ : LH} {τ : MD} (g : Inv σ.1 τ) {H : Heap} {locs : List Loc} {ls : Array Slot} {cells slots : Nat} (hc1 : cells + 1 ≤ 1088 ∧ slots + 6 ≤ 9123) (hP : va_P D vwCl (ws_LW cs a d (σ, τ)) H) (hD : va_D A (ws_LW cs a d (σ, τ))) (hS : va_S A s.heap H locs) (hl : lv_has ls 7 [(0, .ref b), (1, .ref (a 0)), (2, .ref (d 0)), (3, .ref (a 21)), (4, .int i)]) (kk : ∀ (σ' : LH) (τ' : MD) (H : Heap) (locs : List Loc) (ls : Array Slot), Inv σ'.1 τ' → lv_has ls 7 [(0, .ref b), (1, .ref (a 0)), (2, .ref (d 0)), (3, .ref (a 21)), (4, .int i)] → va_P D vwCl (ws_LW cs a d (σ', τ')) H → va_D A (ws_LW cs a d (σ', τ')) → va_S A s.heap H locs → W p l e room_1 s m #[Value.ref b] below meth c H locs (cells + 1) (slots + 6) Q (F0 m 1197 ls [])) : W p l e room_1 s m #[Value.ref b] below meth c H locs cells slots Q (F0 m 886 ls []) := by
  obtain ⟨k9, r9, P9, Q9, hI9, w1, w2⟩ := rl_bid g (xs (i + (1 : Int32)).toNatClampNeg) (xs (i + (2 : Int32)).toNatClampNeg) (xs (i + (3 : Int32)).toNatClampNeg)
  refine lv_aload_n hx hb dL_law_886 rfl (lv_at hl 1 rfl) ?_
  refine lv_aload_n hx hb dL_law_887 rfl (lv_at hl 0 rfl) ?_
  refine lv_iload hx hb dL_law_888 (lv_at hl 4 rfl) ?_
  refine lv_iconst (v := (1 : Int32)) hx hb dL_law_890 (by decide) ?_
  refine lv_iadd hx hb dL_law_891 ?_
  refine va_sld hx hb hX hbl hbA hS v1 dL_law_892 ?_
  refine lv_aload_n hx hb dL_law_893 rfl (lv_at hl 0 rfl) ?_
  refine lv_iload hx hb dL_law_894 (lv_at hl 4 rfl) ?_
  refine lv_iconst (v := (2 : Int32)) hx hb dL_law_896 (by decide) ?_
  refine lv_iadd hx hb dL_law_897 ?_
  refine va_sld hx hb hX hbl hbA hS v2 dL_law_898 ?_
  refine lv_aload_n hx hb dL_law_899 rfl (lv_at hl 0 rfl) ?_
  refine lv_iload hx hb dL_law_900 (lv_at hl 4 rfl) ?_
  refine lv_iconst (v := (3 : Int32)) hx hb dL_law_902 (by decide) ?_
  refine lv_iadd hx hb dL_law_903 ?_
  refine va_sld hx hb hX hbl hbA hS v3 dL_law_904 ?_
  refine kLi (As := [.ref (a 0), .int (xs (i + (1 : Int32)).toNatClampNeg), .int (xs (i + (2 : Int32)).toNatClampNeg), .int (xs (i + (3 : Int32)).toNatClampNeg)]) (rest := []) ⟨hx, hb, hml, hown, hts⟩ hE (c_L_bid l hfl D cs a _ σ (xs (i + (1 : Int32)).toNatClampNeg) (xs (i + (2 : Int32)).toNatClampNeg) (xs (i + (3 : Int32)).toNatClampNeg) (w1 (fun k z => k = k9 ∧ P9 z) (fun z q => ⟨rfl, q⟩))) (vx_cwSW 4 hts gL_law_L_bid rfl rfl rfl (by decide +kernel) ⟨Nat.le_of_ble_eq_true rfl, Nat.le_of_ble_eq_true rfl⟩) (pt_LW_lh cs a d σ τ) hK hP hD hS hA rfl hl.1 rfl (Nat.le_of_ble_eq_true rfl) dL_law_905 hc1 (fun r u1 H locs hw hP hD hS => ?_)
  obtain ⟨rfl, hw⟩ := hw
  have hP : va_P D vwCl (ws_LW cs a d (u1, τ)) H := hP
  have hD : va_D A (ws_LW cs a d (u1, τ)) := hD
  refine lv_istore (lv' := [(5, .int r), (0, .ref b), (1, .ref (a 0)), (2, .ref (d 0)), (3, .ref (a 21)), (4, .int i)]) hx hb dL_law_908 hl (by decide) rfl (fun ls hl => ?_)
  refine lv_aload_n hx hb dL_law_910 rfl (lv_at hl 3 rfl) ?_
  refine lv_aload_n hx hb dL_law_911 rfl (lv_at hl 1 rfl) ?_
  refine lv_iload hx hb dL_law_912 (lv_at hl 5 rfl) ?_
  refine lv_iconst (v := (1 : Int32)) hx hb dL_law_914 (by decide) ?_
  refine lv_iadd hx hb dL_law_915 ?_
  refine va_sld hx hb hX hbl hbA hS v1 dL_law_916 ?_
  refine lv_aload_n hx hb dL_law_917 rfl (lv_at hl 1 rfl) ?_
  refine lv_iload hx hb dL_law_918 (lv_at hl 5 rfl) ?_
  refine lv_iconst (v := (2 : Int32)) hx hb dL_law_920 (by decide) ?_
  refine lv_iadd hx hb dL_law_921 ?_
  refine va_sld hx hb hX hbl hbA hS v2 dL_law_922 ?_
  refine lv_aload_n hx hb dL_law_923 rfl (lv_at hl 1 rfl) ?_
  refine lv_iload hx hb dL_law_924 (lv_at hl 5 rfl) ?_
  refine lv_iconst (v := (3 : Int32)) hx hb dL_law_926 (by decide) ?_
  refine lv_iadd hx hb dL_law_927 ?_
  refine va_sld hx hb hX hbl hbA hS v3 dL_law_928 ?_
  refine kVv (As := [.int (xs (i + (1 : Int32)).toNatClampNeg), .int (xs (i + (2 : Int32)).toNatClampNeg), .int (xs (i + (3 : Int32)).toNatClampNeg)]) (rest := []) ⟨hx, hb, hml, hown, hts⟩ (c_M_bid l D cs d _ τ (xs (i + (1 : Int32)).toNatClampNeg) (xs (i + (2 : Int32)).toNatClampNeg) (xs (i + (3 : Int32)).toNatClampNeg) (w2 (fun b u => Q9 b u) (fun b u q => q))) (cwV 3 hts gL_law_X4_bid rfl rfl rfl (by decide +kernel) ⟨Nat.le_of_ble_eq_true rfl, Nat.le_of_ble_eq_true rfl⟩) (pt_LW_md cs a d u1 τ) hK hP hD hS hA (ci := 4) rfl rfl rfl rfl hl.1 rfl (Nat.le_of_ble_eq_true rfl) dL_law_929 hc1 (fun u2 H locs hq hP hD hS => ?_)
  have hP : va_P D vwCl (ws_LW cs a d (u1, u2)) H := hP
  have hD : va_D A (ws_LW cs a d (u1, u2)) := hD
  obtain ⟨hI, ht9, h09⟩ := hI9 u1 u2 _ hw hq
  refine lv_aload_n hx hb dL_law_932 rfl (lv_at hl 3 rfl) ?_
  refine kVi (As := []) (rest := []) ⟨hx, hb, hml, hown, hts⟩ (c_M_thrown l D cs d _ u2 (Φ := fun r3 u3 => r3 = g_MD_thrown u2 ∧ u3 = u2) ⟨rfl, rfl⟩) (cwV 0 hts gL_law_X4_thrown rfl rfl rfl (by decide +kernel) ⟨Nat.le_of_ble_eq_true rfl, Nat.le_of_ble_eq_true rfl⟩) (pt_LW_md cs a d u1 u2) hK hP hD hS hA (ci := 4) rfl rfl rfl rfl hl.1 rfl (Nat.le_of_ble_eq_true rfl) dL_law_933 hc1 (fun r3 u3 H locs hq3 hP hD hS => ?_)
  obtain ⟨q3a, q3b⟩ := hq3
  rw [q3a]
  rw [q3b] at hP hD
  have hP : va_P D vwCl (ws_LW cs a d (u1, u2)) H := hP
  have hD : va_D A (ws_LW cs a d (u1, u2)) := hD
  refine lv_iload hx hb dL_law_936 (lv_at hl 0 rfl) ?_
  refine lv_icmp_eq (tgt := 943) hx hb dL_law_938 (by decide) (fun c9 => ?_) (fun c9 => absurd ht9 c9)
  exact lv_goto (tgt := 1197) hx hb dL_law_943 (by decide) (kk u1 u2 H locs ls hI (lv_sub hl [1, 2, 3, 4, 5] rfl) hP hD hS)
set_option maxHeartbeats 4000000 in
theorem k_give {p : Program} {l : Launch} {e : Env} {s : State} {m : MethodId} {below : List Frame} {meth : Method} {c : Code} {b L : Nat} {xs : Nat → Int32} {D : va_G} {cs : CS} {a d : Nat → Nat} {A : Nat → Prop} {Q : State → Prop} (hfl : l.stackTraces = false) (hx : p.tables.exec = Jvm.exec) (hb : c.code = cL_law) (hml : c.maxLocals = 7) (hown : s.vm.findClass RL = some m.cls) (hts : ∀ w ∈ wsL_law, w.before #[Value.ref b] s = true) (hE : XE A s s.heap) (hK : va_K D vwCl (tysG cs) s) (hA : ∀ q, s.heap.size ≤ q → A q) (hX : va_X b L xs s s.heap) (hbl : b < s.heap.size) (hbA : ¬ A b) {i : Int32} (v1 : vp_in (i + (1 : Int32)) L) (v2 : vp_in (i + (2 : Int32)) L) (v3 : vp_in (i + (3 : Int32)) L) (v4 : vp_in (i + (4 : Int32)) L) {σ : LH} {τ : MD} (g : Inv σ.1 τ) {H : Heap} {locs : List Loc} {ls : Array Slot} {cells slots : Nat} (hc1 : cells + 1 ≤ 1088 ∧ slots + 6 ≤ 9123) (hP : va_P D vwCl (ws_LW cs a d (σ, τ)) H) (hD : va_D A (ws_LW cs a d (σ, τ))) (hS : va_S A s.heap H locs) (hl : lv_has ls 7 [(0, .ref b), (1, .ref (a 0)), (2, .ref (d 0)), (3, .ref (a 21)), (4, .int i)]) (kk : ∀ (σ' : LH) (τ' : MD) (H : Heap) (locs : List Loc) (ls : Array Slot), Inv σ'.1 τ' → lv_has ls 7 [(0, .ref b), (1, .ref (a 0)), (2, .ref (d 0)), (3, .ref (a 21)), (4, .int i)] → va_P D vwCl (ws_LW cs a d (σ', τ')) H → va_D A (ws_LW cs a d (σ', τ')) → va_S A s.heap H locs → W p l e room_1 s m #[Value.ref b] below meth c H locs (cells + 1) (slots + 6) Q (F0 m 1197 ls [])) : W p l e room_1 s m #[Value.ref b] below meth c H locs cells slots Q (F0 m 946 ls []) := by
  obtain ⟨k9, r9, P9, Q9, hI9, w1, w2⟩ := rl_give g (xs (i + (1 : Int32)).toNatClampNeg)
  refine lv_aload_n hx hb dL_law_946 rfl (lv_at hl 1 rfl) ?_
  refine lv_aload_n hx hb dL_law_947 rfl (lv_at hl 0 rfl) ?_
  refine lv_iload hx hb dL_law_948 (lv_at hl 4 rfl) ?_
  refine lv_iconst (v := (1 : Int32)) hx hb dL_law_950 (by decide) ?_
  refine lv_iadd hx hb dL_law_951 ?_
  refine va_sld hx hb hX hbl hbA hS v1 dL_law_952 ?_
  refine lv_aload_n hx hb dL_law_953 rfl (lv_at hl 3 rfl) ?_
  refine kLi (As := [.ref (a 0), .int (xs (i + (1 : Int32)).toNatClampNeg), .ref (a 21)]) (rest := []) ⟨hx, hb, hml, hown, hts⟩ hE (c_L_give l hfl D cs a _ σ (xs (i + (1 : Int32)).toNatClampNeg) (w1 (fun k z => k = k9 ∧ P9 z) (fun z q => ⟨rfl, q⟩))) (vx_cwSW 3 hts gL_law_L_give rfl rfl rfl (by decide +kernel) ⟨Nat.le_of_ble_eq_true rfl, Nat.le_of_ble_eq_true rfl⟩) (pt_LW_lh cs a d σ τ) hK hP hD hS hA rfl hl.1 rfl (Nat.le_of_ble_eq_true rfl) dL_law_954 hc1 (fun r u1 H locs hw hP hD hS => ?_)
  obtain ⟨rfl, hw⟩ := hw
  have hP : va_P D vwCl (ws_LW cs a d (u1, τ)) H := hP
  have hD : va_D A (ws_LW cs a d (u1, τ)) := hD
  refine lv_istore (lv' := [(5, .int r), (0, .ref b), (1, .ref (a 0)), (2, .ref (d 0)), (3, .ref (a 21)), (4, .int i)]) hx hb dL_law_957 hl (by decide) rfl (fun ls hl => ?_)
  refine lv_aload_n hx hb dL_law_959 rfl (lv_at hl 3 rfl) ?_
  refine lv_aload_n hx hb dL_law_960 rfl (lv_at hl 1 rfl) ?_
  refine lv_iload hx hb dL_law_961 (lv_at hl 5 rfl) ?_
  refine lv_iconst (v := (1 : Int32)) hx hb dL_law_963 (by decide) ?_
  refine lv_iadd hx hb dL_law_964 ?_
  refine va_sld hx hb hX hbl hbA hS v1 dL_law_965 ?_
  refine kVi (As := [.int (xs (i + (1 : Int32)).toNatClampNeg)]) (rest := []) ⟨hx, hb, hml, hown, hts⟩ (c_M_give l D cs d _ τ (xs (i + (1 : Int32)).toNatClampNeg) (w2 (fun b u => Q9 b u) (fun b u q => q))) (cwV 1 hts gL_law_X4_give rfl rfl rfl (by decide +kernel) ⟨Nat.le_of_ble_eq_true rfl, Nat.le_of_ble_eq_true rfl⟩) (pt_LW_md cs a d u1 τ) hK hP hD hS hA (ci := 4) rfl rfl rfl rfl hl.1 rfl (Nat.le_of_ble_eq_true rfl) dL_law_966 hc1 (fun r2 u2 H locs hq hP hD hS => ?_)
  have hP : va_P D vwCl (ws_LW cs a d (u1, u2)) H := hP
  have hD : va_D A (ws_LW cs a d (u1, u2)) := hD
  obtain ⟨hI, ht9, h09⟩ := hI9 u1 u2 r2 hw hq
  refine lv_istore (lv' := [(6, .int r2), (5, .int r), (0, .ref b), (1, .ref (a 0)), (2, .ref (d 0)), (3, .ref (a 21)), (4, .int i)]) hx hb dL_law_969 hl (by decide) rfl (fun ls hl => ?_)
  refine lv_aload_n hx hb dL_law_971 rfl (lv_at hl 4 rfl) ?_
  refine kVi (As := []) (rest := []) ⟨hx, hb, hml, hown, hts⟩ (c_M_thrown l D cs d _ u2 (Φ := fun r3 u3 => r3 = g_MD_thrown u2 ∧ u3 = u2) ⟨rfl, rfl⟩) (cwV 0 hts gL_law_X4_thrown rfl rfl rfl (by decide +kernel) ⟨Nat.le_of_ble_eq_true rfl, Nat.le_of_ble_eq_true rfl⟩) (pt_LW_md cs a d u1 u2) hK hP hD hS hA (ci := 4) rfl rfl rfl rfl hl.1 rfl (Nat.le_of_ble_eq_true rfl) dL_law_972 hc1 (fun r3 u3 H locs hq3 hP hD hS => ?_)
  obtain ⟨q3a, q3b⟩ := hq3
  rw [q3a]
  rw [q3b] at hP hD
  have hP : va_P D vwCl (ws_LW cs a d (u1, u2)) H := hP
  have hD : va_D A (ws_LW cs a d (u1, u2)) := hD
  refine lv_iload hx hb dL_law_975 (lv_at hl 1 rfl) ?_
  refine lv_icmp_eq (tgt := 982) hx hb dL_law_977 (by decide) (fun c9 => ?_) (fun c9 => absurd ht9 c9)
  refine lv_iload hx hb dL_law_982 (lv_at hl 1 rfl) ?_
  refine lv_if_ne (tgt := 999) hx hb dL_law_984 (by decide) (fun c9 => ?_) (fun c9 => ?_)
  · exact lv_goto (tgt := 1197) hx hb dL_law_999 (by decide) (kk u1 u2 H locs ls hI (lv_sub hl [2, 3, 4, 5, 6] rfl) hP hD hS)
  · obtain ⟨e1, e2⟩ := h09 c9
    subst e1
    refine lv_aload_n hx hb dL_law_987 rfl (lv_at hl 5 rfl) ?_
    refine lv_iconst (v := (0 : Int32)) hx hb dL_law_988 (by decide) ?_
    refine va_lald (n := 1) (f := g_LH_out u1) hx hb hK hP 21 2 rfl rfl (vp_in_nI (n := 0) (by omega) (by omega)) dL_law_989 ?_
    have e2 : g_LH_out u1 (0 : Int32).toNatClampNeg = Int32.toInt64 r2 := e2
    rw [e2]
    refine lv_iload hx hb dL_law_990 (lv_at hl 0 rfl) ?_
    refine lv_i2l (v := Int32.toInt64 r2) hx hb dL_law_992 rfl ?_
    refine W.lcmp hx hb dL_law_993 ?_
    rw [lg_same]
    refine lv_if_eq (tgt := 999) hx hb dL_law_994 (by decide) (fun _ => ?_) (fun c9 => absurd rfl c9)
    exact lv_goto (tgt := 1197) hx hb dL_law_999 (by decide) (kk u1 u2 H locs ls hI (lv_sub hl [2, 3, 4, 5, 6] rfl) hP hD hS)
set_option maxHeartbeats 4000000 in
theorem k_load {p : Program} {l : Launch} {e : Env} {s : State} {m : MethodId} {below : List Frame} {meth : Method} {c : Code} {b L : Nat} {xs : Nat → Int32} {D : va_G} {cs : CS} {a d : Nat → Nat} {A : Nat → Prop} {Q : State → Prop} (hfl : l.stackTraces = false) (hx : p.tables.exec = Jvm.exec) (hb : c.code = cL_law) (hml : c.maxLocals = 7) (hown : s.vm.findClass RL = some m.cls) (hts : ∀ w ∈ wsL_law, w.before #[Value.ref b] s = true) (hE : XE A s s.heap) (hK : va_K D vwCl (tysG cs) s) (hA : ∀ q, s.heap.size ≤ q → A q) (hX : va_X b L xs s s.heap) (hbl : b < s.heap.size) (hbA : ¬ A b) {i : Int32} (v1 : vp_in (i + (1 : Int32)) L) (v2 : vp_in (i + (2 : Int32)) L) (v3 : vp_in (i + (3 : Int32)) L) (v4 : vp_in (i + (4 : Int32)) L) {σ : LH} {τ : MD} (g : Inv σ.1 τ) {H : Heap} {locs : List Loc} {ls : Array Slot} {cells slots : Nat} (hc1 : cells + 1 ≤ 1088 ∧ slots + 6 ≤ 9123) (hP : va_P D vwCl (ws_LW cs a d (σ, τ)) H) (hD : va_D A (ws_LW cs a d (σ, τ))) (hS : va_S A s.heap H locs) (hl : lv_has ls 7 [(0, .ref b), (1, .ref (a 0)), (2, .ref (d 0)), (3, .ref (a 21)), (4, .int i)]) (kk : ∀ (σ' : LH) (τ' : MD) (H : Heap) (locs : List Loc) (ls : Array Slot), Inv σ'.1 τ' → lv_has ls 7 [(0, .ref b), (1, .ref (a 0)), (2, .ref (d 0)), (3, .ref (a 21)), (4, .int i)] → va_P D vwCl (ws_LW cs a d (σ', τ')) H → va_D A (ws_LW cs a d (σ', τ')) → va_S A s.heap H locs → W p l e room_1 s m #[Value.ref b] below meth c H locs (cells + 1) (slots + 6) Q (F0 m 1197 ls [])) : W p l e room_1 s m #[Value.ref b] below meth c H locs cells slots Q (F0 m 1002 ls []) := by
  obtain ⟨k9, r9, P9, Q9, hI9, w1, w2⟩ := rl_load g 
  refine lv_aload_n hx hb dL_law_1002 rfl (lv_at hl 1 rfl) ?_
  refine lv_aload_n hx hb dL_law_1003 rfl (lv_at hl 3 rfl) ?_
  refine kLi (As := [.ref (a 0), .ref (a 21)]) (rest := []) ⟨hx, hb, hml, hown, hts⟩ hE (c_L_load l hfl D cs a _ σ  (w1 (fun k z => k = k9 ∧ P9 z) (fun z q => ⟨rfl, q⟩))) (vx_cwSW 2 hts gL_law_L_load rfl rfl rfl (by decide +kernel) ⟨Nat.le_of_ble_eq_true rfl, Nat.le_of_ble_eq_true rfl⟩) (pt_LW_lh cs a d σ τ) hK hP hD hS hA rfl hl.1 rfl (Nat.le_of_ble_eq_true rfl) dL_law_1004 hc1 (fun r u1 H locs hw hP hD hS => ?_)
  obtain ⟨rfl, hw⟩ := hw
  have hP : va_P D vwCl (ws_LW cs a d (u1, τ)) H := hP
  have hD : va_D A (ws_LW cs a d (u1, τ)) := hD
  refine lv_istore (lv' := [(5, .int r), (0, .ref b), (1, .ref (a 0)), (2, .ref (d 0)), (3, .ref (a 21)), (4, .int i)]) hx hb dL_law_1007 hl (by decide) rfl (fun ls hl => ?_)
  refine lv_aload_n hx hb dL_law_1009 rfl (lv_at hl 3 rfl) ?_
  refine kVi (As := []) (rest := []) ⟨hx, hb, hml, hown, hts⟩ (c_M_load l D cs d _ τ  (w2 (fun b u => Q9 b u) (fun b u q => q))) (cwV 0 hts gL_law_X4_load rfl rfl rfl (by decide +kernel) ⟨Nat.le_of_ble_eq_true rfl, Nat.le_of_ble_eq_true rfl⟩) (pt_LW_md cs a d u1 τ) hK hP hD hS hA (ci := 4) rfl rfl rfl rfl hl.1 rfl (Nat.le_of_ble_eq_true rfl) dL_law_1010 hc1 (fun r2 u2 H locs hq hP hD hS => ?_)
  have hP : va_P D vwCl (ws_LW cs a d (u1, u2)) H := hP
  have hD : va_D A (ws_LW cs a d (u1, u2)) := hD
  obtain ⟨hI, ht9, h09⟩ := hI9 u1 u2 r2 hw hq
  refine lv_istore (lv' := [(6, .int r2), (5, .int r), (0, .ref b), (1, .ref (a 0)), (2, .ref (d 0)), (3, .ref (a 21)), (4, .int i)]) hx hb dL_law_1013 hl (by decide) rfl (fun ls hl => ?_)
  refine lv_aload_n hx hb dL_law_1015 rfl (lv_at hl 4 rfl) ?_
  refine kVi (As := []) (rest := []) ⟨hx, hb, hml, hown, hts⟩ (c_M_thrown l D cs d _ u2 (Φ := fun r3 u3 => r3 = g_MD_thrown u2 ∧ u3 = u2) ⟨rfl, rfl⟩) (cwV 0 hts gL_law_X4_thrown rfl rfl rfl (by decide +kernel) ⟨Nat.le_of_ble_eq_true rfl, Nat.le_of_ble_eq_true rfl⟩) (pt_LW_md cs a d u1 u2) hK hP hD hS hA (ci := 4) rfl rfl rfl rfl hl.1 rfl (Nat.le_of_ble_eq_true rfl) dL_law_1016 hc1 (fun r3 u3 H locs hq3 hP hD hS => ?_)
  obtain ⟨q3a, q3b⟩ := hq3
  rw [q3a]
  rw [q3b] at hP hD
  have hP : va_P D vwCl (ws_LW cs a d (u1, u2)) H := hP
  have hD : va_D A (ws_LW cs a d (u1, u2)) := hD
  refine lv_iload hx hb dL_law_1019 (lv_at hl 1 rfl) ?_
  refine lv_icmp_eq (tgt := 1026) hx hb dL_law_1021 (by decide) (fun c9 => ?_) (fun c9 => absurd ht9 c9)
  refine lv_iload hx hb dL_law_1026 (lv_at hl 1 rfl) ?_
  refine lv_if_ne (tgt := 1043) hx hb dL_law_1028 (by decide) (fun c9 => ?_) (fun c9 => ?_)
  · exact lv_goto (tgt := 1197) hx hb dL_law_1043 (by decide) (kk u1 u2 H locs ls hI (lv_sub hl [2, 3, 4, 5, 6] rfl) hP hD hS)
  · obtain ⟨e1, e2⟩ := h09 c9
    subst e1
    refine lv_aload_n hx hb dL_law_1031 rfl (lv_at hl 5 rfl) ?_
    refine lv_iconst (v := (0 : Int32)) hx hb dL_law_1032 (by decide) ?_
    refine va_lald (n := 1) (f := g_LH_out u1) hx hb hK hP 21 2 rfl rfl (vp_in_nI (n := 0) (by omega) (by omega)) dL_law_1033 ?_
    have e2 : g_LH_out u1 (0 : Int32).toNatClampNeg = Int32.toInt64 r2 := e2
    rw [e2]
    refine lv_iload hx hb dL_law_1034 (lv_at hl 0 rfl) ?_
    refine lv_i2l (v := Int32.toInt64 r2) hx hb dL_law_1036 rfl ?_
    refine W.lcmp hx hb dL_law_1037 ?_
    rw [lg_same]
    refine lv_if_eq (tgt := 1043) hx hb dL_law_1038 (by decide) (fun _ => ?_) (fun c9 => absurd rfl c9)
    exact lv_goto (tgt := 1197) hx hb dL_law_1043 (by decide) (kk u1 u2 H locs ls hI (lv_sub hl [2, 3, 4, 5, 6] rfl) hP hD hS)
set_option maxHeartbeats 4000000 in
theorem k_state {p : Program} {l : Launch} {e : Env} {s : State} {m : MethodId} {below : List Frame} {meth : Method} {c : Code} {b L : Nat} {xs : Nat → Int32} {D : va_G} {cs : CS} {a d : Nat → Nat} {A : Nat → Prop} {Q : State → Prop} (hfl : l.stackTraces = false) (hx : p.tables.exec = Jvm.exec) (hb : c.code = cL_law) (hml : c.maxLocals = 7) (hown : s.vm.findClass RL = some m.cls) (hts : ∀ w ∈ wsL_law, w.before #[Value.ref b] s = true) (hE : XE A s s.heap) (hK : va_K D vwCl (tysG cs) s) (hA : ∀ q, s.heap.size ≤ q → A q) (hX : va_X b L xs s s.heap) (hbl : b < s.heap.size) (hbA : ¬ A b) {i : Int32} (v1 : vp_in (i + (1 : Int32)) L) (v2 : vp_in (i + (2 : Int32)) L) (v3 : vp_in (i + (3 : Int32)) L) (v4 : vp_in (i + (4 : Int32)) L) {σ : LH} {τ : MD} (g : Inv σ.1 τ) {H : Heap} {locs : List Loc} {ls : Array Slot} {cells slots : Nat} (hc1 : cells + 1 ≤ 1088 ∧ slots + 6 ≤ 9123) (hP : va_P D vwCl (ws_LW cs a d (σ, τ)) H) (hD : va_D A (ws_LW cs a d (σ, τ))) (hS : va_S A s.heap H locs) (hl : lv_has ls 7 [(0, .ref b), (1, .ref (a 0)), (2, .ref (d 0)), (3, .ref (a 21)), (4, .int i)]) (kk : ∀ (σ' : LH) (τ' : MD) (H : Heap) (locs : List Loc) (ls : Array Slot), Inv σ'.1 τ' → lv_has ls 7 [(0, .ref b), (1, .ref (a 0)), (2, .ref (d 0)), (3, .ref (a 21)), (4, .int i)] → va_P D vwCl (ws_LW cs a d (σ', τ')) H → va_D A (ws_LW cs a d (σ', τ')) → va_S A s.heap H locs → W p l e room_1 s m #[Value.ref b] below meth c H locs (cells + 1) (slots + 6) Q (F0 m 1197 ls [])) : W p l e room_1 s m #[Value.ref b] below meth c H locs cells slots Q (F0 m 1046 ls []) := by
  obtain ⟨k9, r9, P9, Q9, hI9, w1, w2⟩ := rl_state g (xs (i + (1 : Int32)).toNatClampNeg)
  refine lv_aload_n hx hb dL_law_1046 rfl (lv_at hl 1 rfl) ?_
  refine lv_aload_n hx hb dL_law_1047 rfl (lv_at hl 0 rfl) ?_
  refine lv_iload hx hb dL_law_1048 (lv_at hl 4 rfl) ?_
  refine lv_iconst (v := (1 : Int32)) hx hb dL_law_1050 (by decide) ?_
  refine lv_iadd hx hb dL_law_1051 ?_
  refine va_sld hx hb hX hbl hbA hS v1 dL_law_1052 ?_
  refine lv_aload_n hx hb dL_law_1053 rfl (lv_at hl 3 rfl) ?_
  refine kLi (As := [.ref (a 0), .int (xs (i + (1 : Int32)).toNatClampNeg), .ref (a 21)]) (rest := []) ⟨hx, hb, hml, hown, hts⟩ hE (c_L_state l hfl D cs a _ σ (xs (i + (1 : Int32)).toNatClampNeg) (w1 (fun k z => k = k9 ∧ P9 z) (fun z q => ⟨rfl, q⟩))) (vx_cwSW 3 hts gL_law_L_state rfl rfl rfl (by decide +kernel) ⟨Nat.le_of_ble_eq_true rfl, Nat.le_of_ble_eq_true rfl⟩) (pt_LW_lh cs a d σ τ) hK hP hD hS hA rfl hl.1 rfl (Nat.le_of_ble_eq_true rfl) dL_law_1054 hc1 (fun r u1 H locs hw hP hD hS => ?_)
  obtain ⟨rfl, hw⟩ := hw
  have hP : va_P D vwCl (ws_LW cs a d (u1, τ)) H := hP
  have hD : va_D A (ws_LW cs a d (u1, τ)) := hD
  refine lv_istore (lv' := [(5, .int r), (0, .ref b), (1, .ref (a 0)), (2, .ref (d 0)), (3, .ref (a 21)), (4, .int i)]) hx hb dL_law_1057 hl (by decide) rfl (fun ls hl => ?_)
  refine lv_aload_n hx hb dL_law_1059 rfl (lv_at hl 3 rfl) ?_
  refine lv_aload_n hx hb dL_law_1060 rfl (lv_at hl 1 rfl) ?_
  refine lv_iload hx hb dL_law_1061 (lv_at hl 5 rfl) ?_
  refine lv_iconst (v := (1 : Int32)) hx hb dL_law_1063 (by decide) ?_
  refine lv_iadd hx hb dL_law_1064 ?_
  refine va_sld hx hb hX hbl hbA hS v1 dL_law_1065 ?_
  refine kVi (As := [.int (xs (i + (1 : Int32)).toNatClampNeg)]) (rest := []) ⟨hx, hb, hml, hown, hts⟩ (c_M_state l D cs d _ τ (xs (i + (1 : Int32)).toNatClampNeg) (w2 (fun b u => Q9 b u) (fun b u q => q))) (cwV 1 hts gL_law_X4_state rfl rfl rfl (by decide +kernel) ⟨Nat.le_of_ble_eq_true rfl, Nat.le_of_ble_eq_true rfl⟩) (pt_LW_md cs a d u1 τ) hK hP hD hS hA (ci := 4) rfl rfl rfl rfl hl.1 rfl (Nat.le_of_ble_eq_true rfl) dL_law_1066 hc1 (fun r2 u2 H locs hq hP hD hS => ?_)
  have hP : va_P D vwCl (ws_LW cs a d (u1, u2)) H := hP
  have hD : va_D A (ws_LW cs a d (u1, u2)) := hD
  obtain ⟨hI, ht9, h09⟩ := hI9 u1 u2 r2 hw hq
  refine lv_istore (lv' := [(6, .int r2), (5, .int r), (0, .ref b), (1, .ref (a 0)), (2, .ref (d 0)), (3, .ref (a 21)), (4, .int i)]) hx hb dL_law_1069 hl (by decide) rfl (fun ls hl => ?_)
  refine lv_aload_n hx hb dL_law_1071 rfl (lv_at hl 4 rfl) ?_
  refine kVi (As := []) (rest := []) ⟨hx, hb, hml, hown, hts⟩ (c_M_thrown l D cs d _ u2 (Φ := fun r3 u3 => r3 = g_MD_thrown u2 ∧ u3 = u2) ⟨rfl, rfl⟩) (cwV 0 hts gL_law_X4_thrown rfl rfl rfl (by decide +kernel) ⟨Nat.le_of_ble_eq_true rfl, Nat.le_of_ble_eq_true rfl⟩) (pt_LW_md cs a d u1 u2) hK hP hD hS hA (ci := 4) rfl rfl rfl rfl hl.1 rfl (Nat.le_of_ble_eq_true rfl) dL_law_1072 hc1 (fun r3 u3 H locs hq3 hP hD hS => ?_)
  obtain ⟨q3a, q3b⟩ := hq3
  rw [q3a]
  rw [q3b] at hP hD
  have hP : va_P D vwCl (ws_LW cs a d (u1, u2)) H := hP
  have hD : va_D A (ws_LW cs a d (u1, u2)) := hD
  refine lv_iload hx hb dL_law_1075 (lv_at hl 1 rfl) ?_
  refine lv_icmp_eq (tgt := 1082) hx hb dL_law_1077 (by decide) (fun c9 => ?_) (fun c9 => absurd ht9 c9)
  refine lv_iload hx hb dL_law_1082 (lv_at hl 1 rfl) ?_
  refine lv_if_ne (tgt := 1099) hx hb dL_law_1084 (by decide) (fun c9 => ?_) (fun c9 => ?_)
  · exact lv_goto (tgt := 1197) hx hb dL_law_1099 (by decide) (kk u1 u2 H locs ls hI (lv_sub hl [2, 3, 4, 5, 6] rfl) hP hD hS)
  · obtain ⟨e1, e2⟩ := h09 c9
    subst e1
    refine lv_aload_n hx hb dL_law_1087 rfl (lv_at hl 5 rfl) ?_
    refine lv_iconst (v := (0 : Int32)) hx hb dL_law_1088 (by decide) ?_
    refine va_lald (n := 1) (f := g_LH_out u1) hx hb hK hP 21 2 rfl rfl (vp_in_nI (n := 0) (by omega) (by omega)) dL_law_1089 ?_
    have e2 : g_LH_out u1 (0 : Int32).toNatClampNeg = Int32.toInt64 r2 := e2
    rw [e2]
    refine lv_iload hx hb dL_law_1090 (lv_at hl 0 rfl) ?_
    refine lv_i2l (v := Int32.toInt64 r2) hx hb dL_law_1092 rfl ?_
    refine W.lcmp hx hb dL_law_1093 ?_
    rw [lg_same]
    refine lv_if_eq (tgt := 1099) hx hb dL_law_1094 (by decide) (fun _ => ?_) (fun c9 => absurd rfl c9)
    exact lv_goto (tgt := 1197) hx hb dL_law_1099 (by decide) (kk u1 u2 H locs ls hI (lv_sub hl [2, 3, 4, 5, 6] rfl) hP hD hS)
set_option maxHeartbeats 4000000 in
theorem k_storm {p : Program} {l : Launch} {e : Env} {s : State} {m : MethodId} {below : List Frame} {meth : Method} {c : Code} {b L : Nat} {xs : Nat → Int32} {D : va_G} {cs : CS} {a d : Nat → Nat} {A : Nat → Prop} {Q : State → Prop} (hfl : l.stackTraces = false) (hx : p.tables.exec = Jvm.exec) (hb : c.code = cL_law) (hml : c.maxLocals = 7) (hown : s.vm.findClass RL = some m.cls) (hts : ∀ w ∈ wsL_law, w.before #[Value.ref b] s = true) (hE : XE A s s.heap) (hK : va_K D vwCl (tysG cs) s) (hA : ∀ q, s.heap.size ≤ q → A q) (hX : va_X b L xs s s.heap) (hbl : b < s.heap.size) (hbA : ¬ A b) {i : Int32} (v1 : vp_in (i + (1 : Int32)) L) (v2 : vp_in (i + (2 : Int32)) L) (v3 : vp_in (i + (3 : Int32)) L) (v4 : vp_in (i + (4 : Int32)) L) {σ : LH} {τ : MD} (g : Inv σ.1 τ) {H : Heap} {locs : List Loc} {ls : Array Slot} {cells slots : Nat} (hc1 : cells + 1 ≤ 1088 ∧ slots + 6 ≤ 9123) (hP : va_P D vwCl (ws_LW cs a d (σ, τ)) H) (hD : va_D A (ws_LW cs a d (σ, τ))) (hS : va_S A s.heap H locs) (hl : lv_has ls 7 [(0, .ref b), (1, .ref (a 0)), (2, .ref (d 0)), (3, .ref (a 21)), (4, .int i)]) (kk : ∀ (σ' : LH) (τ' : MD) (H : Heap) (locs : List Loc) (ls : Array Slot), Inv σ'.1 τ' → lv_has ls 7 [(0, .ref b), (1, .ref (a 0)), (2, .ref (d 0)), (3, .ref (a 21)), (4, .int i)] → va_P D vwCl (ws_LW cs a d (σ', τ')) H → va_D A (ws_LW cs a d (σ', τ')) → va_S A s.heap H locs → W p l e room_1 s m #[Value.ref b] below meth c H locs (cells + 1) (slots + 6) Q (F0 m 1197 ls [])) : W p l e room_1 s m #[Value.ref b] below meth c H locs cells slots Q (F0 m 1102 ls []) := by
  obtain ⟨h, c9, w, le, n, cr, lc, ltr, len, p9, m9, s9, lo, ld, st, pri, bd, q, pp, ow, d9, sy, fe, tr, lids, th, td, tdh, g, e1, e2⟩ := g
  obtain ⟨r9, σ9, τ9, hI, w1, w2⟩ := st_storm (tr := tr) (lids := lids) (th := th) (td := td) (tdh := tdh) (w := w) (le := le) (lc := lc) (s := s9) (lo := lo) (ld := ld) (fe := fe) g
  rw [← e1] at w1
  rw [← e2] at w2
  refine lv_aload_n hx hb dL_law_1102 rfl (lv_at hl 1 rfl) ?_
  refine kVi (As := []) (rest := []) ⟨hx, hb, hml, hown, hts⟩ (c_C_storm l D cs a _ σ.1 (w1 (fun r u => r = r9 ∧ u = σ9) ⟨rfl, rfl⟩)) (cwV 0 hts gL_law_X3_storm rfl rfl rfl (by decide +kernel) ⟨Nat.le_of_ble_eq_true rfl, Nat.le_of_ble_eq_true rfl⟩) (pt_LW_cy cs a d σ τ) hK hP hD hS hA (ci := 3) rfl rfl rfl rfl hl.1 rfl (Nat.le_of_ble_eq_true rfl) dL_law_1103 ⟨Nat.le_of_lt hc1.1, Nat.le_trans (Nat.le_add_right _ 6) hc1.2⟩ (fun r1 u1 H locs hw hP hD hS => ?_)
  obtain ⟨rfl, rfl⟩ := hw
  have hP : va_P D vwCl (ws_LW cs a d (s_LH_cy σ u1, τ)) H := hP
  have hD : va_D A (ws_LW cs a d (s_LH_cy σ u1, τ)) := hD
  refine lv_aload_n hx hb dL_law_1106 rfl (lv_at hl 2 rfl) ?_
  refine kVi (As := []) (rest := [.int r1]) ⟨hx, hb, hml, hown, hts⟩ (c_M_storm l D cs d _ τ (w2 (fun r u => r = r1 ∧ u = τ9) ⟨rfl, rfl⟩)) (cwV 0 hts gL_law_X4_storm rfl rfl rfl (by decide +kernel) ⟨Nat.le_of_ble_eq_true rfl, Nat.le_of_ble_eq_true rfl⟩) (pt_LW_md cs a d (s_LH_cy σ u1) τ) hK hP hD hS hA (ci := 4) rfl rfl rfl rfl hl.1 rfl (Nat.le_of_ble_eq_true rfl) dL_law_1107 ⟨Nat.le_of_lt hc1.1, Nat.le_trans (Nat.le_add_right _ 6) hc1.2⟩ (fun r2 u2 H locs hw hP hD hS => ?_)
  obtain ⟨rfl, rfl⟩ := hw
  have hP : va_P D vwCl (ws_LW cs a d (s_LH_cy σ u1, u2)) H := hP
  have hD : va_D A (ws_LW cs a d (s_LH_cy σ u1, u2)) := hD
  refine lv_icmp_eq (tgt := 1197) hx hb dL_law_1110 (by decide) (fun _ => ?_) (fun c9 => absurd rfl c9)
  exact W.widen (k := cells + 1) (n := slots + 6) (Nat.le_succ _) (Nat.le_add_right _ 6) (kk (s_LH_cy σ u1) u2 H locs ls hI hl hP hD hS)
set_option maxHeartbeats 4000000 in
theorem k_pass {p : Program} {l : Launch} {e : Env} {s : State} {m : MethodId} {below : List Frame} {meth : Method} {c : Code} {b L : Nat} {xs : Nat → Int32} {D : va_G} {cs : CS} {a d : Nat → Nat} {A : Nat → Prop} {Q : State → Prop} (hfl : l.stackTraces = false) (hx : p.tables.exec = Jvm.exec) (hb : c.code = cL_law) (hml : c.maxLocals = 7) (hown : s.vm.findClass RL = some m.cls) (hts : ∀ w ∈ wsL_law, w.before #[Value.ref b] s = true) (hE : XE A s s.heap) (hK : va_K D vwCl (tysG cs) s) (hA : ∀ q, s.heap.size ≤ q → A q) (hX : va_X b L xs s s.heap) (hbl : b < s.heap.size) (hbA : ¬ A b) {i : Int32} (v1 : vp_in (i + (1 : Int32)) L) (v2 : vp_in (i + (2 : Int32)) L) (v3 : vp_in (i + (3 : Int32)) L) (v4 : vp_in (i + (4 : Int32)) L) {σ : LH} {τ : MD} (g : Inv σ.1 τ) {H : Heap} {locs : List Loc} {ls : Array Slot} {cells slots : Nat} (hc1 : cells + 1 ≤ 1088 ∧ slots + 6 ≤ 9123) (hP : va_P D vwCl (ws_LW cs a d (σ, τ)) H) (hD : va_D A (ws_LW cs a d (σ, τ))) (hS : va_S A s.heap H locs) (hl : lv_has ls 7 [(0, .ref b), (1, .ref (a 0)), (2, .ref (d 0)), (3, .ref (a 21)), (4, .int i)]) (kk : ∀ (σ' : LH) (τ' : MD) (H : Heap) (locs : List Loc) (ls : Array Slot), Inv σ'.1 τ' → lv_has ls 7 [(0, .ref b), (1, .ref (a 0)), (2, .ref (d 0)), (3, .ref (a 21)), (4, .int i)] → va_P D vwCl (ws_LW cs a d (σ', τ')) H → va_D A (ws_LW cs a d (σ', τ')) → va_S A s.heap H locs → W p l e room_1 s m #[Value.ref b] below meth c H locs (cells + 1) (slots + 6) Q (F0 m 1197 ls [])) : W p l e room_1 s m #[Value.ref b] below meth c H locs cells slots Q (F0 m 1115 ls []) := by
  obtain ⟨k9, r9, P9, Q9, hI9, w1, w2⟩ := rl_pass g (xs (i + (1 : Int32)).toNatClampNeg)
  refine lv_aload_n hx hb dL_law_1115 rfl (lv_at hl 1 rfl) ?_
  refine lv_aload_n hx hb dL_law_1116 rfl (lv_at hl 0 rfl) ?_
  refine lv_iload hx hb dL_law_1117 (lv_at hl 4 rfl) ?_
  refine lv_iconst (v := (1 : Int32)) hx hb dL_law_1119 (by decide) ?_
  refine lv_iadd hx hb dL_law_1120 ?_
  refine va_sld hx hb hX hbl hbA hS v1 dL_law_1121 ?_
  refine lv_aload_n hx hb dL_law_1122 rfl (lv_at hl 3 rfl) ?_
  refine kLi (As := [.ref (a 0), .int (xs (i + (1 : Int32)).toNatClampNeg), .ref (a 21)]) (rest := []) ⟨hx, hb, hml, hown, hts⟩ hE (c_L_pass l hfl D cs a _ σ (xs (i + (1 : Int32)).toNatClampNeg) (w1 (fun k z => k = k9 ∧ P9 z) (fun z q => ⟨rfl, q⟩))) (vx_cwSW 3 hts gL_law_L_pass rfl rfl rfl (by decide +kernel) ⟨Nat.le_of_ble_eq_true rfl, Nat.le_of_ble_eq_true rfl⟩) (pt_LW_lh cs a d σ τ) hK hP hD hS hA rfl hl.1 rfl (Nat.le_of_ble_eq_true rfl) dL_law_1123 hc1 (fun r u1 H locs hw hP hD hS => ?_)
  obtain ⟨rfl, hw⟩ := hw
  have hP : va_P D vwCl (ws_LW cs a d (u1, τ)) H := hP
  have hD : va_D A (ws_LW cs a d (u1, τ)) := hD
  refine lv_istore (lv' := [(5, .int r), (0, .ref b), (1, .ref (a 0)), (2, .ref (d 0)), (3, .ref (a 21)), (4, .int i)]) hx hb dL_law_1126 hl (by decide) rfl (fun ls hl => ?_)
  refine lv_aload_n hx hb dL_law_1128 rfl (lv_at hl 3 rfl) ?_
  refine lv_aload_n hx hb dL_law_1129 rfl (lv_at hl 1 rfl) ?_
  refine lv_iload hx hb dL_law_1130 (lv_at hl 5 rfl) ?_
  refine lv_iconst (v := (1 : Int32)) hx hb dL_law_1132 (by decide) ?_
  refine lv_iadd hx hb dL_law_1133 ?_
  refine va_sld hx hb hX hbl hbA hS v1 dL_law_1134 ?_
  refine kVi (As := [.int (xs (i + (1 : Int32)).toNatClampNeg)]) (rest := []) ⟨hx, hb, hml, hown, hts⟩ (c_M_pass l D cs d _ τ (xs (i + (1 : Int32)).toNatClampNeg) (w2 (fun b u => Q9 b u) (fun b u q => q))) (cwV 1 hts gL_law_X4_pass rfl rfl rfl (by decide +kernel) ⟨Nat.le_of_ble_eq_true rfl, Nat.le_of_ble_eq_true rfl⟩) (pt_LW_md cs a d u1 τ) hK hP hD hS hA (ci := 4) rfl rfl rfl rfl hl.1 rfl (Nat.le_of_ble_eq_true rfl) dL_law_1135 hc1 (fun r2 u2 H locs hq hP hD hS => ?_)
  have hP : va_P D vwCl (ws_LW cs a d (u1, u2)) H := hP
  have hD : va_D A (ws_LW cs a d (u1, u2)) := hD
  obtain ⟨hI, ht9, h09⟩ := hI9 u1 u2 r2 hw hq
  refine lv_istore (lv' := [(6, .int r2), (5, .int r), (0, .ref b), (1, .ref (a 0)), (2, .ref (d 0)), (3, .ref (a 21)), (4, .int i)]) hx hb dL_law_1138 hl (by decide) rfl (fun ls hl => ?_)
  refine lv_aload_n hx hb dL_law_1140 rfl (lv_at hl 4 rfl) ?_
  refine kVi (As := []) (rest := []) ⟨hx, hb, hml, hown, hts⟩ (c_M_thrown l D cs d _ u2 (Φ := fun r3 u3 => r3 = g_MD_thrown u2 ∧ u3 = u2) ⟨rfl, rfl⟩) (cwV 0 hts gL_law_X4_thrown rfl rfl rfl (by decide +kernel) ⟨Nat.le_of_ble_eq_true rfl, Nat.le_of_ble_eq_true rfl⟩) (pt_LW_md cs a d u1 u2) hK hP hD hS hA (ci := 4) rfl rfl rfl rfl hl.1 rfl (Nat.le_of_ble_eq_true rfl) dL_law_1141 hc1 (fun r3 u3 H locs hq3 hP hD hS => ?_)
  obtain ⟨q3a, q3b⟩ := hq3
  rw [q3a]
  rw [q3b] at hP hD
  have hP : va_P D vwCl (ws_LW cs a d (u1, u2)) H := hP
  have hD : va_D A (ws_LW cs a d (u1, u2)) := hD
  refine lv_iload hx hb dL_law_1144 (lv_at hl 1 rfl) ?_
  refine lv_icmp_eq (tgt := 1151) hx hb dL_law_1146 (by decide) (fun c9 => ?_) (fun c9 => absurd ht9 c9)
  refine lv_iload hx hb dL_law_1151 (lv_at hl 1 rfl) ?_
  refine lv_if_ne (tgt := 1168) hx hb dL_law_1153 (by decide) (fun c9 => ?_) (fun c9 => ?_)
  · exact lv_goto (tgt := 1197) hx hb dL_law_1168 (by decide) (kk u1 u2 H locs ls hI (lv_sub hl [2, 3, 4, 5, 6] rfl) hP hD hS)
  · obtain ⟨e1, e2⟩ := h09 c9
    subst e1
    refine lv_aload_n hx hb dL_law_1156 rfl (lv_at hl 5 rfl) ?_
    refine lv_iconst (v := (0 : Int32)) hx hb dL_law_1157 (by decide) ?_
    refine va_lald (n := 1) (f := g_LH_out u1) hx hb hK hP 21 2 rfl rfl (vp_in_nI (n := 0) (by omega) (by omega)) dL_law_1158 ?_
    have e2 : g_LH_out u1 (0 : Int32).toNatClampNeg = Int32.toInt64 r2 := e2
    rw [e2]
    refine lv_iload hx hb dL_law_1159 (lv_at hl 0 rfl) ?_
    refine lv_i2l (v := Int32.toInt64 r2) hx hb dL_law_1161 rfl ?_
    refine W.lcmp hx hb dL_law_1162 ?_
    rw [lg_same]
    refine lv_if_eq (tgt := 1168) hx hb dL_law_1163 (by decide) (fun _ => ?_) (fun c9 => absurd rfl c9)
    exact lv_goto (tgt := 1197) hx hb dL_law_1168 (by decide) (kk u1 u2 H locs ls hI (lv_sub hl [2, 3, 4, 5, 6] rfl) hP hD hS)
set_option maxHeartbeats 4000000 in
theorem k_today {p : Program} {l : Launch} {e : Env} {s : State} {m : MethodId} {below : List Frame} {meth : Method} {c : Code} {b L : Nat} {xs : Nat → Int32} {D : va_G} {cs : CS} {a d : Nat → Nat} {A : Nat → Prop} {Q : State → Prop} (hfl : l.stackTraces = false) (hx : p.tables.exec = Jvm.exec) (hb : c.code = cL_law) (hml : c.maxLocals = 7) (hown : s.vm.findClass RL = some m.cls) (hts : ∀ w ∈ wsL_law, w.before #[Value.ref b] s = true) (hE : XE A s s.heap) (hK : va_K D vwCl (tysG cs) s) (hA : ∀ q, s.heap.size ≤ q → A q) (hX : va_X b L xs s s.heap) (hbl : b < s.heap.size) (hbA : ¬ A b) {i : Int32} (v1 : vp_in (i + (1 : Int32)) L) (v2 : vp_in (i + (2 : Int32)) L) (v3 : vp_in (i + (3 : Int32)) L) (v4 : vp_in (i + (4 : Int32)) L) {σ : LH} {τ : MD} (g : Inv σ.1 τ) {H : Heap} {locs : List Loc} {ls : Array Slot} {cells slots : Nat} (hc1 : cells + 1 ≤ 1088 ∧ slots + 6 ≤ 9123) (hP : va_P D vwCl (ws_LW cs a d (σ, τ)) H) (hD : va_D A (ws_LW cs a d (σ, τ))) (hS : va_S A s.heap H locs) (hl : lv_has ls 7 [(0, .ref b), (1, .ref (a 0)), (2, .ref (d 0)), (3, .ref (a 21)), (4, .int i)]) (kk : ∀ (σ' : LH) (τ' : MD) (H : Heap) (locs : List Loc) (ls : Array Slot), Inv σ'.1 τ' → lv_has ls 7 [(0, .ref b), (1, .ref (a 0)), (2, .ref (d 0)), (3, .ref (a 21)), (4, .int i)] → va_P D vwCl (ws_LW cs a d (σ', τ')) H → va_D A (ws_LW cs a d (σ', τ')) → va_S A s.heap H locs → W p l e room_1 s m #[Value.ref b] below meth c H locs (cells + 1) (slots + 6) Q (F0 m 1197 ls [])) : W p l e room_1 s m #[Value.ref b] below meth c H locs cells slots Q (F0 m 1171 ls []) := by
  obtain ⟨h, c9, w, le, n, cr, lc, ltr, len, p9, m9, s9, lo, ld, st, pri, bd, q, pp, ow, d9, sy, fe, tr, lids, th, td, tdh, g, e1, e2⟩ := g
  obtain ⟨r9, σ9, τ9, hI, w1, w2⟩ := st_today (tr := tr) (lids := lids) (th := th) (td := td) (tdh := tdh) (w := w) (le := le) (lc := lc) (s := s9) (lo := lo) (ld := ld) (fe := fe) g
  rw [← e1] at w1
  rw [← e2] at w2
  refine lv_aload_n hx hb dL_law_1171 rfl (lv_at hl 1 rfl) ?_
  refine kVi (As := []) (rest := []) ⟨hx, hb, hml, hown, hts⟩ (c_C_today l D cs a _ σ.1 (w1 (fun r u => r = r9 ∧ u = σ9) ⟨rfl, rfl⟩)) (cwV 0 hts gL_law_X3_today rfl rfl rfl (by decide +kernel) ⟨Nat.le_of_ble_eq_true rfl, Nat.le_of_ble_eq_true rfl⟩) (pt_LW_cy cs a d σ τ) hK hP hD hS hA (ci := 3) rfl rfl rfl rfl hl.1 rfl (Nat.le_of_ble_eq_true rfl) dL_law_1172 ⟨Nat.le_of_lt hc1.1, Nat.le_trans (Nat.le_add_right _ 6) hc1.2⟩ (fun r1 u1 H locs hw hP hD hS => ?_)
  obtain ⟨rfl, rfl⟩ := hw
  have hP : va_P D vwCl (ws_LW cs a d (s_LH_cy σ u1, τ)) H := hP
  have hD : va_D A (ws_LW cs a d (s_LH_cy σ u1, τ)) := hD
  refine lv_aload_n hx hb dL_law_1175 rfl (lv_at hl 2 rfl) ?_
  refine kVi (As := []) (rest := [.int r1]) ⟨hx, hb, hml, hown, hts⟩ (c_M_today l D cs d _ τ (w2 (fun r u => r = r1 ∧ u = τ9) ⟨rfl, rfl⟩)) (cwV 0 hts gL_law_X4_today rfl rfl rfl (by decide +kernel) ⟨Nat.le_of_ble_eq_true rfl, Nat.le_of_ble_eq_true rfl⟩) (pt_LW_md cs a d (s_LH_cy σ u1) τ) hK hP hD hS hA (ci := 4) rfl rfl rfl rfl hl.1 rfl (Nat.le_of_ble_eq_true rfl) dL_law_1176 ⟨Nat.le_of_lt hc1.1, Nat.le_trans (Nat.le_add_right _ 6) hc1.2⟩ (fun r2 u2 H locs hw hP hD hS => ?_)
  obtain ⟨rfl, rfl⟩ := hw
  have hP : va_P D vwCl (ws_LW cs a d (s_LH_cy σ u1, u2)) H := hP
  have hD : va_D A (ws_LW cs a d (s_LH_cy σ u1, u2)) := hD
  refine lv_icmp_eq (tgt := 1197) hx hb dL_law_1179 (by decide) (fun _ => ?_) (fun c9 => absurd rfl c9)
  exact W.widen (k := cells + 1) (n := slots + 6) (Nat.le_succ _) (Nat.le_add_right _ 6) (kk (s_LH_cy σ u1) u2 H locs ls hI hl hP hD hS)
set_option maxHeartbeats 4000000 in
theorem k_balance {p : Program} {l : Launch} {e : Env} {s : State} {m : MethodId} {below : List Frame} {meth : Method} {c : Code} {b L : Nat} {xs : Nat → Int32} {D : va_G} {cs : CS} {a d : Nat → Nat} {A : Nat → Prop} {Q : State → Prop} (hfl : l.stackTraces = false) (hx : p.tables.exec = Jvm.exec) (hb : c.code = cL_law) (hml : c.maxLocals = 7) (hown : s.vm.findClass RL = some m.cls) (hts : ∀ w ∈ wsL_law, w.before #[Value.ref b] s = true) (hE : XE A s s.heap) (hK : va_K D vwCl (tysG cs) s) (hA : ∀ q, s.heap.size ≤ q → A q) (hX : va_X b L xs s s.heap) (hbl : b < s.heap.size) (hbA : ¬ A b) {i : Int32} (v1 : vp_in (i + (1 : Int32)) L) (v2 : vp_in (i + (2 : Int32)) L) (v3 : vp_in (i + (3 : Int32)) L) (v4 : vp_in (i + (4 : Int32)) L) {σ : LH} {τ : MD} (g : Inv σ.1 τ) {H : Heap} {locs : List Loc} {ls : Array Slot} {cells slots : Nat} (hc1 : cells + 1 ≤ 1088 ∧ slots + 6 ≤ 9123) (hP : va_P D vwCl (ws_LW cs a d (σ, τ)) H) (hD : va_D A (ws_LW cs a d (σ, τ))) (hS : va_S A s.heap H locs) (hl : lv_has ls 7 [(0, .ref b), (1, .ref (a 0)), (2, .ref (d 0)), (3, .ref (a 21)), (4, .int i)]) (kk : ∀ (σ' : LH) (τ' : MD) (H : Heap) (locs : List Loc) (ls : Array Slot), Inv σ'.1 τ' → lv_has ls 7 [(0, .ref b), (1, .ref (a 0)), (2, .ref (d 0)), (3, .ref (a 21)), (4, .int i)] → va_P D vwCl (ws_LW cs a d (σ', τ')) H → va_D A (ws_LW cs a d (σ', τ')) → va_S A s.heap H locs → W p l e room_1 s m #[Value.ref b] below meth c H locs (cells + 1) (slots + 6) Q (F0 m 1197 ls [])) : W p l e room_1 s m #[Value.ref b] below meth c H locs cells slots Q (F0 m 1184 ls []) := by
  obtain ⟨h, c9, w, le, n, cr, lc, ltr, len, p9, m9, s9, lo, ld, st, pri, bd, q, pp, ow, d9, sy, fe, tr, lids, th, td, tdh, g, e1, e2⟩ := g
  obtain ⟨r9, σ9, τ9, hI, w1, w2⟩ := st_balance (tr := tr) (lids := lids) (th := th) (td := td) (tdh := tdh) (w := w) (le := le) (lc := lc) (s := s9) (lo := lo) (ld := ld) (fe := fe) g
  rw [← e1] at w1
  rw [← e2] at w2
  refine lv_aload_n hx hb dL_law_1184 rfl (lv_at hl 1 rfl) ?_
  refine kVi (As := []) (rest := []) ⟨hx, hb, hml, hown, hts⟩ (c_C_balance l D cs a _ σ.1 (w1 (fun r u => r = r9 ∧ u = σ9) ⟨rfl, rfl⟩)) (cwV 0 hts gL_law_X3_balance rfl rfl rfl (by decide +kernel) ⟨Nat.le_of_ble_eq_true rfl, Nat.le_of_ble_eq_true rfl⟩) (pt_LW_cy cs a d σ τ) hK hP hD hS hA (ci := 3) rfl rfl rfl rfl hl.1 rfl (Nat.le_of_ble_eq_true rfl) dL_law_1185 ⟨Nat.le_of_lt hc1.1, Nat.le_trans (Nat.le_add_right _ 6) hc1.2⟩ (fun r1 u1 H locs hw hP hD hS => ?_)
  obtain ⟨rfl, rfl⟩ := hw
  have hP : va_P D vwCl (ws_LW cs a d (s_LH_cy σ u1, τ)) H := hP
  have hD : va_D A (ws_LW cs a d (s_LH_cy σ u1, τ)) := hD
  refine lv_aload_n hx hb dL_law_1188 rfl (lv_at hl 2 rfl) ?_
  refine kVi (As := []) (rest := [.int r1]) ⟨hx, hb, hml, hown, hts⟩ (c_M_balance l D cs d _ τ (w2 (fun r u => r = r1 ∧ u = τ9) ⟨rfl, rfl⟩)) (cwV 0 hts gL_law_X4_balance rfl rfl rfl (by decide +kernel) ⟨Nat.le_of_ble_eq_true rfl, Nat.le_of_ble_eq_true rfl⟩) (pt_LW_md cs a d (s_LH_cy σ u1) τ) hK hP hD hS hA (ci := 4) rfl rfl rfl rfl hl.1 rfl (Nat.le_of_ble_eq_true rfl) dL_law_1189 ⟨Nat.le_of_lt hc1.1, Nat.le_trans (Nat.le_add_right _ 6) hc1.2⟩ (fun r2 u2 H locs hw hP hD hS => ?_)
  obtain ⟨rfl, rfl⟩ := hw
  have hP : va_P D vwCl (ws_LW cs a d (s_LH_cy σ u1, u2)) H := hP
  have hD : va_D A (ws_LW cs a d (s_LH_cy σ u1, u2)) := hD
  refine lv_icmp_eq (tgt := 1197) hx hb dL_law_1192 (by decide) (fun _ => ?_) (fun c9 => absurd rfl c9)
  exact W.widen (k := cells + 1) (n := slots + 6) (Nat.le_succ _) (Nat.le_add_right _ 6) (kk (s_LH_cy σ u1) u2 H locs ls hI hl hP hD hS)
