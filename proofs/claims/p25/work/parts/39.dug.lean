set_option linter.unusedVariables false
abbrev rm_L_isDugSo : Room := { frames := 9, cells := 5, slots := 30, locals := 193 }
set_option maxHeartbeats 4000000 in
set_option maxRecDepth 100000 in
theorem c_L_isDugSo (l : Launch) (hfl : l.stackTraces = false) (D : va_G) (cs : CS) (a : Nat → Nat) (sz : Nat) (σ : CC) (p2 : Int32) {Φ : Int32 → CC → Prop} (hw : w_L_isDugSo σ p2 Φ) : vx_Met l yL_isDugSo wsL_isDugSo rm_L_isDugSo (PcX [.ref (a 0), .ref (a 21), .int p2] D cs (ws_CC cs a σ) sz) (va_Qi Φ (BL D cs (va_A (ws_CC cs a σ) sz) (ws_CC cs a)) (va_A (ws_CC cs a σ) sz)) (XG D cs (va_A (ws_CC cs a σ) sz) (ws_CC cs a) (fun _ _ => False)) 5 30 (va_A (ws_CC cs a σ) sz) := by
  refine vx_ofW (cc := cL_isDugSo) (maxL := 9) (ret := (some .boolean)) (by decide) rfl ?_
  intro p e s m args below meth c s₁ B hml hout hv
  obtain ⟨rfl, hsz, hP, hK, hD0, hE⟩ := hv
  have hx := B.exec
  have hb := B.bytes
  have hr := B.returns
  have hts := atoms_spec (ws := wsL_isDugSo) B.pre
  have hown : s.vm.findClass RL = some m.cls := findClass_of_methodNamed B.named
  have hlocks := B.notSynchronized
  subst hsz
  have hD := hD0.self (sz := s.heap.size)
  generalize hAe : va_A (ws_CC cs a σ) s.heap.size = A at hD hE ⊢
  have hA : ∀ q : Nat, s.heap.size ≤ q → A q := fun q h => by rw [← hAe]; exact Or.inr h
  have hS : va_S A s.heap s.heap [] := va_S.rf
  have hc31 : (Cond.constant RL 31 (-99998 : Int32)).before ([.ref (a 0), .ref (a 21), .int p2] : List Value).toArray s = true := hts _ (List.mem_of_getElem? (i := 1) rfl)
  have hP : va_P D vwCl (ws_CC cs a σ) s.heap := hP
  have B222 : ∀ (t0 : Int32) (σ : CC), b_L_isDugSo_222 Φ t0 σ → AtC p l e (headSpec wsL_isDugSo rm_L_isDugSo).room s m ([.ref (a 0), .ref (a 21), .int p2] : List Value).toArray below meth c (vx_MQ below (va_Qi Φ (BL D cs A (ws_CC cs a)) A) (XG D cs A (ws_CC cs a) (fun _ _ => False)) ([.ref (a 0), .ref (a 21), .int p2] : List Value).toArray s 5 30 A) D A 9 [] (ws_CC cs a σ) 222 [.int t0] 5 30 := by
    intro t0 σ hw H locs ls hl hP hD hS
    unfold b_L_isDugSo_222 at hw
    exact xZa (wf := (ws_CC cs a)) (u := σ) hx hb hr hlocks hK hP hD hS (Nat.le_of_ble_eq_true rfl) (Nat.le_of_ble_eq_true rfl) hw dL_isDugSo_222
  have B221 : ∀ (σ : CC), b_L_isDugSo_221 Φ σ → AtC p l e (headSpec wsL_isDugSo rm_L_isDugSo).room s m ([.ref (a 0), .ref (a 21), .int p2] : List Value).toArray below meth c (vx_MQ below (va_Qi Φ (BL D cs A (ws_CC cs a)) A) (XG D cs A (ws_CC cs a) (fun _ _ => False)) ([.ref (a 0), .ref (a 21), .int p2] : List Value).toArray s 5 30 A) D A 9 [] (ws_CC cs a σ) 221 [] 5 30 := by
    intro σ hw H locs ls hl hP hD hS
    unfold b_L_isDugSo_221 at hw
    refine lv_iconst (v := (0 : Int32)) hx hb dL_isDugSo_221 (by decide) ?_
    exact B222 _ _ hw _ _ ls (lv_sub hl [] rfl) hP hD hS
  have B150 : ∀ (t0 : Int32) (σ : CC), b_L_isDugSo_150 Φ t0 σ → AtC p l e (headSpec wsL_isDugSo rm_L_isDugSo).room s m ([.ref (a 0), .ref (a 21), .int p2] : List Value).toArray below meth c (vx_MQ below (va_Qi Φ (BL D cs A (ws_CC cs a)) A) (XG D cs A (ws_CC cs a) (fun _ _ => False)) ([.ref (a 0), .ref (a 21), .int p2] : List Value).toArray s 5 30 A) D A 9 [] (ws_CC cs a σ) 150 [.int t0] 4 24 := by
    intro t0 σ hw H locs ls hl hP hD hS
    unfold b_L_isDugSo_150 at hw
    exact xZa (wf := (ws_CC cs a)) (u := σ) hx hb hr hlocks hK hP hD hS (Nat.le_of_ble_eq_true rfl) (Nat.le_of_ble_eq_true rfl) hw dL_isDugSo_150
  have B149 : ∀ (σ : CC), b_L_isDugSo_149 Φ σ → AtC p l e (headSpec wsL_isDugSo rm_L_isDugSo).room s m ([.ref (a 0), .ref (a 21), .int p2] : List Value).toArray below meth c (vx_MQ below (va_Qi Φ (BL D cs A (ws_CC cs a)) A) (XG D cs A (ws_CC cs a) (fun _ _ => False)) ([.ref (a 0), .ref (a 21), .int p2] : List Value).toArray s 5 30 A) D A 9 [] (ws_CC cs a σ) 149 [] 4 24 := by
    intro σ hw H locs ls hl hP hD hS
    unfold b_L_isDugSo_149 at hw
    refine lv_iconst (v := (0 : Int32)) hx hb dL_isDugSo_149 (by decide) ?_
    exact B150 _ _ hw _ _ ls (lv_sub hl [] rfl) hP hD hS
  have B145 : ∀ (σ : CC), b_L_isDugSo_145 Φ σ → AtC p l e (headSpec wsL_isDugSo rm_L_isDugSo).room s m ([.ref (a 0), .ref (a 21), .int p2] : List Value).toArray below meth c (vx_MQ below (va_Qi Φ (BL D cs A (ws_CC cs a)) A) (XG D cs A (ws_CC cs a) (fun _ _ => False)) ([.ref (a 0), .ref (a 21), .int p2] : List Value).toArray s 5 30 A) D A 9 [] (ws_CC cs a σ) 145 [] 4 24 := by
    intro σ hw H locs ls hl hP hD hS
    unfold b_L_isDugSo_145 at hw
    refine lv_iconst (v := (1 : Int32)) hx hb dL_isDugSo_145 (by decide) ?_
    refine lv_goto (tgt := 150) hx hb dL_isDugSo_146 (by decide) ?_
    exact B150 _ _ hw _ _ ls (lv_sub hl [] rfl) hP hD hS
  have B116 : ∀ (x3 : Int32) (x4 : Int32) (x5 : Int32) (x8 : Int32) (σ : CC), b_L_isDugSo_116 Φ x3 x4 x5 x8 σ → AtC p l e (headSpec wsL_isDugSo rm_L_isDugSo).room s m ([.ref (a 0), .ref (a 21), .int p2] : List Value).toArray below meth c (vx_MQ below (va_Qi Φ (BL D cs A (ws_CC cs a)) A) (XG D cs A (ws_CC cs a) (fun _ _ => False)) ([.ref (a 0), .ref (a 21), .int p2] : List Value).toArray s 5 30 A) D A 9 [(3, .int x3), (4, .int x4), (5, .int x5), (8, .int x8)] (ws_CC cs a σ) 116 [] 4 24 := by
    intro x3 x4 x5 x8 σ hw H locs ls hl hP hD hS
    unfold b_L_isDugSo_116 at hw
    refine lv_iload hx hb dL_isDugSo_116 (lv_at hl 3 rfl) ?_
    refine lv_bipush (v := (-2 : Int32)) hx hb dL_isDugSo_118 (by decide) ?_
    refine lv_icmp_ge (tgt := 149) hx hb dL_isDugSo_120 (by decide) (fun c120 => ?_) (fun c120 => ?_)
    · have hw := hw.1 c120
      exact B149 _ hw _ _ ls (lv_sub hl [] rfl) hP hD hS
    · have hw := hw.2 c120
      refine lv_iload_n hx hb dL_isDugSo_123 rfl (lv_at hl 0 rfl) ?_
      refine lv_bipush (v := (-2 : Int32)) hx hb dL_isDugSo_124 (by decide) ?_
      refine lv_icmp_eq (tgt := 145) hx hb dL_isDugSo_126 (by decide) (fun c126 => ?_) (fun c126 => ?_)
      · have hw := hw.1 c126
        exact B145 _ hw _ _ ls (lv_sub hl [] rfl) hP hD hS
      · have hw := hw.2 c126
        refine lv_iload hx hb dL_isDugSo_129 (lv_at hl 2 rfl) ?_
        refine lv_if_lt (tgt := 145) hx hb dL_isDugSo_131 (by decide) (fun c131 => ?_) (fun c131 => ?_)
        · have hw := hw.1 c131
          exact B145 _ hw _ _ ls (lv_sub hl [] rfl) hP hD hS
        · have hw := hw.2 c131
          refine lv_iload_n hx hb dL_isDugSo_134 rfl (lv_at hl 0 rfl) ?_
          refine lv_if_lt (tgt := 145) hx hb dL_isDugSo_135 (by decide) (fun c135 => ?_) (fun c135 => ?_)
          · have hw := hw.1 c135
            exact B145 _ hw _ _ ls (lv_sub hl [] rfl) hP hD hS
          · have hw := hw.2 c135
            refine lv_iload hx hb dL_isDugSo_138 (lv_at hl 1 rfl) ?_
            refine lv_bipush (v := (-3 : Int32)) hx hb dL_isDugSo_140 (by decide) ?_
            refine lv_icmp_ne (tgt := 149) hx hb dL_isDugSo_142 (by decide) (fun c142 => ?_) (fun c142 => ?_)
            · have hw := hw.2 c142
              exact B149 _ hw _ _ ls (lv_sub hl [] rfl) hP hD hS
            · have hw := hw.1 c142
              exact B145 _ hw _ _ ls (lv_sub hl [] rfl) hP hD hS
  have B88 : ∀ (x2 : Int32) (x3 : Int32) (x4 : Int32) (x5 : Int32) (x6 : Int32) (x7 : Int32) (σ : CC), b_L_isDugSo_88 Φ x2 x3 x4 x5 x6 x7 σ → AtC p l e (headSpec wsL_isDugSo rm_L_isDugSo).room s m ([.ref (a 0), .ref (a 21), .int p2] : List Value).toArray below meth c (vx_MQ below (va_Qi Φ (BL D cs A (ws_CC cs a)) A) (XG D cs A (ws_CC cs a) (fun _ _ => False)) ([.ref (a 0), .ref (a 21), .int p2] : List Value).toArray s 5 30 A) D A 9 [(0, .ref (a 0)), (1, .ref (a 21)), (2, .int x2), (3, .int x3), (4, .int x4), (5, .int x5), (6, .int x6), (7, .int x7)] (ws_CC cs a σ) 88 [] 2 12 := by
    intro x2 x3 x4 x5 x6 x7 σ hw H locs ls hl hP hD hS
    unfold b_L_isDugSo_88 at hw
    refine lv_aload_n hx hb dL_isDugSo_88 rfl (lv_at hl 0 rfl) ?_
    refine lv_iload_n hx hb dL_isDugSo_89 rfl (lv_at hl 2 rfl) ?_
    refine kLi (As := [.ref (a 0), .int x2]) (rest := []) ⟨hx, hb, hml, hown, hts⟩ hE (c_L_dig l hfl D cs a _ (g_CC_o σ) x2 hw) (vx_cwSW 2 hts gL_isDugSo_L_dig rfl rfl rfl (by decide +kernel) ⟨Nat.le_of_ble_eq_true rfl, Nat.le_of_ble_eq_true rfl⟩) (pt_CC_o cs a σ) hK hP hD hS hA rfl hl.1 rfl (Nat.le_of_ble_eq_true rfl) dL_isDugSo_90 ⟨Nat.le_of_ble_eq_true rfl, Nat.le_of_ble_eq_true rfl⟩ (fun r90 u90 H locs hw hP hD hS => ?_)
    have hP : va_P D vwCl (ws_CC cs a (s_CC_o σ u90)) H := hP
    have hD : va_D A (ws_CC cs a (s_CC_o σ u90)) := hD
    refine lv_istore (lv' := [(8, .int r90), (0, .ref (a 0)), (1, .ref (a 21)), (2, .int x2), (3, .int x3), (4, .int x4), (5, .int x5), (6, .int x6), (7, .int x7)]) hx hb dL_isDugSo_93 hl (by decide) rfl (fun ls hl => ?_)
    refine lv_aload_n hx hb dL_isDugSo_95 rfl (lv_at hl 2 rfl) ?_
    refine lv_iload_n hx hb dL_isDugSo_96 rfl (lv_at hl 3 rfl) ?_
    refine kLi (As := [.ref (a 21), .int x2]) (rest := []) ⟨hx, hb, hml, hown, hts⟩ hE (c_L_dig l hfl D cs (sh a 21) _ (g_CC_p (s_CC_o σ u90)) x2 hw) (vx_cwSW 2 hts gL_isDugSo_L_dig rfl rfl rfl (by decide +kernel) ⟨Nat.le_of_ble_eq_true rfl, Nat.le_of_ble_eq_true rfl⟩) (pt_CC_p cs a (s_CC_o σ u90)) hK hP hD hS hA rfl hl.1 rfl (Nat.le_of_ble_eq_true rfl) dL_isDugSo_97 ⟨Nat.le_of_ble_eq_true rfl, Nat.le_of_ble_eq_true rfl⟩ (fun r97 u97 H locs hw hP hD hS => ?_)
    have hP : va_P D vwCl (ws_CC cs a (s_CC_p (s_CC_o σ u90) u97)) H := hP
    have hD : va_D A (ws_CC cs a (s_CC_p (s_CC_o σ u90) u97)) := hD
    refine lv_iload hx hb dL_isDugSo_100 (lv_at hl 0 rfl) ?_
    refine lv_icmp_eq (tgt := 107) hx hb dL_isDugSo_102 (by decide) (fun c102 => ?_) (fun c102 => ?_)
    · have hw := hw.1 c102
      refine lv_iload hx hb dL_isDugSo_107 (lv_at hl 6 rfl) ?_
      refine lv_if_ge (tgt := 116) hx hb dL_isDugSo_109 (by decide) (fun c109 => ?_) (fun c109 => ?_)
      · have hw := hw.1 c109
        exact B116 _ _ _ _ _ hw _ _ ls (lv_sub hl [4, 5, 6, 0] rfl) hP hD hS
      · have hw := hw.2 c109
        refine lv_iload_n hx hb dL_isDugSo_112 rfl (lv_at hl 4 rfl) ?_
        refine lv_if_ge (tgt := 151) hx hb dL_isDugSo_113 (by decide) (fun c113 => ?_) (fun c113 => ?_)
        · have hw := hw.1 c113
          refine lv_iload hx hb dL_isDugSo_151 (lv_at hl 5 rfl) ?_
          refine lv_iconst (v := (-1 : Int32)) hx hb dL_isDugSo_153 (by decide) ?_
          refine lv_icmp_ne (tgt := 172) hx hb dL_isDugSo_154 (by decide) (fun c154 => ?_) (fun c154 => ?_)
          · have hw := hw.2 c154
            refine lv_iload hx hb dL_isDugSo_172 (lv_at hl 0 rfl) ?_
            refine lv_iload hx hb dL_isDugSo_174 (lv_at hl 5 rfl) ?_
            refine lv_icmp_ne (tgt := 221) hx hb dL_isDugSo_176 (by decide) (fun c176 => ?_) (fun c176 => ?_)
            · have hw := hw.2 c176
              refine W.widen (k := 5) (n := 30) (Nat.le_of_ble_eq_true rfl) (Nat.le_of_ble_eq_true rfl) ?_
              exact B221 _ hw _ _ ls (lv_sub hl [] rfl) hP hD hS
            · have hw := hw.1 c176
              refine lv_iload hx hb dL_isDugSo_179 (lv_at hl 0 rfl) ?_
              refine lv_iload hx hb dL_isDugSo_181 (lv_at hl 8 rfl) ?_
              refine lv_iconst (v := (1 : Int32)) hx hb dL_isDugSo_183 (by decide) ?_
              refine lv_iadd hx hb dL_isDugSo_184 ?_
              refine lv_icmp_ne (tgt := 221) hx hb dL_isDugSo_185 (by decide) (fun c185 => ?_) (fun c185 => ?_)
              · have hw := hw.2 c185
                refine W.widen (k := 5) (n := 30) (Nat.le_of_ble_eq_true rfl) (Nat.le_of_ble_eq_true rfl) ?_
                exact B221 _ hw _ _ ls (lv_sub hl [] rfl) hP hD hS
              · have hw := hw.1 c185
                refine lv_aload_n hx hb dL_isDugSo_188 rfl (lv_at hl 1 rfl) ?_
                refine kVi (As := []) (rest := []) ⟨hx, hb, hml, hown, hts⟩ (c_C_crane l D cs a _ (g_CC_o (s_CC_p (s_CC_o σ u90) u97)) hw) (cwV 0 hts gL_isDugSo_X3_crane rfl rfl rfl (by decide +kernel) ⟨Nat.le_of_ble_eq_true rfl, Nat.le_of_ble_eq_true rfl⟩) (pt_CC_o cs a (s_CC_p (s_CC_o σ u90) u97)) hK hP hD hS hA (ci := 3) rfl rfl rfl rfl hl.1 rfl (Nat.le_of_ble_eq_true rfl) dL_isDugSo_189 ⟨Nat.le_of_ble_eq_true rfl, Nat.le_of_ble_eq_true rfl⟩ (fun r189 u189 H locs hw hP hD hS => ?_)
                have hP : va_P D vwCl (ws_CC cs a (s_CC_o (s_CC_p (s_CC_o σ u90) u97) u189)) H := hP
                have hD : va_D A (ws_CC cs a (s_CC_o (s_CC_p (s_CC_o σ u90) u97) u189)) := hD
                refine lv_iload_n hx hb dL_isDugSo_192 rfl (lv_at hl 3 rfl) ?_
                refine lv_icmp_ne (tgt := 221) hx hb dL_isDugSo_193 (by decide) (fun c193 => ?_) (fun c193 => ?_)
                · have hw := hw.2 c193
                  refine W.widen (k := 5) (n := 30) (Nat.le_of_ble_eq_true rfl) (Nat.le_of_ble_eq_true rfl) ?_
                  exact B221 _ hw _ _ ls (lv_sub hl [] rfl) hP hD hS
                · have hw := hw.1 c193
                  refine lv_aload_n hx hb dL_isDugSo_196 rfl (lv_at hl 1 rfl) ?_
                  refine kVi (As := []) (rest := []) ⟨hx, hb, hml, hown, hts⟩ (c_C_lifts l D cs a _ (g_CC_o (s_CC_o (s_CC_p (s_CC_o σ u90) u97) u189)) hw) (cwV 0 hts gL_isDugSo_X3_lifts rfl rfl rfl (by decide +kernel) ⟨Nat.le_of_ble_eq_true rfl, Nat.le_of_ble_eq_true rfl⟩) (pt_CC_o cs a (s_CC_o (s_CC_p (s_CC_o σ u90) u97) u189)) hK hP hD hS hA (ci := 3) rfl rfl rfl rfl hl.1 rfl (Nat.le_of_ble_eq_true rfl) dL_isDugSo_197 ⟨Nat.le_of_ble_eq_true rfl, Nat.le_of_ble_eq_true rfl⟩ (fun r197 u197 H locs hw hP hD hS => ?_)
                  have hP : va_P D vwCl (ws_CC cs a (s_CC_o (s_CC_o (s_CC_p (s_CC_o σ u90) u97) u189) u197)) H := hP
                  have hD : va_D A (ws_CC cs a (s_CC_o (s_CC_o (s_CC_p (s_CC_o σ u90) u97) u189) u197)) := hD
                  refine lv_iload hx hb dL_isDugSo_200 (lv_at hl 7 rfl) ?_
                  refine lv_iload hx hb dL_isDugSo_202 (lv_at hl 0 rfl) ?_
                  refine lv_iadd hx hb dL_isDugSo_204 ?_
                  refine lv_icmp_ne (tgt := 221) hx hb dL_isDugSo_205 (by decide) (fun c205 => ?_) (fun c205 => ?_)
                  · have hw := hw.2 c205
                    refine W.widen (k := 5) (n := 30) (Nat.le_of_ble_eq_true rfl) (Nat.le_of_ble_eq_true rfl) ?_
                    exact B221 _ hw _ _ ls (lv_sub hl [] rfl) hP hD hS
                  · have hw := hw.1 c205
                    refine lv_aload_n hx hb dL_isDugSo_208 rfl (lv_at hl 1 rfl) ?_
                    refine lv_iload_n hx hb dL_isDugSo_209 rfl (lv_at hl 3 rfl) ?_
                    refine kLi (As := [.ref (a 0), .int x2]) (rest := []) ⟨hx, hb, hml, hown, hts⟩ hE (c_L_stackOf l hfl D cs a _ (g_CC_o (s_CC_o (s_CC_o (s_CC_p (s_CC_o σ u90) u97) u189) u197)) x2 hw) (vx_cwSW 2 hts gL_isDugSo_L_stackOf rfl rfl rfl (by decide +kernel) ⟨Nat.le_of_ble_eq_true rfl, Nat.le_of_ble_eq_true rfl⟩) (pt_CC_o cs a (s_CC_o (s_CC_o (s_CC_p (s_CC_o σ u90) u97) u189) u197)) hK hP hD hS hA rfl hl.1 rfl (Nat.le_of_ble_eq_true rfl) dL_isDugSo_210 ⟨Nat.le_of_ble_eq_true rfl, Nat.le_of_ble_eq_true rfl⟩ (fun r210 u210 H locs hw hP hD hS => ?_)
                    have hP : va_P D vwCl (ws_CC cs a (s_CC_o (s_CC_o (s_CC_o (s_CC_p (s_CC_o σ u90) u97) u189) u197) u210)) H := hP
                    have hD : va_D A (ws_CC cs a (s_CC_o (s_CC_o (s_CC_o (s_CC_p (s_CC_o σ u90) u97) u189) u197) u210)) := hD
                    refine lv_iconst (v := (-1 : Int32)) hx hb dL_isDugSo_213 (by decide) ?_
                    refine lv_icmp_ne (tgt := 221) hx hb dL_isDugSo_214 (by decide) (fun c214 => ?_) (fun c214 => ?_)
                    · have hw := hw.2 c214
                      exact B221 _ hw _ _ ls (lv_sub hl [] rfl) hP hD hS
                    · have hw := hw.1 c214
                      refine lv_iconst (v := (1 : Int32)) hx hb dL_isDugSo_217 (by decide) ?_
                      refine lv_goto (tgt := 222) hx hb dL_isDugSo_218 (by decide) ?_
                      exact B222 _ _ hw _ _ ls (lv_sub hl [] rfl) hP hD hS
          · have hw := hw.1 c154
            refine lv_iload hx hb dL_isDugSo_157 (lv_at hl 0 rfl) ?_
            refine lv_ldc (v := (-99998 : Int32)) hx hb hown hc31 dL_isDugSo_159 ?_
            refine lv_icmp_ne (tgt := 168) hx hb dL_isDugSo_161 (by decide) (fun c161 => ?_) (fun c161 => ?_)
            · have hw := hw.2 c161
              refine lv_iconst (v := (0 : Int32)) hx hb dL_isDugSo_168 (by decide) ?_
              refine lv_goto (tgt := 222) hx hb dL_isDugSo_169 (by decide) ?_
              refine W.widen (k := 5) (n := 30) (Nat.le_of_ble_eq_true rfl) (Nat.le_of_ble_eq_true rfl) ?_
              exact B222 _ _ hw _ _ ls (lv_sub hl [] rfl) hP hD hS
            · have hw := hw.1 c161
              refine lv_iconst (v := (1 : Int32)) hx hb dL_isDugSo_164 (by decide) ?_
              refine lv_goto (tgt := 222) hx hb dL_isDugSo_165 (by decide) ?_
              refine W.widen (k := 5) (n := 30) (Nat.le_of_ble_eq_true rfl) (Nat.le_of_ble_eq_true rfl) ?_
              exact B222 _ _ hw _ _ ls (lv_sub hl [] rfl) hP hD hS
        · have hw := hw.2 c113
          exact B116 _ _ _ _ _ hw _ _ ls (lv_sub hl [4, 5, 6, 0] rfl) hP hD hS
    · have hw := hw.2 c102
      refine lv_iconst (v := (0 : Int32)) hx hb dL_isDugSo_105 (by decide) ?_
      exact xZa (wf := (ws_CC cs a)) (u := (s_CC_p (s_CC_o σ u90) u97)) hx hb hr hlocks hK hP hD hS (Nat.le_of_ble_eq_true rfl) (Nat.le_of_ble_eq_true rfl) hw dL_isDugSo_106
  have B79 : ∀ (K42 : (Int32 → Int32 → Int32 → Int32 → Int32 → Int32 → Int32 → CC → Prop)) (hK42 : ∀ (x2 : Int32) (x3 : Int32) (x4 : Int32) (x5 : Int32) (x6 : Int32) (x7 : Int32) (x8 : Int32) (σ : CC), K42 x2 x3 x4 x5 x6 x7 x8 σ → AtC p l e (headSpec wsL_isDugSo rm_L_isDugSo).room s m ([.ref (a 0), .ref (a 21), .int p2] : List Value).toArray below meth c (vx_MQ below (va_Qi Φ (BL D cs A (ws_CC cs a)) A) (XG D cs A (ws_CC cs a) (fun _ _ => False)) ([.ref (a 0), .ref (a 21), .int p2] : List Value).toArray s 5 30 A) D A 9 [(0, .ref (a 0)), (1, .ref (a 21)), (2, .int x2), (3, .int x3), (4, .int x4), (5, .int x5), (6, .int x6), (7, .int x7), (8, .int x8)] (ws_CC cs a σ) 42 [] 2 12) (x2 : Int32) (x3 : Int32) (x4 : Int32) (x5 : Int32) (x6 : Int32) (x8 : Int32) (t0 : Int32) (t1 : Int32) (σ : CC), b_L_isDugSo_79 K42 Φ x2 x3 x4 x5 x6 x8 t0 t1 σ → AtC p l e (headSpec wsL_isDugSo rm_L_isDugSo).room s m ([.ref (a 0), .ref (a 21), .int p2] : List Value).toArray below meth c (vx_MQ below (va_Qi Φ (BL D cs A (ws_CC cs a)) A) (XG D cs A (ws_CC cs a) (fun _ _ => False)) ([.ref (a 0), .ref (a 21), .int p2] : List Value).toArray s 5 30 A) D A 9 [(0, .ref (a 0)), (1, .ref (a 21)), (2, .int x2), (3, .int x3), (4, .int x4), (5, .int x5), (6, .int x6), (8, .int x8)] (ws_CC cs a σ) 79 [.int t1, .int t0] 2 12 := by
    intro K42 hK42 x2 x3 x4 x5 x6 x8 t0 t1 σ hw H locs ls hl hP hD hS
    unfold b_L_isDugSo_79 at hw
    refine lv_iadd hx hb dL_isDugSo_79 ?_
    refine lv_istore (lv' := [(7, .int (t0 + t1)), (0, .ref (a 0)), (1, .ref (a 21)), (2, .int x2), (3, .int x3), (4, .int x4), (5, .int x5), (6, .int x6), (8, .int x8)]) hx hb dL_isDugSo_80 hl (by decide) rfl (fun ls hl => ?_)
    refine lv_iinc (v := (x8 + (-1 : Int32))) (lv' := [(8, .int (x8 + (-1 : Int32))), (7, .int (t0 + t1)), (0, .ref (a 0)), (1, .ref (a 21)), (2, .int x2), (3, .int x3), (4, .int x4), (5, .int x5), (6, .int x6)]) hx hb dL_isDugSo_82 hl (k := 8) rfl rfl (by decide) rfl (fun ls hl => ?_)
    refine lv_goto (tgt := 42) hx hb dL_isDugSo_85 (by decide) ?_
    exact hK42 _ _ _ _ _ _ _ _ hw _ _ ls (lv_sub hl [2, 3, 4, 5, 6, 7, 8, 1, 0] rfl) hP hD hS
  have B42 : ∀ (n : Nat) (x2 : Int32) (x3 : Int32) (x4 : Int32) (x5 : Int32) (x6 : Int32) (x7 : Int32) (x8 : Int32) (σ : CC), it8 (b_L_isDugSo_42 Φ) n x2 x3 x4 x5 x6 x7 x8 σ → AtC p l e (headSpec wsL_isDugSo rm_L_isDugSo).room s m ([.ref (a 0), .ref (a 21), .int p2] : List Value).toArray below meth c (vx_MQ below (va_Qi Φ (BL D cs A (ws_CC cs a)) A) (XG D cs A (ws_CC cs a) (fun _ _ => False)) ([.ref (a 0), .ref (a 21), .int p2] : List Value).toArray s 5 30 A) D A 9 [(0, .ref (a 0)), (1, .ref (a 21)), (2, .int x2), (3, .int x3), (4, .int x4), (5, .int x5), (6, .int x6), (7, .int x7), (8, .int x8)] (ws_CC cs a σ) 42 [] 2 12 := by
    intro n
    induction n with
    | zero => intro x2 x3 x4 x5 x6 x7 x8 σ hw; exact absurd hw id
    | succ n ih =>
      intro x2 x3 x4 x5 x6 x7 x8 σ hw H locs ls hl hP hD hS
      have hw : b_L_isDugSo_42 Φ (it8 (b_L_isDugSo_42 Φ) n) x2 x3 x4 x5 x6 x7 x8 σ := hw
      unfold b_L_isDugSo_42 at hw
      refine lv_iload hx hb dL_isDugSo_42 (lv_at hl 8 rfl) ?_
      refine lv_if_lt (tgt := 88) hx hb dL_isDugSo_44 (by decide) (fun c44 => ?_) (fun c44 => ?_)
      · have hw := hw.1 c44
        exact B88 _ _ _ _ _ _ _ hw _ _ ls (lv_sub hl [0, 1, 2, 3, 4, 5, 6, 7] rfl) hP hD hS
      · have hw := hw.2 c44
        refine lv_iload_n hx hb dL_isDugSo_47 rfl (lv_at hl 3 rfl) ?_
        refine lv_if_lt (tgt := 88) hx hb dL_isDugSo_48 (by decide) (fun c48 => ?_) (fun c48 => ?_)
        · have hw := hw.1 c48
          exact B88 _ _ _ _ _ _ _ hw _ _ ls (lv_sub hl [0, 1, 2, 3, 4, 5, 6, 7] rfl) hP hD hS
        · have hw := hw.2 c48
          refine lv_aload_n hx hb dL_isDugSo_51 rfl (lv_at hl 0 rfl) ?_
          refine lv_iload_n hx hb dL_isDugSo_52 rfl (lv_at hl 3 rfl) ?_
          refine lv_iload hx hb dL_isDugSo_53 (lv_at hl 8 rfl) ?_
          refine kVi (As := [.int x3, .int x8]) (rest := []) ⟨hx, hb, hml, hown, hts⟩ (c0_C_at l D cs a _ (g_CC_o σ) x3 x8 hw) (cwV 2 hts gL_isDugSo_X3_at rfl rfl rfl (by decide +kernel) ⟨Nat.le_of_ble_eq_true rfl, Nat.le_of_ble_eq_true rfl⟩) (pt_CC_o cs a σ) hK hP hD hS hA (ci := 3) rfl rfl rfl rfl hl.1 rfl (Nat.le_of_ble_eq_true rfl) dL_isDugSo_55 ⟨Nat.le_of_ble_eq_true rfl, Nat.le_of_ble_eq_true rfl⟩ (fun r55 u55 H locs hw hP hD hS => ?_)
          have hP : va_P D vwCl (ws_CC cs a (s_CC_o σ u55)) H := hP
          have hD : va_D A (ws_CC cs a (s_CC_o σ u55)) := hD
          refine lv_iload_n hx hb dL_isDugSo_58 rfl (lv_at hl 2 rfl) ?_
          refine lv_icmp_eq (tgt := 88) hx hb dL_isDugSo_59 (by decide) (fun c59 => ?_) (fun c59 => ?_)
          · have hw := hw.1 c59
            exact B88 _ _ _ _ _ _ _ hw _ _ ls (lv_sub hl [0, 1, 2, 3, 4, 5, 6, 7] rfl) hP hD hS
          · have hw := hw.2 c59
            refine lv_iload hx hb dL_isDugSo_62 (lv_at hl 7 rfl) ?_
            refine lv_aload_n hx hb dL_isDugSo_64 rfl (lv_at hl 0 rfl) ?_
            refine lv_iload_n hx hb dL_isDugSo_65 rfl (lv_at hl 3 rfl) ?_
            refine lv_iload hx hb dL_isDugSo_66 (lv_at hl 8 rfl) ?_
            refine kVi (As := [.int x3, .int x8]) (rest := [.int x7]) ⟨hx, hb, hml, hown, hts⟩ (c0_C_at l D cs a _ (g_CC_o (s_CC_o σ u55)) x3 x8 hw) (cwV 2 hts gL_isDugSo_X3_at rfl rfl rfl (by decide +kernel) ⟨Nat.le_of_ble_eq_true rfl, Nat.le_of_ble_eq_true rfl⟩) (pt_CC_o cs a (s_CC_o σ u55)) hK hP hD hS hA (ci := 3) rfl rfl rfl rfl hl.1 rfl (Nat.le_of_ble_eq_true rfl) dL_isDugSo_68 ⟨Nat.le_of_ble_eq_true rfl, Nat.le_of_ble_eq_true rfl⟩ (fun r68 u68 H locs hw hP hD hS => ?_)
            have hP : va_P D vwCl (ws_CC cs a (s_CC_o (s_CC_o σ u55) u68)) H := hP
            have hD : va_D A (ws_CC cs a (s_CC_o (s_CC_o σ u55) u68)) := hD
            refine lv_if_lt (tgt := 78) hx hb dL_isDugSo_71 (by decide) (fun c71 => ?_) (fun c71 => ?_)
            · have hw := hw.1 c71
              refine lv_iconst (v := (0 : Int32)) hx hb dL_isDugSo_78 (by decide) ?_
              exact B79 _ ih _ _ _ _ _ _ _ _ _ hw _ _ ls (lv_sub hl [0, 1, 2, 3, 4, 5, 6, 8] rfl) hP hD hS
            · have hw := hw.2 c71
              refine lv_iconst (v := (1 : Int32)) hx hb dL_isDugSo_74 (by decide) ?_
              refine lv_goto (tgt := 79) hx hb dL_isDugSo_75 (by decide) ?_
              exact B79 _ ih _ _ _ _ _ _ _ _ _ hw _ _ ls (lv_sub hl [0, 1, 2, 3, 4, 5, 6, 8] rfl) hP hD hS
  have B22 : ∀ (x2 : Int32) (x3 : Int32) (t0 : Int32) (σ : CC), b_L_isDugSo_22 Φ x2 x3 t0 σ → AtC p l e (headSpec wsL_isDugSo rm_L_isDugSo).room s m ([.ref (a 0), .ref (a 21), .int p2] : List Value).toArray below meth c (vx_MQ below (va_Qi Φ (BL D cs A (ws_CC cs a)) A) (XG D cs A (ws_CC cs a) (fun _ _ => False)) ([.ref (a 0), .ref (a 21), .int p2] : List Value).toArray s 5 30 A) D A 9 [(0, .ref (a 0)), (1, .ref (a 21)), (2, .int x2), (3, .int x3)] (ws_CC cs a σ) 22 [.int t0] 2 12 := by
    intro x2 x3 t0 σ hw H locs ls hl hP hD hS
    unfold b_L_isDugSo_22 at hw
    refine lv_istore (lv' := [(4, .int t0), (0, .ref (a 0)), (1, .ref (a 21)), (2, .int x2), (3, .int x3)]) hx hb dL_isDugSo_22 hl (by decide) rfl (fun ls hl => ?_)
    refine lv_aload_n hx hb dL_isDugSo_24 rfl (lv_at hl 1 rfl) ?_
    refine kVi (As := []) (rest := []) ⟨hx, hb, hml, hown, hts⟩ (c_C_crane l D cs a _ (g_CC_o σ) hw) (cwV 0 hts gL_isDugSo_X3_crane rfl rfl rfl (by decide +kernel) ⟨Nat.le_of_ble_eq_true rfl, Nat.le_of_ble_eq_true rfl⟩) (pt_CC_o cs a σ) hK hP hD hS hA (ci := 3) rfl rfl rfl rfl hl.1 rfl (Nat.le_of_ble_eq_true rfl) dL_isDugSo_25 ⟨Nat.le_of_ble_eq_true rfl, Nat.le_of_ble_eq_true rfl⟩ (fun r25 u25 H locs hw hP hD hS => ?_)
    have hP : va_P D vwCl (ws_CC cs a (s_CC_o σ u25)) H := hP
    have hD : va_D A (ws_CC cs a (s_CC_o σ u25)) := hD
    refine lv_istore (lv' := [(5, .int r25), (4, .int t0), (0, .ref (a 0)), (1, .ref (a 21)), (2, .int x2), (3, .int x3)]) hx hb dL_isDugSo_28 hl (by decide) rfl (fun ls hl => ?_)
    refine lv_aload_n hx hb dL_isDugSo_30 rfl (lv_at hl 2 rfl) ?_
    refine kVi (As := []) (rest := []) ⟨hx, hb, hml, hown, hts⟩ (c_C_lifts l D cs a _ (g_CC_o (s_CC_o σ u25)) hw) (cwV 0 hts gL_isDugSo_X3_lifts rfl rfl rfl (by decide +kernel) ⟨Nat.le_of_ble_eq_true rfl, Nat.le_of_ble_eq_true rfl⟩) (pt_CC_o cs a (s_CC_o σ u25)) hK hP hD hS hA (ci := 3) rfl rfl rfl rfl hl.1 rfl (Nat.le_of_ble_eq_true rfl) dL_isDugSo_31 ⟨Nat.le_of_ble_eq_true rfl, Nat.le_of_ble_eq_true rfl⟩ (fun r31 u31 H locs hw hP hD hS => ?_)
    have hP : va_P D vwCl (ws_CC cs a (s_CC_o (s_CC_o σ u25) u31)) H := hP
    have hD : va_D A (ws_CC cs a (s_CC_o (s_CC_o σ u25) u31)) := hD
    refine lv_istore (lv' := [(6, .int r31), (5, .int r25), (4, .int t0), (0, .ref (a 0)), (1, .ref (a 21)), (2, .int x2), (3, .int x3)]) hx hb dL_isDugSo_34 hl (by decide) rfl (fun ls hl => ?_)
    refine lv_iconst (v := (0 : Int32)) hx hb dL_isDugSo_36 (by decide) ?_
    refine lv_istore (lv' := [(7, .int (0 : Int32)), (6, .int r31), (5, .int r25), (4, .int t0), (0, .ref (a 0)), (1, .ref (a 21)), (2, .int x2), (3, .int x3)]) hx hb dL_isDugSo_37 hl (by decide) rfl (fun ls hl => ?_)
    refine lv_iconst (v := (4 : Int32)) hx hb dL_isDugSo_39 (by decide) ?_
    refine lv_istore (lv' := [(8, .int (4 : Int32)), (7, .int (0 : Int32)), (6, .int r31), (5, .int r25), (4, .int t0), (0, .ref (a 0)), (1, .ref (a 21)), (2, .int x2), (3, .int x3)]) hx hb dL_isDugSo_40 hl (by decide) rfl (fun ls hl => ?_)
    obtain ⟨n, hw⟩ := hw
    exact B42 n _ _ _ _ _ _ _ _ hw H locs ls (lv_sub hl [5, 6, 7, 8, 4, 3, 2, 1, 0] rfl) hP hD hS
  have hl := lv_entry ([.ref (a 0), .ref (a 21), .int p2]) (n := 9) (Nat.le_of_ble_eq_true rfl)
  rw [lg_entry_eq]
  generalize (lg_sl ([.ref (a 0), .ref (a 21), .int p2]) ++ List.replicate (9 - (lg_sl ([.ref (a 0), .ref (a 21), .int p2])).length) Slot.unset).toArray = ls at hl ⊢
  have hl : lv_has ls 9 [(0, .ref (a 0)), (1, .ref (a 21)), (2, .int p2)] := hl
  unfold w_L_isDugSo at hw
  refine lv_aload_n hx hb dL_isDugSo_0 rfl (lv_at hl 0 rfl) ?_
  refine lv_iload_n hx hb dL_isDugSo_1 rfl (lv_at hl 2 rfl) ?_
  refine kLi (As := [.ref (a 0), .int p2]) (rest := []) ⟨hx, hb, hml, hown, hts⟩ hE (c_L_stackOf l hfl D cs a _ (g_CC_o σ) p2 hw) (vx_cwSW 2 hts gL_isDugSo_L_stackOf rfl rfl rfl (by decide +kernel) ⟨Nat.le_of_ble_eq_true rfl, Nat.le_of_ble_eq_true rfl⟩) (pt_CC_o cs a σ) hK hP hD hS hA rfl hl.1 rfl (Nat.le_of_ble_eq_true rfl) dL_isDugSo_2 ⟨Nat.le_of_ble_eq_true rfl, Nat.le_of_ble_eq_true rfl⟩ (fun r2 u2 H locs hw hP hD hS => ?_)
  have hP : va_P D vwCl (ws_CC cs a (s_CC_o σ u2)) H := hP
  have hD : va_D A (ws_CC cs a (s_CC_o σ u2)) := hD
  refine lv_istore_n (lv' := [(3, .int r2), (0, .ref (a 0)), (1, .ref (a 21)), (2, .int p2)]) hx hb dL_isDugSo_5 rfl hl (by decide) rfl (fun ls hl => ?_)
  refine lv_iload_n hx hb dL_isDugSo_6 rfl (lv_at hl 0 rfl) ?_
  refine lv_if_ge (tgt := 15) hx hb dL_isDugSo_7 (by decide) (fun c7 => ?_) (fun c7 => ?_)
  · have hw := hw.1 c7
    refine lv_aload_n hx hb dL_isDugSo_15 rfl (lv_at hl 1 rfl) ?_
    refine lv_iconst (v := (1 : Int32)) hx hb dL_isDugSo_16 (by decide) ?_
    refine lv_iload_n hx hb dL_isDugSo_17 rfl (lv_at hl 3 rfl) ?_
    refine lv_ishl hx hb dL_isDugSo_18 ?_
    refine kLi (As := [.ref (a 0), .int ((1 : Int32) <<< (p2 &&& 31))]) (rest := []) ⟨hx, hb, hml, hown, hts⟩ hE (c_L_fewest l hfl D cs a _ (g_CC_o (s_CC_o σ u2)) ((1 : Int32) <<< (p2 &&& 31)) hw) (vx_cwSW 2 hts gL_isDugSo_L_fewest rfl rfl rfl (by decide +kernel) ⟨Nat.le_of_ble_eq_true rfl, Nat.le_of_ble_eq_true rfl⟩) (pt_CC_o cs a (s_CC_o σ u2)) hK hP hD hS hA rfl hl.1 rfl (Nat.le_of_ble_eq_true rfl) dL_isDugSo_19 ⟨Nat.le_of_ble_eq_true rfl, Nat.le_of_ble_eq_true rfl⟩ (fun r19 u19 H locs hw hP hD hS => ?_)
    have hP : va_P D vwCl (ws_CC cs a (s_CC_o (s_CC_o σ u2) u19)) H := hP
    have hD : va_D A (ws_CC cs a (s_CC_o (s_CC_o σ u2) u19)) := hD
    exact B22 _ _ _ _ hw H locs ls (lv_sub hl [1, 2, 3, 0] rfl) hP hD hS
  · have hw := hw.2 c7
    refine lv_bipush (v := (-2 : Int32)) hx hb dL_isDugSo_10 (by decide) ?_
    refine lv_goto (tgt := 22) hx hb dL_isDugSo_12 (by decide) ?_
    refine W.widen (k := 2) (n := 12) (Nat.le_of_ble_eq_true rfl) (Nat.le_of_ble_eq_true rfl) ?_
    exact B22 _ _ _ _ hw _ _ ls (lv_sub hl [1, 2, 3, 0] rfl) hP hD hS
