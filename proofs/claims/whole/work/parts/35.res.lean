set_option linter.unusedVariables false
def ResL (o : Int32 → Int64) (wl : (Int32 → LH → Prop) → Prop) (wm : (Int32 → MD → Prop) → Prop) : Prop := ∃ (k r : Int32) (P : LH → Prop) (Q : Int32 → MD → Prop), (∀ z u b, P z → Q b u → Inv z.1 u ∧ g_MD_thrown u = k ∧ (k = 0 → b = r ∧ z.2 0 = o r)) ∧ (∀ Φ, (∀ z, P z → Φ k z) → wl Φ) ∧ ∀ Ψ, (∀ b u, Q b u → Ψ b u) → wm Ψ
theorem resL_of {E : List String} {wc : (Int32 → CY → Prop) → (String → CY → Prop) → Prop} {wm : (Int32 → MD → Prop) → Prop} (R : Res E wc wm) (hE : E.length < 10) (o : Int32 → Int64) (fz : Int32 → CY → LH) (h1 : ∀ r u, (fz r u).1 = u) (h2 : ∀ r u, (fz r u).2 0 = o r) (gz : CY → LH) (h3 : ∀ u, (gz u).1 = u) {wl : (Int32 → LH → Prop) → Prop}
    (hwl : ∀ Φ, ∃ (Cc : Int32 → CY → Prop) (Xx : String → CY → Prop), (wc Cc Xx → wl Φ) ∧ (∀ r u, Φ 0 (fz r u) → Cc r u) ∧ ∀ (k : Nat) e u, E[k]? = some e → Φ (nI (k + 1)) (gz u) → Xx e u) : ResL o wl wm := by
  rcases R with ⟨r, P, Q, hI, c1, c2⟩ | ⟨k, e, P, Q, he, hI, c1, c2⟩
  · refine ⟨0, r, fun z => ∃ u, P u ∧ z = fz r u, fun b u => b = r ∧ Q u, fun z u b ⟨v, p1, p2⟩ ⟨q1, q2⟩ => ?_, fun Φ kk => ?_, fun Ψ kk => c2 Ψ (fun u q => kk r u ⟨rfl, q⟩)⟩
    · rw [p2, h1, h2]
      exact ⟨(hI v u p1 q2).1, (hI v u p1 q2).2, fun _ => ⟨q1, rfl⟩⟩
    · obtain ⟨Cc, Xx, a1, a2, a3⟩ := hwl Φ
      exact a1 (c1 Cc Xx (fun u p => a2 r u (kk _ ⟨u, p, rfl⟩)))
  · have hk : k < E.length := (List.getElem?_eq_some_iff.mp he).1
    refine ⟨nI (k + 1), 0, fun z => ∃ u, P u ∧ z = gz u, fun b u => Q u, fun z u b ⟨v, p1, p2⟩ q2 => ?_, fun Φ kk => ?_, fun Ψ kk => c2 Ψ (fun u b q => kk b u q)⟩
    · rw [p2, h3]
      exact ⟨(hI v u p1 q2).1, (hI v u p1 q2).2, fun z => absurd z (nI_ne0 (by omega) (by omega))⟩
    · obtain ⟨Cc, Xx, a1, a2, a3⟩ := hwl Φ
      exact a1 (c1 Cc Xx (fun u p => a3 k e u he (kk _ ⟨u, p, rfl⟩)))
theorem oneX {e0 e : String} {k : Nat} {F : Int32 → Prop} (h : [e0][k]? = some e) (f : F (nI (k + 1))) : (e = e0 ∧ F 1) := by
  match k, h with
  | 0, h => exact ⟨(Option.some.inj h).symm, f⟩
  | k + 1, h => cases h
theorem twoX {e0 e1 e : String} {k : Nat} {F : Int32 → Prop} (h : [e0, e1][k]? = some e) (f : F (nI (k + 1))) : (e = e0 ∧ F 1) ∨ (e = e1 ∧ F 2) := by
  match k, h with
  | 0, h => exact Or.inl ⟨(Option.some.inj h).symm, f⟩
  | 1, h => exact Or.inr ⟨(Option.some.inj h).symm, f⟩
  | k + 2, h => cases h
theorem threeX {e0 e1 e2 e : String} {k : Nat} {F : Int32 → Prop} (h : [e0, e1, e2][k]? = some e) (f : F (nI (k + 1))) : (e = e0 ∧ F 1) ∨ (e = e1 ∧ F 2) ∨ (e = e2 ∧ F 3) := by
  match k, h with
  | 0, h => exact Or.inl ⟨(Option.some.inj h).symm, f⟩
  | 1, h => exact Or.inr (Or.inl ⟨(Option.some.inj h).symm, f⟩)
  | 2, h => exact Or.inr (Or.inr ⟨(Option.some.inj h).symm, f⟩)
  | k + 3, h => cases h
def oP (r : Int32) : Int64 := if r = 0 then 0 else 1
theorem rl_arrive {σ : LH} {τ : MD} (g : Inv σ.1 τ) (p1 : Int32) (p2 : Int32) (p3 : Int32) : ResL Int32.toInt64 (fun Φ => w_L_arrive σ p1 p2 p3 Φ) (w_M_arrive τ p1 p2 p3) := by
  obtain ⟨h, c, w, le, n, cr, lc, ltr, len, p, m, s, lo, ld, st, pri, bd, q, pp, ow, d, sy, fe, tr, lids, th, td, tdh, g, e1, e2⟩ := g
  have R := st_arrive (tr := tr) (lids := lids) (th := th) (td := td) (tdh := tdh) (w := w) (le := le) (lc := lc) (s := s) (lo := lo) (ld := ld) (fe := fe) g p1 p2 p3
  rw [← e1, ← e2] at R
  refine resL_of R (by decide) _ (fun r u => s_LH_out (s_LH_cy σ u) (vp_updL (g_LH_out (s_LH_cy σ u)) 0 r.toInt64)) (fun _ _ => rfl) (fun _ _ => rfl) (fun u => s_LH_cy σ u) (fun _ => rfl) (fun Φ => ⟨fun r u => ∀ z : LH, z = s_LH_out (s_LH_cy σ u) (vp_updL (g_LH_out (s_LH_cy σ u)) 0 r.toInt64) → Φ 0 z, fun E u => (E = IAE ∧ Φ 1 (s_LH_cy σ u)) ∨ (E = ISE ∧ Φ 2 (s_LH_cy σ u)), fun w9 => w9, fun r u f z e => by rw [e]; exact f, fun k e u hk f => twoX (F := fun x => Φ x (s_LH_cy σ u)) hk f⟩)
theorem rl_lift {σ : LH} {τ : MD} (g : Inv σ.1 τ) (p1 : Int32) : ResL Int32.toInt64 (fun Φ => w_L_lift σ p1 Φ) (w_M_lift τ p1) := by
  obtain ⟨h, c, w, le, n, cr, lc, ltr, len, p, m, s, lo, ld, st, pri, bd, q, pp, ow, d, sy, fe, tr, lids, th, td, tdh, g, e1, e2⟩ := g
  have R := st_lift (tr := tr) (lids := lids) (th := th) (td := td) (tdh := tdh) (w := w) (le := le) (lc := lc) (s := s) (lo := lo) (ld := ld) (fe := fe) g p1
  rw [← e1, ← e2] at R
  refine resL_of R (by decide) _ (fun r u => s_LH_out (s_LH_cy σ u) (vp_updL (g_LH_out (s_LH_cy σ u)) 0 r.toInt64)) (fun _ _ => rfl) (fun _ _ => rfl) (fun u => s_LH_cy σ u) (fun _ => rfl) (fun Φ => ⟨fun r u => ∀ z : LH, z = s_LH_out (s_LH_cy σ u) (vp_updL (g_LH_out (s_LH_cy σ u)) 0 r.toInt64) → Φ 0 z, fun E u => (E = IAE ∧ Φ 1 (s_LH_cy σ u)) ∨ (E = ISE ∧ Φ 2 (s_LH_cy σ u)), fun w9 => w9, fun r u f z e => by rw [e]; exact f, fun k e u hk f => twoX (F := fun x => Φ x (s_LH_cy σ u)) hk f⟩)
theorem rl_drop {σ : LH} {τ : MD} (g : Inv σ.1 τ) (p1 : Int32) : ResL Int32.toInt64 (fun Φ => w_L_drop σ p1 Φ) (w_M_drop τ p1) := by
  obtain ⟨h, c, w, le, n, cr, lc, ltr, len, p, m, s, lo, ld, st, pri, bd, q, pp, ow, d, sy, fe, tr, lids, th, td, tdh, g, e1, e2⟩ := g
  have R := st_drop (tr := tr) (lids := lids) (th := th) (td := td) (tdh := tdh) (w := w) (le := le) (lc := lc) (s := s) (lo := lo) (ld := ld) (fe := fe) g p1
  rw [← e1, ← e2] at R
  refine resL_of R (by decide) _ (fun r u => s_LH_out (s_LH_cy σ u) (vp_updL (g_LH_out (s_LH_cy σ u)) 0 r.toInt64)) (fun _ _ => rfl) (fun _ _ => rfl) (fun u => s_LH_cy σ u) (fun _ => rfl) (fun Φ => ⟨fun r u => ∀ z : LH, z = s_LH_out (s_LH_cy σ u) (vp_updL (g_LH_out (s_LH_cy σ u)) 0 r.toInt64) → Φ 0 z, fun E u => (E = IAE ∧ Φ 1 (s_LH_cy σ u)) ∨ (E = ISE ∧ Φ 2 (s_LH_cy σ u)), fun w9 => w9, fun r u f z e => by rw [e]; exact f, fun k e u hk f => twoX (F := fun x => Φ x (s_LH_cy σ u)) hk f⟩)
theorem rl_dig {σ : LH} {τ : MD} (g : Inv σ.1 τ) (p1 : Int32) : ResL Int32.toInt64 (fun Φ => w_L_dig σ p1 Φ) (w_M_dig τ p1) := by
  obtain ⟨h, c, w, le, n, cr, lc, ltr, len, p, m, s, lo, ld, st, pri, bd, q, pp, ow, d, sy, fe, tr, lids, th, td, tdh, g, e1, e2⟩ := g
  have R := st_dig (tr := tr) (lids := lids) (th := th) (td := td) (tdh := tdh) (w := w) (le := le) (lc := lc) (s := s) (lo := lo) (ld := ld) (fe := fe) g p1
  rw [← e1, ← e2] at R
  refine resL_of R (by decide) _ (fun r u => s_LH_out (s_LH_cy σ u) (vp_updL (g_LH_out (s_LH_cy σ u)) 0 r.toInt64)) (fun _ _ => rfl) (fun _ _ => rfl) (fun u => s_LH_cy σ u) (fun _ => rfl) (fun Φ => ⟨fun r u => ∀ z : LH, z = s_LH_out (s_LH_cy σ u) (vp_updL (g_LH_out (s_LH_cy σ u)) 0 r.toInt64) → Φ 0 z, fun E u => (E = IOE ∧ Φ 1 (s_LH_cy σ u)) ∨ (E = ISE ∧ Φ 2 (s_LH_cy σ u)), fun w9 => w9, fun r u f z e => by rw [e]; exact f, fun k e u hk f => twoX (F := fun x => Φ x (s_LH_cy σ u)) hk f⟩)
theorem rl_height {σ : LH} {τ : MD} (g : Inv σ.1 τ) (p1 : Int32) : ResL Int32.toInt64 (fun Φ => w_L_height σ p1 Φ) (w_M_height τ p1) := by
  obtain ⟨h, c, w, le, n, cr, lc, ltr, len, p, m, s, lo, ld, st, pri, bd, q, pp, ow, d, sy, fe, tr, lids, th, td, tdh, g, e1, e2⟩ := g
  have R := st_height (tr := tr) (lids := lids) (th := th) (td := td) (tdh := tdh) (w := w) (le := le) (lc := lc) (s := s) (lo := lo) (ld := ld) (fe := fe) g p1
  rw [← e1, ← e2] at R
  refine resL_of R (by decide) _ (fun r u => s_LH_out (s_LH_cy σ u) (vp_updL (g_LH_out (s_LH_cy σ u)) 0 r.toInt64)) (fun _ _ => rfl) (fun _ _ => rfl) (fun u => s_LH_cy σ u) (fun _ => rfl) (fun Φ => ⟨fun r u => ∀ z : LH, z = s_LH_out (s_LH_cy σ u) (vp_updL (g_LH_out (s_LH_cy σ u)) 0 r.toInt64) → Φ 0 z, fun E u => (E = IAE ∧ Φ 1 (s_LH_cy σ u)), fun w9 => w9, fun r u f z e => by rw [e]; exact f, fun k e u hk f => oneX (F := fun x => Φ x (s_LH_cy σ u)) hk f⟩)
theorem rl_at {σ : LH} {τ : MD} (g : Inv σ.1 τ) (p1 : Int32) (p2 : Int32) : ResL Int32.toInt64 (fun Φ => w_L_at σ p1 p2 Φ) (w_M_at τ p1 p2) := by
  obtain ⟨h, c, w, le, n, cr, lc, ltr, len, p, m, s, lo, ld, st, pri, bd, q, pp, ow, d, sy, fe, tr, lids, th, td, tdh, g, e1, e2⟩ := g
  have R := st_at (tr := tr) (lids := lids) (th := th) (td := td) (tdh := tdh) (w := w) (le := le) (lc := lc) (s := s) (lo := lo) (ld := ld) (fe := fe) g p1 p2
  rw [← e1, ← e2] at R
  refine resL_of R (by decide) _ (fun r u => s_LH_out (s_LH_cy σ u) (vp_updL (g_LH_out (s_LH_cy σ u)) 0 r.toInt64)) (fun _ _ => rfl) (fun _ _ => rfl) (fun u => s_LH_cy σ u) (fun _ => rfl) (fun Φ => ⟨fun r u => ∀ z : LH, z = s_LH_out (s_LH_cy σ u) (vp_updL (g_LH_out (s_LH_cy σ u)) 0 r.toInt64) → Φ 0 z, fun E u => (E = IAE ∧ Φ 1 (s_LH_cy σ u)), fun w9 => w9, fun r u f z e => by rw [e]; exact f, fun k e u hk f => oneX (F := fun x => Φ x (s_LH_cy σ u)) hk f⟩)
theorem rl_stackOf {σ : LH} {τ : MD} (g : Inv σ.1 τ) (p1 : Int32) : ResL Int32.toInt64 (fun Φ => w_L_stackOf σ p1 Φ) (w_M_stackOf τ p1) := by
  obtain ⟨h, c, w, le, n, cr, lc, ltr, len, p, m, s, lo, ld, st, pri, bd, q, pp, ow, d, sy, fe, tr, lids, th, td, tdh, g, e1, e2⟩ := g
  have R := st_stackOf (tr := tr) (lids := lids) (th := th) (td := td) (tdh := tdh) (w := w) (le := le) (lc := lc) (s := s) (lo := lo) (ld := ld) (fe := fe) g p1
  rw [← e1, ← e2] at R
  refine resL_of R (by decide) _ (fun r u => s_LH_out (s_LH_cy σ u) (vp_updL (g_LH_out (s_LH_cy σ u)) 0 r.toInt64)) (fun _ _ => rfl) (fun _ _ => rfl) (fun u => s_LH_cy σ u) (fun _ => rfl) (fun Φ => ⟨fun r u => ∀ z : LH, z = s_LH_out (s_LH_cy σ u) (vp_updL (g_LH_out (s_LH_cy σ u)) 0 r.toInt64) → Φ 0 z, fun E u => (E = IOE ∧ Φ 1 (s_LH_cy σ u)), fun w9 => w9, fun r u f z e => by rw [e]; exact f, fun k e u hk f => oneX (F := fun x => Φ x (s_LH_cy σ u)) hk f⟩)
theorem rl_fewestLifts {σ : LH} {τ : MD} (g : Inv σ.1 τ) (p1 : Int32) : ResL Int32.toInt64 (fun Φ => w_L_fewestLifts σ p1 Φ) (w_M_fewestLifts τ p1) := by
  obtain ⟨h, c, w, le, n, cr, lc, ltr, len, p, m, s, lo, ld, st, pri, bd, q, pp, ow, d, sy, fe, tr, lids, th, td, tdh, g, e1, e2⟩ := g
  have R := st_fewestLifts (tr := tr) (lids := lids) (th := th) (td := td) (tdh := tdh) (w := w) (le := le) (lc := lc) (s := s) (lo := lo) (ld := ld) (fe := fe) g p1
  rw [← e1, ← e2] at R
  refine resL_of R (by decide) _ (fun r u => s_LH_out (s_LH_cy σ u) (vp_updL (g_LH_out (s_LH_cy σ u)) 0 r.toInt64)) (fun _ _ => rfl) (fun _ _ => rfl) (fun u => s_LH_cy σ u) (fun _ => rfl) (fun Φ => ⟨fun r u => ∀ z : LH, z = s_LH_out (s_LH_cy σ u) (vp_updL (g_LH_out (s_LH_cy σ u)) 0 r.toInt64) → Φ 0 z, fun E u => (E = IAE ∧ Φ 1 (s_LH_cy σ u)) ∨ (E = ISE ∧ Φ 2 (s_LH_cy σ u)), fun w9 => w9, fun r u f z e => by rw [e]; exact f, fun k e u hk f => twoX (F := fun x => Φ x (s_LH_cy σ u)) hk f⟩)
theorem rl_tell {σ : LH} {τ : MD} (g : Inv σ.1 τ) (p1 : Int32) (p2 : Int32) (p3 : Int32) (p4 : Int32) : ResL Int32.toInt64 (fun Φ => w_L_tell σ p1 p2 p3 p4 Φ) (w_M_tell τ p1 p2 p3 p4) := by
  obtain ⟨h, c, w, le, n, cr, lc, ltr, len, p, m, s, lo, ld, st, pri, bd, q, pp, ow, d, sy, fe, tr, lids, th, td, tdh, g, e1, e2⟩ := g
  have R := st_tell (tr := tr) (lids := lids) (th := th) (td := td) (tdh := tdh) (w := w) (le := le) (lc := lc) (s := s) (lo := lo) (ld := ld) (fe := fe) g p1 p2 p3 p4
  rw [← e1, ← e2] at R
  refine resL_of R (by decide) _ (fun r u => s_LH_out (s_LH_cy σ u) (vp_updL (g_LH_out (s_LH_cy σ u)) 0 r.toInt64)) (fun _ _ => rfl) (fun _ _ => rfl) (fun u => s_LH_cy σ u) (fun _ => rfl) (fun Φ => ⟨fun r u => ∀ z : LH, z = s_LH_out (s_LH_cy σ u) (vp_updL (g_LH_out (s_LH_cy σ u)) 0 r.toInt64) → Φ 0 z, fun E u => (E = IAE ∧ Φ 1 (s_LH_cy σ u)) ∨ (E = ISE ∧ Φ 2 (s_LH_cy σ u)), fun w9 => w9, fun r u f z e => by rw [e]; exact f, fun k e u hk f => twoX (F := fun x => Φ x (s_LH_cy σ u)) hk f⟩)
theorem rl_hasPaid {σ : LH} {τ : MD} (g : Inv σ.1 τ) (p1 : Int32) : ResL oP (fun Φ => w_L_hasPaid σ p1 Φ) (w_M_hasPaid τ p1) := by
  obtain ⟨h, c, w, le, n, cr, lc, ltr, len, p, m, s, lo, ld, st, pri, bd, q, pp, ow, d, sy, fe, tr, lids, th, td, tdh, g, e1, e2⟩ := g
  have R := st_hasPaid (tr := tr) (lids := lids) (th := th) (td := td) (tdh := tdh) (w := w) (le := le) (lc := lc) (s := s) (lo := lo) (ld := ld) (fe := fe) g p1
  rw [← e1, ← e2] at R
  refine resL_of R (by decide) _ (fun r u => s_LH_out (s_LH_cy σ u) (vp_updL (g_LH_out (s_LH_cy σ u)) 0 (oP r))) (fun _ _ => rfl) (fun _ _ => rfl) (fun u => s_LH_cy σ u) (fun _ => rfl) (fun Φ => ⟨fun r u => (r = 0 → ∀ z : LH, z = s_LH_out (s_LH_cy σ u) (vp_updL (g_LH_out (s_LH_cy σ u)) 0 (0 : Int64)) → Φ 0 z) ∧ (¬ r = 0 → ∀ z : LH, z = s_LH_out (s_LH_cy σ u) (vp_updL (g_LH_out (s_LH_cy σ u)) 0 (1 : Int64)) → Φ 0 z), fun E u => (E = IOE ∧ Φ 1 (s_LH_cy σ u)), fun w9 => w9, fun r u f => ⟨fun q z e => by rw [e]; rw [oP, if_pos q] at f; exact f, fun q z e => by rw [e]; rw [oP, if_neg q] at f; exact f⟩, fun k e u hk f => oneX (F := fun x => Φ x (s_LH_cy σ u)) hk f⟩)
theorem rl_offer {σ : LH} {τ : MD} (g : Inv σ.1 τ) (p1 : Int32) (p2 : Int32) : ResL Int32.toInt64 (fun Φ => w_L_offer σ p1 p2 Φ) (w_M_offer τ p1 p2) := by
  obtain ⟨h, c, w, le, n, cr, lc, ltr, len, p, m, s, lo, ld, st, pri, bd, q, pp, ow, d, sy, fe, tr, lids, th, td, tdh, g, e1, e2⟩ := g
  have R := st_offer (tr := tr) (lids := lids) (th := th) (td := td) (tdh := tdh) (w := w) (le := le) (lc := lc) (s := s) (lo := lo) (ld := ld) (fe := fe) g p1 p2
  rw [← e1, ← e2] at R
  refine resL_of R (by decide) _ (fun r u => s_LH_out (s_LH_cy σ u) (vp_updL (g_LH_out (s_LH_cy σ u)) 0 r.toInt64)) (fun _ _ => rfl) (fun _ _ => rfl) (fun u => s_LH_cy σ u) (fun _ => rfl) (fun Φ => ⟨fun r u => ∀ z : LH, z = s_LH_out (s_LH_cy σ u) (vp_updL (g_LH_out (s_LH_cy σ u)) 0 r.toInt64) → Φ 0 z, fun E u => (E = IOE ∧ Φ 1 (s_LH_cy σ u)) ∨ (E = IAE ∧ Φ 2 (s_LH_cy σ u)) ∨ (E = ISE ∧ Φ 3 (s_LH_cy σ u)), fun w9 => w9, fun r u f z e => by rw [e]; exact f, fun k e u hk f => threeX (F := fun x => Φ x (s_LH_cy σ u)) hk f⟩)
theorem rl_bid {σ : LH} {τ : MD} (g : Inv σ.1 τ) (p1 : Int32) (p2 : Int32) (p3 : Int32) : ResL (fun _ => σ.2 0) (fun Φ => w_L_bid σ p1 p2 p3 Φ) (fun Ψ => w_M_bid τ p1 p2 p3 (Ψ 0)) := by
  obtain ⟨h, c, w, le, n, cr, lc, ltr, len, p, m, s, lo, ld, st, pri, bd, q, pp, ow, d, sy, fe, tr, lids, th, td, tdh, g, e1, e2⟩ := g
  have R := st_bid (tr := tr) (lids := lids) (th := th) (td := td) (tdh := tdh) (w := w) (le := le) (lc := lc) (s := s) (lo := lo) (ld := ld) (fe := fe) g p1 p2 p3
  rw [← e1, ← e2] at R
  refine resL_of R (by decide) _ (fun _ u => s_LH_cy σ u) (fun _ _ => rfl) (fun _ _ => rfl) (fun u => s_LH_cy σ u) (fun _ => rfl) (fun Φ => ⟨fun _ u => Φ 0 (s_LH_cy σ u), fun E u => (E = IOE ∧ Φ 1 (s_LH_cy σ u)) ∨ (E = IAE ∧ Φ 2 (s_LH_cy σ u)) ∨ (E = ISE ∧ Φ 3 (s_LH_cy σ u)), fun w9 => w9, fun r u f => f, fun k e u hk f => threeX (F := fun x => Φ x (s_LH_cy σ u)) hk f⟩)
theorem rl_give {σ : LH} {τ : MD} (g : Inv σ.1 τ) (p1 : Int32) : ResL Int32.toInt64 (fun Φ => w_L_give σ p1 Φ) (w_M_give τ p1) := by
  obtain ⟨h, c, w, le, n, cr, lc, ltr, len, p, m, s, lo, ld, st, pri, bd, q, pp, ow, d, sy, fe, tr, lids, th, td, tdh, g, e1, e2⟩ := g
  have R := st_give (tr := tr) (lids := lids) (th := th) (td := td) (tdh := tdh) (w := w) (le := le) (lc := lc) (s := s) (lo := lo) (ld := ld) (fe := fe) g p1
  rw [← e1, ← e2] at R
  refine resL_of R (by decide) _ (fun r u => s_LH_out (s_LH_cy σ u) (vp_updL (g_LH_out (s_LH_cy σ u)) 0 r.toInt64)) (fun _ _ => rfl) (fun _ _ => rfl) (fun u => s_LH_cy σ u) (fun _ => rfl) (fun Φ => ⟨fun r u => ∀ z : LH, z = s_LH_out (s_LH_cy σ u) (vp_updL (g_LH_out (s_LH_cy σ u)) 0 r.toInt64) → Φ 0 z, fun E u => (E = IOE ∧ Φ 1 (s_LH_cy σ u)) ∨ (E = ISE ∧ Φ 2 (s_LH_cy σ u)), fun w9 => w9, fun r u f z e => by rw [e]; exact f, fun k e u hk f => twoX (F := fun x => Φ x (s_LH_cy σ u)) hk f⟩)
theorem rl_load {σ : LH} {τ : MD} (g : Inv σ.1 τ)  : ResL Int32.toInt64 (fun Φ => w_L_load σ  Φ) (w_M_load τ ) := by
  obtain ⟨h, c, w, le, n, cr, lc, ltr, len, p, m, s, lo, ld, st, pri, bd, q, pp, ow, d, sy, fe, tr, lids, th, td, tdh, g, e1, e2⟩ := g
  have R := st_load (tr := tr) (lids := lids) (th := th) (td := td) (tdh := tdh) (w := w) (le := le) (lc := lc) (s := s) (lo := lo) (ld := ld) (fe := fe) g 
  rw [← e1, ← e2] at R
  refine resL_of R (by decide) _ (fun r u => s_LH_out (s_LH_cy σ u) (vp_updL (g_LH_out (s_LH_cy σ u)) 0 r.toInt64)) (fun _ _ => rfl) (fun _ _ => rfl) (fun u => s_LH_cy σ u) (fun _ => rfl) (fun Φ => ⟨fun r u => ∀ z : LH, z = s_LH_out (s_LH_cy σ u) (vp_updL (g_LH_out (s_LH_cy σ u)) 0 r.toInt64) → Φ 0 z, fun E u => (E = ISE ∧ Φ 1 (s_LH_cy σ u)), fun w9 => w9, fun r u f z e => by rw [e]; exact f, fun k e u hk f => oneX (F := fun x => Φ x (s_LH_cy σ u)) hk f⟩)
theorem rl_state {σ : LH} {τ : MD} (g : Inv σ.1 τ) (p1 : Int32) : ResL Int32.toInt64 (fun Φ => w_L_state σ p1 Φ) (w_M_state τ p1) := by
  obtain ⟨h, c, w, le, n, cr, lc, ltr, len, p, m, s, lo, ld, st, pri, bd, q, pp, ow, d, sy, fe, tr, lids, th, td, tdh, g, e1, e2⟩ := g
  have R := st_state (tr := tr) (lids := lids) (th := th) (td := td) (tdh := tdh) (w := w) (le := le) (lc := lc) (s := s) (lo := lo) (ld := ld) (fe := fe) g p1
  rw [← e1, ← e2] at R
  refine resL_of R (by decide) _ (fun r u => s_LH_out (s_LH_cy σ u) (vp_updL (g_LH_out (s_LH_cy σ u)) 0 r.toInt64)) (fun _ _ => rfl) (fun _ _ => rfl) (fun u => s_LH_cy σ u) (fun _ => rfl) (fun Φ => ⟨fun r u => ∀ z : LH, z = s_LH_out (s_LH_cy σ u) (vp_updL (g_LH_out (s_LH_cy σ u)) 0 r.toInt64) → Φ 0 z, fun E u => (E = IOE ∧ Φ 1 (s_LH_cy σ u)), fun w9 => w9, fun r u f z e => by rw [e]; exact f, fun k e u hk f => oneX (F := fun x => Φ x (s_LH_cy σ u)) hk f⟩)
theorem rl_pass {σ : LH} {τ : MD} (g : Inv σ.1 τ) (p1 : Int32) : ResL Int32.toInt64 (fun Φ => w_L_pass σ p1 Φ) (w_M_pass τ p1) := by
  obtain ⟨h, c, w, le, n, cr, lc, ltr, len, p, m, s, lo, ld, st, pri, bd, q, pp, ow, d, sy, fe, tr, lids, th, td, tdh, g, e1, e2⟩ := g
  have R := st_pass (tr := tr) (lids := lids) (th := th) (td := td) (tdh := tdh) (w := w) (le := le) (lc := lc) (s := s) (lo := lo) (ld := ld) (fe := fe) g p1
  rw [← e1, ← e2] at R
  refine resL_of R (by decide) _ (fun r u => s_LH_out (s_LH_cy σ u) (vp_updL (g_LH_out (s_LH_cy σ u)) 0 r.toInt64)) (fun _ _ => rfl) (fun _ _ => rfl) (fun u => s_LH_cy σ u) (fun _ => rfl) (fun Φ => ⟨fun r u => ∀ z : LH, z = s_LH_out (s_LH_cy σ u) (vp_updL (g_LH_out (s_LH_cy σ u)) 0 r.toInt64) → Φ 0 z, fun E u => (E = IAE ∧ Φ 1 (s_LH_cy σ u)) ∨ (E = ISE ∧ Φ 2 (s_LH_cy σ u)), fun w9 => w9, fun r u f z e => by rw [e]; exact f, fun k e u hk f => twoX (F := fun x => Φ x (s_LH_cy σ u)) hk f⟩)
