theorem q_Mtg {h c : Nat → Nat} {σ : MD} {home v : Nat} {x own : Int32} {K8 : Int32 → Int32 → Int32 → MD → Prop} {Φ : Int32 → MD → Prop} (hk : ok h c) (hh : home < 6) (hv : v < 30) (h0 : 0 < h home) (R : Option Nat) (kn : R = none → Φ (-1) (setTry σ (I h) (I c))) (ks : ∀ b, R = some b → b < 6 → b ≠ home → h b < 5 → K8 x (nI home) own (setTry σ (I (up (up h home (h home - 1)) b (h b + 1))) (I (up c (5 * b + h b) v)))) :
    ∀ (n s : Nat) (b : Option Nat), s + n = 6 → (∀ z, b = some z → z < 6 ∧ canD h c (g_MD_weights σ) (mo (g_MD_isStorm σ)) (g_MD_weights σ v) home z = true) → tgt (canD h c (g_MD_weights σ) (mo (g_MD_isStorm σ)) (g_MD_weights σ v) home) h s n b = R → it7 (b_M_digOut_59 K8 Φ) (n + 1) x (nI home) own (nI v) (o2i b) (nI s) (setTry σ (I h) (I c)) := by
  intro n
  have hmo := mo_le (g_MD_isStorm σ)
  induction n with
  | zero =>
    intro s b e hb er
    show b_M_digOut_59 K8 Φ (it7 (b_M_digOut_59 K8 Φ) 0) x (nI home) own (nI v) (o2i b) (nI s) (setTry σ (I h) (I c))
    rw [b_M_digOut_59]
    refine le_t (a := 6) (by omega) (by omega) ?_
    have er : b = R := er
    cases b with
    | none => exact m1_t (kn er.symm)
    | some b =>
      obtain ⟨b1, b2⟩ := hb b rfl
      simp only [canD, Bool.and_eq_true, decide_eq_true_eq] at b2
      have b3 := canB_lt b2.2
      have h5 := hk.1 home hh
      rw [show o2i (some b) = nI b from rfl]
      refine m1_f (by omega) (in_t hh (by omega) (all_t (in_t hh (by omega) (all_t (in_t b1 (by omega) ?_)))))
      rw [nI_clamp (show home < 2 ^ 31 by omega)]
      have e1 : upd (I h) home (I h home - (1 : Int32)) = I (up h home (h home - 1)) := by
        show upd (I h) home (nI (h home) - (1 : Int32)) = _
        rw [l1, pk_sub (by omega), I_up]
      have e2 : s_MD_triedHeights (setTry σ (I h) (I c)) (upd (g_MD_triedHeights (setTry σ (I h) (I c))) home (g_MD_triedHeights (setTry σ (I h) (I c)) home - (1 : Int32))) = setTry σ (I (up h home (h home - 1))) (I c) := congrArg (fun z => setTry σ z (I c)) e1
      rw [e2, nI_clamp (show b < 2 ^ 31 by omega)]
      have e0 : (5 : Int32) * nI b + g_MD_triedHeights (setTry σ (I (up h home (h home - 1))) (I c)) b = nI (5 * b + h b) := by
        show (5 : Int32) * nI b + nI (up h home (h home - 1) b) = _
        rw [up_n b2.1, ixM]
      rw [e0]
      refine in_t (by omega) (by omega) (all_t (in_t b1 (by omega) (all_t (in_t b1 (by omega) (all_t ?_)))))
      rw [nI_clamp (show 5 * b + h b < 2 ^ 31 by omega)]
      have e3 : s_MD_tried (setTry σ (I (up h home (h home - 1))) (I c)) (upd (g_MD_tried (setTry σ (I (up h home (h home - 1))) (I c))) (5 * b + h b) (nI v)) = setTry σ (I (up h home (h home - 1))) (I (up c (5 * b + h b) v)) := congrArg (fun z => setTry σ (I (up h home (h home - 1))) z) (I_up c _ _)
      rw [e3]
      have e4 : upd (I (up h home (h home - 1))) b (I (up h home (h home - 1)) b + (1 : Int32)) = I (up (up h home (h home - 1)) b (h b + 1)) := by
        show upd (I (up h home (h home - 1))) b (nI (up h home (h home - 1) b) + (1 : Int32)) = _
        rw [up_n b2.1, l1, nI_add, I_up]
      have e5 : s_MD_triedHeights (setTry σ (I (up h home (h home - 1))) (I (up c (5 * b + h b) v))) (upd (g_MD_triedHeights (setTry σ (I (up h home (h home - 1))) (I (up c (5 * b + h b) v)))) b (g_MD_triedHeights (setTry σ (I (up h home (h home - 1))) (I (up c (5 * b + h b) v))) b + (1 : Int32))) = setTry σ (I (up (up h home (h home - 1)) b (h b + 1))) (I (up c (5 * b + h b) v)) := congrArg (fun z => setTry σ z (I (up c (5 * b + h b) v))) e4
      rw [e5]
      exact ks b er.symm b1 b2.1 (by omega)
  | succ n ih =>
    intro s b e hb er
    show b_M_digOut_59 K8 Φ (it7 (b_M_digOut_59 K8 Φ) (n + 1)) x (nI home) own (nI v) (o2i b) (nI s) (setTry σ (I h) (I c))
    rw [b_M_digOut_59]
    unfold b_M_digOut_87 b_M_digOut_88 b_M_digOut_123 b_M_digOut_118 b_M_digOut_125
    have e1 : nI s + (1 : Int32) = nI (s + 1) := nI_1 s
    rw [e1]
    have hs := hk.1 s (by omega)
    have no : (canD h c (g_MD_weights σ) (mo (g_MD_isStorm σ)) (g_MD_weights σ v) home s && better h b s) = false → it7 (b_M_digOut_59 K8 Φ) (n + 1) x (nI home) own (nI v) (o2i b) (nI (s + 1)) (setTry σ (I h) (I c)) := fun z => ih (s + 1) b (by omega) hb (by rw [tgt, if_neg (by rw [z]; decide)] at er; exact er)
    have yes : (canD h c (g_MD_weights σ) (mo (g_MD_isStorm σ)) (g_MD_weights σ v) home s && better h b s) = true → it7 (b_M_digOut_59 K8 Φ) (n + 1) x (nI home) own (nI v) (nI s) (nI (s + 1)) (setTry σ (I h) (I c)) := fun z => ih (s + 1) (some s) (by omega) (fun y hy => by cases hy; exact ⟨by omega, by simp only [Bool.and_eq_true] at z; exact z.1⟩) (by rw [tgt, if_pos z] at er; exact er)
    have nz : ∀ {A B : Prop}, A → ((0 : Int32) = 0 → A) ∧ (¬ (0 : Int32) = 0 → B) := fun a => ⟨fun _ => a, fun q => absurd rfl q⟩
    refine le_f (a := 6) (by omega) (by omega) (eq_c (by omega) (by omega) (fun q => nz (no (by simp [canD, q]))) (fun q => q_McanTry hk (by omega) hv (b2i_c (fun r => nz (no (by simp [canD, r]))) (fun r => ⟨fun z => absurd z (by decide), fun _ => ?_⟩))))
    cases b with
    | none => exact m1_t (yes (by simp [canD, r, q, better]))
    | some t =>
      have ht := (hb t rfl).1
      have ht5 := hk.1 t ht
      rw [show o2i (some t) = nI t from rfl] at no ⊢
      refine m1_f (by omega) (in_t (by omega) (by omega) (in_t ht (by omega) ?_))
      rw [nI_clamp (by omega), nI_clamp (by omega)]
      show (nI (h t) ≤ nI (h s) → _) ∧ (¬ nI (h t) ≤ nI (h s) → _)
      refine le_c (by omega) (by omega) (fun z => no ?_) (fun z => yes ?_)
      · simp [canD, r, q, better]; omega
      · simp [canD, r, q, better]; omega
theorem q_Mdg {σ : MD} {home : Nat} {x : Int32} {Φ : Int32 → MD → Prop} (hh : home < 6) : ∀ (n t : Nat) (h c : Nat → Nat), ok h c → t + n < 100 → (∃ j, j < h home ∧ h home ≤ j + n ∧ nI (c (5 * home + j)) = x) → (digF (g_MD_weights σ) (mo (g_MD_isStorm σ)) x home n h c (t + 1) = none → ∀ h' c' : AI, Φ (-1) (setTry σ h' c')) → (∀ r h' c', digF (g_MD_weights σ) (mo (g_MD_isStorm σ)) x home n h c (t + 1) = some (r, h', c') → Φ (nI r) (setTry σ (I h') (I c'))) → it4 (b_M_digOut_8 Φ) (n + 1) x (nI home) (nI t) (setTry σ (I h) (I c)) := by
  intro n
  induction n with
  | zero =>
    intro t h c hk e hj kn ks
    obtain ⟨j, hj, hj2, hx⟩ := hj
    omega
  | succ n ih =>
    intro t h c hk e hj kn ks
    obtain ⟨j, hj, hj2, hx⟩ := hj
    have h5 := hk.1 home hh
    have htop := top_lt hk hh (by omega)
    show b_M_digOut_8 Φ (it4 (b_M_digOut_8 Φ) (n + 1)) x (nI home) (nI t) (setTry σ (I h) (I c))
    unfold b_M_digOut_8
    refine m1_f (by omega) (in_t hh (by omega) ?_)
    rw [nI_clamp (show home < 2 ^ 31 by omega)]
    show vp_in ((5 : Int32) * nI home + nI (h home) - (1 : Int32)) 30 ∧ _
    rw [ixM1 (by omega)]
    refine in_t (by omega) (by omega) (all_t ?_)
    rw [nI_clamp (by omega)]
    have e1 : nI t + (1 : Int32) = nI (t + 1) := nI_1 t
    rw [e1]
    show (nI (top h c home) = x → _) ∧ (¬ nI (top h c home) = x → _)
    refine ⟨fun q => in_t hh (by omega) (all_t (in_t hh (by omega) (all_t ?_))), fun q => ⟨7, ?_⟩⟩
    · have e2 : upd (I h) home (I h home - (1 : Int32)) = I (up h home (h home - 1)) := by
        show upd (I h) home (nI (h home) - (1 : Int32)) = _
        rw [l1, pk_sub (by omega), I_up]
      have e3 : s_MD_triedHeights (setTry σ (I h) (I c)) (upd (g_MD_triedHeights (setTry σ (I h) (I c))) home (g_MD_triedHeights (setTry σ (I h) (I c)) home - (1 : Int32))) = setTry σ (I (up h home (h home - 1))) (I c) := congrArg (fun z => setTry σ z (I c)) e2
      rw [e3]
      exact ks (t + 1) _ _ (by rw [digF, if_pos q])
    · refine q_Mtg hk hh htop (by omega) (target (up h home (h home - 1)) c (g_MD_weights σ) (mo (g_MD_isStorm σ)) (g_MD_weights σ (top h c home)) home) (fun z => kn (by rw [digF, if_neg q, z]; rfl) _ _) (fun b z b1 b2 b3 => ?_) 6 0 none rfl (fun z h => by cases h) target_down.symm
      have ed : digF (g_MD_weights σ) (mo (g_MD_isStorm σ)) x home (n + 1) h c (t + 1) = digF (g_MD_weights σ) (mo (g_MD_isStorm σ)) x home n (up (up h home (h home - 1)) b (h b + 1)) (up c (5 * b + h b) (top h c home)) (t + 1 + 1) := by
        rw [digF, if_neg q, z]; rfl
      have ho := ok_put (ok_down (i := home) hk) b1 (by rw [up_n b2]; exact b3) htop
      rw [up_n b2] at ho
      obtain ⟨g1, g2⟩ := bot_keep (v := top h c home) hh b1 b2 b3 h5 hj hx q
      refine ih (t + 1) _ _ ho (by omega) ⟨j, g1, ?_, g2⟩ (fun z => kn (by rw [ed]; exact z)) (fun r h' c' z => ks r h' c' (by rw [ed]; exact z))
      rw [up_n (Ne.symm b2), up_s]
      omega
theorem q_MdigOut {h c : Nat → Nat} {σ : MD} {x : Int32} {Φ : Int32 → MD → Prop} (hk : ok h c) (kn : dig h c (g_MD_weights σ) (mo (g_MD_isStorm σ)) x = none → ∀ h' c' : AI, Φ (-1) (setTry σ h' c')) (ks : ∀ r h' c', dig h c (g_MD_weights σ) (mo (g_MD_isStorm σ)) x = some (r, h', c') → Φ (nI r) (setTry σ (I h') (I c'))) : w_M_digOut (setTry σ (I h) (I c)) x Φ := by
  unfold w_M_digOut
  refine q_Mfind hk ?_
  cases hf : find h c x with
  | none =>
    refine ⟨1, ?_⟩
    show b_M_digOut_8 Φ (it4 (b_M_digOut_8 Φ) 0) x (-1) (0 : Int32) (setTry σ (I h) (I c))
    unfold b_M_digOut_8
    exact m1_t (kn (by rw [dig, hf]; rfl) _ _)
  | some home =>
    obtain ⟨h1, j, h2, h3⟩ := find_yes hf
    have ed : dig h c (g_MD_weights σ) (mo (g_MD_isStorm σ)) x = digF (g_MD_weights σ) (mo (g_MD_isStorm σ)) x home 5 h c 1 := by rw [dig, hf]; rfl
    have h5 := hk.1 home h1
    exact ⟨6, q_Mdg h1 5 0 h c hk (by omega) ⟨j, h2, by omega, h3⟩ (fun z => kn (by rw [ed]; exact z)) (fun r h' c' z => ks r h' c' (by rw [ed]; exact z))⟩
