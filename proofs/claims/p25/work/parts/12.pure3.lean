def digF (w : AI) (m : Nat) (x : Int32) (home : Nat) : Nat → (Nat → Nat) → (Nat → Nat) → Nat → Option (Nat × (Nat → Nat) × (Nat → Nat))
  | 0, _, _, _ => none
  | n + 1, h, c, t => if nI (top h c home) = x then some (t, up h home (h home - 1), c) else (target (up h home (h home - 1)) c w m (w (top h c home)) home).bind fun b => digF w m x home n (up (up h home (h home - 1)) b (h b + 1)) (up c (5 * b + h b) (top h c home)) (t + 1)
def dig (h c : Nat → Nat) (w : AI) (m : Nat) (x : Int32) : Option (Nat × (Nat → Nat) × (Nat → Nat)) := (find h c x).bind fun home => digF w m x home 5 h c 1
theorem ok_down {h c : Nat → Nat} {i : Nat} (hk : ok h c) : ok (up h i (h i - 1)) c := by
  refine ⟨fun k hi => ?_, fun k j hi hj => ?_⟩
  · by_cases q : k = i
    · subst q; rw [up_s]; have := hk.1 k hi; omega
    · rw [up_n q]; exact hk.1 k hi
  · by_cases q : k = i
    · subst q; rw [up_s] at hj; exact hk.2 k j hi (by omega)
    · rw [up_n q] at hj; exact hk.2 k j hi hj
theorem ok_put {h c : Nat → Nat} {b v : Nat} (hk : ok h c) (hb : b < 6) (h5 : h b < 5) (hv : v < 30) : ok (up h b (h b + 1)) (up c (5 * b + h b) v) := by
  refine ⟨fun k hi => ?_, fun k j hi hj => ?_⟩
  · by_cases q : k = b
    · subst q; rw [up_s]; omega
    · rw [up_n q]; exact hk.1 k hi
  · by_cases q : k = b
    · subst q
      rw [up_s] at hj
      by_cases z : j = h k
      · subst z; rw [up_s]; exact hv
      · rw [up_n (by omega)]; exact hk.2 k j hi (by omega)
    · rw [up_n q] at hj
      have h1 := hk.1 k hi
      rw [up_n (by omega)]
      exact hk.2 k j hi hj
theorem bot_keep {h c : Nat → Nat} {home b v j : Nat} {x : Int32} (hh : home < 6) (hb : b < 6) (hn : b ≠ home) (h5 : h b < 5) (hj5 : h home ≤ 5) (hj : j < h home) (hx : nI (c (5 * home + j)) = x) (ht : ¬ nI (top h c home) = x) : j < up (up h home (h home - 1)) b (h b + 1) home ∧ nI (up c (5 * b + h b) v (5 * home + j)) = x := by
  have h1 : j ≠ h home - 1 := fun e => ht (by subst e; exact hx)
  refine ⟨?_, ?_⟩
  · rw [up_n (Ne.symm hn), up_s]; omega
  · rw [up_n (by omega)]; exact hx
theorem q_dg {w : AI} {m home : Nat} {x : Int32} {Φ : Int32 → SK → Prop} (hm : m ≤ 5) (hh : home < 6) : ∀ (n t : Nat) (h c : Nat → Nat), ok h c → t + n = 6 → (∃ j, j < h home ∧ nI (c (5 * home + j)) = x) → (digF w m x home n h c t = none → ∀ u : SK, u.2.2 = w → Φ (-1) u) → (∀ r h' c', digF w m x home n h c t = some (r, h', c') → Φ (nI r) (I h', I c', w)) → it5 (b_S_digOut_16 Φ) (n + 1) x (nI m) (nI home) (nI t) (I h, I c, w) := by
  intro n
  induction n with
  | zero =>
    intro t h c hk e hj kn ks
    show b_S_digOut_16 Φ (it5 (b_S_digOut_16 Φ) 0) x (nI m) (nI home) (nI t) (I h, I c, w)
    unfold b_S_digOut_16
    exact lt_t (a := 5) (by omega) (by omega) (kn rfl _ rfl)
  | succ n ih =>
    intro t h c hk e hj kn ks
    obtain ⟨j, hj, hx⟩ := hj
    show b_S_digOut_16 Φ (it5 (b_S_digOut_16 Φ) (n + 1)) x (nI m) (nI home) (nI t) (I h, I c, w)
    unfold b_S_digOut_16
    have h5 := hk.1 home hh
    have htop := top_lt hk hh (by omega)
    refine lt_f (a := 5) (by omega) (by omega) (q_takeTop hk hh (by omega) ⟨fun q => ?_, fun q => q_weightOf htop (q_targetFor (ok_down hk) hm hh ?_)⟩)
    · exact ks t _ _ (by rw [digF, if_pos q])
    · cases hb : target (up h home (h home - 1)) c w m (w (top h c home)) home with
      | none => exact m1_t (kn (by rw [digF, if_neg q, hb]; rfl) _ rfl)
      | some b =>
        obtain ⟨b1, b2, b3⟩ := target_yes hb
        have b4 := canB_lt b3
        rw [up_n b2] at b4
        refine m1_f (by omega) (q_put b1 (by rw [up_n b2]; omega) ?_)
        have e1 : nI t + (1 : Int32) = nI (t + 1) := nI_1 t
        rw [e1, up_n b2]
        have ed : digF w m x home (n + 1) h c t = digF w m x home n (up (up h home (h home - 1)) b (h b + 1)) (up c (5 * b + h b) (top h c home)) (t + 1) := by
          rw [digF, if_neg q, hb]; rfl
        have ho := ok_put (ok_down (i := home) hk) b1 (by rw [up_n b2]; omega) htop
        rw [up_n b2] at ho
        exact ih (t + 1) _ _ ho (by omega) ⟨j, bot_keep hh b1 b2 (by omega) h5 hj hx q⟩ (fun z => kn (by rw [ed]; exact z)) (fun r h' c' z => ks r h' c' (by rw [ed]; exact z))
theorem q_digOut {h c : Nat → Nat} {w : AI} {m : Nat} {x : Int32} {Φ : Int32 → SK → Prop} (hk : ok h c) (hm : m ≤ 5) (kn : dig h c w m x = none → ∀ u : SK, u.2.2 = w → Φ (-1) u) (ks : ∀ r h' c', dig h c w m x = some (r, h', c') → Φ (nI r) (I h', I c', w)) : w_S_digOut (I h, I c, w) x (nI m) Φ := by
  unfold w_S_digOut
  refine q_stackHolding hk ?_
  cases hf : find h c x with
  | none => exact m1_t (kn (by rw [dig, hf]; rfl) _ rfl)
  | some home =>
    obtain ⟨h1, h2⟩ := find_yes hf
    have ed : dig h c w m x = digF w m x home 5 h c 1 := by rw [dig, hf]; rfl
    exact m1_f (by omega) ⟨6, q_dg hm h1 5 1 h c hk rfl h2 (fun z => kn (by rw [ed]; exact z)) (fun r h' c' z => ks r h' c' (by rw [ed]; exact z))⟩
def mo (s : Int32) : Nat := if s = 0 then 5 else 3
theorem mo_le (s : Int32) : mo s ≤ 5 := by unfold mo; split <;> omega
def findK (h c : Nat → Nat) (x : Int32) : Nat → Nat → Option Nat | _, 0 => none | k, n + 1 => if k % 5 < h (k / 5) ∧ nI (c k) = x then some (k / 5) else findK h c x (k + 1) n
theorem findK_eq {h c : Nat → Nat} {x : Int32} : ∀ (m i : Nat), i + m = 6 → (∀ i, i < 6 → h i ≤ 5) → findK h c x (5 * i) (5 * m) = findI h c x i m
  | 0, i, _, _ => rfl
  | m + 1, i, hm, h5 => by
    have ih := findK_eq (h := h) (c := c) (x := x) m (i + 1) (by omega) h5
    have hi := h5 i (by omega)
    show findK h c x (5 * i) (5 * m + 1 + 1 + 1 + 1 + 1) = findI h c x i (m + 1)
    rw [findI, ← ih]
    have d0 : (5 * i) % 5 = 0 ∧ (5 * i) / 5 = i := by omega
    have d1 : (5 * i + 1) % 5 = 1 ∧ (5 * i + 1) / 5 = i := by omega
    have d2 : (5 * i + 1 + 1) % 5 = 2 ∧ (5 * i + 1 + 1) / 5 = i := by omega
    have d3 : (5 * i + 1 + 1 + 1) % 5 = 3 ∧ (5 * i + 1 + 1 + 1) / 5 = i := by omega
    have d4 : (5 * i + 1 + 1 + 1 + 1) % 5 = 4 ∧ (5 * i + 1 + 1 + 1 + 1) / 5 = i := by omega
    simp only [findK, d0, d1, d2, d3, d4]
    have e5 : 5 * i + 1 + 1 + 1 + 1 + 1 = 5 * (i + 1) := by omega
    rw [e5]
    obtain q | q | q | q | q | q : h i = 0 ∨ h i = 1 ∨ h i = 2 ∨ h i = 3 ∨ h i = 4 ∨ h i = 5 := by omega
    all_goals
      rw [q]
      simp only [findJ, Nat.add_zero, Nat.zero_add, Nat.add_assoc]
      by_cases a0 : nI (c (5 * i)) = x <;> by_cases a1 : nI (c (5 * i + 1)) = x <;> by_cases a2 : nI (c (5 * i + 2)) = x <;> by_cases a3 : nI (c (5 * i + 3)) = x <;> by_cases a4 : nI (c (5 * i + 4)) = x <;> simp [a0, a1, a2, a3, a4]
theorem ixM {i j : Nat} : (5 : Int32) * nI i + nI j = nI (5 * i + j) := by rw [l5, pk_mul, nI_add]
theorem ixM1 {i j : Nat} (h : 0 < j) : (5 : Int32) * nI i + nI j - (1 : Int32) = nI (5 * i + (j - 1)) := by
  rw [ixM, l1, pk_sub (by omega)]
  congr 1
  omega
theorem tgt_down {h c : Nat → Nat} {w : AI} {m home v : Nat} {y : Int32} : ∀ (n s : Nat) (b : Option Nat), (∀ z, b = some z → z ≠ home) → tgt (canD (up h home v) c w m y home) (up h home v) s n b = tgt (canD h c w m y home) h s n b
  | 0, s, b, _ => rfl
  | n + 1, s, b, hb => by
    have e : (canD (up h home v) c w m y home s && better (up h home v) b s) = (canD h c w m y home s && better h b s) := by
      by_cases q : s = home
      · simp [canD, q]
      · have e1 : canD (up h home v) c w m y home s = canD h c w m y home s := by
          unfold canD canB top
          rw [up_n q]
        have e2 : better (up h home v) b s = better h b s := by
          cases b with
          | none => rfl
          | some z => simp only [better, up_n q, up_n (hb z rfl)]
        rw [e1, e2]
    rw [tgt, tgt, e]
    refine tgt_down n (s + 1) _ (fun z hz => ?_)
    by_cases q : (canD h c w m y home s && better h b s) = true
    · rw [if_pos q] at hz
      cases hz
      simp only [canD, Bool.and_eq_true, decide_eq_true_eq] at q
      exact q.1.1
    · rw [if_neg q] at hz
      exact hb z hz
theorem target_down {h c : Nat → Nat} {w : AI} {m home v : Nat} {y : Int32} : target (up h home v) c w m y home = tgt (canD h c w m y home) h 0 6 none := tgt_down 6 0 none (fun z h => by cases h)
