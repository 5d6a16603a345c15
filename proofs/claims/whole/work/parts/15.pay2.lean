abbrev setPay (σ : MD) (p : AI) (s : Int32) : MD := s_MD_bonus (s_MD_hasPaid σ p) s
theorem q_MtopOf {h c : Nat → Nat} {σ : MD} {i : Nat} (hH : g_MD_heights σ = I h) (hY : g_MD_yard σ = I c) (hk : ok h c) (hi : i < 6) (h0 : 0 < h i) {Φ : Int32 → MD → Prop} (k : Φ (nI (top h c i)) σ) : w_M_topOf σ (nI i) Φ := by
  unfold w_M_topOf
  have h5 := hk.1 i hi
  rw [hH, hY]
  refine in_t hi (by omega) ?_
  rw [nI_clamp (show i < 2 ^ 31 by omega)]
  show vp_in ((5 : Int32) * nI i + nI (h i) - (1 : Int32)) 30 ∧ Φ (I c ((5 : Int32) * nI i + nI (h i) - (1 : Int32)).toNatClampNeg) σ
  rw [ixM1 h0]
  refine in_t (by omega) (by omega) ?_
  rw [nI_clamp (by omega)]
  exact k
theorem tops_skip {h c : Nat → Nat} {le : AI} {s n : Nat} (q : h s = 0) : tops h c le s (n + 1) = tops h c le (s + 1) n := by rw [tops, if_pos q]
theorem tops_cons {h c : Nat → Nat} {le : AI} {s n : Nat} (q : ¬ h s = 0) : tops h c le s (n + 1) = le (top h c s) :: tops h c le (s + 1) n := by rw [tops, if_neg q]
theorem q_skip {h c : Nat → Nat} {σ : MD} {K8 : Int32 → Int32 → Int32 → Int32 → MD → Prop} {Φ : Int32 → MD → Prop} (hH : g_MD_heights σ = I h) (hk : ok h c) {x k : Int32} : ∀ (n s : Nat), s + n = 6 → (tops h c (g_MD_letters σ) s n = [] → b_M_isOnLids_50 K8 Φ x (nI 6) 1 k σ) → (∀ s' n', s' + n' + 1 = 6 → 0 < h s' → tops h c (g_MD_letters σ) s n = g_MD_letters σ (top h c s') :: tops h c (g_MD_letters σ) (s' + 1) n' → b_M_isOnLids_50 K8 Φ x (nI s') 1 k σ) → it5 (b_M_isOnLids_29 K8 Φ) (n + 1) x (nI s) 1 k σ := by
  intro n
  induction n with
  | zero =>
    intro s e he hc
    show b_M_isOnLids_29 K8 Φ (it5 (b_M_isOnLids_29 K8 Φ) 0) x (nI s) 1 k σ
    rw [b_M_isOnLids_29]
    have e6 : s = 6 := by omega
    subst e6
    exact le_t (a := 6) (by omega) (by omega) (he rfl)
  | succ n ih =>
    intro s e he hc
    show b_M_isOnLids_29 K8 Φ (it5 (b_M_isOnLids_29 K8 Φ) (n + 1)) x (nI s) 1 k σ
    rw [b_M_isOnLids_29, hH]
    have h5 := hk.1 s (by omega)
    have e1 : nI s + (1 : Int32) = nI (s + 1) := nI_1 s
    rw [e1]
    refine le_f (a := 6) (by omega) (by omega) (in_t (by omega) (by omega) ?_)
    rw [nI_clamp (show s < 2 ^ 31 by omega)]
    refine eq_c (a := h s) (b := 0) (by omega) (by omega) (fun q => ?_) (fun q => ?_)
    · rw [tops_skip q] at he
      simp only [tops_skip q] at hc
      exact ih (s + 1) (by omega) he hc
    · exact hc s n (by omega) (by omega) (tops_cons q)
theorem q_isL {h c : Nat → Nat} {σ : MD} {w : Nat} {len : Nat → Nat} {m : Nat} {Φ : Int32 → MD → Prop} (hH : g_MD_heights σ = I h) (hY : g_MD_yard σ = I c) (hk : ok h c) (hm : m ≤ 8) (hw : w < m) (hW : wok (g_MD_words σ) len m) : ∀ (n k s n' : Nat), k + n = len w → s + n' = 6 → Φ (b2i (pre (wf (g_MD_words σ) w) k n (tops h c (g_MD_letters σ) s n'))) σ → it5 (b_M_isOnLids_8 Φ) (n + 1) (nI w) (nI s) 1 (nI k) σ := by
  obtain ⟨w1, w2, w3, w4⟩ := hW w hw
  intro n
  induction n with
  | zero =>
    intro k s n' e e2 kk
    show b_M_isOnLids_8 Φ (it5 (b_M_isOnLids_8 Φ) 0) (nI w) (nI s) 1 (nI k) σ
    rw [b_M_isOnLids_8]
    unfold b_M_isOnLids_119
    have done : bo (1 : Int32) ∧ Φ 1 σ := ⟨Or.inr rfl, kk⟩
    refine le_c (a := 4) (by omega) (by omega) (fun _ => done) (fun q => ?_)
    rw [l4, pk_mul, nI_add]
    refine in_t (by omega) (by omega) ⟨fun _ => done, fun z => absurd ?_ z⟩
    rw [nI_clamp (by omega)]
    exact w4 k (by omega) q
  | succ n ih =>
    intro k s n' e e2 kk
    show b_M_isOnLids_8 Φ (it5 (b_M_isOnLids_8 Φ) (n + 1)) (nI w) (nI s) 1 (nI k) σ
    rw [b_M_isOnLids_8]
    have nz : ¬ (1 : Int32) = 0 := by decide
    have e4 : (4 : Int32) * nI w + nI k = nI (4 * w + k) := by rw [l4, pk_mul, nI_add]
    have fin0 : pre (wf (g_MD_words σ) w) k (n + 1) (tops h c (g_MD_letters σ) s n') = false → ∀ x3 : Int32, b_M_isOnLids_89 (it5 (b_M_isOnLids_8 Φ) (n + 1)) Φ (nI w) x3 (nI k) σ := fun z x3 => by
      rw [z] at kk
      unfold b_M_isOnLids_89 b_M_isOnLids_90 b_M_isOnLids_104
      exact ⟨fun _ => ⟨fun _ => ⟨Or.inl rfl, kk⟩, fun y => absurd rfl y⟩, fun _ => ⟨fun _ => ⟨Or.inl rfl, kk⟩, fun y => absurd rfl y⟩⟩
    refine le_f (a := 4) (by omega) (by omega) ?_
    rw [e4]
    refine in_t (by omega) (by omega) ?_
    rw [nI_clamp (show 4 * w + k < 2 ^ 31 by omega)]
    refine ⟨fun z => absurd z (w3 k (by omega)), fun _ => ⟨n' + 1, q_skip hH hk n' s e2 (fun z => ?_) (fun s' n2 e3 h0 z => ?_)⟩⟩
    · rw [b_M_isOnLids_50]
      exact ⟨fun y => absurd y nz, fun _ => le_t (a := 6) (b := 6) (by omega) (by omega) (fin0 (by rw [z]; rfl) _)⟩
    · rw [b_M_isOnLids_50]
      have ht := top_lt hk (show s' < 6 by omega) h0
      refine ⟨fun y => absurd y nz, fun _ => le_f (a := 6) (by omega) (by omega) (q_MtopOf hH hY hk (by omega) h0 (in_t ht (by omega) ?_))⟩
      rw [e4]
      refine in_t (by omega) (by omega) ?_
      rw [nI_clamp (show 4 * w + k < 2 ^ 31 by omega), nI_clamp (show top h c s' < 2 ^ 31 by omega)]
      refine ⟨fun q => ?_, fun q => fin0 ?_ _⟩
      · have q : g_MD_letters σ (top h c s') = wf (g_MD_words σ) w k := q
        rw [z, pre, decide_eq_true q, Bool.true_and] at kk
        unfold b_M_isOnLids_90 b_M_isOnLids_104
        have e5 : nI s' + (1 : Int32) = nI (s' + 1) := nI_1 s'
        have e6 : nI k + (1 : Int32) = nI (k + 1) := nI_1 k
        refine le_f (a := 6) (by omega) (by omega) ⟨fun y => absurd y nz, fun _ => ?_⟩
        rw [e5, e6]
        exact ih (k + 1) (s' + 1) n2 (by omega) (by omega) kk
      · have q : ¬ g_MD_letters σ (top h c s') = wf (g_MD_words σ) w k := q
        rw [z, pre, decide_eq_false q, Bool.false_and]
theorem q_MisOnLids {h c : Nat → Nat} {σ : MD} {w : Nat} {len : Nat → Nat} {m : Nat} {Φ : Int32 → MD → Prop} (hH : g_MD_heights σ = I h) (hY : g_MD_yard σ = I c) (hk : ok h c) (hm : m ≤ 8) (hw : w < m) (hW : wok (g_MD_words σ) len m) {s n' : Nat} (e : s + n' = 6) (kk : Φ (b2i (pre (wf (g_MD_words σ) w) 0 (len w) (tops h c (g_MD_letters σ) s n'))) σ) : w_M_isOnLids σ (nI w) (nI s) Φ := by
  unfold w_M_isOnLids
  exact ⟨len w + 1, q_isL hH hY hk hm hw hW (len w) 0 s n' (by omega) e kk⟩
theorem q_MsizeOf {σ : MD} {w : Nat} {len : Nat → Nat} {m : Nat} {Φ : Int32 → MD → Prop} (hm : m ≤ 8) (hw : w < m) (hW : wok (g_MD_words σ) len m) (kk : Φ (nI (len w)) σ) : w_M_sizeOf σ (nI w) Φ := by
  obtain ⟨w1, w2, w3, w4⟩ := hW w hw
  unfold w_M_sizeOf b_M_sizeOf_37
  have e2 : (4 : Int32) * nI w + (2 : Int32) = nI (4 * w + 2) := by rw [l4, l2, pk_mul, nI_add]
  have e3 : (4 : Int32) * nI w + (3 : Int32) = nI (4 * w + 3) := by rw [l4, l3, pk_mul, nI_add]
  rw [e2, e3]
  refine in_t (by omega) (by omega) ?_
  rw [nI_clamp (by omega)]
  refine ⟨fun q => ?_, fun q => in_t (by omega) (by omega) ?_⟩
  · have : len w = 2 := by
      by_cases z : 2 < len w
      · exact absurd q (w3 2 z)
      · omega
    rw [this] at kk
    exact kk
  · rw [nI_clamp (by omega)]
    have a2 : 2 < len w := by
      by_cases z : 2 < len w
      · exact z
      · exact absurd (w4 2 (by omega) (by omega)) q
    refine ⟨fun q3 => ?_, fun q3 => ?_⟩
    · have : len w = 3 := by
        by_cases z : 3 < len w
        · exact absurd q3 (w3 3 z)
        · omega
      rw [this] at kk
      exact kk
    · have : len w = 4 := by
        by_cases z : 3 < len w
        · omega
        · exact absurd (w4 3 (by omega) (by omega)) q3
      rw [this] at kk
      exact kk
theorem q_Mpw {h c : Nat → Nat} {len : Nat → Nat} {m : Nat} {σ0 : MD} {K2 : Int32 → MD → Prop} {Φ : MD → Prop} (hk : ok h c) (hm : m ≤ 8) {p : AI} {bs : Int32} (hH : g_MD_heights σ0 = I h) (hY : g_MD_yard σ0 = I c) (hW : wok (g_MD_words σ0) len m) {w : Nat} (hw : w < m) (ky : anyS (wf (g_MD_words σ0) w) (len w) (tops h c (g_MD_letters σ0) 0 6) = true → p w = 0 → K2 (nI (w + 1)) (setPay σ0 (upd p w 1) (bs + 100 * nI (len w)))) (kn : ¬ (p w = 0 ∧ anyS (wf (g_MD_words σ0) w) (len w) (tops h c (g_MD_letters σ0) 0 6) = true) → K2 (nI (w + 1)) (setPay σ0 p bs)) :
    ∀ (n s : Nat) (b : Bool), s + n = 6 → (b || anyS (wf (g_MD_words σ0) w) (len w) (tops h c (g_MD_letters σ0) s n)) = anyS (wf (g_MD_words σ0) w) (len w) (tops h c (g_MD_letters σ0) 0 6) → it4 (b_M_payWords_14 K2 Φ) (n + 1) (nI w) (b2i b) (nI s) (setPay σ0 p bs) := by
  have e1 : nI w + (1 : Int32) = nI (w + 1) := nI_1 w
  have hsz : ∀ {Ψ : Int32 → MD → Prop} {p' : AI} {bs' : Int32}, Ψ (nI (len w)) (setPay σ0 p' bs') → w_M_sizeOf (setPay σ0 p' bs') (nI w) Ψ := fun k => q_MsizeOf (σ := setPay σ0 _ _) hm hw hW k
  intro n
  induction n with
  | zero =>
    intro s b e eb
    show b_M_payWords_14 K2 Φ (it4 (b_M_payWords_14 K2 Φ) 0) (nI w) (b2i b) (nI s) (setPay σ0 p bs)
    rw [b_M_payWords_14]
    unfold b_M_payWords_91
    rw [e1]
    have eb : b = anyS (wf (g_MD_words σ0) w) (len w) (tops h c (g_MD_letters σ0) 0 6) := by rw [← eb]; simp [tops, anyS]
    refine le_t (a := 6) (by omega) (by omega) (b2i_c (fun z => kn (fun y => by rw [← eb, z] at y; exact absurd y.2 (by decide))) (fun z => in_t (by omega) (by omega) ?_))
    rw [nI_clamp (show w < 2 ^ 31 by omega)]
    refine ⟨fun q => in_t (by omega) (by omega) (all_t (hsz (p' := upd p w 1) (bs' := bs) (all_t (all_t ?_)))), fun q => kn (fun y => q y.1)⟩
    exact ky (by rw [← eb]; exact z) q
  | succ n ih =>
    intro s b e eb
    show b_M_payWords_14 K2 Φ (it4 (b_M_payWords_14 K2 Φ) (n + 1)) (nI w) (b2i b) (nI s) (setPay σ0 p bs)
    rw [b_M_payWords_14]
    unfold b_M_payWords_46 b_M_payWords_42 b_M_payWords_47
    have e2 : nI s + (1 : Int32) = nI (s + 1) := nI_1 s
    rw [e2]
    have h5 := hk.1 s (by omega)
    refine le_f (a := 6) (by omega) (by omega) (b2i_c (fun z => in_t (by omega) (by omega) ?_) (fun z => ?_))
    · rw [z, Bool.false_or] at eb
      rw [nI_clamp (show s < 2 ^ 31 by omega)]
      have go0 : anyS (wf (g_MD_words σ0) w) (len w) (tops h c (g_MD_letters σ0) (s + 1) n) = anyS (wf (g_MD_words σ0) w) (len w) (tops h c (g_MD_letters σ0) 0 6) → it4 (b_M_payWords_14 K2 Φ) (n + 1) (nI w) 0 (nI (s + 1)) (setPay σ0 p bs) := fun y => ih (s + 1) false (by omega) (by rw [Bool.false_or]; exact y)
      have go1 : anyS (wf (g_MD_words σ0) w) (len w) (tops h c (g_MD_letters σ0) 0 6) = true → it4 (b_M_payWords_14 K2 Φ) (n + 1) (nI w) 1 (nI (s + 1)) (setPay σ0 p bs) := fun y => ih (s + 1) true (by omega) (by rw [Bool.true_or]; exact y.symm)
      have eh : g_MD_heights (setPay σ0 p bs) s = nI (h s) := congrFun hH s
      rw [eh]
      refine le_c (a := h s) (b := 0) (by omega) (by omega) (fun q => go0 (by rw [tops_skip (by omega)] at eb; exact eb)) (fun q => ?_)
      rw [tops_cons (by omega), anyS, ← tops_cons (by omega)] at eb
      refine q_MisOnLids (σ := setPay σ0 p bs) hH hY hk hm hw hW (n' := n + 1) e (b2i_c (fun r => go0 ?_) (fun r => go1 ?_))
      · rw [show pre (wf (g_MD_words σ0) w) 0 (len w) (tops h c (g_MD_letters σ0) s (n + 1)) = false from r, Bool.false_or] at eb
        exact eb
      · rw [show pre (wf (g_MD_words σ0) w) 0 (len w) (tops h c (g_MD_letters σ0) s (n + 1)) = true from r, Bool.true_or] at eb
        exact eb.symm
    · rw [z, Bool.true_or] at eb
      exact ih (s + 1) true (by omega) (by rw [Bool.true_or]; exact eb)
theorem q_MpL {h c : Nat → Nat} {len : Nat → Nat} {m : Nat} {σ0 : MD} {Φ : MD → Prop} (hk : ok h c) (hm : m ≤ 8) (hH : g_MD_heights σ0 = I h) (hY : g_MD_yard σ0 = I c) (hM : g_MD_many σ0 = nI m) (hW : wok (g_MD_words σ0) len m) : ∀ (n i : Nat) (p : AI) (s : Int32), i + n = m → Φ (setPay σ0 (payF (tops h c (g_MD_letters σ0) 0 6) (g_MD_words σ0) len i n p s).1 (payF (tops h c (g_MD_letters σ0) 0 6) (g_MD_words σ0) len i n p s).2) → it2 (b_M_payWords_2 Φ) (n + 1) (nI i) (setPay σ0 p s) := by
  intro n
  induction n with
  | zero =>
    intro i p s e kk
    show b_M_payWords_2 Φ (it2 (b_M_payWords_2 Φ) 0) (nI i) (setPay σ0 p s)
    rw [b_M_payWords_2, show g_MD_many (setPay σ0 p s) = nI m from hM]
    exact le_t (a := m) (by omega) (by omega) kk
  | succ n ih =>
    intro i p s e kk
    show b_M_payWords_2 Φ (it2 (b_M_payWords_2 Φ) (n + 1)) (nI i) (setPay σ0 p s)
    rw [b_M_payWords_2, show g_MD_many (setPay σ0 p s) = nI m from hM]
    rw [payF] at kk
    refine le_f (a := m) (by omega) (by omega) ⟨7, q_Mpw hk hm hH hY hW (show i < m by omega) (fun y q => ?_) (fun y => ?_) 6 0 false rfl (by rw [Bool.false_or])⟩
    · rw [if_pos ⟨q, y⟩] at kk
      exact ih (i + 1) _ _ (by omega) kk
    · rw [if_neg y] at kk
      exact ih (i + 1) p s (by omega) kk
theorem q_MpayWords {h c : Nat → Nat} {len : Nat → Nat} {m : Nat} {σ : MD} {Φ : MD → Prop} (hk : ok h c) (hm : m ≤ 8) (hH : g_MD_heights σ = I h) (hY : g_MD_yard σ = I c) (hM : g_MD_many σ = nI m) (hW : wok (g_MD_words σ) len m) (kk : Φ (setPay σ (payF (tops h c (g_MD_letters σ) 0 6) (g_MD_words σ) len 0 m (g_MD_hasPaid σ) (g_MD_bonus σ)).1 (payF (tops h c (g_MD_letters σ) 0 6) (g_MD_words σ) len 0 m (g_MD_hasPaid σ) (g_MD_bonus σ)).2)) : w_M_payWords σ Φ := by
  unfold w_M_payWords
  exact ⟨m + 1, q_MpL hk hm hH hY hM hW m 0 (g_MD_hasPaid σ) (g_MD_bonus σ) (by omega) kk⟩
