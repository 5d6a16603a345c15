def set4 (f : AI) (m : Nat) (a b c d : Int32) : AI := upd (upd (upd (upd f (4 * m) a) (4 * m + 1) b) (4 * m + 2) c) (4 * m + 3) d
theorem set4_o {f : AI} {m w k : Nat} {a b c d : Int32} (h : w ≠ m) (hk : k < 4) : set4 f m a b c d (4 * w + k) = f (4 * w + k) := by
  unfold set4 upd
  rw [if_neg (by omega), if_neg (by omega), if_neg (by omega), if_neg (by omega)]
theorem set4_0 {f : AI} {m : Nat} {a b c d : Int32} : set4 f m a b c d (4 * m + 0) = a := by
  unfold set4 upd
  rw [if_neg (by omega), if_neg (by omega), if_neg (by omega), if_pos (by omega)]
theorem set4_1 {f : AI} {m : Nat} {a b c d : Int32} : set4 f m a b c d (4 * m + 1) = b := by
  unfold set4 upd
  rw [if_neg (by omega), if_neg (by omega), if_pos rfl]
theorem set4_2 {f : AI} {m : Nat} {a b c d : Int32} : set4 f m a b c d (4 * m + 2) = c := by
  unfold set4 upd
  rw [if_neg (by omega), if_pos rfl]
theorem set4_3 {f : AI} {m : Nat} {a b c d : Int32} : set4 f m a b c d (4 * m + 3) = d := by
  unfold set4 upd
  rw [if_pos rfl]
def wlen (c d : Int32) : Nat := if c = -1 then 2 else if d = -1 then 3 else 4
theorem wok_set4 {ltr : AI} {len : Nat → Nat} {m : Nat} {a b c d : Int32} (hW : wok ltr len m) (ha : a ≠ -1) (hb : b ≠ -1) (hcd : c = -1 → d = -1) : wok (set4 ltr m a b c d) (up len m (wlen c d)) (m + 1) := by
  intro w hw
  by_cases q : w = m
  · subst q
    rw [up_s]
    unfold wlen
    by_cases qc : c = -1
    · have qd := hcd qc
      rw [if_pos qc]
      refine ⟨by omega, by omega, fun k hk => ?_, fun k h1 h2 => ?_⟩
      · obtain rfl | rfl : k = 0 ∨ k = 1 := by omega
        · rw [set4_0]; exact ha
        · rw [set4_1]; exact hb
      · obtain rfl | rfl : k = 2 ∨ k = 3 := by omega
        · rw [set4_2]; exact qc
        · rw [set4_3]; exact qd
    · rw [if_neg qc]
      by_cases qd : d = -1
      · rw [if_pos qd]
        refine ⟨by omega, by omega, fun k hk => ?_, fun k h1 h2 => ?_⟩
        · obtain rfl | rfl | rfl : k = 0 ∨ k = 1 ∨ k = 2 := by omega
          · rw [set4_0]; exact ha
          · rw [set4_1]; exact hb
          · rw [set4_2]; exact qc
        · obtain rfl : k = 3 := by omega
          rw [set4_3]; exact qd
      · rw [if_neg qd]
        refine ⟨by omega, by omega, fun k hk => ?_, fun k h1 h2 => by omega⟩
        obtain rfl | rfl | rfl | rfl : k = 0 ∨ k = 1 ∨ k = 2 ∨ k = 3 := by omega
        · rw [set4_0]; exact ha
        · rw [set4_1]; exact hb
        · rw [set4_2]; exact qc
        · rw [set4_3]; exact qd
  · obtain ⟨h1, h2, h3, h4⟩ := hW w (by omega)
    rw [up_n q]
    exact ⟨h1, h2, fun k hk => by rw [set4_o q (by omega)]; exact h3 k hk, fun k a b => by rw [set4_o q b]; exact h4 k a b⟩
theorem q_Wadd {ltr p : AI} {len : Nat → Nat} {m : Nat} {s a b c d : Int32} (hm : m < 8) {Φ : Int32 → WD → Prop} (k : Φ (nI m) (set4 ltr m a b c d, I (up len m (wlen c d)), p, nI (m + 1), s)) : w_W_add (ltr, I len, p, nI m, s) a b c d Φ := by
  unfold w_W_add b_W_add_98
  have e4 : nI m * (4 : Int32) = nI (4 * m) := by rw [l4, pk_mul, Nat.mul_comm]
  have e1 : nI (4 * m) + (1 : Int32) = nI (4 * m + 1) := nI_1 _
  have e2 : nI (4 * m) + (2 : Int32) = nI (4 * m + 2) := by rw [l2, nI_add]
  have e3 : nI (4 * m) + (3 : Int32) = nI (4 * m + 3) := by rw [l3, nI_add]
  refine lt_t (b := 8) (by omega) hm (all_t (all_t (all_t ?_)))
  show vp_in (nI m * (4 : Int32)) 32 ∧ _
  rw [show g_WD_count (ltr, I len, p, nI m, s) * (4 : Int32) = nI (4 * m) from e4, e1, e2, e3]
  refine in_t (by omega) (by omega) (all_t (in_t (by omega) (by omega) (all_t (in_t (by omega) (by omega) (all_t (in_t (by omega) (by omega) (all_t ?_)))))))
  rw [nI_clamp (by omega), nI_clamp (by omega), nI_clamp (by omega), nI_clamp (by omega)]
  have key : ∀ L : Nat, L = wlen c d → (vp_in (nI m) 8 ∧ ∀ z1 : WD, z1 = (set4 ltr m a b c d, upd (I len) (nI m).toNatClampNeg (nI L), p, nI m + 1, s) → Φ (nI m) z1) := by
    intro L hL
    refine in_t (by omega) (by omega) (all_t ?_)
    rw [nI_clamp (by omega), I_up, hL, nI_1]
    exact k
  refine ⟨fun q => ?_, fun q => ⟨fun q2 => ?_, fun q2 => ?_⟩⟩
  · exact key 2 (by rw [wlen, if_pos q])
  · exact key 3 (by rw [wlen, if_neg q, if_pos q2])
  · exact key 4 (by rw [wlen, if_neg q, if_neg q2])
