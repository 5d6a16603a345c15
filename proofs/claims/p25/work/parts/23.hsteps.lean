theorem q_Hadd {lo ld pri : AI} {st bd : Nat → Nat} {q : Nat} {pp ow x u : Int32} (hq : q < 20) {Φ : Int32 → HL → Prop} (k : Φ (nI q) (upd lo q x, upd ld q u, I (up st q 0), pri, I bd, nI (q + 1), pp, ow)) : w_H_add (lo, ld, I st, pri, I bd, nI q, pp, ow) x u Φ := by
  unfold w_H_add
  refine lt_t (b := 20) (by omega) hq (all_t (all_t (in_t hq (by omega) (all_t (in_t hq (by omega) (all_t (in_t hq (by omega) (all_t ?_))))))))
  rw [nI_clamp (by omega)]
  have e1 : upd (I st) q 0 = I (up st q 0) := I_up st q 0
  have e2 : nI q + (1 : Int32) = nI (q + 1) := nI_1 q
  rw [← e1, ← e2] at k
  exact k
