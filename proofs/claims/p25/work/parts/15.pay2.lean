theorem tops_skip {h c : Nat → Nat} {le : AI} {s n : Nat} (q : h s = 0) : tops h c le s (n + 1) = tops h c le (s + 1) n := by rw [tops, if_pos q]
theorem tops_cons {h c : Nat → Nat} {le : AI} {s n : Nat} (q : ¬ h s = 0) : tops h c le s (n + 1) = le (top h c s) :: tops h c le (s + 1) n := by rw [tops, if_neg q]
