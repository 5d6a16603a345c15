def cnt : Nat → Nat → Nat | 0, _ => 0 | n + 1, V => V % 2 + cnt n (V / 2)
theorem cnt_add : ∀ (a b V : Nat), cnt (a + b) V = cnt a V + cnt b (V / 2 ^ a)
  | 0, b, V => by simp [cnt]
  | a + 1, b, V => by
    rw [show a + 1 + b = (a + b) + 1 by omega, cnt, cnt, cnt_add a b (V / 2), Nat.div_div_eq_div_mul, show 2 * 2 ^ a = 2 ^ (a + 1) by rw [Nat.pow_succ]; omega]
    omega
theorem cnt_mod : ∀ (n V : Nat), cnt n (V % 2 ^ n) = cnt n V
  | 0, _ => rfl
  | n + 1, V => by
    rw [cnt, cnt]
    have e1 : V % 2 ^ (n + 1) % 2 = V % 2 := Nat.mod_mod_of_dvd V ⟨2 ^ n, by rw [Nat.pow_succ]; omega⟩
    have e2 : V % 2 ^ (n + 1) / 2 = V / 2 % 2 ^ n := by rw [Nat.pow_succ', Nat.mod_mul_right_div_self]
    rw [e1, e2, cnt_mod n (V / 2)]
theorem cnt_zero : ∀ n, cnt n 0 = 0
  | 0 => rfl
  | n + 1 => by rw [cnt]; simp [cnt_zero n]
theorem land_split {x m M k : Nat} (hm : m < 2 ^ k) : x &&& (m + 2 ^ k * M) = (x % 2 ^ k &&& m) + 2 ^ k * (x / 2 ^ k &&& M) := by
  rw [Nat.add_comm m, Nat.add_comm (_ &&& m)]
  apply Nat.eq_of_testBit_eq
  intro i
  rw [Nat.testBit_and, Nat.testBit_two_pow_mul_add _ hm, Nat.testBit_two_pow_mul_add _ (Nat.and_lt_two_pow _ hm)]
  by_cases q : i < k
  · simp [q, Nat.testBit_and, Nat.testBit_mod_two_pow]
  · simp [q, Nat.testBit_and, Nat.testBit_div_two_pow]
    rw [show i - k + k = i by omega]
theorem land4 {x m : Nat} (hm : m < 256) (hx : x < 2 ^ 32) : x &&& (m + 256 * (m + 256 * (m + 256 * m))) = (x % 256 &&& m) + 256 * ((x / 256 % 256 &&& m) + 256 * ((x / 65536 % 256 &&& m) + 256 * (x / 16777216 &&& m))) := by
  have h := fun (x M : Nat) => land_split (x := x) (m := m) (M := M) (k := 8) hm
  have h1 : ∀ x M : Nat, x &&& (m + 256 * M) = (x % 256 &&& m) + 256 * (x / 256 &&& M) := h
  rw [h1, h1, h1, Nat.div_div_eq_div_mul, Nat.div_div_eq_div_mul]
theorem b_e85 : ∀ b, b < 256 → ∀ e, e < 2 → (b / 2 + 128 * e) &&& 85 = b / 2 &&& 85 := by decide +kernel
theorem b_t85 : ∀ b, b < 256 → b / 2 &&& 85 ≤ b := by decide +kernel
theorem b_e51 : ∀ b, b < 256 → ∀ e, e < 4 → (b / 4 + 64 * e) &&& 51 = b / 4 &&& 51 := by decide +kernel
def bD (b : Nat) : Nat := ((b - (b / 2 &&& 85)) &&& 51) + ((b - (b / 2 &&& 85)) / 4 &&& 51)
theorem b_D : ∀ b, b < 256 → bD b ≤ 68 ∧ bD b % 16 ≤ 4 := by decide +kernel
theorem b_e15 : ∀ d, d < 69 → ∀ e, e < 5 → (d + d / 16 + 16 * e) &&& 15 = (d + d / 16) % 16 := by decide +kernel
theorem b_F : ∀ b, b < 256 → (bD b + bD b / 16) % 16 = cnt 8 b := by decide +kernel
theorem b_c8 : ∀ b, b < 256 → cnt 8 b ≤ 8 := by decide +kernel
theorem bytes4 {r0 r1 r2 r3 : Nat} (h0 : r0 < 256) (h1 : r1 < 256) (h2 : r2 < 256) : (r0 + 256 * (r1 + 256 * (r2 + 256 * r3))) % 256 = r0 ∧ (r0 + 256 * (r1 + 256 * (r2 + 256 * r3))) / 256 % 256 = r1 ∧ (r0 + 256 * (r1 + 256 * (r2 + 256 * r3))) / 65536 % 256 = r2 ∧ (r0 + 256 * (r1 + 256 * (r2 + 256 * r3))) / 16777216 = r3 := by
  refine ⟨?_, ?_, ?_, ?_⟩ <;> omega
theorem div16 (m0 m1 m2 m3 : Nat) : (m0 + 256 * (m1 + 256 * (m2 + 256 * m3))) / 16 = (m0 / 16 + 16 * m1) + 256 * 16 * (m2 + 256 * m3) := by omega
theorem swar3 {m0 m1 m2 m3 : Nat} (h0 : m0 < 69) (h1 : m1 < 69) (h2 : m2 < 69) (h3 : m3 < 69) (g0 : m0 % 16 ≤ 4) (g1 : m1 % 16 ≤ 4) (g2 : m2 % 16 ≤ 4) (g3 : m3 % 16 ≤ 4) : ((m0 + 256 * (m1 + 256 * (m2 + 256 * m3))) + (m0 + 256 * (m1 + 256 * (m2 + 256 * m3))) / 16) &&& 252645135 = (m0 + m0 / 16) % 16 + 256 * ((m1 + m1 / 16) % 16 + 256 * ((m2 + m2 / 16) % 16 + 256 * ((m3 + m3 / 16) % 16))) := by
  rw [div16]
  obtain ⟨u0, v0, w0, x0⟩ : ∃ u v, u = m0 / 16 ∧ v = m0 % 16 := ⟨_, _, rfl, rfl⟩
  obtain ⟨u1, v1, w1, x1⟩ : ∃ u v, u = m1 / 16 ∧ v = m1 % 16 := ⟨_, _, rfl, rfl⟩
  obtain ⟨u2, v2, w2, x2⟩ : ∃ u v, u = m2 / 16 ∧ v = m2 % 16 := ⟨_, _, rfl, rfl⟩
  obtain ⟨u3, v3, w3, x3⟩ : ∃ u v, u = m3 / 16 ∧ v = m3 % 16 := ⟨_, _, rfl, rfl⟩
  rw [show m0 + 256 * (m1 + 256 * (m2 + 256 * m3)) + (m0 / 16 + 16 * m1 + 256 * 16 * (m2 + 256 * m3)) = (m0 + u0 + 16 * v1) + 256 * ((m1 + u1 + 16 * v2) + 256 * ((m2 + u2 + 16 * v3) + 256 * (m3 + u3 + 16 * 0))) by omega]
  have y := bytes4 (r0 := m0 + u0 + 16 * v1) (r1 := m1 + u1 + 16 * v2) (r2 := m2 + u2 + 16 * v3) (r3 := m3 + u3 + 16 * 0) (by omega) (by omega) (by omega)
  rw [show (252645135 : Nat) = 15 + 256 * (15 + 256 * (15 + 256 * 15)) from rfl, land4 (by omega) (by omega), y.1, y.2.1, y.2.2.1, y.2.2.2, w0, w1, w2, w3]
  rw [b_e15 m0 h0 _ (by omega), b_e15 m1 h1 _ (by omega), b_e15 m2 h2 _ (by omega), b_e15 m3 h3 0 (by omega)]
theorem fin4 {p0 p1 p2 p3 y3 y4 y5 : Nat} (h0 : p0 ≤ 8) (h1 : p1 ≤ 8) (h2 : p2 ≤ 8) (h3 : p3 ≤ 8) (e3 : y3 = p0 + 256 * (p1 + 256 * (p2 + 256 * p3))) (e4 : y4 = y3 + y3 / 256) (e5 : y5 = y4 + y4 / 65536) : y3 < 2 ^ 31 ∧ y4 < 2 ^ 31 ∧ y5 < 2 ^ 32 ∧ y5 % 64 = p0 + p1 + p2 + p3 := by
  have a4 : y4 = (p0 + p1) + 256 * ((p1 + p2) + 256 * ((p2 + p3) + 256 * p3)) := by omega
  have a5 : y5 = (p0 + p1 + (p2 + p3)) + 256 * ((p1 + p2 + p3) + 256 * ((p2 + p3) + 256 * p3)) := by
    rw [e5, a4]
    have y := bytes4 (r0 := p0 + p1) (r1 := p1 + p2) (r2 := p2 + p3) (r3 := p3) (by omega) (by omega) (by omega)
    have z : ((p0 + p1) + 256 * ((p1 + p2) + 256 * ((p2 + p3) + 256 * p3))) / 65536 = (p2 + p3) + 256 * p3 := by omega
    rw [z]
    omega
  refine ⟨by omega, by omega, by omega, by omega⟩
theorem swar {V y1 y2 y3 y4 y5 : Nat} (hV : V < 2 ^ 32) (e1 : y1 = V - (V / 2 &&& 1431655765)) (e2 : y2 = (y1 &&& 858993459) + (y1 / 4 &&& 858993459)) (e3 : y3 = (y2 + y2 / 16) &&& 252645135) (e4 : y4 = y3 + y3 / 256) (e5 : y5 = y4 + y4 / 65536) : V / 2 &&& 1431655765 ≤ V ∧ y1 < 2 ^ 32 ∧ y2 < 2 ^ 31 ∧ y3 < 2 ^ 31 ∧ y4 < 2 ^ 31 ∧ y5 < 2 ^ 32 ∧ y5 % 64 = cnt 32 V := by
  obtain ⟨b0, b1, b2, b3, h0, h1, h2, h3, rfl⟩ : ∃ b0 b1 b2 b3 : Nat, b0 < 256 ∧ b1 < 256 ∧ b2 < 256 ∧ b3 < 256 ∧ V = b0 + 256 * (b1 + 256 * (b2 + 256 * b3)) := ⟨V % 256, V / 256 % 256, V / 65536 % 256, V / 16777216, by omega, by omega, by omega, by omega, by omega⟩
  have c : cnt 32 (b0 + 256 * (b1 + 256 * (b2 + 256 * b3))) = cnt 8 b0 + cnt 8 b1 + cnt 8 b2 + cnt 8 b3 := by
    rw [show (32 : Nat) = 8 + (8 + (8 + 8)) from rfl, cnt_add, cnt_add, cnt_add, Nat.div_div_eq_div_mul, Nat.div_div_eq_div_mul]
    rw [← cnt_mod 8 (b0 + 256 * (b1 + 256 * (b2 + 256 * b3))), ← cnt_mod 8 ((b0 + 256 * (b1 + 256 * (b2 + 256 * b3))) / 2 ^ 8), ← cnt_mod 8 ((b0 + 256 * (b1 + 256 * (b2 + 256 * b3))) / (2 ^ 8 * 2 ^ 8)), ← cnt_mod 8 ((b0 + 256 * (b1 + 256 * (b2 + 256 * b3))) / (2 ^ 8 * 2 ^ 8 * 2 ^ 8))]
    rw [show (b0 + 256 * (b1 + 256 * (b2 + 256 * b3))) % 2 ^ 8 = b0 by omega, show (b0 + 256 * (b1 + 256 * (b2 + 256 * b3))) / 2 ^ 8 % 2 ^ 8 = b1 by omega, show (b0 + 256 * (b1 + 256 * (b2 + 256 * b3))) / (2 ^ 8 * 2 ^ 8) % 2 ^ 8 = b2 by omega, show (b0 + 256 * (b1 + 256 * (b2 + 256 * b3))) / (2 ^ 8 * 2 ^ 8 * 2 ^ 8) % 2 ^ 8 = b3 by omega]
    omega
  rw [c]
  have l1 : (b0 + 256 * (b1 + 256 * (b2 + 256 * b3))) / 2 &&& 1431655765 = (b0 / 2 &&& 85) + 256 * ((b1 / 2 &&& 85) + 256 * ((b2 / 2 &&& 85) + 256 * (b3 / 2 &&& 85))) := by
    rw [show (1431655765 : Nat) = 85 + 256 * (85 + 256 * (85 + 256 * 85)) from rfl, land4 (by omega) (by omega)]
    rw [show (b0 + 256 * (b1 + 256 * (b2 + 256 * b3))) / 2 % 256 = b0 / 2 + 128 * (b1 % 2) by omega, show (b0 + 256 * (b1 + 256 * (b2 + 256 * b3))) / 2 / 256 % 256 = b1 / 2 + 128 * (b2 % 2) by omega, show (b0 + 256 * (b1 + 256 * (b2 + 256 * b3))) / 2 / 65536 % 256 = b2 / 2 + 128 * (b3 % 2) by omega, show (b0 + 256 * (b1 + 256 * (b2 + 256 * b3))) / 2 / 16777216 = b3 / 2 by omega]
    rw [b_e85 b0 h0 _ (by omega), b_e85 b1 h1 _ (by omega), b_e85 b2 h2 _ (by omega)]
  rw [l1] at e1 ⊢
  have t0 := b_t85 b0 h0
  have t1 := b_t85 b1 h1
  have t2 := b_t85 b2 h2
  have t3 := b_t85 b3 h3
  have a0 := b_D b0 h0
  have a1 := b_D b1 h1
  have a2 := b_D b2 h2
  have a3 := b_D b3 h3
  have f0 := b_F b0 h0
  have f1 := b_F b1 h1
  have f2 := b_F b2 h2
  have f3 := b_F b3 h3
  have g0 := b_c8 b0 h0
  have g1 := b_c8 b1 h1
  have g2 := b_c8 b2 h2
  have g3 := b_c8 b3 h3
  unfold bD at a0 a1 a2 a3 f0 f1 f2 f3
  clear c l1
  generalize (b0 / 2 &&& 85) = s0 at *
  generalize (b1 / 2 &&& 85) = s1 at *
  generalize (b2 / 2 &&& 85) = s2 at *
  generalize (b3 / 2 &&& 85) = s3 at *
  obtain ⟨c0, d0⟩ : ∃ c0, c0 = b0 - s0 := ⟨_, rfl⟩
  obtain ⟨c1, d1⟩ : ∃ c0, c0 = b1 - s1 := ⟨_, rfl⟩
  obtain ⟨c2, d2⟩ : ∃ c0, c0 = b2 - s2 := ⟨_, rfl⟩
  obtain ⟨c3, d3⟩ : ∃ c0, c0 = b3 - s3 := ⟨_, rfl⟩
  have le : s0 + 256 * (s1 + 256 * (s2 + 256 * s3)) ≤ b0 + 256 * (b1 + 256 * (b2 + 256 * b3)) := by omega
  have e1 : y1 = c0 + 256 * (c1 + 256 * (c2 + 256 * c3)) := by omega
  rw [← d0] at a0 f0
  rw [← d1] at a1 f1
  rw [← d2] at a2 f2
  rw [← d3] at a3 f3
  have k0 : c0 < 256 := by omega
  have k1 : c1 < 256 := by omega
  have k2 : c2 < 256 := by omega
  have k3 : c3 < 256 := by omega
  have l2 : y1 &&& 858993459 = (c0 &&& 51) + 256 * ((c1 &&& 51) + 256 * ((c2 &&& 51) + 256 * (c3 &&& 51))) := by
    rw [e1, show (858993459 : Nat) = 51 + 256 * (51 + 256 * (51 + 256 * 51)) from rfl, land4 (by omega) (by omega)]
    rw [show (c0 + 256 * (c1 + 256 * (c2 + 256 * c3))) % 256 = c0 by omega, show (c0 + 256 * (c1 + 256 * (c2 + 256 * c3))) / 256 % 256 = c1 by omega, show (c0 + 256 * (c1 + 256 * (c2 + 256 * c3))) / 65536 % 256 = c2 by omega, show (c0 + 256 * (c1 + 256 * (c2 + 256 * c3))) / 16777216 = c3 by omega]
  have l3 : y1 / 4 &&& 858993459 = (c0 / 4 &&& 51) + 256 * ((c1 / 4 &&& 51) + 256 * ((c2 / 4 &&& 51) + 256 * (c3 / 4 &&& 51))) := by
    rw [e1, show (858993459 : Nat) = 51 + 256 * (51 + 256 * (51 + 256 * 51)) from rfl, land4 (by omega) (by omega)]
    rw [show (c0 + 256 * (c1 + 256 * (c2 + 256 * c3))) / 4 % 256 = c0 / 4 + 64 * (c1 % 4) by omega, show (c0 + 256 * (c1 + 256 * (c2 + 256 * c3))) / 4 / 256 % 256 = c1 / 4 + 64 * (c2 % 4) by omega, show (c0 + 256 * (c1 + 256 * (c2 + 256 * c3))) / 4 / 65536 % 256 = c2 / 4 + 64 * (c3 % 4) by omega, show (c0 + 256 * (c1 + 256 * (c2 + 256 * c3))) / 4 / 16777216 = c3 / 4 by omega]
    rw [b_e51 c0 k0 _ (by omega), b_e51 c1 k1 _ (by omega), b_e51 c2 k2 _ (by omega)]
  rw [l2, l3] at e2
  clear l2 l3 t0 t1 t2 t3 d0 d1 d2 d3
  obtain ⟨m0, n0⟩ : ∃ m0, m0 = (c0 &&& 51) + (c0 / 4 &&& 51) := ⟨_, rfl⟩
  obtain ⟨m1, n1⟩ : ∃ m0, m0 = (c1 &&& 51) + (c1 / 4 &&& 51) := ⟨_, rfl⟩
  obtain ⟨m2, n2⟩ : ∃ m0, m0 = (c2 &&& 51) + (c2 / 4 &&& 51) := ⟨_, rfl⟩
  obtain ⟨m3, n3⟩ : ∃ m0, m0 = (c3 &&& 51) + (c3 / 4 &&& 51) := ⟨_, rfl⟩
  have e2 : y2 = m0 + 256 * (m1 + 256 * (m2 + 256 * m3)) := by rw [n0, n1, n2, n3, e2]; omega
  rw [← n0] at a0 f0
  rw [← n1] at a1 f1
  rw [← n2] at a2 f2
  rw [← n3] at a3 f3
  clear n0 n1 n2 n3
  have l4 : (y2 + y2 / 16) &&& 252645135 = (m0 + m0 / 16) % 16 + 256 * ((m1 + m1 / 16) % 16 + 256 * ((m2 + m2 / 16) % 16 + 256 * ((m3 + m3 / 16) % 16))) := by
    clear f0 f1 f2 f3 e1 e3 e4 e5
    rw [e2, swar3 (by omega) (by omega) (by omega) (by omega) a0.2 a1.2 a2.2 a3.2]
  rw [l4, f0, f1, f2, f3] at e3
  clear l4 f0 f1 f2 f3
  generalize cnt 8 b0 = p0 at *
  generalize cnt 8 b1 = p1 at *
  generalize cnt 8 b2 = p2 at *
  generalize cnt 8 b3 = p3 at *
  have fin := fin4 g0 g1 g2 g3 e3 e4 e5
  exact ⟨le, by omega, by omega, fin.1, fin.2.1, fin.2.2.1, fin.2.2.2⟩
theorem i_and (a b : Int32) : (a &&& b).toBitVec.toNat = a.toBitVec.toNat &&& b.toBitVec.toNat := by rw [Int32.toBitVec_and, BitVec.toNat_and]
theorem i_sub {a b : Int32} (h : b.toBitVec.toNat ≤ a.toBitVec.toNat) : (a - b).toBitVec.toNat = a.toBitVec.toNat - b.toBitVec.toNat := by
  rw [Int32.toBitVec_sub, BitVec.toNat_sub]
  have := a.toBitVec.isLt
  omega
theorem i_add {a b : Int32} (h : a.toBitVec.toNat + b.toBitVec.toNat < 2 ^ 32) : (a + b).toBitVec.toNat = a.toBitVec.toNat + b.toBitVec.toNat := by
  rw [Int32.toBitVec_add, BitVec.toNat_add, Nat.mod_eq_of_lt h]
abbrev un (v : Int32) : Nat := v.toBitVec.toNat
theorem q_bitCount {v : Int32} {Φ : Int32 → Unit → Prop} (k : Φ (nI (cnt 32 v.toBitVec.toNat)) ()) : w_J_bitCount v Φ := by
  unfold w_J_bitCount
  intro y1 e1 y2 e2 y3 e3 y4 e4 y5 e5
  have s1 := fun x => pk_ushr x 1 1 (by decide)
  have s2 := fun x => pk_ushr x 2 2 (by decide)
  have s4 := fun x => pk_ushr x 4 4 (by decide)
  have s8 := fun x => pk_ushr x 8 8 (by decide)
  have s16 := fun x => pk_ushr x 16 16 (by decide)
  have hv := v.toBitVec.isLt
  have w := swar (V := v.toBitVec.toNat) hv rfl rfl rfl rfl rfl
  obtain ⟨w0, w1, w2, w3, w4, w5, w6⟩ := w
  have n1 : y1.toBitVec.toNat = v.toBitVec.toNat - (v.toBitVec.toNat / 2 &&& 1431655765) := by
    rw [e1]
    have z : ((v.toUInt32 >>> ((1 : Int32).toUInt32 &&& Int32.toUInt32 31)).toInt32 &&& (1431655765 : Int32)).toBitVec.toNat = v.toBitVec.toNat / 2 &&& 1431655765 := by rw [i_and, s1]; rfl
    show (v - _).toBitVec.toNat = _
    rw [i_sub (by rw [z]; exact w0), z]
  rw [← n1] at w1 w2 w3 w4 w5 w6
  have n2 : y2.toBitVec.toNat = (y1.toBitVec.toNat &&& 858993459) + (y1.toBitVec.toNat / 4 &&& 858993459) := by
    rw [e2]
    have z1 : (y1 &&& (858993459 : Int32)).toBitVec.toNat = y1.toBitVec.toNat &&& 858993459 := i_and y1 _
    have z2 : ((y1.toUInt32 >>> ((2 : Int32).toUInt32 &&& Int32.toUInt32 31)).toInt32 &&& (858993459 : Int32)).toBitVec.toNat = y1.toBitVec.toNat / 4 &&& 858993459 := by rw [i_and, s2]; rfl
    show (_ + _ : Int32).toBitVec.toNat = _
    rw [i_add (by rw [z1, z2]; omega), z1, z2]
  rw [← n2] at w2 w3 w4 w5 w6
  have n3 : y3.toBitVec.toNat = (y2.toBitVec.toNat + y2.toBitVec.toNat / 16) &&& 252645135 := by
    rw [e3]
    have z2 : (y2.toUInt32 >>> ((4 : Int32).toUInt32 &&& Int32.toUInt32 31)).toInt32.toBitVec.toNat = y2.toBitVec.toNat / 16 := s4 y2
    show (_ &&& _ : Int32).toBitVec.toNat = _
    rw [i_and, i_add (by rw [z2]; omega), z2]
    rfl
  rw [← n3] at w3 w4 w5 w6
  have n4 : y4.toBitVec.toNat = y3.toBitVec.toNat + y3.toBitVec.toNat / 256 := by
    rw [e4]
    have z2 : (y3.toUInt32 >>> ((8 : Int32).toUInt32 &&& Int32.toUInt32 31)).toInt32.toBitVec.toNat = y3.toBitVec.toNat / 256 := s8 y3
    show (_ + _ : Int32).toBitVec.toNat = _
    rw [i_add (by rw [z2]; omega), z2]
  rw [← n4] at w4 w5 w6
  have n5 : y5.toBitVec.toNat = y4.toBitVec.toNat + y4.toBitVec.toNat / 65536 := by
    rw [e5]
    have z2 : (y4.toUInt32 >>> ((16 : Int32).toUInt32 &&& Int32.toUInt32 31)).toInt32.toBitVec.toNat = y4.toBitVec.toNat / 65536 := s16 y4
    show (_ + _ : Int32).toBitVec.toNat = _
    rw [i_add (by rw [z2]; omega), z2]
  rw [← n5] at w5 w6
  rw [pk_and y5 6 (by decide), show y5.toBitVec.toNat % 2 ^ 6 = y5.toBitVec.toNat % 64 from rfl, w6]
  exact k
