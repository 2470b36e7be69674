/-! ===== Integer.bitCount of a set of 24 ===== -/
theorem land_dig (k d r m s : Nat) (hd : d < 2 ^ k) (hm : m < 2 ^ k) : (2 ^ k * r + d) &&& (2 ^ k * s + m) = 2 ^ k * (r &&& s) + (d &&& m) := by
  apply Nat.eq_of_testBit_eq
  intro j
  rw [Nat.testBit_and, Nat.testBit_two_pow_mul_add _ hd, Nat.testBit_two_pow_mul_add _ hm, Nat.testBit_two_pow_mul_add _ (Nat.and_lt_two_pow d hm)]
  by_cases h : j < k
  · rw [if_pos h, if_pos h, if_pos h, Nat.testBit_and]
  · rw [if_neg h, if_neg h, if_neg h, Nat.testBit_and]
theorem land_3 {m a0 a1 a2 : Nat} (hm : m < 256) (h0 : a0 < 256) (h1 : a1 < 256) (h2 : a2 < 256) : (65536 * a2 + 256 * a1 + a0) &&& (16843009 * m) = 65536 * (a2 &&& m) + 256 * (a1 &&& m) + (a0 &&& m) := by
  have e1 : 65536 * a2 + 256 * a1 + a0 = 2 ^ 8 * (2 ^ 8 * (2 ^ 8 * 0 + a2) + a1) + a0 := by omega
  have e2 : 16843009 * m = 2 ^ 8 * (2 ^ 8 * (2 ^ 8 * m + m) + m) + m := by omega
  rw [e1, e2, land_dig 8 _ _ _ _ h0 hm, land_dig 8 _ _ _ _ h1 hm, land_dig 8 _ _ _ _ h2 hm, Nat.zero_and]
  generalize a2 &&& m = x2
  generalize a1 &&& m = x1
  generalize a0 &&& m = x0
  omega
def p8 (b : Nat) : Nat := b % 2 + b / 2 % 2 + b / 4 % 2 + b / 8 % 2 + b / 16 % 2 + b / 32 % 2 + b / 64 % 2 + b / 128 % 2
theorem bc_1 : ∀ b, b < 256 → ∀ e, e < 2 → (b / 2 + 128 * e) &&& 85 = b / 2 &&& 85 := by decide +kernel
theorem bc_2 : ∀ b, b < 256 → ∀ e, e < 4 → (b / 4 + 64 * e) &&& 51 = b / 4 &&& 51 := by decide +kernel
def g1 (b : Nat) : Nat := b - (b / 2 &&& 85)
def g2 (c : Nat) : Nat := (c &&& 51) + (c / 4 &&& 51)
theorem bc_3 : ∀ b, b < 256 → (b / 2 &&& 85) ≤ b ∧ g1 b < 256 ∧ g2 (g1 b) ≤ 68 ∧ g2 (g1 b) % 16 ≤ 4 ∧ ((g2 (g1 b) + g2 (g1 b) / 16) % 16 = p8 b) ∧ p8 b ≤ 8 := by decide +kernel
theorem bc_w3 {v0 v1 v2 q0 q1 q2 : Nat} (d0 : v0 ≤ 68) (d1 : v1 ≤ 68) (d2 : v2 ≤ 68) (f1 : v1 % 16 ≤ 4) (f2 : v2 % 16 ≤ 4) (s0 : (v0 + v0 / 16) % 16 = q0) (s1 : (v1 + v1 / 16) % 16 = q1) (s2 : (v2 + v2 / 16) % 16 = q2) : ((65536 * v2 + 256 * v1 + v0 + (65536 * v2 + 256 * v1 + v0) / 16) &&& 252645135) = 65536 * q2 + 256 * q1 + q0 := by
  have m15 : ∀ n : Nat, n &&& 15 = n % 16 := fun n => Nat.and_two_pow_sub_one_eq_mod n 4
  have e : 65536 * v2 + 256 * v1 + v0 + (65536 * v2 + 256 * v1 + v0) / 16 = 65536 * (v2 + v2 / 16) + 256 * (v1 + v1 / 16 + 16 * (v2 % 16)) + (v0 + v0 / 16 + 16 * (v1 % 16)) := by omega
  rw [e, show (252645135 : Nat) = 16843009 * 15 from rfl, land_3 (by decide) (by omega) (by omega) (by omega), m15, m15, m15, Nat.add_mul_mod_self_left, Nat.add_mul_mod_self_left, s0, s1, s2]
theorem bc_end {q0 q1 q2 : Nat} (t0 : q0 ≤ 8) (t1 : q1 ≤ 8) (t2 : q2 ≤ 8) : (65536 * q2 + 256 * q1 + q0 + (65536 * q2 + 256 * q1 + q0) / 256 + (65536 * q2 + 256 * q1 + q0 + (65536 * q2 + 256 * q1 + q0) / 256) / 65536) % 64 = q0 + q1 + q2 := by
  have e1 : (65536 * q2 + 256 * q1 + q0) / 256 = 256 * q2 + q1 := by omega
  rw [e1]
  have e2 : (65536 * q2 + 256 * q1 + q0 + (256 * q2 + q1)) / 65536 = q2 := by omega
  rw [e2, show 65536 * q2 + 256 * q1 + q0 + (256 * q2 + q1) + q2 = (q0 + q1 + q2) + 64 * (1024 * q2 + 4 * q1 + 4 * q2) by omega, Nat.add_mul_mod_self_left]
  omega
theorem bc_nat {X b0 b1 b2 : Nat} (h0 : b0 < 256) (h1 : b1 < 256) (h2 : b2 < 256) (hX : X = 65536 * b2 + 256 * b1 + b0) :
    ∃ y w1 u1 u2 w2 w3 w4, y = (X / 2 &&& 1431655765) ∧ y ≤ X ∧ w1 = X - y ∧ u1 = (w1 &&& 858993459) ∧ u2 = (w1 / 4 &&& 858993459) ∧ w2 = u1 + u2 ∧ w3 = ((w2 + w2 / 16) &&& 252645135) ∧ w4 = w3 + w3 / 256 ∧ (w4 + w4 / 65536) % 64 = p8 b0 + p8 b1 + p8 b2 ∧ X < 4294967296 ∧ w1 < 4294967296 ∧ w2 < 2147483648 ∧ w3 < 2147483648 ∧ w4 < 2147483648 := by
  obtain ⟨a0, c0, d0, f0, s0, t0⟩ := bc_3 b0 h0
  obtain ⟨a1, c1, d1, f1, s1, t1⟩ := bc_3 b1 h1
  obtain ⟨a2, c2, d2, f2, s2, t2⟩ := bc_3 b2 h2
  have ey : (X / 2 &&& 1431655765) = 65536 * (b2 / 2 &&& 85) + 256 * (b1 / 2 &&& 85) + (b0 / 2 &&& 85) := by
    have e : X / 2 = 65536 * (b2 / 2 + 128 * 0) + 256 * (b1 / 2 + 128 * (b2 % 2)) + (b0 / 2 + 128 * (b1 % 2)) := by omega
    rw [e, show (1431655765 : Nat) = 16843009 * 85 from rfl, land_3 (by decide) (by omega) (by omega) (by omega), bc_1 b0 h0 _ (by omega), bc_1 b1 h1 _ (by omega), bc_1 b2 h2 _ (by omega)]
  have ew1 : X - (X / 2 &&& 1431655765) = 65536 * g1 b2 + 256 * g1 b1 + g1 b0 := by
    rw [ey]
    unfold g1
    generalize (b2 / 2 &&& 85) = x2 at *
    generalize (b1 / 2 &&& 85) = x1 at *
    generalize (b0 / 2 &&& 85) = x0 at *
    omega
  have eu1 : ((65536 * g1 b2 + 256 * g1 b1 + g1 b0) &&& 858993459) = 65536 * (g1 b2 &&& 51) + 256 * (g1 b1 &&& 51) + (g1 b0 &&& 51) := by
    rw [show (858993459 : Nat) = 16843009 * 51 from rfl, land_3 (by decide) c0 c1 c2]
  have eu2 : ((65536 * g1 b2 + 256 * g1 b1 + g1 b0) / 4 &&& 858993459) = 65536 * (g1 b2 / 4 &&& 51) + 256 * (g1 b1 / 4 &&& 51) + (g1 b0 / 4 &&& 51) := by
    have e : (65536 * g1 b2 + 256 * g1 b1 + g1 b0) / 4 = 65536 * (g1 b2 / 4 + 64 * 0) + 256 * (g1 b1 / 4 + 64 * (g1 b2 % 4)) + (g1 b0 / 4 + 64 * (g1 b1 % 4)) := by omega
    rw [e, show (858993459 : Nat) = 16843009 * 51 from rfl, land_3 (by decide) (by omega) (by omega) (by omega), bc_2 _ c0 _ (by omega), bc_2 _ c1 _ (by omega), bc_2 _ c2 _ (by omega)]
  have ew2 : ((65536 * g1 b2 + 256 * g1 b1 + g1 b0) &&& 858993459) + ((65536 * g1 b2 + 256 * g1 b1 + g1 b0) / 4 &&& 858993459) = 65536 * g2 (g1 b2) + 256 * g2 (g1 b1) + g2 (g1 b0) := by
    rw [eu1, eu2]
    unfold g2
    generalize (g1 b2 &&& 51) = x2
    generalize (g1 b1 &&& 51) = x1
    generalize (g1 b0 &&& 51) = x0
    generalize (g1 b2 / 4 &&& 51) = y2
    generalize (g1 b1 / 4 &&& 51) = y1
    generalize (g1 b0 / 4 &&& 51) = y0
    omega
  generalize hv2 : g2 (g1 b2) = v2 at *
  generalize hv1 : g2 (g1 b1) = v1 at *
  generalize hv0 : g2 (g1 b0) = v0 at *
  have ew3 := bc_w3 d0 d1 d2 f1 f2 s0 s1 s2
  refine ⟨_, _, _, _, _, _, _, rfl, ?_, rfl, rfl, rfl, rfl, rfl, rfl, ?_, ?_, ?_, ?_, ?_, ?_⟩
  · rw [ey, hX]
    generalize (b2 / 2 &&& 85) = x2 at *
    generalize (b1 / 2 &&& 85) = x1 at *
    generalize (b0 / 2 &&& 85) = x0 at *
    omega
  · rw [ew1, ew2, ew3]
    exact bc_end t0 t1 t2
  · omega
  · rw [ew1]; omega
  · rw [ew1, ew2]; omega
  · rw [ew1, ew2, ew3]; omega
  · rw [ew1, ew2, ew3]; omega
theorem nI_and (a b : Nat) : nI a &&& nI b = nI (a &&& b) := Int32.toBitVec_inj.mp (by
  rw [Int32.toBitVec_and]
  show BitVec.ofNat 32 a &&& BitVec.ofNat 32 b = BitVec.ofNat 32 (a &&& b)
  rw [BitVec.ofNat_and])
theorem nI_self (v : Int32) : v = nI v.toBitVec.toNat := Int32.toBitVec_inj.mp (by
  show v.toBitVec = BitVec.ofNat 32 v.toBitVec.toNat
  rw [BitVec.ofNat_toNat, BitVec.setWidth_eq])
theorem bt_nat (v : Int32) (i : Nat) : bt v i = decide (v.toBitVec.toNat / 2 ^ i % 2 = 1) := Nat.testBit_eq_decide_div_mod_eq
theorem cnt_bt (v : Int32) (i : Nat) : cnt (fun i => bt v i = true) (i + 1) = cnt (fun i => bt v i = true) i + v.toBitVec.toNat / 2 ^ i % 2 := by
  have h := bt_nat v i
  by_cases q : v.toBitVec.toNat / 2 ^ i % 2 = 1
  · rw [decide_eq_true q] at h
    rw [cnt_t (p := fun i => bt v i = true) h, q]
  · rw [decide_eq_false q] at h
    rw [cnt_f (p := fun i => bt v i = true) (m := i) (by rw [h]; decide)]
    omega
theorem cnt_24 {v : Int32} {b0 b1 b2 : Nat} (h0 : b0 < 256) (h1 : b1 < 256) (hX : v.toBitVec.toNat = 65536 * b2 + 256 * b1 + b0) : cnt (fun i => bt v i = true) 24 = p8 b0 + p8 b1 + p8 b2 := by
  have c := cnt_bt v
  rw [hX] at c
  have z : cnt (fun i => bt v i = true) 0 = 0 := rfl
  have d1 : (65536 * b2 + 256 * b1 + b0) / 256 = 256 * b2 + b1 := by omega
  have d2 : (65536 * b2 + 256 * b1 + b0) / 65536 = b2 := by omega
  have k0 : (65536 * b2 + 256 * b1 + b0) / 2 ^ 0 % 2 = b0 % 2 := by omega
  have k1 : (65536 * b2 + 256 * b1 + b0) / 2 ^ 1 % 2 = b0 / 2 % 2 := by omega
  have k2 : (65536 * b2 + 256 * b1 + b0) / 2 ^ 2 % 2 = b0 / 4 % 2 := by omega
  have k3 : (65536 * b2 + 256 * b1 + b0) / 2 ^ 3 % 2 = b0 / 8 % 2 := by omega
  have k4 : (65536 * b2 + 256 * b1 + b0) / 2 ^ 4 % 2 = b0 / 16 % 2 := by omega
  have k5 : (65536 * b2 + 256 * b1 + b0) / 2 ^ 5 % 2 = b0 / 32 % 2 := by omega
  have k6 : (65536 * b2 + 256 * b1 + b0) / 2 ^ 6 % 2 = b0 / 64 % 2 := by omega
  have k7 : (65536 * b2 + 256 * b1 + b0) / 2 ^ 7 % 2 = b0 / 128 % 2 := by omega
  have k8 : (65536 * b2 + 256 * b1 + b0) / 2 ^ 8 % 2 = b1 % 2 := by rw [show (2 : Nat) ^ 8 = 256 * 1 from rfl, ← Nat.div_div_eq_div_mul, d1]; omega
  have k9 : (65536 * b2 + 256 * b1 + b0) / 2 ^ 9 % 2 = b1 / 2 % 2 := by rw [show (2 : Nat) ^ 9 = 256 * 2 from rfl, ← Nat.div_div_eq_div_mul, d1]; omega
  have k10 : (65536 * b2 + 256 * b1 + b0) / 2 ^ 10 % 2 = b1 / 4 % 2 := by rw [show (2 : Nat) ^ 10 = 256 * 4 from rfl, ← Nat.div_div_eq_div_mul, d1]; omega
  have k11 : (65536 * b2 + 256 * b1 + b0) / 2 ^ 11 % 2 = b1 / 8 % 2 := by rw [show (2 : Nat) ^ 11 = 256 * 8 from rfl, ← Nat.div_div_eq_div_mul, d1]; omega
  have k12 : (65536 * b2 + 256 * b1 + b0) / 2 ^ 12 % 2 = b1 / 16 % 2 := by rw [show (2 : Nat) ^ 12 = 256 * 16 from rfl, ← Nat.div_div_eq_div_mul, d1]; omega
  have k13 : (65536 * b2 + 256 * b1 + b0) / 2 ^ 13 % 2 = b1 / 32 % 2 := by rw [show (2 : Nat) ^ 13 = 256 * 32 from rfl, ← Nat.div_div_eq_div_mul, d1]; omega
  have k14 : (65536 * b2 + 256 * b1 + b0) / 2 ^ 14 % 2 = b1 / 64 % 2 := by rw [show (2 : Nat) ^ 14 = 256 * 64 from rfl, ← Nat.div_div_eq_div_mul, d1]; omega
  have k15 : (65536 * b2 + 256 * b1 + b0) / 2 ^ 15 % 2 = b1 / 128 % 2 := by rw [show (2 : Nat) ^ 15 = 256 * 128 from rfl, ← Nat.div_div_eq_div_mul, d1]; omega
  have k16 : (65536 * b2 + 256 * b1 + b0) / 2 ^ 16 % 2 = b2 % 2 := by rw [show (2 : Nat) ^ 16 = 65536 * 1 from rfl, ← Nat.div_div_eq_div_mul, d2]; omega
  have k17 : (65536 * b2 + 256 * b1 + b0) / 2 ^ 17 % 2 = b2 / 2 % 2 := by rw [show (2 : Nat) ^ 17 = 65536 * 2 from rfl, ← Nat.div_div_eq_div_mul, d2]
  have k18 : (65536 * b2 + 256 * b1 + b0) / 2 ^ 18 % 2 = b2 / 4 % 2 := by rw [show (2 : Nat) ^ 18 = 65536 * 4 from rfl, ← Nat.div_div_eq_div_mul, d2]
  have k19 : (65536 * b2 + 256 * b1 + b0) / 2 ^ 19 % 2 = b2 / 8 % 2 := by rw [show (2 : Nat) ^ 19 = 65536 * 8 from rfl, ← Nat.div_div_eq_div_mul, d2]
  have k20 : (65536 * b2 + 256 * b1 + b0) / 2 ^ 20 % 2 = b2 / 16 % 2 := by rw [show (2 : Nat) ^ 20 = 65536 * 16 from rfl, ← Nat.div_div_eq_div_mul, d2]
  have k21 : (65536 * b2 + 256 * b1 + b0) / 2 ^ 21 % 2 = b2 / 32 % 2 := by rw [show (2 : Nat) ^ 21 = 65536 * 32 from rfl, ← Nat.div_div_eq_div_mul, d2]
  have k22 : (65536 * b2 + 256 * b1 + b0) / 2 ^ 22 % 2 = b2 / 64 % 2 := by rw [show (2 : Nat) ^ 22 = 65536 * 64 from rfl, ← Nat.div_div_eq_div_mul, d2]
  have k23 : (65536 * b2 + 256 * b1 + b0) / 2 ^ 23 % 2 = b2 / 128 % 2 := by rw [show (2 : Nat) ^ 23 = 65536 * 128 from rfl, ← Nat.div_div_eq_div_mul, d2]
  rw [c 23, c 22, c 21, c 20, c 19, c 18, c 17, c 16, c 15, c 14, c 13, c 12, c 11, c 10, c 9, c 8, c 7, c 6, c 5, c 4, c 3, c 2, c 1, c 0, z, k0, k1, k2, k3, k4, k5, k6, k7, k8, k9, k10, k11, k12, k13, k14, k15, k16, k17, k18, k19, k20, k21, k22, k23]
  unfold p8
  simp only [Nat.zero_add, Nat.add_assoc]
theorem ush_l (n : Nat) (hn : n < 32) : (((nI n).toUInt32 &&& Int32.toUInt32 31).toBitVec % 32).toNat = n := s_u n hn
theorem e_J6_bitCount {v : Int32} (hv : ∀ i, 24 ≤ i → bt v i = false) {Q : Int32 → Prop} (h : Q (nI (cnt (fun i => bt v i = true) 24))) : wp_J6_bitCount_0f7a4 v Q := by
  have hX : v.toBitVec.toNat < 2 ^ 24 := Nat.lt_pow_two_of_testBit _ (fun i hi => hv i hi)
  have hs := nI_self v
  generalize hx : v.toBitVec.toNat = X at *
  have eX : X = 65536 * (X / 65536) + 256 * (X / 256 % 256) + X % 256 := by omega
  rw [cnt_24 (v := v) (b0 := X % 256) (b1 := X / 256 % 256) (b2 := X / 65536) (by omega) (by omega) (by rw [hx]; exact eX)] at h
  obtain ⟨y, w1, u1, u2, w2, w3, w4, ey, hy, ew1, eu1, eu2, ew2, ew3, ew4, er, l1, l2, l3, l4, l5⟩ := bc_nat (X := X) (b0 := X % 256) (b1 := X / 256 % 256) (b2 := X / 65536) (by omega) (by omega) (by omega) eX
  rw [← er] at h
  rw [hs]
  rintro _ rfl _ rfl _ rfl _ rfl _ rfl
  have s1 : ((nI X).toUInt32 >>> ((1 : Int32).toUInt32 &&& Int32.toUInt32 31)).toInt32 = nI (X / 2) := pk_ushrN (by omega) 1 1 (ush_l 1 (by decide))
  rw [s1, show (1431655765 : Int32) = nI 1431655765 from rfl, nI_and, ← ey, pk_sub hy, ← ew1]
  have s2 : ((nI w1).toUInt32 >>> ((2 : Int32).toUInt32 &&& Int32.toUInt32 31)).toInt32 = nI (w1 / 4) := pk_ushrN (by omega) 2 2 (ush_l 2 (by decide))
  rw [s2, show (858993459 : Int32) = nI 858993459 from rfl, nI_and, nI_and, ← eu1, ← eu2, nI_add, ← ew2]
  have s3 : ((nI w2).toUInt32 >>> ((4 : Int32).toUInt32 &&& Int32.toUInt32 31)).toInt32 = nI (w2 / 16) := pk_ushrN (by omega) 4 4 (ush_l 4 (by decide))
  rw [s3, nI_add, show (252645135 : Int32) = nI 252645135 from rfl, nI_and, ← ew3]
  have s4 : ((nI w3).toUInt32 >>> ((8 : Int32).toUInt32 &&& Int32.toUInt32 31)).toInt32 = nI (w3 / 256) := pk_ushrN (by omega) 8 8 (ush_l 8 (by decide))
  rw [s4, nI_add, ← ew4]
  have s5 : ((nI w4).toUInt32 >>> ((16 : Int32).toUInt32 &&& Int32.toUInt32 31)).toInt32 = nI (w4 / 65536) := pk_ushrN (by omega) 16 16 (ush_l 16 (by decide))
  rw [s5, nI_add, show ((nI (w4 + w4 / 65536)) &&& 63) = nI ((w4 + w4 / 65536) % 64) from pk_andN (by omega) 6 (by decide)]
  exact h
