/-! HOW MANY BITS -/
theorem zushr_n {a : Int} {s : Nat} (h0 : 0 ≤ a) (h1 : a < 2147483648) (hs : s = 1 ∨ s = 2 ∨ s = 4 ∨ s = 8 ∨ s = 16) : zushr a (s : Int) = ((a.toNat / 2 ^ s : Nat) : Int) := by
  have hb : a.toNat / 2 ^ s < 2147483648 := Nat.lt_of_le_of_lt (Nat.div_le_self _ _) (by omega)
  unfold zushr
  refine toInt_nat ?_ hb
  rw [← zI_nat h0 h1, ← Nat.shiftRight_eq_div_pow]
  generalize zI a = x
  rcases hs with e | e | e | e | e
  · subst e
    rw [show (zI ((1 : Nat) : Int)).toUInt32 &&& Int32.toUInt32 31 = (1 : UInt32) by decide +kernel]
    exact BitVec.toNat_ushiftRight x.toBitVec 1
  · subst e
    rw [show (zI ((2 : Nat) : Int)).toUInt32 &&& Int32.toUInt32 31 = (2 : UInt32) by decide +kernel]
    exact BitVec.toNat_ushiftRight x.toBitVec 2
  · subst e
    rw [show (zI ((4 : Nat) : Int)).toUInt32 &&& Int32.toUInt32 31 = (4 : UInt32) by decide +kernel]
    exact BitVec.toNat_ushiftRight x.toBitVec 4
  · subst e
    rw [show (zI ((8 : Nat) : Int)).toUInt32 &&& Int32.toUInt32 31 = (8 : UInt32) by decide +kernel]
    exact BitVec.toNat_ushiftRight x.toBitVec 8
  · subst e
    rw [show (zI ((16 : Nat) : Int)).toUInt32 &&& Int32.toUInt32 31 = (16 : UInt32) by decide +kernel]
    exact BitVec.toNat_ushiftRight x.toBitVec 16
theorem land_L (x m l k : Nat) (hl : l < 256) (hk : k < 256) : (256 * x + l) &&& (256 * m + k) = 256 * (x &&& m) + (l &&& k) := by
  apply Nat.eq_of_testBit_eq
  intro i
  have hlk : l &&& k < 256 := Nat.lt_of_le_of_lt Nat.and_le_left hl
  rw [Nat.testBit_and, show 256 * x + l = 2 ^ 8 * x + l from rfl, show 256 * m + k = 2 ^ 8 * m + k from rfl, show 256 * (x &&& m) + (l &&& k) = 2 ^ 8 * (x &&& m) + (l &&& k) from rfl, Nat.testBit_two_pow_mul_add x hl, Nat.testBit_two_pow_mul_add m hk, Nat.testBit_two_pow_mul_add (x &&& m) hlk]
  by_cases c : i < 8
  · rw [if_pos c, if_pos c, if_pos c, Nat.testBit_and]
  · rw [if_neg c, if_neg c, if_neg c, Nat.testBit_and]
def bS1 (x : Nat) : Nat := x - ((x / 2) &&& 85)
def bS2 (y : Nat) : Nat := (y &&& 51) + ((y / 4) &&& 51)
def bS3 (z : Nat) : Nat := (z + z / 16) % 16
def bits : Nat → Nat → Nat
  | 0, _ => 0
  | n + 1, A => A % 2 + bits n (A / 2)
theorem b_1 : ∀ x : Nat, x < 256 → ∀ c : Nat, c < 2 → (x / 2 + 128 * c) &&& 85 = (x / 2) &&& 85 := by decide +kernel
theorem b_1b : ∀ x : Nat, x < 256 → (x / 2) &&& 85 ≤ x := by decide +kernel
theorem b_1c : ∀ x : Nat, x < 16 → (x / 2) &&& 21845 = (x / 2) &&& 85 := by decide +kernel
theorem b_1d : ∀ x : Nat, x < 16 → bS1 x < 16 := by decide +kernel
theorem b_2 : ∀ x : Nat, x < 256 → ∀ c : Nat, c < 4 → (x / 4 + 64 * c) &&& 51 = (x / 4) &&& 51 := by decide +kernel
theorem b_2c : ∀ x : Nat, x < 16 → (x / 4) &&& 13107 = (x / 4) &&& 51 ∧ x &&& 13107 = x &&& 51 := by decide +kernel
theorem b_3 : ∀ x : Nat, x < 256 → bS1 x < 256 ∧ bS2 (bS1 x) ≤ 68 ∧ bS3 (bS2 (bS1 x)) = bits 8 x ∧ bits 8 x ≤ 8 ∧ bS2 (bS1 x) % 16 ≤ 4 := by decide +kernel
theorem b_3c : ∀ x : Nat, x < 16 → bS2 (bS1 x) ≤ 4 ∧ bits 8 x = bits 4 x := by decide +kernel
theorem b_4 : ∀ z : Nat, z ≤ 68 → ∀ c : Nat, c < 16 → (z + z / 16 + 16 * c) &&& 15 = (z + z / 16) % 16 := by decide +kernel
theorem b_4c : ∀ z : Nat, z ≤ 68 → (z + z / 16) &&& 3855 = (z + z / 16) % 16 := by decide +kernel
theorem bits_8 (n x y : Nat) (hy : y < 256) : bits (n + 8) (256 * x + y) = bits 8 y + bits n x := by
  show bits (n + 1 + 1 + 1 + 1 + 1 + 1 + 1 + 1) (256 * x + y) = bits (0 + 1 + 1 + 1 + 1 + 1 + 1 + 1 + 1) y + bits n x
  simp only [bits]
  have e : (256 * x + y) / 2 / 2 / 2 / 2 / 2 / 2 / 2 / 2 = x := by omega
  rw [e]
  omega
theorem countTo_low {p : Nat → Prop} : ∀ n : Nat, countTo p (n + 1) = b2i (p 0) + countTo (fun i => p (i + 1)) n
  | 0 => by
    show (0 : Int) + b2i (p 0) = b2i (p 0) + 0
    omega
  | n + 1 => by
    have ih := countTo_low (p := p) n
    show countTo p (n + 1) + b2i (p (n + 1)) = b2i (p 0) + (countTo (fun i => p (i + 1)) n + b2i (p (n + 1)))
    rw [ih]
    omega
theorem count_bits : ∀ (n A : Nat), countTo (fun i => A.testBit i = true) n = (bits n A : Int)
  | 0, A => rfl
  | n + 1, A => by
    rw [countTo_low]
    have e : (fun i => A.testBit (i + 1) = true) = (fun i => (A / 2).testBit i = true) := by
      funext i
      rw [Nat.testBit_add_one]
    rw [e, count_bits n (A / 2)]
    show b2i (A.testBit 0 = true) + (bits n (A / 2) : Int) = ((A % 2 + bits n (A / 2) : Nat) : Int)
    have h0 : A.testBit 0 = true ↔ A % 2 = 1 := by
      rw [Nat.testBit_zero]
      simp
    rw [b2i_cong h0]
    by_cases c : A % 2 = 1
    · rw [b2i_t c]; omega
    · rw [b2i_f c]; omega
theorem st_1 (a0 a1 a2 : Nat) (h0 : a0 < 256) (h1 : a1 < 256) (h2 : a2 < 16) : ((65536 * a2 + 256 * a1 + a0) / 2) &&& 1431655765 = 65536 * ((a2 / 2) &&& 85) + 256 * ((a1 / 2) &&& 85) + ((a0 / 2) &&& 85) := by
  rw [show (65536 * a2 + 256 * a1 + a0) / 2 = 256 * (256 * (a2 / 2) + (a1 / 2 + 128 * (a2 % 2))) + (a0 / 2 + 128 * (a1 % 2)) by omega, show (1431655765 : Nat) = 256 * (256 * 21845 + 85) + 85 from rfl, land_L _ _ _ _ (by omega) (by omega), land_L _ _ _ _ (by omega) (by omega), b_1 a0 h0 _ (by omega), b_1 a1 h1 _ (by omega), b_1c a2 h2]
  omega
theorem st_2 (a0 a1 a2 : Nat) (h0 : a0 < 256) (h1 : a1 < 256) (h2 : a2 < 16) : ((65536 * a2 + 256 * a1 + a0) &&& 858993459) + (((65536 * a2 + 256 * a1 + a0) / 4) &&& 858993459) = 65536 * bS2 a2 + 256 * bS2 a1 + bS2 a0 := by
  rw [show (65536 * a2 + 256 * a1 + a0) / 4 = 256 * (256 * (a2 / 4) + (a1 / 4 + 64 * (a2 % 4))) + (a0 / 4 + 64 * (a1 % 4)) by omega, show 65536 * a2 + 256 * a1 + a0 = 256 * (256 * a2 + a1) + a0 by omega, show (858993459 : Nat) = 256 * (256 * 13107 + 51) + 51 from rfl, land_L _ _ _ _ (by omega) (by omega), land_L _ _ _ _ (by omega) (by omega), land_L _ _ _ _ (by omega) (by omega), land_L _ _ _ _ (by omega) (by omega), b_2 a0 h0 _ (by omega), b_2 a1 h1 _ (by omega), (b_2c a2 h2).1, (b_2c a2 h2).2]
  unfold bS2
  omega
theorem st_3 (z0 z1 z2 : Nat) (h0 : z0 ≤ 68) (h1 : z1 ≤ 68) (h2 : z2 ≤ 4) (m0 : z0 % 16 ≤ 4) (m1 : z1 % 16 ≤ 4) : ((65536 * z2 + 256 * z1 + z0) + (65536 * z2 + 256 * z1 + z0) / 16) &&& 252645135 = 65536 * bS3 z2 + 256 * bS3 z1 + bS3 z0 := by
  rw [show (65536 * z2 + 256 * z1 + z0) + (65536 * z2 + 256 * z1 + z0) / 16 = 256 * (256 * (z2 + z2 / 16) + (z1 + z1 / 16 + 16 * (z2 % 16))) + (z0 + z0 / 16 + 16 * (z1 % 16)) by omega, show (252645135 : Nat) = 256 * (256 * 3855 + 15) + 15 from rfl, land_L _ _ _ _ (by omega) (by omega), land_L _ _ _ _ (by omega) (by omega), b_4 z0 h0 _ (by omega), b_4 z1 h1 _ (by omega), b_4c z2 (by omega)]
  unfold bS3
  omega
theorem st_5 {p0 p1 p2 V W : Nat} (h0 : p0 ≤ 8) (h1 : p1 ≤ 8) (h2 : p2 ≤ 8) (hV : 65536 * p2 + 256 * p1 + p0 = V) (hW : V + V / 256 = W) : (W + W / 65536) % 64 = p2 + p1 + p0 := by
  have e1 : V / 256 = 256 * p2 + p1 := by omega
  have e2 : W = 65536 * p2 + 256 * (p1 + p2) + (p0 + p1) := by omega
  have e3 : W / 65536 = p2 := by omega
  omega
theorem zsub_n {a b : Nat} (h : b ≤ a) : (a : Int) - (b : Int) = ((a - b : Nat) : Int) := by omega
theorem bitCount_e {μ : Mem} {a : Int} (h0 : 0 ≤ a) (h1 : a < 1048576) : f_J6_bitCount_0f7a4 μ a = some ((bits 20 a.toNat : Int), μ) := by
  obtain ⟨A, rfl⟩ : ∃ A : Nat, a = (A : Int) := ⟨a.toNat, by omega⟩
  obtain ⟨a0, a1, a2, e0, k0, k1, k2⟩ : ∃ a0 a1 a2 : Nat, A = 65536 * a2 + 256 * a1 + a0 ∧ a0 < 256 ∧ a1 < 256 ∧ a2 < 16 := ⟨A % 256, A / 256 % 256, A / 65536, by omega, by omega, by omega, by omega⟩
  have Q0 := b_3 a0 k0
  have Q1 := b_3 a1 k1
  have Q2 := b_3 a2 (by omega)
  have Q2c := b_3c a2 k2
  have Q2d := b_1d a2 k2
  have t1 : (A : Int) - zand (zushr (A : Int) 1) 1431655765 = ((65536 * bS1 a2 + 256 * bS1 a1 + bS1 a0 : Nat) : Int) := by
    rw [show (1 : Int) = ((1 : Nat) : Int) from rfl, zushr_n (by omega) (by omega) (Or.inl rfl), Int.toNat_natCast, zand_n (by omega) (by omega) (by decide) (by decide), Int.toNat_natCast, show (1431655765 : Int).toNat = 1431655765 from rfl, show A / 2 ^ 1 = A / 2 from rfl, e0, st_1 a0 a1 a2 k0 k1 k2]
    have x0 := b_1b a0 k0
    have x1 := b_1b a1 k1
    have x2 := b_1b a2 (by omega)
    unfold bS1
    omega
  generalize hT : 65536 * bS1 a2 + 256 * bS1 a1 + bS1 a0 = T at t1
  have t2 : zand (T : Int) 858993459 + zand (zushr (T : Int) 2) 858993459 = ((65536 * bS2 (bS1 a2) + 256 * bS2 (bS1 a1) + bS2 (bS1 a0) : Nat) : Int) := by
    rw [show (2 : Int) = ((2 : Nat) : Int) from rfl, zushr_n (by omega) (by omega) (Or.inr (Or.inl rfl)), Int.toNat_natCast, zand_n (by omega) (by omega) (by decide) (by decide), zand_n (by omega) (by omega) (by decide) (by decide), Int.toNat_natCast, Int.toNat_natCast, show (858993459 : Int).toNat = 858993459 from rfl, show T / 2 ^ 2 = T / 4 from rfl, ← hT, ← st_2 (bS1 a0) (bS1 a1) (bS1 a2) Q0.1 Q1.1 Q2d]
    rfl
  generalize hU : 65536 * bS2 (bS1 a2) + 256 * bS2 (bS1 a1) + bS2 (bS1 a0) = U at t2
  have t3 : zand ((U : Int) + zushr (U : Int) 4) 252645135 = ((65536 * bS3 (bS2 (bS1 a2)) + 256 * bS3 (bS2 (bS1 a1)) + bS3 (bS2 (bS1 a0)) : Nat) : Int) := by
    rw [show (4 : Int) = ((4 : Nat) : Int) from rfl, zushr_n (by omega) (by omega) (Or.inr (Or.inr (Or.inl rfl))), Int.toNat_natCast, show U / 2 ^ 4 = U / 16 from rfl, show (U : Int) + ((U / 16 : Nat) : Int) = ((U + U / 16 : Nat) : Int) by omega, zand_n (by omega) (by omega) (by decide) (by decide), Int.toNat_natCast, show (252645135 : Int).toNat = 252645135 from rfl, ← hU, st_3 _ _ _ Q0.2.1 Q1.2.1 Q2c.1 Q0.2.2.2.2 Q1.2.2.2.2]
  rw [Q0.2.2.1, Q1.2.2.1, Q2.2.2.1] at t3
  generalize hV : 65536 * bits 8 a2 + 256 * bits 8 a1 + bits 8 a0 = V at t3
  have t4 : (V : Int) + zushr (V : Int) 8 = ((V + V / 256 : Nat) : Int) := by
    rw [show (8 : Int) = ((8 : Nat) : Int) from rfl, zushr_n (by omega) (by omega) (Or.inr (Or.inr (Or.inr (Or.inl rfl)))), Int.toNat_natCast, show V / 2 ^ 8 = V / 256 from rfl]
    omega
  generalize hW : V + V / 256 = W at t4
  have t5 : zand ((W : Int) + zushr (W : Int) 16) 63 = ((bits 8 a2 + bits 8 a1 + bits 8 a0 : Nat) : Int) := by
    rw [show (16 : Int) = ((16 : Nat) : Int) from rfl, zushr_n (by omega) (by omega) (Or.inr (Or.inr (Or.inr (Or.inr rfl)))), Int.toNat_natCast, show W / 2 ^ 16 = W / 65536 from rfl, show (W : Int) + ((W / 65536 : Nat) : Int) = ((W + W / 65536 : Nat) : Int) by omega, zand_n (by omega) (by omega) (by decide) (by decide), Int.toNat_natCast, show (63 : Int).toNat = 2 ^ 6 - 1 from rfl, Nat.and_two_pow_sub_one_eq_mod, show 2 ^ 6 = 64 from rfl, st_5 Q0.2.2.2.1 Q1.2.2.2.1 Q2.2.2.2.1 hV hW]
  have e20 : bits 20 A = bits 8 a0 + bits 8 a1 + bits 8 a2 := by
    rw [e0, show 65536 * a2 + 256 * a1 + a0 = 256 * (256 * a2 + a1) + a0 by omega, show (20 : Nat) = 12 + 8 from rfl, bits_8 12 _ _ k0, show (12 : Nat) = 4 + 8 from rfl, bits_8 4 _ _ k1, Q2c.2]
    omega
  unfold f_J6_bitCount_0f7a4
  simp only [t1, t2, t3, t4, t5, Int.toNat_natCast, e20]
  rw [show bits 8 a2 + bits 8 a1 + bits 8 a0 = bits 8 a0 + bits 8 a1 + bits 8 a2 by omega]
