/-! BITS of numbers that aren't negative -/
theorem zI_nat {a : Int} (h0 : 0 ≤ a) (h1 : a < 2147483648) : (zI a).toBitVec.toNat = a.toNat := by
  unfold zI
  rw [Int32.toBitVec_ofInt, BitVec.toNat_ofInt, Int.emod_eq_of_lt h0 (Int.lt_trans h1 (by decide))]
theorem toInt_nat {x : Int32} {n : Nat} (h : x.toBitVec.toNat = n) (hn : n < 2147483648) : x.toInt = (n : Int) := by
  show x.toBitVec.toInt = _
  rw [BitVec.toInt_eq_toNat_of_lt (by rw [h]; show 2 * n < 4294967296; omega), h]
theorem zand_n {a b : Int} (ha : 0 ≤ a) (ha2 : a < 2147483648) (hb : 0 ≤ b) (hb2 : b < 2147483648) : zand a b = ((a.toNat &&& b.toNat : Nat) : Int) := by
  unfold zand
  refine toInt_nat ?_ (Nat.lt_of_le_of_lt Nat.and_le_left (by omega))
  rw [Int32.toBitVec_and, BitVec.toNat_and, zI_nat ha ha2, zI_nat hb hb2]
theorem zor_n {a b : Int} (ha : 0 ≤ a) (ha2 : a < 2147483648) (hb : 0 ≤ b) (hb2 : b < 2147483648) : zor a b = ((a.toNat ||| b.toNat : Nat) : Int) := by
  unfold zor
  refine toInt_nat ?_ ?_
  · rw [Int32.toBitVec_or, BitVec.toNat_or, zI_nat ha ha2, zI_nat hb hb2]
  · exact Nat.or_lt_two_pow (n := 31) (by show a.toNat < 2147483648; omega) (by show b.toNat < 2147483648; omega)
theorem zshl_1 : ∀ k : Nat, k < 31 → zshl 1 (k : Int) = ((2 ^ k : Nat) : Int) := by decide +kernel
theorem two_pow_b {k : Nat} (hk : k < 31) : 2 ^ k < 2147483648 := Nat.lt_of_le_of_lt (Nat.pow_le_pow_right (by decide) (show k ≤ 30 by omega)) (by decide)
theorem zbit {a : Int} {k : Nat} (ha : 0 ≤ a) (ha2 : a < 2147483648) (hk : k < 31) : zand a (zshl 1 (k : Int)) = 0 ↔ a.toNat.testBit k = false := by
  have h1 := two_pow_b hk
  rw [zshl_1 k hk, zand_n ha ha2 (Int.natCast_nonneg _) (Int.ofNat_lt.mpr h1), Int.toNat_natCast]
  constructor
  · intro h
    have h3 : a.toNat &&& 2 ^ k = 0 := by
      generalize a.toNat &&& 2 ^ k = z at h ⊢
      omega
    have h4 := congrArg (fun z => Nat.testBit z k) h3
    simpa [Nat.testBit_and, Nat.testBit_two_pow] using h4
  · intro h
    have h3 : a.toNat &&& 2 ^ k = 0 := by
      apply Nat.eq_of_testBit_eq
      intro i
      rw [Nat.testBit_and, Nat.testBit_two_pow, Nat.zero_testBit]
      by_cases e : k = i
      · subst e; rw [h]; rfl
      · simp [e]
    rw [h3]; rfl
theorem zset {a : Int} {k : Nat} (ha : 0 ≤ a) (ha2 : a < 2147483648) (hk : k < 31) : 0 ≤ zor a (zshl 1 (k : Int)) ∧ zor a (zshl 1 (k : Int)) < 2147483648 ∧ ∀ i, (zor a (zshl 1 (k : Int))).toNat.testBit i = (a.toNat.testBit i || decide (k = i)) := by
  have h1 := two_pow_b hk
  rw [zshl_1 k hk, zor_n ha ha2 (Int.natCast_nonneg _) (Int.ofNat_lt.mpr h1), Int.toNat_natCast]
  have h2 : a.toNat ||| 2 ^ k < 2147483648 := Nat.or_lt_two_pow (n := 31) (by show a.toNat < 2147483648; omega) h1
  refine ⟨by omega, by omega, fun i => ?_⟩
  rw [Int.toNat_natCast, Nat.testBit_or, Nat.testBit_two_pow]
theorem zclr {a : Int} {k : Nat} (ha : 0 ≤ a) (ha2 : a < 2147483648) (hk : k < 31) : 0 ≤ zand a (zxor (zshl 1 (k : Int)) (-1)) ∧ zand a (zxor (zshl 1 (k : Int)) (-1)) ≤ a ∧ ∀ i, (zand a (zxor (zshl 1 (k : Int)) (-1))).toNat.testBit i = (a.toNat.testBit i && !decide (k = i)) := by
  have h1 := two_pow_b hk
  have h0 : zand a (zxor (zshl 1 (k : Int)) (-1)) = ((a.toNat &&& (2 ^ k ^^^ 4294967295) : Nat) : Int) := by
    unfold zand zxor
    rw [zI_of]
    refine toInt_nat ?_ (Nat.lt_of_le_of_lt Nat.and_le_left (by omega))
    rw [Int32.toBitVec_and, BitVec.toNat_and, Int32.toBitVec_xor, BitVec.toNat_xor, zI_nat ha ha2, zshl_1 k hk, zI_nat (Int.natCast_nonneg _) (Int.ofNat_lt.mpr h1), Int.toNat_natCast, show (zI (-1)).toBitVec.toNat = 4294967295 by decide +kernel]
  rw [h0]
  have h2 : a.toNat &&& (2 ^ k ^^^ 4294967295) ≤ a.toNat := Nat.and_le_left
  refine ⟨by omega, by omega, fun i => ?_⟩
  rw [Int.toNat_natCast, Nat.testBit_and, Nat.testBit_xor, Nat.testBit_two_pow, show (4294967295 : Nat) = 2 ^ 32 - 1 from rfl, Nat.testBit_two_pow_sub_one]
  by_cases hi : i < 32
  · cases a.toNat.testBit i <;> by_cases hki : k = i <;> simp [hki, hi]
  · have hz : a.toNat.testBit i = false := Nat.testBit_lt_two_pow (Nat.lt_of_lt_of_le (show a.toNat < 2 ^ 32 by omega) (Nat.pow_le_pow_right (by decide) (by omega)))
    rw [hz]
    simp
/-! A BYTE of a number -/
theorem sh_b (x : BitVec 32) (s : Nat) (hs : s ≤ 24) : (x >>> s).signExtend 8 = (x.sshiftRight s).signExtend 8 := by
  apply BitVec.eq_of_getLsbD_eq
  intro i hi
  rw [BitVec.getLsbD_signExtend, BitVec.getLsbD_signExtend, BitVec.getLsbD_ushiftRight, BitVec.getLsbD_sshiftRight]
  have a1 : i < 32 := by omega
  have a2 : s + i < 32 := by omega
  have a3 : ¬ 32 ≤ i := by omega
  simp [a1, a2, a3]
theorem zi2b_b (a : Int) : -128 ≤ zi2b a ∧ zi2b a < 128 := by
  unfold zi2b
  rw [Int8.toInt_toInt32]
  have h1 := Int8.le_toInt (zI a).toInt8
  have h2 := Int8.toInt_lt (zI a).toInt8
  omega
theorem zi2b_sh {a s : Int} (hs : s = 24 ∨ s = 16 ∨ s = 8 ∨ s = 0) : zi2b (zushr a s) = zi2b (zshr a s) := by
  unfold zi2b zushr zshr
  rw [zI_of, zI_of]
  refine congrArg (fun z : Int8 => z.toInt32.toInt) (Int8.toBitVec_inj.1 ?_)
  generalize zI a = x
  rcases hs with e | e | e | e
  · subst e
    rw [show (zI 24).toUInt32 &&& Int32.toUInt32 31 = (24 : UInt32) by decide +kernel, show zI 24 &&& 31 = (24 : Int32) by decide +kernel]
    exact sh_b x.toBitVec 24 (by decide)
  · subst e
    rw [show (zI 16).toUInt32 &&& Int32.toUInt32 31 = (16 : UInt32) by decide +kernel, show zI 16 &&& 31 = (16 : Int32) by decide +kernel]
    exact sh_b x.toBitVec 16 (by decide)
  · subst e
    rw [show (zI 8).toUInt32 &&& Int32.toUInt32 31 = (8 : UInt32) by decide +kernel, show zI 8 &&& 31 = (8 : Int32) by decide +kernel]
    exact sh_b x.toBitVec 8 (by decide)
  · subst e
    rw [show (zI 0).toUInt32 &&& Int32.toUInt32 31 = (0 : UInt32) by decide +kernel, show zI 0 &&& 31 = (0 : Int32) by decide +kernel]
    exact sh_b x.toBitVec 0 (by decide)
theorem zand255 : ∀ n : Nat, n < 256 → zand ((n : Int) - 128) 255 = if (n : Int) - 128 < 0 then (n : Int) - 128 + 256 else (n : Int) - 128 := by decide +kernel
theorem zbyte {b : Int} (h0 : -128 ≤ b) (h1 : b < 128) : zand b 255 = if b < 0 then b + 256 else b := by
  have h := zand255 (b + 128).toNat (by omega)
  rw [show (((b + 128).toNat : Nat) : Int) - 128 = b by omega] at h
  exact h
