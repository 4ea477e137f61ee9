/-! pure part, bits: a state in one int -/
theorem I_bv {a : Int} (h0 : 0 ≤ a) (h1 : a < 2147483648) : (I a).toBitVec.toNat = a.toNat := by
  unfold I
  rw [Int32.toBitVec_ofInt, BitVec.toNat_ofInt]
  omega
theorem I_mask7 {x : Int} (h0 : 0 ≤ x) (h1 : x < 2147483648) : I x &&& I 7 = I (x % 8) := by
  apply Int32.toInt_inj.mp
  rw [Jvm.Kit.i32_mask (I x) (I 7) (k := 3) (by decide) (by decide), I_toInt (by omega) h1, I_toInt (by omega) (by omega)]
  rfl
theorem I_mask1 {x : Int} (h0 : 0 ≤ x) (h1 : x < 2147483648) : I x &&& I 1 = I (x % 2) := by
  apply Int32.toInt_inj.mp
  rw [Jvm.Kit.i32_mask (I x) (I 1) (k := 1) (by decide) (by decide), I_toInt (by omega) h1, I_toInt (by omega) (by omega)]
  rfl
theorem I_shr3 {x : Int} (h0 : 0 ≤ x) (h1 : x < 2147483648) : I x >>> (I 3 &&& I 31) = I (x / 8) := by
  apply Int32.toInt_inj.mp
  rw [Jvm.Kit.i32_shr (I x) _ (k := 3) (by decide), I_toInt (by omega) h1, I_toInt (by omega) (by omega)]
  rfl
theorem I_shr6 {x : Int} (h0 : 0 ≤ x) (h1 : x < 2147483648) : I x >>> (I 6 &&& I 31) = I (x / 64) := by
  apply Int32.toInt_inj.mp
  rw [Jvm.Kit.i32_shr (I x) _ (k := 6) (by decide), I_toInt (by omega) h1, I_toInt (by omega) (by omega)]
  rfl
theorem I_shr9 {x : Int} (h0 : 0 ≤ x) (h1 : x < 2147483648) : I x >>> (I 9 &&& I 31) = I (x / 512) := by
  apply Int32.toInt_inj.mp
  rw [Jvm.Kit.i32_shr (I x) _ (k := 9) (by decide), I_toInt (by omega) h1, I_toInt (by omega) (by omega)]
  rfl
theorem I_shr10 {x : Int} (h0 : 0 ≤ x) (h1 : x < 2147483648) : I x >>> (I 10 &&& I 31) = I (x / 1024) := by
  apply Int32.toInt_inj.mp
  rw [Jvm.Kit.i32_shr (I x) _ (k := 10) (by decide), I_toInt (by omega) h1, I_toInt (by omega) (by omega)]
  rfl
theorem I_shl3 {x : Int} (h0 : 0 ≤ x) (h1 : x < 1024) : I x <<< (I 3 &&& I 31) = I (x * 8) := by
  apply Int32.toInt_inj.mp
  rw [Jvm.Kit.i32_shl (I x) _ (k := 3) (by decide) (by rw [I_toInt] <;> omega) (by rw [I_toInt] <;> omega), I_toInt (by omega) (by omega), I_toInt (by omega) (by omega)]
  rfl
theorem I_shl6 {x : Int} (h0 : 0 ≤ x) (h1 : x < 1024) : I x <<< (I 6 &&& I 31) = I (x * 64) := by
  apply Int32.toInt_inj.mp
  rw [Jvm.Kit.i32_shl (I x) _ (k := 6) (by decide) (by rw [I_toInt] <;> omega) (by rw [I_toInt] <;> omega), I_toInt (by omega) (by omega), I_toInt (by omega) (by omega)]
  rfl
theorem I_shl9 {x : Int} (h0 : 0 ≤ x) (h1 : x < 1024) : I x <<< (I 9 &&& I 31) = I (x * 512) := by
  apply Int32.toInt_inj.mp
  rw [Jvm.Kit.i32_shl (I x) _ (k := 9) (by decide) (by rw [I_toInt] <;> omega) (by rw [I_toInt] <;> omega), I_toInt (by omega) (by omega), I_toInt (by omega) (by omega)]
  rfl
theorem I_shl10 {x : Int} (h0 : 0 ≤ x) (h1 : x < 1024) : I x <<< (I 10 &&& I 31) = I (x * 1024) := by
  apply Int32.toInt_inj.mp
  rw [Jvm.Kit.i32_shl (I x) _ (k := 10) (by decide) (by rw [I_toInt] <;> omega) (by rw [I_toInt] <;> omega), I_toInt (by omega) (by omega), I_toInt (by omega) (by omega)]
  rfl
theorem I_or (k : Nat) {a b : Int} (h0 : 0 ≤ a) (h1 : a < 2 ^ k) (h2 : 0 ≤ b) (h3 : a + b * 2 ^ k < 2147483648) : I a ||| I (b * 2 ^ k) = I (a + b * 2 ^ k) := by
  have p : (0 : Int) < 2 ^ k := Int.pow_pos (by decide)
  have q : 0 ≤ b * 2 ^ k := Int.mul_nonneg h2 (Int.le_of_lt p)
  apply Int32.toBitVec_inj.mp
  apply BitVec.eq_of_toNat_eq
  rw [Int32.toBitVec_or, BitVec.toNat_or, I_bv h0 (by omega), I_bv q (by omega), I_bv (by omega) h3]
  obtain ⟨n, rfl⟩ := Int.eq_ofNat_of_zero_le h0
  obtain ⟨m, rfl⟩ := Int.eq_ofNat_of_zero_le h2
  have e : (m : Int) * 2 ^ k = ((2 ^ k * m : Nat) : Int) := by rw [Int.natCast_mul, Int.natCast_pow, Int.mul_comm]; rfl
  have hn : n < 2 ^ k := by
    have : ((n : Nat) : Int) < ((2 ^ k : Nat) : Int) := by rw [Int.natCast_pow]; exact h1
    exact Int.ofNat_lt.mp this
  rw [e, ← Int.natCast_add, Int.toNat_natCast, Int.toNat_natCast, Int.toNat_natCast, Nat.or_comm, ← Nat.two_pow_add_eq_or_of_lt hn, Nat.add_comm]
theorem I_pack {a b c d e : Int} (a0 : 0 ≤ a) (a1 : a < 8) (b0 : 0 ≤ b) (b1 : b < 8) (c0 : 0 ≤ c) (c1 : c < 8) (d0 : 0 ≤ d) (d1 : d < 2) (e0 : 0 ≤ e) (e1 : e < 4) : (((I a ||| I (b * 8)) ||| I (c * 64)) ||| I (d * 512)) ||| I (e * 1024) = I (a + b * 8 + c * 64 + d * 512 + e * 1024) := by
  have h1 := I_or 3 a0 (by omega : a < 2 ^ 3) b0 (by omega)
  have h2 := I_or 6 (by omega : 0 ≤ a + b * 8) (by omega : a + b * 8 < 2 ^ 6) c0 (by omega)
  have h3 := I_or 9 (by omega : 0 ≤ a + b * 8 + c * 64) (by omega : a + b * 8 + c * 64 < 2 ^ 9) d0 (by omega)
  have h4 := I_or 10 (by omega : 0 ≤ a + b * 8 + c * 64 + d * 512) (by omega : a + b * 8 + c * 64 + d * 512 < 2 ^ 10) e0 (by omega)
  have f1 : (2 : Int) ^ 3 = 8 := by decide
  have f2 : (2 : Int) ^ 6 = 64 := by decide
  have f3 : (2 : Int) ^ 9 = 512 := by decide
  have f4 : (2 : Int) ^ 10 = 1024 := by decide
  rw [f1] at h1; rw [f2] at h2; rw [f3] at h3; rw [f4] at h4
  rw [h1, h2, h3, h4]
theorem I_pack4 {a b c d : Int} (a0 : 0 ≤ a) (a1 : a < 8) (b0 : 0 ≤ b) (b1 : b < 8) (c0 : 0 ≤ c) (c1 : c < 8) (d0 : 0 ≤ d) (d1 : d < 2) : ((I a ||| I (b * 8)) ||| I (c * 64)) ||| I (d * 512) = I (a + b * 8 + c * 64 + d * 512) := by
  have h1 := I_or 3 a0 (by omega : a < 2 ^ 3) b0 (by omega)
  have h2 := I_or 6 (by omega : 0 ≤ a + b * 8) (by omega : a + b * 8 < 2 ^ 6) c0 (by omega)
  have h3 := I_or 9 (by omega : 0 ≤ a + b * 8 + c * 64) (by omega : a + b * 8 + c * 64 < 2 ^ 9) d0 (by omega)
  have f1 : (2 : Int) ^ 3 = 8 := by decide
  have f2 : (2 : Int) ^ 6 = 64 := by decide
  have f3 : (2 : Int) ^ 9 = 512 := by decide
  rw [f1] at h1; rw [f2] at h2; rw [f3] at h3
  rw [h1, h2, h3]
