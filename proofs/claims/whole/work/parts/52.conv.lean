/-! ===== ints and longs ===== -/
theorem u32_int (x : Int32) : (x.toInt = (u32 x : Int) ∧ u32 x < 2147483648) ∨ (x.toInt = (u32 x : Int) - 4294967296 ∧ 2147483648 ≤ u32 x) := by
  have h : x.toInt = if 2 * u32 x < 4294967296 then (u32 x : Int) else (u32 x : Int) - 4294967296 := BitVec.toInt_eq_toNat_cond _
  split at h
  · exact Or.inl ⟨h, by omega⟩
  · exact Or.inr ⟨h, by omega⟩
theorem u32_inj {x y : Int32} (h : u32 x = u32 y) : x = y := Int32.toBitVec_inj.mp (BitVec.eq_of_toNat_eq h)
theorem u32_nI {n : Nat} (h : n < 2 ^ 32) : u32 (nI n) = n := pk_tn h
theorem nI_u32 (x : Int32) : nI (u32 x) = x := u32_inj (u32_nI (u32_lt x))
theorem i32_lt (x : Int32) : -2147483648 ≤ x.toInt ∧ x.toInt < 2147483648 := by
  have h := u32_lt x
  rcases u32_int x with ⟨h1, h2⟩ | ⟨h1, h2⟩ <;> omega
theorem bmod32 {x : Int} : ∃ k : Int, x.bmod (2 ^ 32) = x + 4294967296 * k ∧ -2147483648 ≤ x.bmod (2 ^ 32) ∧ x.bmod (2 ^ 32) < 2147483648 := by
  unfold Int.bmod
  simp only []
  split
  · exact ⟨-(x / 4294967296), by omega, by omega, by omega⟩
  · exact ⟨-(x / 4294967296) - 1, by omega, by omega, by omega⟩
theorem bmod64 {x : Int} : ∃ k : Int, x.bmod (2 ^ 64) = x + 18446744073709551616 * k ∧ -9223372036854775808 ≤ x.bmod (2 ^ 64) ∧ x.bmod (2 ^ 64) < 9223372036854775808 := by
  unfold Int.bmod
  simp only []
  split
  · exact ⟨-(x / 18446744073709551616), by omega, by omega, by omega⟩
  · exact ⟨-(x / 18446744073709551616) - 1, by omega, by omega, by omega⟩
theorem u32_sub {v b : Int32} (h : b ≤ v) : ((u32 (v - b) : Nat) : Int) = v.toInt - b.toInt := by
  have h1 : (v - b).toInt = (v.toInt - b.toInt).bmod (2 ^ 32) := Int32.toInt_sub v b
  obtain ⟨k, hk, h2, h3⟩ := bmod32 (x := v.toInt - b.toInt)
  have h4 := i32_lt v
  have h5 := i32_lt b
  have h6 : b.toInt ≤ v.toInt := Int32.le_iff_toInt_le.mp h
  have h8 := u32_lt (v - b)
  rcases u32_int (v - b) with ⟨h7, _⟩ | ⟨h7, _⟩ <;> omega
theorem l64_int (x : Int32) : x.toInt64.toInt = x.toInt := Int32.toInt_toInt64 x
theorem l_sub {v b : Int32} (h : b ≤ v) : v.toInt64 - b.toInt64 = lN (u32 (v - b)) := by
  refine Int64.toInt_inj.mp ?_
  rw [Int64.toInt_sub, l64_int, l64_int, pk_lT (by have := u32_lt (v - b); omega), u32_sub h]
  obtain ⟨k, hk, h2, h3⟩ := bmod64 (x := v.toInt - b.toInt)
  have h4 := i32_lt v
  have h5 := i32_lt b
  omega
theorem fo_pos {d : Int32} (h : 0 ≤ d) : (u32 (fo d) : Int) = 2 * d.toInt := by
  have h0 : (0 : Int) ≤ d.toInt := Int32.le_iff_toInt_le.mp h
  have h1 : d >>> ((31 : Int32) &&& 31) = 0 := by
    refine Int32.toInt_inj.mp ?_
    rw [pk_shr d (31 &&& 31) 31 (by decide), Int.shiftRight_eq_div_pow]
    show d.toInt / 2147483648 = 0
    have := i32_lt d
    omega
  have h2 : fo d = d <<< ((1 : Int32) &&& 31) := by
    unfold fo; rw [h1]
    exact Int32.toBitVec_inj.mp (by rw [Int32.toBitVec_xor]; show _ ^^^ 0#32 = _; simp)
  rw [h2]
  have h3 := pk_shl d ((1 : Int32) &&& 31) 1 (by decide)
  show (((d <<< ((1 : Int32) &&& 31)).toBitVec.toNat : Nat) : Int) = _
  rw [h3]
  rcases u32_int d with ⟨h7, h8⟩ | ⟨h7, h8⟩
  · show (((u32 d * 2 ^ 1 % 2 ^ 32 : Nat)) : Int) = _
    omega
  · have := u32_lt d
    omega
theorem fo_neg {d : Int32} (h : ¬ 0 ≤ d) : (u32 (fo d) : Int) = -2 * d.toInt - 1 := by
  have h0 : ¬ (0 : Int) ≤ d.toInt := fun q => h (Int32.le_iff_toInt_le.mpr q)
  have h1 : d >>> ((31 : Int32) &&& 31) = -1 := by
    refine Int32.toInt_inj.mp ?_
    rw [pk_shr d (31 &&& 31) 31 (by decide), Int.shiftRight_eq_div_pow]
    show d.toInt / 2147483648 = -1
    have := i32_lt d
    omega
  have h2 : (fo d).toBitVec = ~~~ (d <<< ((1 : Int32) &&& 31)).toBitVec := by
    unfold fo; rw [h1, Int32.toBitVec_xor]
    show _ ^^^ BitVec.allOnes 32 = _
    rw [BitVec.xor_allOnes]
  have h3 := pk_shl d ((1 : Int32) &&& 31) 1 (by decide)
  show (((fo d).toBitVec.toNat : Nat) : Int) = _
  rw [h2, BitVec.toNat_not, h3]
  rcases u32_int d with ⟨h7, h8⟩ | ⟨h7, h8⟩
  · omega
  · show (((2 ^ 32 - 1 - u32 d * 2 ^ 1 % 2 ^ 32 : Nat)) : Int) = _
    have := u32_lt d
    omega
theorem lz_toInt {n : Nat} (h : n < 2 ^ 32) : (lN n).toInt = (n : Int) := pk_lT (by omega)
theorem r_folded (d : Int32) : pX10_folded d = some (lN (u32 (fo d))) := by
  unfold pX10_folded
  have hd := i32_lt d
  split
  · rename_i h
    refine congrArg some (Int64.toInt_inj.mp ?_)
    rw [Int64.toInt_mul, l64_int, lz_toInt (u32_lt _), fo_pos h]
    show ((2 : Int) * d.toInt).bmod (2 ^ 64) = _
    obtain ⟨k, hk, h2, h3⟩ := bmod64 (x := 2 * d.toInt)
    omega
  · rename_i h
    refine congrArg some (Int64.toInt_inj.mp ?_)
    have e1 : (((-2 : Int64) * d.toInt64) - 1).toInt = -2 * d.toInt - 1 := by
      rw [Int64.toInt_sub, Int64.toInt_mul, l64_int]
      show (((-2 : Int) * d.toInt).bmod (2 ^ 64) - 1).bmod (2 ^ 64) = _
      obtain ⟨k, hk, h2, h3⟩ := bmod64 (x := -2 * d.toInt)
      obtain ⟨k', hk', h2', h3'⟩ := bmod64 (x := ((-2 : Int) * d.toInt).bmod (2 ^ 64) - 1)
      omega
    rw [e1, lz_toInt (u32_lt _), fo_neg h]
theorem l_mask (x : Int32) : x.toInt64 &&& 4294967295 = lN (u32 x) := by
  refine Int64.toBitVec_inj.mp (BitVec.eq_of_toNat_eq ?_)
  show (x.toInt64.toBitVec &&& 4294967295#64).toNat = (BitVec.ofNat 64 (u32 x)).toNat
  have hx := u32_lt x
  rw [BitVec.toNat_and, show (4294967295#64).toNat = 2 ^ 32 - 1 from by decide, Nat.and_two_pow_sub_one_eq_mod, BitVec.toNat_ofNat, Nat.mod_eq_of_lt (a := u32 x) (by omega)]
  have h1 : x.toInt64.toInt = if 2 * x.toInt64.toBitVec.toNat < 2 ^ 64 then (x.toInt64.toBitVec.toNat : Int) else (x.toInt64.toBitVec.toNat : Int) - (2 ^ 64 : Nat) := BitVec.toInt_eq_toNat_cond _
  rw [l64_int] at h1
  have h9 : x.toInt64.toBitVec.toNat < 2 ^ 64 := x.toInt64.toBitVec.isLt
  split at h1 <;> rcases u32_int x with ⟨h7, h8⟩ | ⟨h7, h8⟩ <;> omega
theorem enc_eq (x : Option Int32) : enc x = 4294967296 ↔ x = none := by
  cases x with
  | none => exact ⟨fun _ => rfl, fun _ => rfl⟩
  | some v =>
    refine ⟨fun h => ?_, fun h => by cases h⟩
    have h1 : v.toInt64.toInt = 4294967296 := by
      have : v.toInt64 = 4294967296 := h
      rw [this]; rfl
    rw [l64_int] at h1
    have := i32_lt v
    omega
theorem enc_no (x : Option Int32) : enc x ≠ -4294967296 := by
  cases x with
  | none => exact (by decide : (4294967296 : Int64) ≠ -4294967296)
  | some v =>
    intro h
    have h1 : v.toInt64.toInt = -4294967296 := by
      have : v.toInt64 = -4294967296 := h
      rw [this]; rfl
    rw [l64_int] at h1
    have := i32_lt v
    omega
theorem l64_i (v : Int32) : v.toInt64.toInt32 = v := by simp
theorem l64_inj {v w : Int32} : v.toInt64 = w.toInt64 ↔ v = w := ⟨fun h => by rw [← l64_i v, h, l64_i], fun h => by rw [h]⟩
theorem l64_lt {v w : Int32} : v.toInt64 < w.toInt64 ↔ v < w := by
  rw [Int64.lt_iff_toInt_lt, Int32.lt_iff_toInt_lt, l64_int, l64_int]
theorem l64_le {v w : Int32} : v.toInt64 ≤ w.toInt64 ↔ v ≤ w := by
  rw [Int64.le_iff_toInt_le, Int32.le_iff_toInt_le, l64_int, l64_int]
