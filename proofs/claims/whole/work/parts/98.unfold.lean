/-! ===== opening: a folded part unfolded ===== -/
def unI (P : Nat) : Int := if P % 2 = 0 then (P / 2 : Nat) else -(((P + 1) / 2 : Nat) : Int)
def un (P : Nat) : Int32 := Int32.ofInt (unI P)
theorem unI_b {P : Nat} (h : P < 2 ^ 32) : -2147483648 ≤ unI P ∧ unI P < 2147483648 := by
  unfold unI
  split <;> omega
theorem un_int {P : Nat} (h : P < 2 ^ 32) : (un P).toInt = unI P := by
  obtain ⟨h1, h2⟩ := unI_b h
  unfold un
  exact Int32.toInt_ofInt_of_le (by exact h1) (by exact h2)
theorem fo_un {P : Nat} (h : P < 2 ^ 32) : u32 (fo (un P)) = P := by
  have e := un_int h
  by_cases h0 : (0 : Int32) ≤ un P
  · have q := fo_pos h0
    have h1 : (0 : Int) ≤ (un P).toInt := Int32.le_iff_toInt_le.mp h0
    rw [e] at q h1
    unfold unI at q h1
    split at q <;> omega
  · have q := fo_neg h0
    have h1 : ¬ (0 : Int) ≤ (un P).toInt := fun g => h0 (Int32.le_iff_toInt_le.mpr g)
    rw [e] at q h1
    unfold unI at q h1
    split at q <;> omega
theorem k_unf {P : Nat} (h : P < 2 ^ 32) : pX9_unfold (nI P) = some (un P) := by
  have hu : ((nI P).toUInt32 >>> ((1 : Int32).toUInt32 &&& Int32.toUInt32 31)).toInt32 = nI (P / 2) := k_ush (k := 1) h (by omega)
  have ha : nI P &&& 1 = nI (P % 2) := by
    rw [n_l1, nx_and]
    exact congrArg nI (Nat.and_two_pow_sub_one_eq_mod P 1)
  have hd : (nI (P / 2)).toInt = ((P / 2 : Nat) : Int) := nI_toInt (by omega)
  unfold pX9_unfold
  rw [hu, ha]
  refine congrArg some (Int32.toInt_inj.mp ?_)
  rw [un_int h]
  unfold unI
  rcases (show P % 2 = 0 ∨ P % 2 = 1 by omega) with g | g
  · rw [g, if_pos rfl]
    have e : nI (P / 2) ^^^ (-nI 0) = nI (P / 2) := Int32.toBitVec_inj.mp (by rw [Int32.toBitVec_xor]; show _ ^^^ 0#32 = _; simp)
    rw [e, hd]
  · rw [g, if_neg (by omega)]
    have e : (nI (P / 2) ^^^ (-nI 1)).toBitVec = ~~~ (nI (P / 2)).toBitVec := by
      rw [Int32.toBitVec_xor]
      show _ ^^^ BitVec.allOnes 32 = _
      rw [BitVec.xor_allOnes]
    show (nI (P / 2) ^^^ (-nI 1)).toBitVec.toInt = _
    rw [e, BitVec.toInt_not]
    have hd' : (nI (P / 2)).toBitVec.toNat = P / 2 := by
      show (BitVec.ofNat 32 (P / 2)).toNat = _
      rw [BitVec.toNat_ofNat, Nat.mod_eq_of_lt (by omega)]
    rw [hd']
    have hb : ((2 : Int) ^ 32 - 1 - ((P / 2 : Nat) : Int)).bmod (2 ^ 32) = -(((P / 2 : Nat) : Int)) - 1 := by
      rw [Int.bmod_def]
      omega
    first
      | (rw [hb]; omega)
      | (rw [Int.bmod_def]; omega)
theorem r_unf {P : Nat} (h : P < 2 ^ 32) : pX10_unfolded (lN P) = some (un P) := by
  have h2 : (2 : Int64) = lN 2 := rfl
  unfold pX10_unfolded
  rw [h2, pk_lRem (by omega) (by omega) (by omega)]
  rcases (show P % 2 = 0 ∨ P % 2 = 1 by omega) with g | g
  · rw [if_neg (show ¬ lg_cmp (lN (P % 2)) 1 = 0 by rw [g, lg_cmp_eq]; decide), pk_lDiv (by omega) (by omega) (by omega), lN_i32]
    refine congrArg some (Int32.toInt_inj.mp ?_)
    rw [un_int h, nI_toInt (by omega)]
    unfold unI
    rw [if_pos g]
  · rw [if_pos (show lg_cmp (lN (P % 2)) 1 = 0 by rw [g, lg_cmp_eq]; rfl)]
    refine congrArg some (Int32.toInt_inj.mp ?_)
    have e1 : (-(lN P + 1)).toInt = -((P : Int) + 1) := by
      rw [Int64.toInt_neg, Int64.toInt_add, pk_lT (show P < 2 ^ 63 by omega)]
      show (-(((P : Int) + 1).bmod (2 ^ 64))).bmod (2 ^ 64) = _
      obtain ⟨k, hk, q2, q3⟩ := bmod64 (x := (P : Int) + 1)
      obtain ⟨k', hk', q2', q3'⟩ := bmod64 (x := -(((P : Int) + 1).bmod (2 ^ 64)))
      omega
    have e2 : ((-(lN P + 1)) / lN 2).toInt = -(((P + 1) / 2 : Nat) : Int) := by
      rw [Int64.toInt_div, e1]
      show (Int.tdiv (-((P : Int) + 1)) 2).bmod (2 ^ 64) = _
      have e3 : Int.tdiv (-((P : Int) + 1)) 2 = -(((P + 1) / 2 : Nat) : Int) := by
        rw [Int.neg_tdiv, Int.tdiv_eq_ediv_of_nonneg (by omega)]
        omega
      rw [e3]
      obtain ⟨k, hk, q2, q3⟩ := bmod64 (x := -(((P + 1) / 2 : Nat) : Int))
      omega
    rw [Int64.toInt_toInt32, e2, un_int h]
    unfold unI
    rw [if_neg (by omega), Int.bmod_def]
    omega
