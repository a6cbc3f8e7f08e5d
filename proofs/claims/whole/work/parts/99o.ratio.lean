theorem d_c2 {E T : Nat} (h1 : 900 ≤ E) (h2 : E ≤ 1100) (hT : T < 2 ^ 52) (op : CmpOp) : (Op.cmpValue (FP.dcmp (nU E T) 4611686018427387904) op < 0 ↔ E < 1024) := by
  rw [d_cmp (R := 1024) h1 h2 hT (y := 4611686018427387904) f_two]
  by_cases h : E < 1024
  · rw [if_pos h]
    exact ⟨fun _ => h, fun _ => (by decide : (-1 : Int32) < 0)⟩
  · rw [if_neg h]
    refine ⟨fun q => ?_, fun q => absurd q h⟩
    exfalso
    split at q
    · exact absurd (show (0 : Int32) < 0 from q) (by decide)
    · exact absurd (show (1 : Int32) < 0 from q) (by decide)
theorem d_c1 {E T : Nat} (h1 : 900 ≤ E) (h2 : E ≤ 1100) (hT : T < 2 ^ 52) (op : CmpOp) : (0 ≤ Op.cmpValue (FP.dcmp (nU E T) FP.dconst1) op ↔ 1023 ≤ E) := by
  rw [d_cmp (R := 1023) h1 h2 hT (y := FP.dconst1) f_one]
  by_cases h : E < 1023
  · rw [if_pos h]
    exact ⟨fun q => absurd (show (0 : Int32) ≤ -1 from q) (by decide), fun q => absurd h (by omega)⟩
  · rw [if_neg h]
    refine ⟨fun q => by omega, fun q => ?_⟩
    split
    · exact (by decide : (0 : Int32) ≤ 0)
    · exact (by decide : (0 : Int32) ≤ 1)
theorem d_self {E T : Nat} (h1 : 900 ≤ E) (h2 : E ≤ 1100) (hT : T < 2 ^ 52) (op : CmpOp) : Op.cmpValue (FP.dcmp (nU E T) (nU E T)) op = 0 := by
  have e : FP.dcmp (nU E T) (nU E T) = some .eq := by
    show FP.Core.order (FP.Core.decode FP.Core.b64 (nU E T).toNat) (FP.Core.decode FP.Core.b64 (nU E T).toNat) = _
    rw [nU_n (by omega) hT, f_dec (by omega) (by omega) hT]
    show some (compare _ _) = _
    exact congrArg some (by rw [Int.compare_eq_eq])
  rw [e]; rfl
theorem nn_ok {α : Type} {E T : Nat} (h2 : E ≤ 1100) (hT : T < 2 ^ 52) (o : Option α) : nn (nU E T) o = o := by
  unfold nn
  rw [if_pos]
  rw [UInt64.le_iff_toNat_le, UInt64.toNat_and, nU_n (by omega) hT]
  have : nd E T &&& (0x7fffffffffffffff : UInt64).toNat ≤ nd E T := Nat.and_le_left
  have h3 : (0x7ff0000000000000 : UInt64).toNat = 9218868437227405312 := rfl
  rw [h3]
  unfold nd at *
  omega
theorem nn_0 {α : Type} (o : Option α) : nn 0 o = o := by
  unfold nn
  rw [if_pos (by decide)]
/-- what is behind the leading digit, as a whole number -/
theorem d_tail {T : Nat} (hT : T < 2 ^ 52) : ∃ x y : UInt64, FP.dsub (nU 1023 T) FP.dconst1 = x ∧ FP.dmul x 4841369599423283200 = y ∧ FP.d2l y = Int64.ofNat T ∧ (∀ (α : Type) (o : Option α), nn x o = o) ∧ (∀ (α : Type) (o : Option α), nn y o = o) := by
  refine ⟨_, _, rfl, rfl, ?_⟩
  have e1 : FP.dsub (nU 1023 T) FP.dconst1 = UInt64.ofNat (FP.Core.encode FP.Core.b64 (FP.Core.round FP.Core.b64 (.fin false T (-52)))) := by
    show UInt64.ofNat (FP.Core.sub FP.Core.b64 (nU 1023 T).toNat 4607182418800017408) = _
    unfold FP.Core.sub
    rw [nU_n (by omega) hT, f_dec (by omega) (by omega) hT, f_one]
    have a1 : FP.Core.sumUnits false (2 ^ 52 + T) (((1023 : Nat) : Int) - 1075) true (2 ^ 52) (-52) (min (((1023 : Nat) : Int) - 1075) (-52)) = (T : Int) := by
      unfold FP.Core.sumUnits FP.Core.signed FP.Core.inUnits
      rw [show min (((1023 : Nat) : Int) - 1075) (-52) = -52 by decide, show ((((1023 : Nat) : Int) - 1075) - -52).toNat = 0 by decide, show ((-52 : Int) - -52).toNat = 0 by decide]
      simp only [Bool.false_eq_true, if_false, if_true]
      omega
    show UInt64.ofNat (FP.Core.encode FP.Core.b64 (FP.Core.round FP.Core.b64 (.fin (FP.Core.sumSign false true (FP.Core.sumUnits false (2 ^ 52 + T) (((1023 : Nat) : Int) - 1075) true (2 ^ 52) (-52) (min (((1023 : Nat) : Int) - 1075) (-52)))) (FP.Core.sumUnits false (2 ^ 52 + T) (((1023 : Nat) : Int) - 1075) true (2 ^ 52) (-52) (min (((1023 : Nat) : Int) - 1075) (-52))).natAbs (min (((1023 : Nat) : Int) - 1075) (-52))))) = _
    rw [a1, show min (((1023 : Nat) : Int) - 1075) (-52) = -52 by decide, Int.natAbs_natCast]
    have a2 : FP.Core.sumSign false true (T : Int) = false := by
      unfold FP.Core.sumSign
      split
      · rfl
      · exact decide_eq_false (by omega)
    rw [a2]
  rcases Nat.eq_zero_or_pos T with h0 | h0
  · subst h0
    have e2 : FP.dsub (nU 1023 0) FP.dconst1 = 0 := by rw [e1]; decide +kernel
    rw [e2]
    have e3 : FP.dmul 0 4841369599423283200 = 0 := by decide +kernel
    rw [e3]
    exact ⟨by decide +kernel, fun _ o => nn_0 o, fun _ o => nn_0 o⟩
  · obtain ⟨L, hL1, hL2⟩ : ∃ L, 2 ^ L ≤ T ∧ T < 2 ^ (L + 1) := ⟨T.log2, (Nat.le_log2 (by omega)).mp (Nat.le_refl _), (Nat.log2_lt (by omega)).mp (Nat.lt_succ_self _)⟩
    have hL : L < 52 := by
      rcases Nat.lt_or_ge L 52 with h | h
      · exact h
      · have := Nat.pow_le_pow_right (show 0 < 2 by omega) h
        omega
    have hp : 2 ^ L * 2 ^ (52 - L) = 2 ^ 52 := by rw [← Nat.pow_add]; exact congrArg _ (by omega)
    have hm1 : 2 ^ 52 ≤ T * 2 ^ (52 - L) := by rw [← hp]; exact Nat.mul_le_mul_right _ hL1
    have hm2 : T * 2 ^ (52 - L) < 2 ^ 53 := by
      have : T * 2 ^ (52 - L) < 2 ^ (L + 1) * 2 ^ (52 - L) := Nat.mul_lt_mul_of_pos_right hL2 (Nat.two_pow_pos _)
      have h9 : 2 ^ (L + 1) * 2 ^ (52 - L) = 2 ^ 53 := by rw [← Nat.pow_add]; exact congrArg _ (by omega)
      omega
    have e2 : FP.dsub (nU 1023 T) FP.dconst1 = nU (L + 971) (T * 2 ^ (52 - L) - 2 ^ 52) := by
      rw [e1, f_rnd (k := L) (m := T * 2 ^ (52 - L)) hL1 hL2 (by omega) (by omega) hm1 hm2 (Or.inl ⟨by omega, rfl⟩), f_enc (E := L + 971) hm1 hm2 (by omega) (by omega)]
    have e3 : FP.dmul (nU (L + 971) (T * 2 ^ (52 - L) - 2 ^ 52)) 4841369599423283200 = nU (L + 1023) (T * 2 ^ (52 - L) - 2 ^ 52) := by
      show UInt64.ofNat (FP.Core.mul FP.Core.b64 (nU (L + 971) (T * 2 ^ (52 - L) - 2 ^ 52)).toNat 4841369599423283200) = _
      unfold FP.Core.mul
      rw [nU_n (by omega) (by omega), f_dec (by omega) (by omega) (by omega), f_52]
      show UInt64.ofNat (FP.Core.encode FP.Core.b64 (FP.Core.round FP.Core.b64 (.fin false ((2 ^ 52 + (T * 2 ^ (52 - L) - 2 ^ 52)) * 2 ^ 52) (((L + 971 : Nat) : Int) - 1075 + 0)))) = _
      rw [f_rnd (k := 104) (m := 2 ^ 52 + (T * 2 ^ (52 - L) - 2 ^ 52)) (by omega) (by omega) (by omega) (by omega) (by omega) (by omega) (Or.inr ⟨by omega, rfl⟩), f_enc (E := L + 1023) (by omega) (by omega) (by omega) (by omega), Nat.add_sub_cancel_left]
    rw [e2, e3]
    refine ⟨?_, fun _ o => nn_ok (by omega) (by omega) o, fun _ o => nn_ok (by omega) (by omega) o⟩
    show FP.Core.toL (FP.Core.decode FP.Core.b64 (nU (L + 1023) (T * 2 ^ (52 - L) - 2 ^ 52)).toNat) = _
    rw [nU_n (by omega) (by omega), f_dec (by omega) (by omega) (by omega)]
    show Int64.ofInt (max (-2 ^ 63) (min (2 ^ 63 - 1) (FP.Core.truncate false (2 ^ 52 + (T * 2 ^ (52 - L) - 2 ^ 52)) (((L + 1023 : Nat) : Int) - 1075)))) = _
    have e5 : FP.Core.truncate false (2 ^ 52 + (T * 2 ^ (52 - L) - 2 ^ 52)) (((L + 1023 : Nat) : Int) - 1075) = (T : Int) := by
      unfold FP.Core.truncate FP.Core.signed
      rw [show (((L + 1023 : Nat) : Int) - 1075).toNat = 0 by omega, show (-(((L + 1023 : Nat) : Int) - 1075)).toNat = 52 - L by omega, show 2 ^ 52 + (T * 2 ^ (52 - L) - 2 ^ 52) = T * 2 ^ (52 - L) by omega, Nat.pow_zero, Nat.mul_one, Nat.mul_div_cancel _ (Nat.two_pow_pos _)]
      rfl
    rw [e5, Int.min_eq_right (by omega), Int.max_eq_right (by omega)]
    exact Int64.ofInt_eq_ofNat
theorem d_put {E T : Nat} (hE : E < 2047) (hT : T < 2 ^ 52) : (Int64.ofNat E <<< ((52 : Int32).toInt64 &&& 63)) ||| Int64.ofNat T = (nU E T).toInt64 := by
  apply Int64.toBitVec_inj.mp
  apply BitVec.eq_of_toNat_eq
  have e1 : ((52 : Int32).toInt64 &&& 63) = 52 := by decide
  rw [e1]
  show ((BitVec.ofNat 64 E <<< (52 : BitVec 64)) ||| BitVec.ofNat 64 T).toNat = (BitVec.ofNat 64 (nd E T)).toNat
  rw [BitVec.toNat_or, BitVec.toNat_ofNat, BitVec.toNat_ofNat]
  have e2 : (BitVec.ofNat 64 E <<< (52 : BitVec 64)).toNat = E * 2 ^ 52 := by
    show (BitVec.ofNat 64 E <<< 52).toNat = _
    rw [BitVec.toNat_shiftLeft, BitVec.toNat_ofNat, Nat.shiftLeft_eq, Nat.mod_eq_of_lt (show E < 2 ^ 64 by omega), Nat.mod_eq_of_lt (by omega)]
  rw [e2, Nat.mod_eq_of_lt (show T < 2 ^ 64 by omega), Nat.mod_eq_of_lt (show nd E T < 2 ^ 64 by have := nd_lt hE hT; omega), ← Nat.shiftLeft_eq, ← Nat.shiftLeft_add_eq_or_of_lt hT, Nat.shiftLeft_eq]
theorem k_bitsOfDouble {E T : Nat} (h1 : 960 ≤ E) (h2 : E ≤ 1080) (hT : T < 2 ^ 52) : pX9_bitsOfDouble (nU E T) = some (nU E T).toInt64 := by
  have l1 : ∀ k : Nat, (Int64.ofNat (1023 + k)) + 1 = Int64.ofNat (1023 + (k + 1)) := fun k => by
    rw [show (1 : Int64) = Int64.ofNat 1 from rfl, ← Int64.ofNat_add]; rfl
  have n1 : ∀ k : Nat, nI k + (1 : Int32) = nI (k + 1) := fun k => by rw [n_l1, nI_add]
  obtain ⟨y, ey, hy⟩ : ∃ y, lp pX9_bitsOfDouble_b10 FU (nU E T, 1023, 0) = some y ∧ ∃ F : Nat, y.1 = nU F T ∧ y.2.1 = Int64.ofNat (1023 + (E - F)) ∧ F ≤ E ∧ (F = 1023 ∨ (F = E ∧ E < 1023)) := by
    refine lpE (body := pX9_bitsOfDouble_b10) (fun k s => s.1 = nU (E - k) T ∧ s.2.1 = Int64.ofNat (1023 + k) ∧ s.2.2 = nI k ∧ (k = 0 ∨ 1023 ≤ E - k)) _ 60 (nU E T, 1023, 0) ⟨rfl, rfl, rfl, Or.inl rfl⟩ (fun k s hk hI => ?_)
    obtain ⟨s1, s2, s3⟩ := s
    obtain ⟨rfl, rfl, rfl, hI⟩ := hI
    unfold pX9_bitsOfDouble_b10
    dsimp only
    rw [if_neg (show ¬ (64 : Int32) ≤ nI k from fun q => by have := (nI_leI (a := 64) (by omega) (by omega)).mp q; omega)]
    by_cases h : E - k < 1024
    · rw [if_pos ((d_c2 (by omega) (by omega) hT _).mpr h)]
      refine Or.inr ⟨_, rfl, E - k, rfl, ?_, by omega, by omega⟩
      show Int64.ofNat (1023 + k) = Int64.ofNat (1023 + (E - (E - k)))
      exact congrArg _ (by omega)
    · rw [if_neg (fun q => h ((d_c2 (by omega) (by omega) hT _).mp q)), d_div2 (by omega) (by omega) hT, nn_ok (by omega) hT]
      exact Or.inl ⟨_, rfl, by omega, congrArg (fun x => nU x T) (by omega), l1 k, n1 k, Or.inr (by omega)⟩
  obtain ⟨F, y1, y2, y3, y4⟩ := hy
  obtain ⟨x, ex, hx1, hx2⟩ : ∃ x, lp pX9_bitsOfDouble_b46 FU (y.1, y.2.1, 0) = some x ∧ x.1 = nU 1023 T ∧ x.2.1 = Int64.ofNat E := by
    refine lpE (body := pX9_bitsOfDouble_b46) (fun k s => s.1 = nU (F + k) T ∧ s.2.1 = Int64.ofNat (1023 + (E - F) - k) ∧ s.2.2 = nI k ∧ F + k ≤ 1023) _ 63 (y.1, y.2.1, 0) ⟨y1, y2, rfl, by omega⟩ (fun k s hk hI => ?_)
    obtain ⟨s1, s2, s3⟩ := s
    obtain ⟨rfl, rfl, rfl, hI⟩ := hI
    unfold pX9_bitsOfDouble_b46
    dsimp only
    rw [if_neg (show ¬ (64 : Int32) ≤ nI k from fun q => by have := (nI_leI (a := 64) (by omega) (by omega)).mp q; omega)]
    by_cases h : 1023 ≤ F + k
    · rw [if_pos ((d_c1 (by omega) (by omega) hT _).mpr h)]
      refine Or.inr ⟨_, rfl, ?_, ?_⟩
      · exact congrArg (fun x => nU x T) (by omega)
      · exact congrArg Int64.ofNat (show 1023 + (E - F) - k = E by omega)
    · rw [if_neg (fun q => h ((d_c1 (by omega) (by omega) hT _).mp q)), d_mul2 (by omega) (by omega) hT, nn_ok (by omega) hT]
      refine Or.inl ⟨_, rfl, by omega, rfl, ?_, n1 k, by omega⟩
      show Int64.ofNat (1023 + (E - F) - k) - 1 = Int64.ofNat (1023 + (E - F) - (k + 1))
      rw [show (1 : Int64) = Int64.ofNat 1 from rfl, ← Int64.ofNat_sub _ _ (by omega)]
      exact congrArg _ (by omega)
  obtain ⟨u, w, t1, t2, t3, t4, t5⟩ := d_tail hT
  unfold pX9_bitsOfDouble
  rw [ey, Option.bind_some, ex, Option.bind_some]
  rw [hx1, hx2, t1, t4, t2, t5, t3, d_put (by omega) hT]
theorem r_rawBits {E T : Nat} (h1 : 960 ≤ E) (h2 : E ≤ 1080) (hT : T < 2 ^ 52) : pJxe99ae_doubleToLongBits_ccdee (nU E T) = some (nU E T).toInt64 := by
  unfold pJxe99ae_doubleToLongBits_ccdee pJxe99ae_isNaN_b9ae7
  rw [if_pos (d_self (by omega) (by omega) hT _), Option.bind_some, if_pos rfl]
theorem d_32 : ∀ P, P < 129 → FP.dmul 4629700416936869888 (FP.i2d (nI P)) = FP.i2d (nI (32 * P)) := by decide +kernel
theorem d_i2d {n : Nat} (h0 : 0 < n) (hn : n < 2 ^ 31) : ∃ (c L : Nat), FP.Core.decode FP.Core.b64 (FP.i2d (nI n)).toNat = .fin false c ((L : Int) - 52) ∧ 2 ^ 52 ≤ c ∧ c < 2 ^ 53 ∧ L < 31 ∧ ∃ (E T : Nat), FP.i2d (nI n) = nU E T ∧ E ≤ 1100 ∧ T < 2 ^ 52 := by
  obtain ⟨L, hL1, hL2⟩ : ∃ L, 2 ^ L ≤ n ∧ n < 2 ^ (L + 1) := ⟨n.log2, (Nat.le_log2 (by omega)).mp (Nat.le_refl _), (Nat.log2_lt (by omega)).mp (Nat.lt_succ_self _)⟩
  have hL : L < 31 := by
    rcases Nat.lt_or_ge L 31 with h | h
    · exact h
    · have := Nat.pow_le_pow_right (show 0 < 2 by omega) h
      omega
  have hp : 2 ^ L * 2 ^ (52 - L) = 2 ^ 52 := by rw [← Nat.pow_add]; exact congrArg _ (by omega)
  have hm1 : 2 ^ 52 ≤ n * 2 ^ (52 - L) := by rw [← hp]; exact Nat.mul_le_mul_right _ hL1
  have hm2 : n * 2 ^ (52 - L) < 2 ^ 53 := by
    have : n * 2 ^ (52 - L) < 2 ^ (L + 1) * 2 ^ (52 - L) := Nat.mul_lt_mul_of_pos_right hL2 (Nat.two_pow_pos _)
    have h9 : 2 ^ (L + 1) * 2 ^ (52 - L) = 2 ^ 53 := by rw [← Nat.pow_add]; exact congrArg _ (by omega)
    omega
  have e : FP.i2d (nI n) = nU (L + 1023) (n * 2 ^ (52 - L) - 2 ^ 52) := by
    show UInt64.ofNat (FP.Core.fromInt FP.Core.b64 (nI n).toInt) = _
    rw [nI_toInt hn]
    unfold FP.Core.fromInt FP.Core.ofInt
    rw [show decide ((n : Int) < 0) = false from decide_eq_false (by omega), Int.natAbs_natCast, f_rnd (k := L) (m := n * 2 ^ (52 - L)) hL1 hL2 (by omega) (by omega) hm1 hm2 (Or.inl ⟨by omega, rfl⟩), f_enc (E := L + 1023) hm1 hm2 (by omega) (by omega)]
  refine ⟨n * 2 ^ (52 - L), L, ?_, hm1, hm2, hL, L + 1023, n * 2 ^ (52 - L) - 2 ^ 52, e, by omega, by omega⟩
  rw [e, nU_n (by omega) (by omega), f_dec (by omega) (by omega) (by omega), show 2 ^ 52 + (n * 2 ^ (52 - L) - 2 ^ 52) = n * 2 ^ (52 - L) by omega]
  exact congrArg _ (by omega)
theorem d_ratio {B P : Nat} (hB : 0 < B) (hB2 : B < 2 ^ 31) (hP : 0 < P) (hP2 : P < 2 ^ 31) : ∃ E T, FP.ddiv (FP.i2d (nI B)) (FP.i2d (nI P)) = nU E T ∧ 960 ≤ E ∧ E ≤ 1080 ∧ T < 2 ^ 52 := by
  obtain ⟨c, L, c1, c2, c3, c4, _⟩ := d_i2d hB hB2
  obtain ⟨d, M, d1, d2, d3, d4, _⟩ := d_i2d hP hP2
  obtain ⟨m, q, e1, e2, e3, e4, e5⟩ := d_quo (e := (L : Int) - 52 - ((M : Int) - 52)) c2 c3 d2 d3 (by omega) (by omega)
  refine ⟨(q + 1075).toNat, m - 2 ^ 52, ?_, by omega, by omega, by omega⟩
  show UInt64.ofNat (FP.Core.encode FP.Core.b64 (FP.Core.quotient FP.Core.b64 (FP.Core.decode FP.Core.b64 (FP.i2d (nI B)).toNat) (FP.Core.decode FP.Core.b64 (FP.i2d (nI P)).toNat))) = _
  rw [c1, d1]
  show UInt64.ofNat (FP.Core.encode FP.Core.b64 (if d = 0 then _ else FP.Core.roundRatio FP.Core.b64 false c d ((L : Int) - 52 - ((M : Int) - 52)))) = _
  rw [if_neg (by omega), e1, f_enc (E := (q + 1075).toNat) e2 e3 (by omega) (by omega)]
theorem ct_pos (C : AC) (b : Nat) : 0 < ct C b := by
  unfold ct tot
  omega
theorem sm_posA {f : Nat → Nat} {n : Nat} (h : ∀ b, b < n → 0 < f b) (hn : 0 < n) : 0 < sm f n := by
  obtain ⟨m, rfl⟩ : ∃ m, n = m + 1 := ⟨n - 1, by omega⟩
  have := h m (by omega)
  have e : sm f (m + 1) = sm f m + f m := rfl
  omega
theorem sm_cap {f : Nat → Nat} {n k : Nat} (h : ∀ b, b < n → f b < k) : sm f n ≤ n * k := by
  induction n with
  | zero => exact Nat.zero_le _
  | succ m ih =>
    have := ih (fun b hb => h b (by omega))
    have h2 := h m (by omega)
    have e : sm f (m + 1) = sm f m + f m := rfl
    rw [Nat.succ_mul]
    omega
theorem q_ratio {a : Nat → Int32} {v1 bk hd : Int32} {tl : Nat → Int64} {fc : Nat → Int32} {C : AC} {xc : Nat → Option Nat} (xv xw xp xs : Int32) (vs : Nat → Int32) (ps : Nat → Int64) (h : COL a v1 bk hd tl fc C) : ∃ z, pX10_ratio v1 xv xw xp xs a vs ps = some z ∧ pX9_ratio v1 xc bk hd fc = some z.1 := by
  obtain ⟨⟨rfl, rfl, hT, hP, hF⟩, ho, hr⟩ := h
  have hn := ho.1
  have hl := ho.2.1
  have hH : ∀ k, k < HL C → tl k = enc (TV C k) := hT
  unfold pX10_ratio pX9_ratio pX9_withBlocks
  rcases col_cases v1 with ⟨c, hc, rfl⟩ | hv
  · have hR := hr c hc rfl
    rcases Nat.eq_zero_or_pos (NB C) with h0 | h0
    · have hL : HL C = 0 := by unfold HL; rw [h0]; rfl
      simp (disch := omega) only [n_l0, n_l1, n_l2, n_l3, n_l4, n_l5, n_l6, n_l7, n_l8, n_l9, n_l15, n_l16, n_l17, n_l20, n_l24, n_l31, n_l32, n_l33, n_l36, n_l48, n_l49, n_l97, n_l128, n_l129, n_l192, n_l225, n_l256, n_l353, n_l400, n_l512, n_l593, n_l621, n_l640, n_l857, n_l1093, n_l1095, n_l2048, n_l3225, n_l10000, n_l22955, n_l29988, n_l29989, n_l65536, n_l99999, n_l1000000000, n_l2147483647, nI_add, pk_mul, pk_sub, pk_div, nI_clamp, ckN, nI_leI, nI_ltI, nI_eq, nI_nm1, Nat.add_zero, nI_addneg, k_ush, true_or, or_true, false_or, or_false, true_and, and_true, false_and, and_false, not_true_eq_false, not_false_eq_true, if_true, if_false, if_pos, if_neg, Option.bind_some, r_isCol hc, r_blocks hc hR, r_places hc hR hn, eHL, k_col hc, hL, h0]
      exact ⟨_, rfl, rfl⟩
    · have hLp : 0 < HL C := sm_posA (fun b hb => (ho.2.2 b hb).1) h0
      have hBp : 0 < sm (ct C) (NB C) := sm_posA (fun b _ => ct_pos C b) h0
      have hBm : sm (ct C) (NB C) ≤ NB C * 2000 := sm_cap (fun b hb => ct_lt (ho.2.2 b hb))
      obtain ⟨z, ez, hz⟩ := r_bitsOfColumn xv xw xp xs vs ps hc hR ho
      obtain ⟨E, T, e1, e2, e3, e4⟩ := d_ratio (B := sm (ct C) (NB C)) (P := 32 * HL C) hBp (by omega) (by omega) (by omega)
      obtain ⟨_, _, _, _, _, _, E2, T2, f1, f2, f3⟩ := d_i2d (n := 32 * HL C) (by omega) (by omega)
      simp (disch := omega) only [n_l0, n_l1, n_l2, n_l3, n_l4, n_l5, n_l6, n_l7, n_l8, n_l9, n_l15, n_l16, n_l17, n_l20, n_l24, n_l31, n_l32, n_l33, n_l36, n_l48, n_l49, n_l97, n_l128, n_l129, n_l192, n_l225, n_l256, n_l353, n_l400, n_l512, n_l593, n_l621, n_l640, n_l857, n_l1093, n_l1095, n_l2048, n_l3225, n_l10000, n_l22955, n_l29988, n_l29989, n_l65536, n_l99999, n_l1000000000, n_l2147483647, nI_add, pk_mul, pk_sub, pk_div, nI_clamp, ckN, nI_leI, nI_ltI, nI_eq, nI_nm1, Nat.add_zero, nI_addneg, k_ush, true_or, or_true, false_or, or_false, true_and, and_true, false_and, and_false, not_true_eq_false, not_false_eq_true, if_true, if_false, if_pos, if_neg, Option.bind_some, r_isCol hc, r_blocks hc hR, r_places hc hR hn, eHL, k_col hc, ez, hz, show (5 : Int32) = nI 5 from rfl, k_allBits ho hF]
      rw [d_32 (HL C) (by omega)]
      rw [e1, f1, nn_ok f2 f3, nn_ok (by omega) e4, nn_ok (by omega) e4, k_bitsOfDouble e2 e3 e4, r_rawBits e2 e3 e4]
      exact ⟨_, rfl, rfl⟩
  · simp (disch := omega) only [n_l0, n_l1, n_l2, n_l3, n_l4, n_l5, n_l6, n_l7, n_l8, n_l9, n_l15, n_l16, n_l17, n_l20, n_l24, n_l31, n_l32, n_l33, n_l36, n_l48, n_l49, n_l97, n_l128, n_l129, n_l192, n_l225, n_l256, n_l353, n_l400, n_l512, n_l593, n_l621, n_l640, n_l857, n_l1093, n_l1095, n_l2048, n_l3225, n_l10000, n_l22955, n_l29988, n_l29989, n_l65536, n_l99999, n_l1000000000, n_l2147483647, nI_add, pk_mul, pk_sub, pk_div, nI_clamp, ckN, nI_leI, nI_ltI, nI_eq, nI_nm1, Nat.add_zero, nI_addneg, k_ush, true_or, or_true, false_or, or_false, true_and, and_true, false_and, and_false, not_true_eq_false, not_false_eq_true, if_true, if_false, if_pos, if_neg, Option.bind_some, r_isColO hv, k_colO hv, Bool.false_eq_true]
    exact ⟨_, rfl, rfl⟩
