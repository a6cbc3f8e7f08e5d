/-! ===== numbers off the tape ===== -/
def tb (tw : Nat → Int32) (j : Nat) : Bool := bt (tw (j / 32)) (j % 32)
def num (tw : Nat → Int32) (p : Nat) : Nat → Nat
  | 0 => 0
  | n + 1 => num tw p n ||| (if tb tw (p + n) then 2 ^ n else 0)
theorem num_s (tw : Nat → Int32) (p n : Nat) : num tw p (n + 1) = num tw p n ||| (if tb tw (p + n) then 2 ^ n else 0) := rfl
theorem num_lt (tw : Nat → Int32) (p : Nat) : ∀ n, num tw p n < 2 ^ n := by
  intro n
  induction n with
  | zero => exact Nat.one_pos
  | succ m ih =>
    rw [num_s]
    refine Nat.or_lt_two_pow (Nat.lt_of_lt_of_le ih (Nat.pow_le_pow_right (by omega) (by omega))) ?_
    split
    · exact Nat.pow_lt_pow_right (by omega) (by omega)
    · exact Nat.two_pow_pos _
theorem num_tb (tw : Nat → Int32) (p : Nat) (i : Nat) : ∀ n, (num tw p n).testBit i = (decide (i < n) && tb tw (p + i)) := by
  intro n
  induction n with
  | zero => rw [show num tw p 0 = 0 from rfl, Nat.zero_testBit, decide_eq_false (by omega), Bool.false_and]
  | succ m ih =>
    rw [num_s, Nat.testBit_or, ih]
    by_cases hi : i = m
    · subst hi
      rw [decide_eq_false (Nat.lt_irrefl i), Bool.false_and, Bool.false_or, decide_eq_true (Nat.lt_succ_self i), Bool.true_and]
      cases tb tw (p + i) with
      | true => rw [if_pos rfl, Nat.testBit_two_pow_self]
      | false => rw [if_neg Bool.false_ne_true, Nat.zero_testBit]
    · have e : (if tb tw (p + m) = true then 2 ^ m else 0).testBit i = false := by
        split
        · rw [Nat.testBit_two_pow]; exact decide_eq_false (fun q => hi q.symm)
        · exact Nat.zero_testBit i
      rw [e, Bool.or_false]
      congr 1
      exact decide_eq_decide.mpr (by omega)
theorem num_cg {tw hw : Nat → Int32} {p : Nat} : ∀ n, (∀ i, i < n → tb hw (p + i) = tb tw (p + i)) → num hw p n = num tw p n := by
  intro n
  induction n with
  | zero => intro _; rfl
  | succ m ih => intro h; rw [num_s, num_s, ih (fun i hi => h i (by omega)), h m (by omega)]
theorem lN_or (a b : Nat) : lN a ||| lN b = lN (a ||| b) := by
  refine Int64.toBitVec_inj.mp (BitVec.eq_of_toNat_eq ?_)
  rw [Int64.toBitVec_or, BitVec.toNat_or, lN_bv, lN_bv, lN_bv, BitVec.toNat_ofNat, BitVec.toNat_ofNat, BitVec.toNat_ofNat, Nat.or_mod_two_pow]
theorem nI_or (a b : Nat) : nI a ||| nI b = nI (a ||| b) := by
  refine Int32.toBitVec_inj.mp (BitVec.eq_of_toNat_eq ?_)
  rw [Int32.toBitVec_or, BitVec.toNat_or]
  show (BitVec.ofNat 32 a).toNat ||| (BitVec.ofNat 32 b).toNat = (BitVec.ofNat 32 (a ||| b)).toNat
  rw [BitVec.toNat_ofNat, BitVec.toNat_ofNat, BitVec.toNat_ofNat, Nat.or_mod_two_pow]
theorem l_shl {k : Nat} (hk : k < 63) : (1 : Int64) <<< ((nI k).toInt64 &&& 63) = lN (2 ^ k) := by
  rw [wb_c k (by omega)]
  refine Int64.toBitVec_inj.mp ?_
  show (1#64) <<< ((BitVec.ofNat 64 k).smod 64) = BitVec.ofNat 64 (2 ^ k)
  rw [wb_sm k (by omega)]
  show (1#64) <<< (BitVec.ofNat 64 k).toNat = BitVec.ofNat 64 (2 ^ k)
  refine BitVec.eq_of_toNat_eq ?_
  rw [BitVec.toNat_shiftLeft, BitVec.toNat_ofNat, BitVec.toNat_ofNat, Nat.mod_eq_of_lt (show k < 2 ^ 64 by omega), Nat.shiftLeft_eq]
  show (1 * 2 ^ k) % 2 ^ 64 = _
  rw [Nat.one_mul, BitVec.toNat_ofNat]
theorem i_shl : ∀ k, k < 32 → (nI 1 : Int32) <<< (nI k &&& 31) = nI (2 ^ k) ∧ (nI 0 : Int32) <<< (nI k &&& 31) = nI 0 := by decide +kernel
theorem lN_i32 (m : Nat) : (lN m).toInt32 = nI m := by
  refine Int32.toBitVec_inj.mp ?_
  show (BitVec.ofNat 64 m).signExtend 32 = BitVec.ofNat 32 m
  rw [BitVec.signExtend_eq_setWidth_of_le _ (by omega)]
  refine BitVec.eq_of_toNat_eq ?_
  rw [BitVec.toNat_setWidth, BitVec.toNat_ofNat, BitVec.toNat_ofNat]
  exact Nat.mod_mod_of_dvd m (by decide)
theorem r_bitI {k : Nat} (hk : k < 32) (x : Int32) : ((x >>> (nI k &&& 31)) &&& 1 = 1) ↔ bt x k = true := by
  have e0 : nI k &&& 31 = nI k := by
    have : ∀ k, k < 32 → nI k &&& 31 = nI k := by decide +kernel
    exact this k hk
  have hsm : (BitVec.ofNat 32 k).smod 32 = BitVec.ofNat 32 k := by
    have : ∀ k, k < 32 → (BitVec.ofNat 32 k).smod 32 = BitVec.ofNat 32 k := by decide +kernel
    exact this k hk
  rw [e0]
  have e1 : (x >>> nI k).toBitVec = x.toBitVec.sshiftRight k := by
    show x.toBitVec.sshiftRight' ((BitVec.ofNat 32 k).smod 32) = _
    rw [hsm]
    show x.toBitVec.sshiftRight (BitVec.ofNat 32 k).toNat = _
    rw [BitVec.toNat_ofNat, Nat.mod_eq_of_lt (by omega)]
  have b0 : bt (x >>> nI k) 0 = bt x k := by
    unfold bt
    rw [e1, BitVec.getLsbD_sshiftRight]
    have h3 : decide (32 ≤ 0) = false := by decide
    rw [h3, Nat.add_zero, if_pos (by omega)]
    rfl
  have b1 : bt ((x >>> nI k) &&& 1) 0 = bt x k := by
    rw [b_and, b0, bt_1, decide_eq_true rfl, Bool.and_true]
  constructor
  · intro h
    rw [h] at b1
    rw [← b1, bt_1]; rfl
  · intro h
    refine b_ext (fun i hi => ?_)
    rw [bt_1]
    rcases Nat.eq_zero_or_pos i with h0 | h0
    · subst h0; rw [b1, h]; rfl
    · rw [b_and, bt_1, decide_eq_false (by omega), Bool.and_false]
section Next
variable {T : Nat} {tw : Nat → Int32}
theorem r_nextN {p n : Nat} (hT : T ≤ 400) (hn : n ≤ 32) (hp : p + n ≤ 32 * T) : ∃ x, lp (pX10_next_b42 (nI n) (nI p) tw) FU (lN 0, nI 0) = some (lN (num tw p n), x) := by
  obtain ⟨r, e, hr⟩ := lpE (body := pX10_next_b42 (nI n) (nI p) tw) (fun k s => s.1 = lN (num tw p k) ∧ s.2 = nI k) (fun r => r.1 = lN (num tw p n)) n (lN 0, nI 0) ⟨rfl, rfl⟩ (fun k s hk hI => by
    obtain ⟨s1, s2⟩ := s
    obtain ⟨rfl, rfl⟩ := hI
    unfold pX10_next_b42 pX10_next_b42j87
    rcases Nat.lt_or_ge k n with h9 | h9
    · refine Or.inl ?_
      have e1 : nI (p + k) - nI ((p + k) / 32 * 32) = nI ((p + k) % 32) := by
        rw [pk_sub (Nat.div_mul_le_self _ _)]
        exact congrArg nI (by omega)
      rw [if_neg (show ¬ nI n ≤ nI k by rw [nI_leI (by omega) (by omega)]; omega)]
      dsimp only
      rw [nI_add, n_l32, pk_div (by omega) (by omega) (by omega), pk_mul, e1, ckN (by omega) (by omega), nI_clamp (by omega)]
      by_cases hb : bt (tw ((p + k) / 32)) ((p + k) % 32) = true
      · rw [if_pos ((r_bitI (Nat.mod_lt _ (by omega)) _).mpr hb), l_shl (by omega), lN_or, n_l1, nI_add]
        exact ⟨_, rfl, h9, by rw [num_s, if_pos (show tb tw (p + k) = true from hb)], rfl⟩
      · rw [if_neg (fun q => hb ((r_bitI (Nat.mod_lt _ (by omega)) _).mp q)), n_l1, nI_add]
        exact ⟨_, rfl, h9, by rw [num_s, if_neg (show ¬ tb tw (p + k) = true from hb), Nat.or_zero], rfl⟩
    · obtain rfl : k = n := by omega
      exact Or.inr ⟨_, if_pos (Int32.le_refl _), rfl⟩)
  obtain ⟨r1, r2⟩ := r
  refine ⟨r2, ?_⟩
  rw [e]
  replace hr : r1 = lN (num tw p n) := hr
  rw [hr]
theorem r_next {p n : Nat} {fp : Int32} (hT : T ≤ 400) (hn : n ≤ 32) (hp : p ≤ 32 * T) : pX10_next (nI n) (nI T) (nI p) 0 fp tw = some (if p + n ≤ 32 * T then (lN (num tw p n), nI (p + n), 0, fp) else (0, nI p, 1, nI p)) := by
  unfold pX10_next pX10_wrong
  rw [if_pos rfl]
  by_cases h : p + n ≤ 32 * T
  · obtain ⟨x, e⟩ := r_nextN (tw := tw) hT hn h
    have e' : lp (pX10_next_b42 (nI n) (nI p) tw) FU (0, 0) = some (lN (num tw p n), x) := e
    rw [nI_add, n_l32, pk_mul, if_pos (nI_le h (by omega)), e', Option.bind_some, if_pos h]
  · rw [nI_add, n_l32, pk_mul, if_neg (show ¬ nI (p + n) ≤ nI (32 * T) by rw [nI_leI (by omega) (by omega)]; exact h), if_neg h]
    rfl
theorem k_bitAt {j : Nat} (hT : T ≤ 400) (hj : j < 32 * T) : pX8_bitAt (nI j) (nI T) tw = some (if tb tw j then nI 1 else nI 0) := by
  have e1 : nI j - nI (j / 32 * 32) = nI (j % 32) := by
    rw [pk_sub (Nat.div_mul_le_self _ _)]
    exact congrArg nI (by omega)
  have hh : pX8_has (nI (j / 32)) (nI T) = some (nI 1) := by
    unfold pX8_has
    simp (disch := omega) only [n_l0, n_l1, n_l2, n_l3, n_l4, n_l5, n_l6, n_l7, n_l8, n_l9, n_l15, n_l16, n_l17, n_l20, n_l24, n_l31, n_l32, n_l33, n_l36, n_l48, n_l49, n_l97, n_l128, n_l129, n_l192, n_l225, n_l256, n_l353, n_l400, n_l512, n_l593, n_l621, n_l640, n_l857, n_l1093, n_l1095, n_l2048, n_l3225, n_l10000, n_l22955, n_l29988, n_l29989, n_l65536, n_l99999, n_l1000000000, n_l2147483647, nI_add, pk_mul, pk_sub, pk_div, nI_clamp, ckN, nI_leI, nI_ltI, nI_eq, nI_nm1, Nat.add_zero, nI_addneg, k_ush, true_or, or_true, false_or, or_false, true_and, and_true, false_and, and_false, not_true_eq_false, not_false_eq_true, if_true, if_false, if_pos, if_neg, Option.bind_some]
  unfold pX8_bitAt
  rw [n_l32, pk_div (by omega) (by omega) (by omega), hh, Option.bind_some, if_neg (show ¬ nI 1 = 0 by decide), ckN (by omega) (by omega), nI_clamp (by omega), pk_mul, e1, n_l1, k_bit1 (Nat.mod_lt _ (by omega))]
  rfl
theorem k_numberN {p n : Nat} (hT : T ≤ 400) (hn : n ≤ 32) (hp : p + n ≤ 32 * T) : ∃ x, lp (pX4_number_b26 (nI n) 0 (nI T) tw) FU (nI 0, nI 0, nI p) = some (nI (num tw p n), x, nI (p + n)) := by
  obtain ⟨r, e, hr⟩ := lpE (body := pX4_number_b26 (nI n) 0 (nI T) tw) (fun k s => s.1 = nI (num tw p k) ∧ s.2.1 = nI k ∧ s.2.2 = nI (p + k)) (fun r => r.1 = nI (num tw p n) ∧ r.2.2 = nI (p + n)) n (nI 0, nI 0, nI p) ⟨rfl, rfl, rfl⟩ (fun k s hk hI => by
    obtain ⟨s1, s2, s3⟩ := s
    obtain ⟨rfl, g2, g3⟩ := hI
    replace g2 : s2 = nI k := g2
    replace g3 : s3 = nI (p + k) := g3
    subst g2 g3
    unfold pX4_number_b26
    rcases Nat.lt_or_ge k n with h9 | h9
    · refine Or.inl ?_
      obtain ⟨q1, q2⟩ := i_shl k (by omega)
      rw [if_neg (show ¬ nI n ≤ nI k by rw [nI_leI (by omega) (by omega)]; omega), if_pos rfl, k_bitAt hT (by omega), Option.bind_some]
      dsimp only
      rw [n_l1, nI_add, nI_add]
      refine ⟨_, rfl, h9, ?_, rfl, rfl⟩
      show nI (num tw p k) ||| ((if tb tw (p + k) = true then nI 1 else nI 0) <<< (nI k &&& 31)) = _
      rw [num_s]
      cases tb tw (p + k) with
      | true => rw [if_pos rfl, if_pos rfl, q1, nI_or]
      | false => rw [if_neg Bool.false_ne_true, if_neg Bool.false_ne_true, q2, nI_or]
    · obtain rfl : k = n := by omega
      exact Or.inr ⟨_, if_pos (Int32.le_refl _), rfl, rfl⟩)
  obtain ⟨r1, r2, r3⟩ := r
  obtain ⟨h1, h3⟩ := hr
  replace h1 : r1 = nI (num tw p n) := h1
  replace h3 : r3 = nI (p + n) := h3
  exact ⟨r2, by rw [e, h1, h3]⟩
theorem k_numberF {v kd : Int32} (h : ¬ kd = 0) (hv : ¬ v ≤ 0 ∨ v ≤ 0) (p : Int32) : lp (pX4_number_b26 v kd (nI T) tw) FU (0, 0, p) = some (0, 0, p) := by
  obtain ⟨r, e, hr⟩ := lpE (body := pX4_number_b26 v kd (nI T) tw) (fun _ s => s = (0, 0, p)) (fun r => r = (0, 0, p)) 1 (0, 0, p) rfl (fun k s hk hI => by
    subst hI
    refine Or.inr ?_
    unfold pX4_number_b26
    by_cases h1 : v ≤ 0
    · exact ⟨_, if_pos h1, rfl⟩
    · exact ⟨_, by dsimp only; rw [if_neg h1, if_neg h], rfl⟩)
  rw [e, hr]
/-- once refused, the class reads zeros and keeps the fault -/
theorem k_numberO {v kd wh p : Int32} (h : ¬ kd = 0) : pX4_number v kd wh p (nI T) tw = some (0, kd, wh, p) := by
  have e := k_numberF (T := T) (tw := tw) (v := v) h (Decidable.em _).symm p
  unfold pX4_number pX4_number_j22 pX4_endOfTape pX4_refuse
  rw [Option.bind_some, if_neg h, Option.bind_some, e, Option.bind_some]
  split <;> rfl
theorem k_number {p n : Nat} {wh : Int32} (hT : T ≤ 400) (hn : n ≤ 32) (hp : p ≤ 32 * T) : pX4_number (nI n) 0 wh (nI p) (nI T) tw = some (if p + n ≤ 32 * T then (nI (num tw p n), 0, wh, nI (p + n)) else (0, 1, nI p, nI p)) := by
  unfold pX4_number pX4_number_j22 pX4_endOfTape pX4_refuse
  rw [Option.bind_some, n_l32, pk_mul, nI_add]
  by_cases h : p + n ≤ 32 * T
  · obtain ⟨x, e⟩ := k_numberN (tw := tw) hT hn h
    have e' : lp (pX4_number_b26 (nI n) 0 (nI T) tw) FU (0, 0, nI p) = some (nI (num tw p n), x, nI (p + n)) := e
    rw [if_pos (nI_le (show p + n ≤ T * 32 by omega) (by omega)), e', Option.bind_some, if_pos h]
  · rw [if_neg (show ¬ nI (p + n) ≤ nI (T * 32) by rw [nI_leI (by omega) (by omega)]; omega), if_neg h, if_pos rfl, Option.bind_some, k_numberF (show ¬ (1 : Int32) = 0 by decide) (Decidable.em _).symm, Option.bind_some]
end Next
