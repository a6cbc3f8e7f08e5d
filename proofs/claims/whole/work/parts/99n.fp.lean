/-! ===== doubles: halves, doubles, bits ===== -/
abbrev nd (E T : Nat) : Nat := E * 2 ^ 52 + T
abbrev nU (E T : Nat) : UInt64 := UInt64.ofNat (nd E T)
theorem fb_t : FP.Core.b64.tails = 2 ^ 52 := by decide
theorem fb_e : FP.Core.b64.exps = 2048 := by decide
theorem fb_q : FP.Core.b64.qmin = -1074 := by decide
theorem fb_x : FP.Core.b64.qmax = 971 := by decide
theorem fb_p : FP.Core.b64.p = 53 := rfl
theorem nd_lt {E T : Nat} (hE : E < 2047) (hT : T < 2 ^ 52) : nd E T < 2 ^ 63 := by unfold nd; omega
theorem nU_n {E T : Nat} (hE : E < 2047) (hT : T < 2 ^ 52) : (nU E T).toNat = nd E T := by
  have := nd_lt hE hT
  have e : UInt64.size = 2 ^ 64 := rfl
  exact UInt64.toNat_ofNat_of_lt' (by omega)
theorem f_dec {E T : Nat} (h1 : 1 ≤ E) (hE : E < 2047) (hT : T < 2 ^ 52) : FP.Core.decode FP.Core.b64 (nd E T) = .fin false (2 ^ 52 + T) ((E : Int) - 1075) := by
  have e1 : FP.Core.fieldE FP.Core.b64 (nd E T) = E := by
    unfold FP.Core.fieldE nd; rw [fb_t, fb_e]; omega
  have e2 : FP.Core.fieldT FP.Core.b64 (nd E T) = T := by
    unfold FP.Core.fieldT nd; rw [fb_t]; omega
  have e3 : FP.Core.fieldS FP.Core.b64 (nd E T) = false := by
    unfold FP.Core.fieldS nd; rw [fb_t, fb_e]
    have : (E * 2 ^ 52 + T) / 2 ^ 52 / 2048 % 2 = 0 := by omega
    rw [this]; rfl
  unfold FP.Core.decode
  rw [e1, e2, e3, fb_e, fb_t, fb_q, if_neg (by omega), if_neg (by omega)]
  exact congrArg _ (by omega)
theorem f_enc {c : Nat} {q : Int} (h1 : 2 ^ 52 ≤ c) (h2 : c < 2 ^ 53) {E : Nat} (hq : q = (E : Int) - 1075) (hE : 1 ≤ E) : FP.Core.encode FP.Core.b64 (.fin false c q) = nd E (c - 2 ^ 52) := by
  show (if c < FP.Core.b64.tails then FP.Core.assemble FP.Core.b64 false 0 c else FP.Core.assemble FP.Core.b64 false ((q - FP.Core.b64.qmin).toNat + 1) (c - FP.Core.b64.tails)) = _
  rw [fb_t, fb_q, if_neg (by omega)]
  unfold FP.Core.assemble
  rw [fb_t, fb_e, show (q - -1074).toNat + 1 = E by omega]
  unfold nd
  simp
theorem f_log {c : Nat} {k : Nat} (h1 : 2 ^ k ≤ c) (h2 : c < 2 ^ (k + 1)) : c.log2 = k := by
  have hc : c ≠ 0 := by have := Nat.two_pow_pos k; omega
  have a := (Nat.le_log2 hc).mpr h1
  have b := (Nat.log2_lt hc).mpr h2
  omega
/-- an exact number of 53 digits at most, no rounding -/
theorem f_rnd {c k : Nat} {e : Int} (h1 : 2 ^ k ≤ c) (h2 : c < 2 ^ (k + 1)) (hq : -1074 ≤ (k : Int) + e - 52) (hx : (k : Int) + e - 52 ≤ 900) {m : Nat} (hm1 : 2 ^ 52 ≤ m) (hm2 : m < 2 ^ 53) (hm : (k ≤ 52 ∧ c * 2 ^ (52 - k) = m) ∨ (52 ≤ k ∧ c = m * 2 ^ (k - 52))) : FP.Core.round FP.Core.b64 (.fin false c e) = .fin false m ((k : Int) + e - 52) := by
  have hc : c ≠ 0 := by have := Nat.two_pow_pos k; omega
  have hL : FP.Core.leading c 1 = (k : Int) := by
    unfold FP.Core.leading
    have l1 : (1 : Nat).log2 = 0 := by decide
    simp only [f_log h1 h2, l1]
    rw [if_pos]
    · omega
    · rw [show ((k : Int) - ((0 : Nat) : Int)).toNat = k by omega, show (-((k : Int) - ((0 : Nat) : Int))).toNat = 0 by omega]
      omega
  show FP.Core.roundRatio FP.Core.b64 false c 1 e = _
  unfold FP.Core.roundRatio
  rw [if_neg hc]
  have hQ : FP.Core.quantum FP.Core.b64 c 1 e = (k : Int) + e - 52 := by
    unfold FP.Core.quantum
    rw [hL, fb_q, fb_p]
    omega
  rw [hQ]
  unfold FP.Core.roundAt FP.Core.unitsNum FP.Core.unitsDen
  have hN : FP.Core.nearest (c * 2 ^ (e - ((k : Int) + e - 52)).toNat) (1 * 2 ^ ((k : Int) + e - 52 - e).toNat) = m := by
    rcases hm with ⟨g1, g2⟩ | ⟨g1, g2⟩
    · rw [show (e - ((k : Int) + e - 52)).toNat = 52 - k by omega, show ((k : Int) + e - 52 - e).toNat = 0 by omega, g2]
      unfold FP.Core.nearest
      rw [Nat.pow_zero, Nat.mul_one, Nat.mod_one, if_pos (by omega), Nat.div_one]
    · rw [show (e - ((k : Int) + e - 52)).toNat = 0 by omega, show ((k : Int) + e - 52 - e).toNat = k - 52 by omega, g2]
      have hp := Nat.two_pow_pos (k - 52)
      unfold FP.Core.nearest
      rw [Nat.pow_zero, Nat.mul_one, Nat.one_mul, Nat.mul_mod_left, if_pos (by omega), Nat.mul_div_cancel _ hp]
  rw [hN]
  unfold FP.Core.settle FP.Core.bound
  rw [fb_p, if_pos hm2, fb_x, if_pos (by omega)]
theorem f_two : FP.Core.decode FP.Core.b64 4611686018427387904 = .fin false (2 ^ 52) (-51) := by
  have := f_dec (E := 1024) (T := 0) (by omega) (by omega) (by omega)
  exact this
theorem f_one : FP.Core.decode FP.Core.b64 4607182418800017408 = .fin false (2 ^ 52) (-52) := by
  have := f_dec (E := 1023) (T := 0) (by omega) (by omega) (by omega)
  exact this
theorem f_52 : FP.Core.decode FP.Core.b64 4841369599423283200 = .fin false (2 ^ 52) 0 := by
  have := f_dec (E := 1075) (T := 0) (by omega) (by omega) (by omega)
  exact this
theorem d_mul2 {E T : Nat} (h1 : 900 ≤ E) (h2 : E ≤ 1100) (hT : T < 2 ^ 52) : FP.dmul (nU E T) 4611686018427387904 = nU (E + 1) T := by
  show UInt64.ofNat (FP.Core.mul FP.Core.b64 (nU E T).toNat 4611686018427387904) = _
  unfold FP.Core.mul
  rw [nU_n (by omega) hT, f_dec (by omega) (by omega) hT, f_two]
  unfold FP.Core.exactProduct
  show UInt64.ofNat (FP.Core.encode FP.Core.b64 (FP.Core.round FP.Core.b64 (.fin false ((2 ^ 52 + T) * 2 ^ 52) ((E : Int) - 1075 + -51)))) = _
  rw [f_rnd (k := 104) (m := 2 ^ 52 + T) (by omega) (by omega) (by omega) (by omega) (by omega) (by omega) (Or.inr ⟨by omega, rfl⟩), f_enc (E := E + 1) (by omega) (by omega) (by omega) (by omega), Nat.add_sub_cancel_left]
/-- a quotient of two numbers of 53 digits -/
theorem d_quo {c d : Nat} {e : Int} (hc1 : 2 ^ 52 ≤ c) (hc2 : c < 2 ^ 53) (hd1 : 2 ^ 52 ≤ d) (hd2 : d < 2 ^ 53) (he : -500 ≤ e) (he2 : e ≤ 500) : ∃ m q, FP.Core.roundRatio FP.Core.b64 false c d e = .fin false m q ∧ 2 ^ 52 ≤ m ∧ m < 2 ^ 53 ∧ e - 53 ≤ q ∧ q ≤ e - 51 := by
  have lc := f_log hc1 hc2
  have ld := f_log hd1 hd2
  have key : ∃ j : Nat, j ≤ 1 ∧ FP.Core.leading c d = -(j : Int) ∧ d ≤ c * 2 ^ j ∧ c * 2 ^ j < 2 * d := by
    unfold FP.Core.leading
    simp only [lc, ld]
    rw [show (((52 : Nat) : Int) - ((52 : Nat) : Int)).toNat = 0 by omega, show (-(((52 : Nat) : Int) - ((52 : Nat) : Int))).toNat = 0 by omega, Nat.pow_zero, Nat.mul_one, Nat.mul_one]
    by_cases h : d ≤ c
    · rw [if_pos h]; exact ⟨0, by omega, by omega, by omega, by omega⟩
    · rw [if_neg h]; exact ⟨1, by omega, by omega, by omega, by omega⟩
  obtain ⟨j, hj, hL, g1, g2⟩ := key
  have hQ : FP.Core.quantum FP.Core.b64 c d e = e - 52 - j := by
    unfold FP.Core.quantum
    rw [hL, fb_q, fb_p]
    omega
  unfold FP.Core.roundRatio
  rw [if_neg (by omega), hQ]
  unfold FP.Core.roundAt FP.Core.unitsNum FP.Core.unitsDen
  rw [show (e - (e - 52 - (j : Int))).toNat = 52 + j by omega, show (e - 52 - (j : Int) - e).toNat = 0 by omega, Nat.pow_zero, Nat.mul_one]
  have hN : 2 ^ 52 ≤ FP.Core.nearest (c * 2 ^ (52 + j)) d ∧ FP.Core.nearest (c * 2 ^ (52 + j)) d ≤ 2 ^ 53 := by
    have hd : 0 < d := by omega
    have e1 : c * 2 ^ (52 + j) = (c * 2 ^ j) * 2 ^ 52 := by rw [Nat.pow_add, Nat.mul_comm (2 ^ 52), Nat.mul_assoc]
    have q1 : 2 ^ 52 ≤ c * 2 ^ (52 + j) / d := by
      rw [Nat.le_div_iff_mul_le hd, e1, Nat.mul_comm]
      exact Nat.mul_le_mul_right _ g1
    have q2 : c * 2 ^ (52 + j) / d < 2 ^ 53 := by
      rw [Nat.div_lt_iff_lt_mul hd, e1]
      omega
    unfold FP.Core.nearest
    split
    · omega
    · split <;> omega
  obtain ⟨n1, n2⟩ := hN
  unfold FP.Core.settle FP.Core.bound
  rw [fb_p, fb_x, fb_t]
  by_cases h : FP.Core.nearest (c * 2 ^ (52 + j)) d < 2 ^ 53
  · rw [if_pos h, if_pos (by omega)]
    exact ⟨_, _, rfl, n1, h, by omega, by omega⟩
  · rw [if_neg h, if_pos (by omega)]
    exact ⟨_, _, rfl, by omega, by omega, by omega, by omega⟩
theorem d_div2 {E T : Nat} (h1 : 900 ≤ E) (h2 : E ≤ 1100) (hT : T < 2 ^ 52) : FP.ddiv (nU E T) 4611686018427387904 = nU (E - 1) T := by
  show UInt64.ofNat (FP.Core.div FP.Core.b64 (nU E T).toNat 4611686018427387904) = _
  unfold FP.Core.div
  rw [nU_n (by omega) hT, f_dec (by omega) (by omega) hT, f_two]
  unfold FP.Core.quotient
  dsimp only
  rw [if_neg (by omega)]
  show UInt64.ofNat (FP.Core.encode FP.Core.b64 (FP.Core.roundRatio FP.Core.b64 false (2 ^ 52 + T) (2 ^ 52) ((E : Int) - 1075 - -51))) = _
  have lc := f_log (c := 2 ^ 52 + T) (k := 52) (by omega) (by omega)
  have ld := f_log (c := 2 ^ 52) (k := 52) (by omega) (by omega)
  have hL : FP.Core.leading (2 ^ 52 + T) (2 ^ 52) = 0 := by
    unfold FP.Core.leading
    simp only [lc, ld]
    rw [show (((52 : Nat) : Int) - ((52 : Nat) : Int)).toNat = 0 by omega, show (-(((52 : Nat) : Int) - ((52 : Nat) : Int))).toNat = 0 by omega, if_pos (by omega)]
    omega
  have hQ : FP.Core.quantum FP.Core.b64 (2 ^ 52 + T) (2 ^ 52) ((E : Int) - 1075 - -51) = (E : Int) - 1076 := by
    unfold FP.Core.quantum
    rw [hL, fb_q, fb_p]
    omega
  unfold FP.Core.roundRatio
  rw [if_neg (by omega), hQ]
  unfold FP.Core.roundAt FP.Core.unitsNum FP.Core.unitsDen
  rw [show ((E : Int) - 1075 - -51 - ((E : Int) - 1076)).toNat = 52 by omega, show ((E : Int) - 1076 - ((E : Int) - 1075 - -51)).toNat = 0 by omega, Nat.pow_zero, Nat.mul_one]
  have hN : FP.Core.nearest ((2 ^ 52 + T) * 2 ^ 52) (2 ^ 52) = 2 ^ 52 + T := by
    unfold FP.Core.nearest
    rw [Nat.mul_mod_left, if_pos (by omega), Nat.mul_div_cancel _ (by omega)]
  rw [hN]
  unfold FP.Core.settle FP.Core.bound
  rw [fb_p, if_pos (by omega), fb_x, if_pos (by omega), f_enc (E := E - 1) (by omega) (by omega) (by omega) (by omega), Nat.add_sub_cancel_left]
theorem d_cmp {E T R : Nat} (h1 : 900 ≤ E) (h2 : E ≤ 1100) (hT : T < 2 ^ 52) {y : UInt64} (hy : FP.Core.decode FP.Core.b64 y.toNat = .fin false (2 ^ 52) ((R : Int) - 1075)) : FP.dcmp (nU E T) y = some (if E < R then .lt else if E = R ∧ T = 0 then .eq else .gt) := by
  show FP.Core.order (FP.Core.decode FP.Core.b64 (nU E T).toNat) (FP.Core.decode FP.Core.b64 y.toNat) = _
  rw [nU_n (by omega) hT, f_dec (by omega) (by omega) hT, hy]
  show some (compare (FP.Core.signed false (FP.Core.inUnits (2 ^ 52 + T) ((E : Int) - 1075) (min ((E : Int) - 1075) ((R : Int) - 1075)))) (FP.Core.signed false (FP.Core.inUnits (2 ^ 52) ((R : Int) - 1075) (min ((E : Int) - 1075) ((R : Int) - 1075))))) = _
  unfold FP.Core.signed FP.Core.inUnits
  simp only [Bool.false_eq_true, if_false]
  refine congrArg some ?_
  rcases Nat.lt_or_ge E R with h | h
  · rw [if_pos h, Int.min_eq_left (by omega), show ((E : Int) - 1075 - ((E : Int) - 1075)).toNat = 0 by omega, show ((R : Int) - 1075 - ((E : Int) - 1075)).toNat = (R - E - 1) + 1 by omega]
    have hp := Nat.two_pow_pos (R - E - 1)
    have : (2 ^ 52 + T) * 2 ^ 0 < 2 ^ 52 * 2 ^ (R - E - 1 + 1) := by
      rw [show 2 ^ (R - E - 1 + 1) = 2 * 2 ^ (R - E - 1) from by rw [Nat.pow_succ, Nat.mul_comm], ← Nat.mul_assoc]
      have : 2 ^ 52 * 2 * 1 ≤ 2 ^ 52 * 2 * 2 ^ (R - E - 1) := Nat.mul_le_mul_left _ hp
      omega
    rw [Int.compare_eq_lt]
    exact Int.ofNat_lt.mpr this
  · rw [if_neg (by omega), Int.min_eq_right (by omega), show ((R : Int) - 1075 - ((R : Int) - 1075)).toNat = 0 by omega, show ((E : Int) - 1075 - ((R : Int) - 1075)).toNat = E - R by omega]
    have hp := Nat.two_pow_pos (E - R)
    by_cases h3 : E = R ∧ T = 0
    · rw [if_pos h3, Int.compare_eq_eq]
      obtain ⟨rfl, rfl⟩ := h3
      rw [Nat.sub_self]
    · rw [if_neg h3, Int.compare_eq_gt]
      refine Int.ofNat_lt.mpr ?_
      by_cases h4 : E = R
      · subst h4
        rw [Nat.sub_self]
        omega
      · obtain ⟨j, hj⟩ : ∃ j, E - R = j + 1 := ⟨E - R - 1, by omega⟩
        rw [hj, show 2 ^ (j + 1) = 2 * 2 ^ j from by rw [Nat.pow_succ, Nat.mul_comm], ← Nat.mul_assoc]
        have hp := Nat.two_pow_pos j
        have : (2 ^ 52 + T) * 2 * 1 ≤ (2 ^ 52 + T) * 2 * 2 ^ j := Nat.mul_le_mul_left _ hp
        omega
