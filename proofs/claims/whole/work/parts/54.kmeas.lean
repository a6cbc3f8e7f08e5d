/-! ===== the class measures ===== -/
theorem k_min (a b : Int32) : pJ9_min_7cf53 a b = some (if a ≤ b then a else b) := by
  unfold pJ9_min_7cf53
  by_cases h : a ≤ b
  · rw [if_pos h, if_neg (Int32.not_lt.mpr h)]
  · rw [if_neg h, if_pos (Int32.not_le.mp h)]
theorem k_minN {a b : Nat} (ha : a < 2 ^ 31) (hb : b < 2 ^ 31) : pJ9_min_7cf53 (nI a) (nI b) = some (nI (min a b)) := by
  rw [k_min]
  by_cases h : a ≤ b
  · simp (disch := omega) only [n_l0, n_l1, n_l2, n_l3, n_l4, n_l5, n_l6, n_l7, n_l8, n_l9, n_l15, n_l16, n_l17, n_l20, n_l24, n_l31, n_l32, n_l33, n_l36, n_l48, n_l49, n_l97, n_l128, n_l129, n_l192, n_l225, n_l256, n_l353, n_l400, n_l512, n_l593, n_l621, n_l640, n_l857, n_l1093, n_l1095, n_l2048, n_l3225, n_l10000, n_l22955, n_l29988, n_l29989, n_l65536, n_l99999, n_l1000000000, n_l2147483647, nI_add, pk_mul, pk_sub, pk_div, nI_clamp, ckN, nI_leI, nI_ltI, nI_eq, nI_nm1, Nat.add_zero, nI_addneg, k_ush, true_or, or_true, false_or, or_false, true_and, and_true, false_and, and_false, not_true_eq_false, not_false_eq_true, if_true, if_false, if_pos, if_neg, Option.bind_some, Nat.min_eq_left h]
  · simp (disch := omega) only [n_l0, n_l1, n_l2, n_l3, n_l4, n_l5, n_l6, n_l7, n_l8, n_l9, n_l15, n_l16, n_l17, n_l20, n_l24, n_l31, n_l32, n_l33, n_l36, n_l48, n_l49, n_l97, n_l128, n_l129, n_l192, n_l225, n_l256, n_l353, n_l400, n_l512, n_l593, n_l621, n_l640, n_l857, n_l1093, n_l1095, n_l2048, n_l3225, n_l10000, n_l22955, n_l29988, n_l29989, n_l65536, n_l99999, n_l1000000000, n_l2147483647, nI_add, pk_mul, pk_sub, pk_div, nI_clamp, ckN, nI_leI, nI_ltI, nI_eq, nI_nm1, Nat.add_zero, nI_addneg, k_ush, true_or, or_true, false_or, or_false, true_and, and_true, false_and, and_false, not_true_eq_false, not_false_eq_true, if_true, if_false, if_pos, if_neg, Option.bind_some, Nat.min_eq_right (show b ≤ a by omega)]
theorem k_maxN {a b : Nat} (ha : a < 2 ^ 31) (hb : b < 2 ^ 31) : pJ9_max_7cf53 (nI a) (nI b) = some (nI (max a b)) := by
  unfold pJ9_max_7cf53
  by_cases h : a < b
  · simp (disch := omega) only [n_l0, n_l1, n_l2, n_l3, n_l4, n_l5, n_l6, n_l7, n_l8, n_l9, n_l15, n_l16, n_l17, n_l20, n_l24, n_l31, n_l32, n_l33, n_l36, n_l48, n_l49, n_l97, n_l128, n_l129, n_l192, n_l225, n_l256, n_l353, n_l400, n_l512, n_l593, n_l621, n_l640, n_l857, n_l1093, n_l1095, n_l2048, n_l3225, n_l10000, n_l22955, n_l29988, n_l29989, n_l65536, n_l99999, n_l1000000000, n_l2147483647, nI_add, pk_mul, pk_sub, pk_div, nI_clamp, ckN, nI_leI, nI_ltI, nI_eq, nI_nm1, Nat.add_zero, nI_addneg, k_ush, true_or, or_true, false_or, or_false, true_and, and_true, false_and, and_false, not_true_eq_false, not_false_eq_true, if_true, if_false, if_pos, if_neg, Option.bind_some, Nat.max_eq_right (show a ≤ b by omega)]
  · simp (disch := omega) only [n_l0, n_l1, n_l2, n_l3, n_l4, n_l5, n_l6, n_l7, n_l8, n_l9, n_l15, n_l16, n_l17, n_l20, n_l24, n_l31, n_l32, n_l33, n_l36, n_l48, n_l49, n_l97, n_l128, n_l129, n_l192, n_l225, n_l256, n_l353, n_l400, n_l512, n_l593, n_l621, n_l640, n_l857, n_l1093, n_l1095, n_l2048, n_l3225, n_l10000, n_l22955, n_l29988, n_l29989, n_l65536, n_l99999, n_l1000000000, n_l2147483647, nI_add, pk_mul, pk_sub, pk_div, nI_clamp, ckN, nI_leI, nI_ltI, nI_eq, nI_nm1, Nat.add_zero, nI_addneg, k_ush, true_or, or_true, false_or, or_false, true_and, and_true, false_and, and_false, not_true_eq_false, not_false_eq_true, if_true, if_false, if_pos, if_neg, Option.bind_some, Nat.max_eq_left (show b ≤ a by omega)]
theorem bl_div {p k : Nat} (h : 2 ^ k ≤ p) : bl (p / 2 ^ k) + k = bl p := by
  have hw : ∀ w, bl (p / 2 ^ k) + k ≤ w ↔ bl p ≤ w := fun w => by
    rcases Nat.lt_or_ge w k with hk | hk
    · constructor
      · intro h1; omega
      · intro h1
        have := (bl_le p w).mp h1
        have := Nat.pow_le_pow_right (n := 2) (by omega) (Nat.le_of_lt hk)
        omega
    · have h2 : bl (p / 2 ^ k) + k ≤ w ↔ bl (p / 2 ^ k) ≤ w - k := by omega
      rw [h2, bl_le, bl_le, Nat.div_lt_iff_lt_mul (Nat.two_pow_pos k), ← Nat.pow_add, Nat.sub_add_cancel hk]
  have h1 := (hw (bl p)).mpr (Nat.le_refl _)
  have h2 := (hw (bl (p / 2 ^ k) + k)).mp (Nat.le_refl _)
  omega
theorem k_nlz73 {p n : Nat} (h1 : 1 ≤ p) (h4 : p < 4) (hn : 1 ≤ n) (hn2 : n < 100) : pJ6_numberOfLeadingZeros_0f7a4_j73 (nI p) (nI n) = some (nI (n + 1 - bl p)) := by
  unfold pJ6_numberOfLeadingZeros_0f7a4_j73
  rcases (show p = 1 ∨ p = 2 ∨ p = 3 by omega) with rfl | rfl | rfl
  · simp (disch := omega) only [n_l0, n_l1, n_l2, n_l3, n_l4, n_l5, n_l6, n_l7, n_l8, n_l9, n_l15, n_l16, n_l17, n_l20, n_l24, n_l31, n_l32, n_l33, n_l36, n_l48, n_l49, n_l97, n_l128, n_l129, n_l192, n_l225, n_l256, n_l353, n_l400, n_l512, n_l593, n_l621, n_l640, n_l857, n_l1093, n_l1095, n_l2048, n_l3225, n_l10000, n_l22955, n_l29988, n_l29989, n_l65536, n_l99999, n_l1000000000, n_l2147483647, nI_add, pk_mul, pk_sub, pk_div, nI_clamp, ckN, nI_leI, nI_ltI, nI_eq, nI_nm1, Nat.add_zero, nI_addneg, k_ush, true_or, or_true, false_or, or_false, true_and, and_true, false_and, and_false, not_true_eq_false, not_false_eq_true, if_true, if_false, if_pos, if_neg, Option.bind_some, show 1 / 2 ^ 1 = 0 by decide, show bl 1 = 1 by decide +kernel]
    all_goals (first | rfl | exact congrArg some (congrArg nI (by omega)))
  · simp (disch := omega) only [n_l0, n_l1, n_l2, n_l3, n_l4, n_l5, n_l6, n_l7, n_l8, n_l9, n_l15, n_l16, n_l17, n_l20, n_l24, n_l31, n_l32, n_l33, n_l36, n_l48, n_l49, n_l97, n_l128, n_l129, n_l192, n_l225, n_l256, n_l353, n_l400, n_l512, n_l593, n_l621, n_l640, n_l857, n_l1093, n_l1095, n_l2048, n_l3225, n_l10000, n_l22955, n_l29988, n_l29989, n_l65536, n_l99999, n_l1000000000, n_l2147483647, nI_add, pk_mul, pk_sub, pk_div, nI_clamp, ckN, nI_leI, nI_ltI, nI_eq, nI_nm1, Nat.add_zero, nI_addneg, k_ush, true_or, or_true, false_or, or_false, true_and, and_true, false_and, and_false, not_true_eq_false, not_false_eq_true, if_true, if_false, if_pos, if_neg, Option.bind_some, show 2 / 2 ^ 1 = 1 by decide, show bl 2 = 2 by decide +kernel]
    all_goals (first | rfl | exact congrArg some (congrArg nI (by omega)))
  · simp (disch := omega) only [n_l0, n_l1, n_l2, n_l3, n_l4, n_l5, n_l6, n_l7, n_l8, n_l9, n_l15, n_l16, n_l17, n_l20, n_l24, n_l31, n_l32, n_l33, n_l36, n_l48, n_l49, n_l97, n_l128, n_l129, n_l192, n_l225, n_l256, n_l353, n_l400, n_l512, n_l593, n_l621, n_l640, n_l857, n_l1093, n_l1095, n_l2048, n_l3225, n_l10000, n_l22955, n_l29988, n_l29989, n_l65536, n_l99999, n_l1000000000, n_l2147483647, nI_add, pk_mul, pk_sub, pk_div, nI_clamp, ckN, nI_leI, nI_ltI, nI_eq, nI_nm1, Nat.add_zero, nI_addneg, k_ush, true_or, or_true, false_or, or_false, true_and, and_true, false_and, and_false, not_true_eq_false, not_false_eq_true, if_true, if_false, if_pos, if_neg, Option.bind_some, show 3 / 2 ^ 1 = 1 by decide, show bl 3 = 2 by decide +kernel]
    all_goals (first | rfl | exact congrArg some (congrArg nI (by omega)))
theorem k_nlz61 {p n : Nat} (h1 : 1 ≤ p) (h4 : p < 16) (hn : 3 ≤ n) (hn2 : n < 100) : pJ6_numberOfLeadingZeros_0f7a4_j61 (nI p) (nI n) = some (nI (n + 1 - bl p)) := by
  unfold pJ6_numberOfLeadingZeros_0f7a4_j61
  by_cases h : p < 4
  · simp (disch := omega) only [n_l0, n_l1, n_l2, n_l3, n_l4, n_l5, n_l6, n_l7, n_l8, n_l9, n_l15, n_l16, n_l17, n_l20, n_l24, n_l31, n_l32, n_l33, n_l36, n_l48, n_l49, n_l97, n_l128, n_l129, n_l192, n_l225, n_l256, n_l353, n_l400, n_l512, n_l593, n_l621, n_l640, n_l857, n_l1093, n_l1095, n_l2048, n_l3225, n_l10000, n_l22955, n_l29988, n_l29989, n_l65536, n_l99999, n_l1000000000, n_l2147483647, nI_add, pk_mul, pk_sub, pk_div, nI_clamp, ckN, nI_leI, nI_ltI, nI_eq, nI_nm1, Nat.add_zero, nI_addneg, k_ush, true_or, or_true, false_or, or_false, true_and, and_true, false_and, and_false, not_true_eq_false, not_false_eq_true, if_true, if_false, if_pos, if_neg, Option.bind_some, k_nlz73 h1 h (show 1 ≤ n by omega) hn2]
  · have hb := bl_div (p := p) (k := 2) (by omega)
    simp (disch := omega) only [n_l0, n_l1, n_l2, n_l3, n_l4, n_l5, n_l6, n_l7, n_l8, n_l9, n_l15, n_l16, n_l17, n_l20, n_l24, n_l31, n_l32, n_l33, n_l36, n_l48, n_l49, n_l97, n_l128, n_l129, n_l192, n_l225, n_l256, n_l353, n_l400, n_l512, n_l593, n_l621, n_l640, n_l857, n_l1093, n_l1095, n_l2048, n_l3225, n_l10000, n_l22955, n_l29988, n_l29989, n_l65536, n_l99999, n_l1000000000, n_l2147483647, nI_add, pk_mul, pk_sub, pk_div, nI_clamp, ckN, nI_leI, nI_ltI, nI_eq, nI_nm1, Nat.add_zero, nI_addneg, k_ush, true_or, or_true, false_or, or_false, true_and, and_true, false_and, and_false, not_true_eq_false, not_false_eq_true, if_true, if_false, if_pos, if_neg, Option.bind_some, k_nlz73 (p := p / 2 ^ 2) (n := n - 2) (by omega) (by omega) (by omega) (by omega)]
    all_goals (first | rfl | exact congrArg some (congrArg nI (by omega)))
theorem k_nlz48 {p n : Nat} (h1 : 1 ≤ p) (h4 : p < 256) (hn : 7 ≤ n) (hn2 : n < 100) : pJ6_numberOfLeadingZeros_0f7a4_j48 (nI p) (nI n) = some (nI (n + 1 - bl p)) := by
  unfold pJ6_numberOfLeadingZeros_0f7a4_j48
  by_cases h : p < 16
  · simp (disch := omega) only [n_l0, n_l1, n_l2, n_l3, n_l4, n_l5, n_l6, n_l7, n_l8, n_l9, n_l15, n_l16, n_l17, n_l20, n_l24, n_l31, n_l32, n_l33, n_l36, n_l48, n_l49, n_l97, n_l128, n_l129, n_l192, n_l225, n_l256, n_l353, n_l400, n_l512, n_l593, n_l621, n_l640, n_l857, n_l1093, n_l1095, n_l2048, n_l3225, n_l10000, n_l22955, n_l29988, n_l29989, n_l65536, n_l99999, n_l1000000000, n_l2147483647, nI_add, pk_mul, pk_sub, pk_div, nI_clamp, ckN, nI_leI, nI_ltI, nI_eq, nI_nm1, Nat.add_zero, nI_addneg, k_ush, true_or, or_true, false_or, or_false, true_and, and_true, false_and, and_false, not_true_eq_false, not_false_eq_true, if_true, if_false, if_pos, if_neg, Option.bind_some, k_nlz61 h1 h (show 3 ≤ n by omega) hn2]
  · have hb := bl_div (p := p) (k := 4) (by omega)
    simp (disch := omega) only [n_l0, n_l1, n_l2, n_l3, n_l4, n_l5, n_l6, n_l7, n_l8, n_l9, n_l15, n_l16, n_l17, n_l20, n_l24, n_l31, n_l32, n_l33, n_l36, n_l48, n_l49, n_l97, n_l128, n_l129, n_l192, n_l225, n_l256, n_l353, n_l400, n_l512, n_l593, n_l621, n_l640, n_l857, n_l1093, n_l1095, n_l2048, n_l3225, n_l10000, n_l22955, n_l29988, n_l29989, n_l65536, n_l99999, n_l1000000000, n_l2147483647, nI_add, pk_mul, pk_sub, pk_div, nI_clamp, ckN, nI_leI, nI_ltI, nI_eq, nI_nm1, Nat.add_zero, nI_addneg, k_ush, true_or, or_true, false_or, or_false, true_and, and_true, false_and, and_false, not_true_eq_false, not_false_eq_true, if_true, if_false, if_pos, if_neg, Option.bind_some, k_nlz61 (p := p / 2 ^ 4) (n := n - 4) (by omega) (by omega) (by omega) (by omega)]
    all_goals (first | rfl | exact congrArg some (congrArg nI (by omega)))
theorem k_nlz33 {p n : Nat} (h1 : 1 ≤ p) (h4 : p < 65536) (hn : 15 ≤ n) (hn2 : n < 100) : pJ6_numberOfLeadingZeros_0f7a4_j33 (nI p) (nI n) = some (nI (n + 1 - bl p)) := by
  unfold pJ6_numberOfLeadingZeros_0f7a4_j33
  by_cases h : p < 256
  · simp (disch := omega) only [n_l0, n_l1, n_l2, n_l3, n_l4, n_l5, n_l6, n_l7, n_l8, n_l9, n_l15, n_l16, n_l17, n_l20, n_l24, n_l31, n_l32, n_l33, n_l36, n_l48, n_l49, n_l97, n_l128, n_l129, n_l192, n_l225, n_l256, n_l353, n_l400, n_l512, n_l593, n_l621, n_l640, n_l857, n_l1093, n_l1095, n_l2048, n_l3225, n_l10000, n_l22955, n_l29988, n_l29989, n_l65536, n_l99999, n_l1000000000, n_l2147483647, nI_add, pk_mul, pk_sub, pk_div, nI_clamp, ckN, nI_leI, nI_ltI, nI_eq, nI_nm1, Nat.add_zero, nI_addneg, k_ush, true_or, or_true, false_or, or_false, true_and, and_true, false_and, and_false, not_true_eq_false, not_false_eq_true, if_true, if_false, if_pos, if_neg, Option.bind_some, k_nlz48 h1 h (show 7 ≤ n by omega) hn2]
  · have hb := bl_div (p := p) (k := 8) (by omega)
    simp (disch := omega) only [n_l0, n_l1, n_l2, n_l3, n_l4, n_l5, n_l6, n_l7, n_l8, n_l9, n_l15, n_l16, n_l17, n_l20, n_l24, n_l31, n_l32, n_l33, n_l36, n_l48, n_l49, n_l97, n_l128, n_l129, n_l192, n_l225, n_l256, n_l353, n_l400, n_l512, n_l593, n_l621, n_l640, n_l857, n_l1093, n_l1095, n_l2048, n_l3225, n_l10000, n_l22955, n_l29988, n_l29989, n_l65536, n_l99999, n_l1000000000, n_l2147483647, nI_add, pk_mul, pk_sub, pk_div, nI_clamp, ckN, nI_leI, nI_ltI, nI_eq, nI_nm1, Nat.add_zero, nI_addneg, k_ush, true_or, or_true, false_or, or_false, true_and, and_true, false_and, and_false, not_true_eq_false, not_false_eq_true, if_true, if_false, if_pos, if_neg, Option.bind_some, k_nlz48 (p := p / 2 ^ 8) (n := n - 8) (by omega) (by omega) (by omega) (by omega)]
    all_goals (first | rfl | exact congrArg some (congrArg nI (by omega)))
theorem k_nlz (x : Int32) : pJ6_numberOfLeadingZeros_0f7a4 x = some (nI (32 - bl (u32 x))) := by
  unfold pJ6_numberOfLeadingZeros_0f7a4
  have hx := u32_lt x
  have ex : x = nI (u32 x) := (nI_u32 x).symm
  rcases u32_int x with ⟨h7, h8⟩ | ⟨h7, h8⟩
  · by_cases h0 : u32 x = 0
    · have : x = 0 := by rw [ex, h0]; rfl
      subst this
      rfl
    · rw [ex, u32_nI (by omega)]
      generalize u32 x = p at *
      by_cases h : p < 65536
      · simp (disch := omega) only [n_l0, n_l1, n_l2, n_l3, n_l4, n_l5, n_l6, n_l7, n_l8, n_l9, n_l15, n_l16, n_l17, n_l20, n_l24, n_l31, n_l32, n_l33, n_l36, n_l48, n_l49, n_l97, n_l128, n_l129, n_l192, n_l225, n_l256, n_l353, n_l400, n_l512, n_l593, n_l621, n_l640, n_l857, n_l1093, n_l1095, n_l2048, n_l3225, n_l10000, n_l22955, n_l29988, n_l29989, n_l65536, n_l99999, n_l1000000000, n_l2147483647, nI_add, pk_mul, pk_sub, pk_div, nI_clamp, ckN, nI_leI, nI_ltI, nI_eq, nI_nm1, Nat.add_zero, nI_addneg, k_ush, true_or, or_true, false_or, or_false, true_and, and_true, false_and, and_false, not_true_eq_false, not_false_eq_true, if_true, if_false, if_pos, if_neg, Option.bind_some, k_nlz33 (p := p) (n := 31) (by omega) h (by omega) (by omega)]
      · have hb := bl_div (p := p) (k := 16) (by omega)
        simp (disch := omega) only [n_l0, n_l1, n_l2, n_l3, n_l4, n_l5, n_l6, n_l7, n_l8, n_l9, n_l15, n_l16, n_l17, n_l20, n_l24, n_l31, n_l32, n_l33, n_l36, n_l48, n_l49, n_l97, n_l128, n_l129, n_l192, n_l225, n_l256, n_l353, n_l400, n_l512, n_l593, n_l621, n_l640, n_l857, n_l1093, n_l1095, n_l2048, n_l3225, n_l10000, n_l22955, n_l29988, n_l29989, n_l65536, n_l99999, n_l1000000000, n_l2147483647, nI_add, pk_mul, pk_sub, pk_div, nI_clamp, ckN, nI_leI, nI_ltI, nI_eq, nI_nm1, Nat.add_zero, nI_addneg, k_ush, true_or, or_true, false_or, or_false, true_and, and_true, false_and, and_false, not_true_eq_false, not_false_eq_true, if_true, if_false, if_pos, if_neg, Option.bind_some, k_nlz33 (p := p / 2 ^ 16) (n := 15) (by omega) (by omega) (by omega) (by omega), show 31 - 16 = 15 by decide]
        all_goals (first | rfl | exact congrArg some (congrArg nI (by omega)))
  · have hn : ¬ (0 : Int32) < x := fun h => by
      have := Int32.lt_iff_toInt_lt.mp h
      have h2 : (0 : Int32).toInt = 0 := rfl
      omega
    have hz : ¬ x = 0 := fun h => by
      have : u32 x = 0 := by rw [h]; rfl
      omega
    rw [if_neg hn, if_neg hz]
    have hb : bl (u32 x) = 32 := by
      have h1 := bl_32 x
      have h2 : ¬ bl (u32 x) ≤ 31 := fun h => by
        have := (bl_le _ _).mp h
        omega
      omega
    rw [hb]
    rfl
theorem k_fill {N : Nat} (hN : N < 90000) (v : Int32) (f : Nat → Int32) : ∃ g, pJ7_fill_53178 N v f = some g ∧ ∀ i, i < N → g i = v := by
  obtain ⟨r, e, h⟩ := lpE (body := pJ7_fill_53178_b5 N v (nI N)) (fun k s => s.1 = nI k ∧ ∀ i, i < k → s.2 i = v) (fun r => ∀ i, i < N → r.2 i = v) N (nI 0, f) ⟨rfl, fun i hi => absurd hi (Nat.not_lt_zero i)⟩ (fun k s hk hI => by
    obtain ⟨s1, s2⟩ := s
    obtain ⟨rfl, h⟩ := hI
    unfold pJ7_fill_53178_b5
    rcases Nat.lt_or_ge k N with h3 | h3
    · refine Or.inl ?_
      simp (disch := omega) only [n_l0, n_l1, n_l2, n_l3, n_l4, n_l5, n_l6, n_l7, n_l8, n_l9, n_l15, n_l16, n_l17, n_l20, n_l24, n_l31, n_l32, n_l33, n_l36, n_l48, n_l49, n_l97, n_l128, n_l129, n_l192, n_l225, n_l256, n_l353, n_l400, n_l512, n_l593, n_l621, n_l640, n_l857, n_l1093, n_l1095, n_l2048, n_l3225, n_l10000, n_l22955, n_l29988, n_l29989, n_l65536, n_l99999, n_l1000000000, n_l2147483647, nI_add, pk_mul, pk_sub, pk_div, nI_clamp, ckN, nI_leI, nI_ltI, nI_eq, nI_nm1, Nat.add_zero, nI_addneg, k_ush, true_or, or_true, false_or, or_false, true_and, and_true, false_and, and_false, not_true_eq_false, not_false_eq_true, if_true, if_false, if_pos, if_neg, Option.bind_some]
      refine ⟨_, rfl, h3, rfl, fun i hi => ?_⟩
      show upd s2 k v i = v
      unfold upd
      split
      · rfl
      · exact h i (by omega)
    · obtain rfl : k = N := by omega
      refine Or.inr ?_
      simp (disch := omega) only [n_l0, n_l1, n_l2, n_l3, n_l4, n_l5, n_l6, n_l7, n_l8, n_l9, n_l15, n_l16, n_l17, n_l20, n_l24, n_l31, n_l32, n_l33, n_l36, n_l48, n_l49, n_l97, n_l128, n_l129, n_l192, n_l225, n_l256, n_l353, n_l400, n_l512, n_l593, n_l621, n_l640, n_l857, n_l1093, n_l1095, n_l2048, n_l3225, n_l10000, n_l22955, n_l29988, n_l29989, n_l65536, n_l99999, n_l1000000000, n_l2147483647, nI_add, pk_mul, pk_sub, pk_div, nI_clamp, ckN, nI_leI, nI_ltI, nI_eq, nI_nm1, Nat.add_zero, nI_addneg, k_ush, true_or, or_true, false_or, or_false, true_and, and_true, false_and, and_false, not_true_eq_false, not_false_eq_true, if_true, if_false, if_pos, if_neg, Option.bind_some]
      exact ⟨_, rfl, h⟩)
  refine ⟨r.2, ?_, h⟩
  unfold pJ7_fill_53178
  show (lp (pJ7_fill_53178_b5 N v (nI N)) FU (nI 0, f)).bind _ = _
  rw [e]; rfl
theorem k_has {i H : Nat} (hi : i < 2 ^ 31) (hH : H < 2 ^ 31) : pX5_has (nI i) (nI H) = some (if i < H then nI 1 else nI 0) := by
  unfold pX5_has
  by_cases h : i < H
  · simp (disch := omega) only [n_l0, n_l1, n_l2, n_l3, n_l4, n_l5, n_l6, n_l7, n_l8, n_l9, n_l15, n_l16, n_l17, n_l20, n_l24, n_l31, n_l32, n_l33, n_l36, n_l48, n_l49, n_l97, n_l128, n_l129, n_l192, n_l225, n_l256, n_l353, n_l400, n_l512, n_l593, n_l621, n_l640, n_l857, n_l1093, n_l1095, n_l2048, n_l3225, n_l10000, n_l22955, n_l29988, n_l29989, n_l65536, n_l99999, n_l1000000000, n_l2147483647, nI_add, pk_mul, pk_sub, pk_div, nI_clamp, ckN, nI_leI, nI_ltI, nI_eq, nI_nm1, Nat.add_zero, nI_addneg, k_ush, true_or, or_true, false_or, or_false, true_and, and_true, false_and, and_false, not_true_eq_false, not_false_eq_true, if_true, if_false, if_pos, if_neg, Option.bind_some]
  · simp (disch := omega) only [n_l0, n_l1, n_l2, n_l3, n_l4, n_l5, n_l6, n_l7, n_l8, n_l9, n_l15, n_l16, n_l17, n_l20, n_l24, n_l31, n_l32, n_l33, n_l36, n_l48, n_l49, n_l97, n_l128, n_l129, n_l192, n_l225, n_l256, n_l353, n_l400, n_l512, n_l593, n_l621, n_l640, n_l857, n_l1093, n_l1095, n_l2048, n_l3225, n_l10000, n_l22955, n_l29988, n_l29989, n_l65536, n_l99999, n_l1000000000, n_l2147483647, nI_add, pk_mul, pk_sub, pk_div, nI_clamp, ckN, nI_leI, nI_ltI, nI_eq, nI_nm1, Nat.add_zero, nI_addneg, k_ush, true_or, or_true, false_or, or_false, true_and, and_true, false_and, and_false, not_true_eq_false, not_false_eq_true, if_true, if_false, if_pos, if_neg, Option.bind_some]
theorem k_tellAt {N H i : Nat} (hN : N < 2 ^ 31) (hH : H ≤ N) (hi : i < 2 ^ 31) {told : Nat → Int64} {tv : Nat → Option Int32} (ht : ∀ k, k < H → told k = enc (tv k)) : pX5_tellAt N (nI i) (nI H) told = some (if i < H then enc (tv i) else -4294967296) := by
  unfold pX5_tellAt
  by_cases h : i < H
  · simp (disch := omega) only [n_l0, n_l1, n_l2, n_l3, n_l4, n_l5, n_l6, n_l7, n_l8, n_l9, n_l15, n_l16, n_l17, n_l20, n_l24, n_l31, n_l32, n_l33, n_l36, n_l48, n_l49, n_l97, n_l128, n_l129, n_l192, n_l225, n_l256, n_l353, n_l400, n_l512, n_l593, n_l621, n_l640, n_l857, n_l1093, n_l1095, n_l2048, n_l3225, n_l10000, n_l22955, n_l29988, n_l29989, n_l65536, n_l99999, n_l1000000000, n_l2147483647, nI_add, pk_mul, pk_sub, pk_div, nI_clamp, ckN, nI_leI, nI_ltI, nI_eq, nI_nm1, Nat.add_zero, nI_addneg, k_ush, true_or, or_true, false_or, or_false, true_and, and_true, false_and, and_false, not_true_eq_false, not_false_eq_true, if_true, if_false, if_pos, if_neg, Option.bind_some, k_has hi (show H < 2 ^ 31 by omega), ht i h]
  · simp (disch := omega) only [n_l0, n_l1, n_l2, n_l3, n_l4, n_l5, n_l6, n_l7, n_l8, n_l9, n_l15, n_l16, n_l17, n_l20, n_l24, n_l31, n_l32, n_l33, n_l36, n_l48, n_l49, n_l97, n_l128, n_l129, n_l192, n_l225, n_l256, n_l353, n_l400, n_l512, n_l593, n_l621, n_l640, n_l857, n_l1093, n_l1095, n_l2048, n_l3225, n_l10000, n_l22955, n_l29988, n_l29989, n_l65536, n_l99999, n_l1000000000, n_l2147483647, nI_add, pk_mul, pk_sub, pk_div, nI_clamp, ckN, nI_leI, nI_ltI, nI_eq, nI_nm1, Nat.add_zero, nI_addneg, k_ush, true_or, or_true, false_or, or_false, true_and, and_true, false_and, and_false, not_true_eq_false, not_false_eq_true, if_true, if_false, if_pos, if_neg, Option.bind_some, k_has hi (show H < 2 ^ 31 by omega)]
theorem k_load {N H f n : Nat} (hN : N ≤ 128) (hH : H ≤ N) (hf : f ≤ H) (hn : n ≤ 16) {told : Nat → Int64} {tv : Nat → Option Int32} (ht : ∀ k, k < H → told k = enc (tv k)) (xp xv : Int32) (g0 : Nat → Int32) :
    ∃ g, pX3_load N (nI f) (nI n) xp xv g0 (nI H) told = some (nI (min n (H - f)), nI (cnt tv f (min n (H - f))), g) ∧ ∀ i, i < cnt tv f (min n (H - f)) → g i = val tv f (min n (H - f)) i := by
  obtain ⟨r, e, h1, h2, h3⟩ := lpE (body := pX3_load_b7 N (nI f) (nI n) (nI H) told) (fun k s => s.1 = nI (f + k) ∧ s.2.1 = nI (min k (H - f)) ∧ s.2.2.1 = nI (cnt tv f (min k (H - f))) ∧ ∀ i, i < cnt tv f (min k (H - f)) → s.2.2.2 i = val tv f (min k (H - f)) i)
    (fun r => r.2.1 = nI (min n (H - f)) ∧ r.2.2.1 = nI (cnt tv f (min n (H - f))) ∧ ∀ i, i < cnt tv f (min n (H - f)) → r.2.2.2 i = val tv f (min n (H - f)) i) n (nI f, nI 0, nI 0, g0)
    ⟨rfl, by rw [Nat.zero_min], by rw [Nat.zero_min]; rfl, by rw [Nat.zero_min]; exact fun i hi => absurd hi (Nat.not_lt_zero i)⟩ (fun k s hk hI => by
    obtain ⟨s1, s2, s3, s4⟩ := s
    obtain ⟨rfl, rfl, rfl, h⟩ := hI
    unfold pX3_load_b7
    rcases Nat.lt_or_ge k n with h3 | h3
    · refine Or.inl ?_
      by_cases hH2 : f + k < H
      · have m1 : min k (H - f) = k := Nat.min_eq_left (by omega)
        have m2 : min (k + 1) (H - f) = k + 1 := Nat.min_eq_left (by omega)
        rw [m1] at h
        rw [m1, m2]
        have hle := cnt_le tv f k
        simp (disch := omega) only [n_l0, n_l1, n_l2, n_l3, n_l4, n_l5, n_l6, n_l7, n_l8, n_l9, n_l15, n_l16, n_l17, n_l20, n_l24, n_l31, n_l32, n_l33, n_l36, n_l48, n_l49, n_l97, n_l128, n_l129, n_l192, n_l225, n_l256, n_l353, n_l400, n_l512, n_l593, n_l621, n_l640, n_l857, n_l1093, n_l1095, n_l2048, n_l3225, n_l10000, n_l22955, n_l29988, n_l29989, n_l65536, n_l99999, n_l1000000000, n_l2147483647, nI_add, pk_mul, pk_sub, pk_div, nI_clamp, ckN, nI_leI, nI_ltI, nI_eq, nI_nm1, Nat.add_zero, nI_addneg, k_ush, true_or, or_true, false_or, or_false, true_and, and_true, false_and, and_false, not_true_eq_false, not_false_eq_true, if_true, if_false, if_pos, if_neg, Option.bind_some, k_tellAt (show N < 2 ^ 31 by omega) hH (show f + k < 2 ^ 31 by omega) ht]
        unfold pX3_add
        have e1 : ¬ lg_cmp (enc (tv (f + k))) (-4294967296) = 0 := fun q => enc_no _ ((lg_cmp_eq _ _).mp q)
        rw [if_neg e1]
        cases hv : tv (f + k) with
        | none =>
          obtain ⟨c1, c2⟩ := cnt_none hv
          rw [c1, c2, if_pos (show lg_cmp (enc none) 4294967296 = 0 from (lg_cmp_eq _ _).mpr rfl)]
          simp (disch := omega) only [n_l0, n_l1, n_l2, n_l3, n_l4, n_l5, n_l6, n_l7, n_l8, n_l9, n_l15, n_l16, n_l17, n_l20, n_l24, n_l31, n_l32, n_l33, n_l36, n_l48, n_l49, n_l97, n_l128, n_l129, n_l192, n_l225, n_l256, n_l353, n_l400, n_l512, n_l593, n_l621, n_l640, n_l857, n_l1093, n_l1095, n_l2048, n_l3225, n_l10000, n_l22955, n_l29988, n_l29989, n_l65536, n_l99999, n_l1000000000, n_l2147483647, nI_add, pk_mul, pk_sub, pk_div, nI_clamp, ckN, nI_leI, nI_ltI, nI_eq, nI_nm1, Nat.add_zero, nI_addneg, k_ush, true_or, or_true, false_or, or_false, true_and, and_true, false_and, and_false, not_true_eq_false, not_false_eq_true, if_true, if_false, if_pos, if_neg, Option.bind_some]
          exact ⟨_, rfl, h3, rfl, rfl, rfl, h⟩
        | some v =>
          obtain ⟨c1, c2⟩ := cnt_some hv
          rw [c1, c2, if_neg (show ¬ lg_cmp (enc (some v)) 4294967296 = 0 from fun q => by have := (enc_eq _).mp ((lg_cmp_eq _ _).mp q); cases this)]
          simp (disch := omega) only [n_l0, n_l1, n_l2, n_l3, n_l4, n_l5, n_l6, n_l7, n_l8, n_l9, n_l15, n_l16, n_l17, n_l20, n_l24, n_l31, n_l32, n_l33, n_l36, n_l48, n_l49, n_l97, n_l128, n_l129, n_l192, n_l225, n_l256, n_l353, n_l400, n_l512, n_l593, n_l621, n_l640, n_l857, n_l1093, n_l1095, n_l2048, n_l3225, n_l10000, n_l22955, n_l29988, n_l29989, n_l65536, n_l99999, n_l1000000000, n_l2147483647, nI_add, pk_mul, pk_sub, pk_div, nI_clamp, ckN, nI_leI, nI_ltI, nI_eq, nI_nm1, Nat.add_zero, nI_addneg, k_ush, true_or, or_true, false_or, or_false, true_and, and_true, false_and, and_false, not_true_eq_false, not_false_eq_true, if_true, if_false, if_pos, if_neg, Option.bind_some]
          refine ⟨_, rfl, h3, rfl, rfl, rfl, fun i hi => ?_⟩
          show upd s4 (cnt tv f k) (enc (some v)).toInt32 i = upd (val tv f k) (cnt tv f k) v i
          unfold upd
          split
          · exact l64_i v
          · exact h i (by omega)
      · have m1 : min (k + 1) (H - f) = min k (H - f) := by omega
        rw [m1]
        simp (disch := omega) only [n_l0, n_l1, n_l2, n_l3, n_l4, n_l5, n_l6, n_l7, n_l8, n_l9, n_l15, n_l16, n_l17, n_l20, n_l24, n_l31, n_l32, n_l33, n_l36, n_l48, n_l49, n_l97, n_l128, n_l129, n_l192, n_l225, n_l256, n_l353, n_l400, n_l512, n_l593, n_l621, n_l640, n_l857, n_l1093, n_l1095, n_l2048, n_l3225, n_l10000, n_l22955, n_l29988, n_l29989, n_l65536, n_l99999, n_l1000000000, n_l2147483647, nI_add, pk_mul, pk_sub, pk_div, nI_clamp, ckN, nI_leI, nI_ltI, nI_eq, nI_nm1, Nat.add_zero, nI_addneg, k_ush, true_or, or_true, false_or, or_false, true_and, and_true, false_and, and_false, not_true_eq_false, not_false_eq_true, if_true, if_false, if_pos, if_neg, Option.bind_some, k_tellAt (show N < 2 ^ 31 by omega) hH (show f + k < 2 ^ 31 by omega) ht]
        unfold pX3_add
        rw [if_pos ((lg_cmp_eq _ _).mpr rfl)]
        simp (disch := omega) only [n_l0, n_l1, n_l2, n_l3, n_l4, n_l5, n_l6, n_l7, n_l8, n_l9, n_l15, n_l16, n_l17, n_l20, n_l24, n_l31, n_l32, n_l33, n_l36, n_l48, n_l49, n_l97, n_l128, n_l129, n_l192, n_l225, n_l256, n_l353, n_l400, n_l512, n_l593, n_l621, n_l640, n_l857, n_l1093, n_l1095, n_l2048, n_l3225, n_l10000, n_l22955, n_l29988, n_l29989, n_l65536, n_l99999, n_l1000000000, n_l2147483647, nI_add, pk_mul, pk_sub, pk_div, nI_clamp, ckN, nI_leI, nI_ltI, nI_eq, nI_nm1, Nat.add_zero, nI_addneg, k_ush, true_or, or_true, false_or, or_false, true_and, and_true, false_and, and_false, not_true_eq_false, not_false_eq_true, if_true, if_false, if_pos, if_neg, Option.bind_some]
        exact ⟨_, rfl, h3, rfl, rfl, rfl, h⟩
    · obtain rfl : k = n := by omega
      refine Or.inr ?_
      simp (disch := omega) only [n_l0, n_l1, n_l2, n_l3, n_l4, n_l5, n_l6, n_l7, n_l8, n_l9, n_l15, n_l16, n_l17, n_l20, n_l24, n_l31, n_l32, n_l33, n_l36, n_l48, n_l49, n_l97, n_l128, n_l129, n_l192, n_l225, n_l256, n_l353, n_l400, n_l512, n_l593, n_l621, n_l640, n_l857, n_l1093, n_l1095, n_l2048, n_l3225, n_l10000, n_l22955, n_l29988, n_l29989, n_l65536, n_l99999, n_l1000000000, n_l2147483647, nI_add, pk_mul, pk_sub, pk_div, nI_clamp, ckN, nI_leI, nI_ltI, nI_eq, nI_nm1, Nat.add_zero, nI_addneg, k_ush, true_or, or_true, false_or, or_false, true_and, and_true, false_and, and_false, not_true_eq_false, not_false_eq_true, if_true, if_false, if_pos, if_neg, Option.bind_some]
      exact ⟨_, rfl, rfl, rfl, h⟩)
  refine ⟨r.2.2.2, ?_, h3⟩
  unfold pX3_load pX3_begin
  simp (disch := omega) only [n_l0, n_l1, n_l2, n_l3, n_l4, n_l5, n_l6, n_l7, n_l8, n_l9, n_l15, n_l16, n_l17, n_l20, n_l24, n_l31, n_l32, n_l33, n_l36, n_l48, n_l49, n_l97, n_l128, n_l129, n_l192, n_l225, n_l256, n_l353, n_l400, n_l512, n_l593, n_l621, n_l640, n_l857, n_l1093, n_l1095, n_l2048, n_l3225, n_l10000, n_l22955, n_l29988, n_l29989, n_l65536, n_l99999, n_l1000000000, n_l2147483647, nI_add, pk_mul, pk_sub, pk_div, nI_clamp, ckN, nI_leI, nI_ltI, nI_eq, nI_nm1, Nat.add_zero, nI_addneg, k_ush, true_or, or_true, false_or, or_false, true_and, and_true, false_and, and_false, not_true_eq_false, not_false_eq_true, if_true, if_false, if_pos, if_neg, Option.bind_some, e, h1, h2]
theorem k_leastGiven {m : Nat} (hm : m ≤ 16) (g : Nat → Int32) : pX3_leastGiven (nI m) g = some (lv g m) := by
  unfold pX3_leastGiven pX3_leastGiven_j17
  cases m with
  | zero =>
    have e := lpF (body := pX3_leastGiven_b20 (nI 0) g) (r := (nI 0, nI 1)) (fun _ => (nI 0, nI 1)) 0 (nI 0, nI 1) rfl (fun k hk => absurd hk (Nat.not_lt_zero k)) (by
      unfold pX3_leastGiven_b20
      simp (disch := omega) only [n_l0, n_l1, n_l2, n_l3, n_l4, n_l5, n_l6, n_l7, n_l8, n_l9, n_l15, n_l16, n_l17, n_l20, n_l24, n_l31, n_l32, n_l33, n_l36, n_l48, n_l49, n_l97, n_l128, n_l129, n_l192, n_l225, n_l256, n_l353, n_l400, n_l512, n_l593, n_l621, n_l640, n_l857, n_l1093, n_l1095, n_l2048, n_l3225, n_l10000, n_l22955, n_l29988, n_l29989, n_l65536, n_l99999, n_l1000000000, n_l2147483647, nI_add, pk_mul, pk_sub, pk_div, nI_clamp, ckN, nI_leI, nI_ltI, nI_eq, nI_nm1, Nat.add_zero, nI_addneg, k_ush, true_or, or_true, false_or, or_false, true_and, and_true, false_and, and_false, not_true_eq_false, not_false_eq_true, if_true, if_false, if_pos, if_neg, Option.bind_some])
    simp (disch := omega) only [n_l0, n_l1, n_l2, n_l3, n_l4, n_l5, n_l6, n_l7, n_l8, n_l9, n_l15, n_l16, n_l17, n_l20, n_l24, n_l31, n_l32, n_l33, n_l36, n_l48, n_l49, n_l97, n_l128, n_l129, n_l192, n_l225, n_l256, n_l353, n_l400, n_l512, n_l593, n_l621, n_l640, n_l857, n_l1093, n_l1095, n_l2048, n_l3225, n_l10000, n_l22955, n_l29988, n_l29989, n_l65536, n_l99999, n_l1000000000, n_l2147483647, nI_add, pk_mul, pk_sub, pk_div, nI_clamp, ckN, nI_leI, nI_ltI, nI_eq, nI_nm1, Nat.add_zero, nI_addneg, k_ush, true_or, or_true, false_or, or_false, true_and, and_true, false_and, and_false, not_true_eq_false, not_false_eq_true, if_true, if_false, if_pos, if_neg, Option.bind_some, e]
    rfl
  | succ q =>
    have e := lpF (body := pX3_leastGiven_b20 (nI (q + 1)) g) (r := (lvs g q, nI (q + 1))) (fun k => (lvs g k, nI (k + 1))) q (g 0, nI 1) rfl (fun k hk => by
      unfold pX3_leastGiven_b20
      simp (disch := omega) only [n_l0, n_l1, n_l2, n_l3, n_l4, n_l5, n_l6, n_l7, n_l8, n_l9, n_l15, n_l16, n_l17, n_l20, n_l24, n_l31, n_l32, n_l33, n_l36, n_l48, n_l49, n_l97, n_l128, n_l129, n_l192, n_l225, n_l256, n_l353, n_l400, n_l512, n_l593, n_l621, n_l640, n_l857, n_l1093, n_l1095, n_l2048, n_l3225, n_l10000, n_l22955, n_l29988, n_l29989, n_l65536, n_l99999, n_l1000000000, n_l2147483647, nI_add, pk_mul, pk_sub, pk_div, nI_clamp, ckN, nI_leI, nI_ltI, nI_eq, nI_nm1, Nat.add_zero, nI_addneg, k_ush, true_or, or_true, false_or, or_false, true_and, and_true, false_and, and_false, not_true_eq_false, not_false_eq_true, if_true, if_false, if_pos, if_neg, Option.bind_some, k_min]
      rfl) (by
      unfold pX3_leastGiven_b20
      simp (disch := omega) only [n_l0, n_l1, n_l2, n_l3, n_l4, n_l5, n_l6, n_l7, n_l8, n_l9, n_l15, n_l16, n_l17, n_l20, n_l24, n_l31, n_l32, n_l33, n_l36, n_l48, n_l49, n_l97, n_l128, n_l129, n_l192, n_l225, n_l256, n_l353, n_l400, n_l512, n_l593, n_l621, n_l640, n_l857, n_l1093, n_l1095, n_l2048, n_l3225, n_l10000, n_l22955, n_l29988, n_l29989, n_l65536, n_l99999, n_l1000000000, n_l2147483647, nI_add, pk_mul, pk_sub, pk_div, nI_clamp, ckN, nI_leI, nI_ltI, nI_eq, nI_nm1, Nat.add_zero, nI_addneg, k_ush, true_or, or_true, false_or, or_false, true_and, and_true, false_and, and_false, not_true_eq_false, not_false_eq_true, if_true, if_false, if_pos, if_neg, Option.bind_some])
    simp (disch := omega) only [n_l0, n_l1, n_l2, n_l3, n_l4, n_l5, n_l6, n_l7, n_l8, n_l9, n_l15, n_l16, n_l17, n_l20, n_l24, n_l31, n_l32, n_l33, n_l36, n_l48, n_l49, n_l97, n_l128, n_l129, n_l192, n_l225, n_l256, n_l353, n_l400, n_l512, n_l593, n_l621, n_l640, n_l857, n_l1093, n_l1095, n_l2048, n_l3225, n_l10000, n_l22955, n_l29988, n_l29989, n_l65536, n_l99999, n_l1000000000, n_l2147483647, nI_add, pk_mul, pk_sub, pk_div, nI_clamp, ckN, nI_leI, nI_ltI, nI_eq, nI_nm1, Nat.add_zero, nI_addneg, k_ush, true_or, or_true, false_or, or_false, true_and, and_true, false_and, and_false, not_true_eq_false, not_false_eq_true, if_true, if_false, if_pos, if_neg, Option.bind_some, e]
    rfl
theorem i32_max (x : Int32) : x ≤ 2147483647 := by
  refine Int32.le_iff_toInt_le.mpr ?_
  have := (i32_lt x).2
  have h : ((2147483647 : Int32)).toInt = 2147483647 := by decide
  omega
theorem k_stepOf2 {m : Nat} (h2 : 2 ≤ m) (hm : m ≤ 16) (g : Nat → Int32) : pX3_stepOf (nI 2) (nI m) g = some (stp g m) := by
  unfold pX3_stepOf
  have h0 : stp g m = lss g (m - 2) := if_neg (by omega)
  have e := lpF (body := pX3_stepOf_b12 (nI m) g) (r := (lss g (m - 2), nI m)) (fun k => if k = 0 then (nI 2147483647, nI 1) else (lss g (k - 1), nI (k + 1))) (m - 1) (nI 2147483647, nI 1) rfl (fun k hk => by
      unfold pX3_stepOf_b12
      cases k with
      | zero =>
        simp (disch := omega) only [n_l0, n_l1, n_l2, n_l3, n_l4, n_l5, n_l6, n_l7, n_l8, n_l9, n_l15, n_l16, n_l17, n_l20, n_l24, n_l31, n_l32, n_l33, n_l36, n_l48, n_l49, n_l97, n_l128, n_l129, n_l192, n_l225, n_l256, n_l353, n_l400, n_l512, n_l593, n_l621, n_l640, n_l857, n_l1093, n_l1095, n_l2048, n_l3225, n_l10000, n_l22955, n_l29988, n_l29989, n_l65536, n_l99999, n_l1000000000, n_l2147483647, nI_add, pk_mul, pk_sub, pk_div, nI_clamp, ckN, nI_leI, nI_ltI, nI_eq, nI_nm1, Nat.add_zero, nI_addneg, k_ush, true_or, or_true, false_or, or_false, true_and, and_true, false_and, and_false, not_true_eq_false, not_false_eq_true, if_true, if_false, if_pos, if_neg, Option.bind_some, k_min, show 1 - 1 = 0 by decide]
        have hx := i32_max (g 1 - g 0)
        rw [show (2147483647 : Int32) = nI 2147483647 from rfl] at hx
        by_cases hy : nI 2147483647 ≤ g 1 - g 0
        · rw [if_pos hy]
          have e9 : nI 2147483647 = g 1 - g 0 := Int32.le_antisymm hy hx
          rw [e9]
          rfl
        · rw [if_neg hy]
          rfl
      | succ j =>
        simp (disch := omega) only [n_l0, n_l1, n_l2, n_l3, n_l4, n_l5, n_l6, n_l7, n_l8, n_l9, n_l15, n_l16, n_l17, n_l20, n_l24, n_l31, n_l32, n_l33, n_l36, n_l48, n_l49, n_l97, n_l128, n_l129, n_l192, n_l225, n_l256, n_l353, n_l400, n_l512, n_l593, n_l621, n_l640, n_l857, n_l1093, n_l1095, n_l2048, n_l3225, n_l10000, n_l22955, n_l29988, n_l29989, n_l65536, n_l99999, n_l1000000000, n_l2147483647, nI_add, pk_mul, pk_sub, pk_div, nI_clamp, ckN, nI_leI, nI_ltI, nI_eq, nI_nm1, Nat.add_zero, nI_addneg, k_ush, true_or, or_true, false_or, or_false, true_and, and_true, false_and, and_false, not_true_eq_false, not_false_eq_true, if_true, if_false, if_pos, if_neg, Option.bind_some, k_min, show j + 1 + 1 - 1 = j + 1 by omega, show j + 1 - 1 = j by omega]
        rfl) (by
      unfold pX3_stepOf_b12
      simp (disch := omega) only [n_l0, n_l1, n_l2, n_l3, n_l4, n_l5, n_l6, n_l7, n_l8, n_l9, n_l15, n_l16, n_l17, n_l20, n_l24, n_l31, n_l32, n_l33, n_l36, n_l48, n_l49, n_l97, n_l128, n_l129, n_l192, n_l225, n_l256, n_l353, n_l400, n_l512, n_l593, n_l621, n_l640, n_l857, n_l1093, n_l1095, n_l2048, n_l3225, n_l10000, n_l22955, n_l29988, n_l29989, n_l65536, n_l99999, n_l1000000000, n_l2147483647, nI_add, pk_mul, pk_sub, pk_div, nI_clamp, ckN, nI_leI, nI_ltI, nI_eq, nI_nm1, Nat.add_zero, nI_addneg, k_ush, true_or, or_true, false_or, or_false, true_and, and_true, false_and, and_false, not_true_eq_false, not_false_eq_true, if_true, if_false, if_pos, if_neg, Option.bind_some, show m - 1 - 1 = m - 2 by omega, show m - 1 + 1 = m by omega])
  simp (disch := omega) only [n_l0, n_l1, n_l2, n_l3, n_l4, n_l5, n_l6, n_l7, n_l8, n_l9, n_l15, n_l16, n_l17, n_l20, n_l24, n_l31, n_l32, n_l33, n_l36, n_l48, n_l49, n_l97, n_l128, n_l129, n_l192, n_l225, n_l256, n_l353, n_l400, n_l512, n_l593, n_l621, n_l640, n_l857, n_l1093, n_l1095, n_l2048, n_l3225, n_l10000, n_l22955, n_l29988, n_l29989, n_l65536, n_l99999, n_l1000000000, n_l2147483647, nI_add, pk_mul, pk_sub, pk_div, nI_clamp, ckN, nI_leI, nI_ltI, nI_eq, nI_nm1, Nat.add_zero, nI_addneg, k_ush, true_or, or_true, false_or, or_false, true_and, and_true, false_and, and_false, not_true_eq_false, not_false_eq_true, if_true, if_false, if_pos, if_neg, Option.bind_some, e, h0]
theorem k_stepOf0 {form : Nat} (hf : form < 2) (xv : Int32) (g : Nat → Int32) : pX3_stepOf (nI form) xv g = some (nI 0) := by
  unfold pX3_stepOf
  simp (disch := omega) only [n_l0, n_l1, n_l2, n_l3, n_l4, n_l5, n_l6, n_l7, n_l8, n_l9, n_l15, n_l16, n_l17, n_l20, n_l24, n_l31, n_l32, n_l33, n_l36, n_l48, n_l49, n_l97, n_l128, n_l129, n_l192, n_l225, n_l256, n_l353, n_l400, n_l512, n_l593, n_l621, n_l640, n_l857, n_l1093, n_l1095, n_l2048, n_l3225, n_l10000, n_l22955, n_l29988, n_l29989, n_l65536, n_l99999, n_l1000000000, n_l2147483647, nI_add, pk_mul, pk_sub, pk_div, nI_clamp, ckN, nI_leI, nI_ltI, nI_eq, nI_nm1, Nat.add_zero, nI_addneg, k_ush, true_or, or_true, false_or, or_false, true_and, and_true, false_and, and_false, not_true_eq_false, not_false_eq_true, if_true, if_false, if_pos, if_neg, Option.bind_some]
def lenc (w : Nat) (q : Nat → Nat) : Nat → Nat
  | 0 => 0
  | k + 1 => lenc w q k + (if bl (q k) = w then 1 else 0)
theorem lenc_s (w : Nat) (q : Nat → Nat) (k : Nat) : lenc w q (k + 1) = lenc w q k + (if bl (q k) = w then 1 else 0) := rfl
theorem lenc_le (w : Nat) (q : Nat → Nat) : ∀ n, lenc w q n ≤ n := by
  intro n
  induction n with
  | zero => exact Nat.le_refl _
  | succ k ih => rw [lenc_s]; split <;> omega
theorem exc_len (w : Nat) (q : Nat → Nat) : ∀ n, exc (w + 1) q n + lenc (w + 1) q n = exc w q n := by
  intro n
  induction n with
  | zero => rfl
  | succ k ih => rw [lenc_s, exc_s, exc_s]; split <;> split <;> split <;> omega
theorem exc_len0 (q : Nat → Nat) : ∀ n, exc 0 q n + lenc 0 q n = n := by
  intro n
  induction n with
  | zero => rfl
  | succ k ih => rw [lenc_s, exc_s]; split <;> split <;> omega
def bse (form : Nat) (g : Nat → Int32) (m : Nat) : Int32 := if form = 0 then lv g m else g 0
theorem k_fold (d : Int32) : pX9_fold d = some (fo d) := rfl
theorem i_sub0 (x : Int32) : x - 0 = x := by
  refine Int32.toBitVec_inj.mp ?_
  rw [Int32.toBitVec_sub]
  show x.toBitVec - 0#32 = _
  simp
theorem k_spreadBy {form m : Nat} (hf : form ≤ 2) (hfm : form = 0 ∨ 2 ≤ m) (hm : m ≤ 16) (s xp xb xs : Int32) (hs : form = 1 → s = 0) (g ps ls : Nat → Int32) :
    ∃ z, pX3_spreadBy (nI form) s (nI m) xp xb xs g ps ls = some z ∧ z.1 = nI (pcn form m) ∧ z.2.1 = bse form g m ∧ z.2.2.1 = s ∧ (∀ i, i < pcn form m → u32 (z.2.2.2.1 i) = qs form s g m i) ∧ ∀ w, w ≤ 32 → z.2.2.2.2 w = nI (lenc w (qs form s g m) (pcn form m)) := by
  obtain ⟨l0, el, hl⟩ := k_fill (N := 33) (by omega) (nI 0) ls
  have hp := pcn_le form m
  have key : ∃ r, lp (pX3_spreadBy_b61 (nI form) (nI (pcn form m)) (bse form g m) s g) FU (nI 0, ps, l0) = some r ∧ (∀ i, i < pcn form m → u32 (r.2.1 i) = qs form s g m i) ∧ ∀ w, w ≤ 32 → r.2.2 w = nI (lenc w (qs form s g m) (pcn form m)) := by
    refine lpE (body := pX3_spreadBy_b61 (nI form) (nI (pcn form m)) (bse form g m) s g) (fun k z => z.1 = nI k ∧ (∀ i, i < k → u32 (z.2.1 i) = qs form s g m i) ∧ ∀ w, w ≤ 32 → z.2.2 w = nI (lenc w (qs form s g m) k)) _ (pcn form m) _ ⟨rfl, fun i hi => absurd hi (Nat.not_lt_zero i), fun w hw => hl w (by omega)⟩ (fun k z hk hI => ?_)
    obtain ⟨z1, z2, z3⟩ := z
    obtain ⟨rfl, h1, h2⟩ := hI
    replace h2 : ∀ w, w ≤ 32 → z3 w = nI (lenc w (qs form s g m) k) := h2
    rcases Nat.lt_or_ge k (pcn form m) with h3 | h3
    · refine Or.inl ?_
      have hb := bl_32 (pt form (lv g m) s g k)
      have fin : ∃ s', pX3_spreadBy_b61j129 (nI k) (nI k) (pt form (lv g m) s g k) z2 z3 = some (Sum.inl s') ∧ k < pcn form m ∧ s'.1 = nI (k + 1) ∧ (∀ i, i < k + 1 → u32 (s'.2.1 i) = qs form s g m i) ∧ ∀ w, w ≤ 32 → s'.2.2 w = nI (lenc w (qs form s g m) (k + 1)) := by
        unfold pX3_spreadBy_b61j129
        simp (disch := omega) only [n_l0, n_l1, n_l2, n_l3, n_l4, n_l5, n_l6, n_l7, n_l8, n_l9, n_l15, n_l16, n_l17, n_l20, n_l24, n_l31, n_l32, n_l33, n_l36, n_l48, n_l49, n_l97, n_l128, n_l129, n_l192, n_l225, n_l256, n_l353, n_l400, n_l512, n_l593, n_l621, n_l640, n_l857, n_l1093, n_l1095, n_l2048, n_l3225, n_l10000, n_l22955, n_l29988, n_l29989, n_l65536, n_l99999, n_l1000000000, n_l2147483647, nI_add, pk_mul, pk_sub, pk_div, nI_clamp, ckN, nI_leI, nI_ltI, nI_eq, nI_nm1, Nat.add_zero, nI_addneg, k_ush, true_or, or_true, false_or, or_false, true_and, and_true, false_and, and_false, not_true_eq_false, not_false_eq_true, if_true, if_false, if_pos, if_neg, Option.bind_some, k_nlz, pk_us, show 32 - (32 - bl (u32 (pt form (lv g m) s g k))) = bl (u32 (pt form (lv g m) s g k)) by omega]
        refine ⟨_, rfl, h3, rfl, fun i hi => ?_, fun w hw => ?_⟩
        · show u32 (upd z2 k (pt form (lv g m) s g k) i) = _
          unfold upd
          split
          · rename_i hik; rw [hik]; rfl
          · exact h1 i (by omega)
        · show upd z3 (bl (u32 (pt form (lv g m) s g k))) _ w = _
          rw [lenc_s]
          show _ = nI (_ + if bl (u32 (pt form (lv g m) s g k)) = w then 1 else 0)
          unfold upd
          by_cases hw2 : w = bl (u32 (pt form (lv g m) s g k))
          · rw [if_pos hw2, if_pos hw2.symm, ← hw2, h2 w hw, nI_add]
          · rw [if_neg hw2, if_neg (fun q => hw2 q.symm), h2 w hw]
            rfl
      unfold pX3_spreadBy_b61 pX3_spreadBy_b61j107
      rcases (show form = 0 ∨ form = 1 ∨ form = 2 by omega) with rfl | rfl | rfl
      · have : pcn 0 m = m := rfl
        simp (disch := omega) only [n_l0, n_l1, n_l2, n_l3, n_l4, n_l5, n_l6, n_l7, n_l8, n_l9, n_l15, n_l16, n_l17, n_l20, n_l24, n_l31, n_l32, n_l33, n_l36, n_l48, n_l49, n_l97, n_l128, n_l129, n_l192, n_l225, n_l256, n_l353, n_l400, n_l512, n_l593, n_l621, n_l640, n_l857, n_l1093, n_l1095, n_l2048, n_l3225, n_l10000, n_l22955, n_l29988, n_l29989, n_l65536, n_l99999, n_l1000000000, n_l2147483647, nI_add, pk_mul, pk_sub, pk_div, nI_clamp, ckN, nI_leI, nI_ltI, nI_eq, nI_nm1, Nat.add_zero, nI_addneg, k_ush, true_or, or_true, false_or, or_false, true_and, and_true, false_and, and_false, not_true_eq_false, not_false_eq_true, if_true, if_false, if_pos, if_neg, Option.bind_some]
        exact fin
      · have : pcn 1 m = m - 1 := rfl
        have e0 := hs rfl
        subst e0
        rw [i_sub0]
        simp (disch := omega) only [n_l0, n_l1, n_l2, n_l3, n_l4, n_l5, n_l6, n_l7, n_l8, n_l9, n_l15, n_l16, n_l17, n_l20, n_l24, n_l31, n_l32, n_l33, n_l36, n_l48, n_l49, n_l97, n_l128, n_l129, n_l192, n_l225, n_l256, n_l353, n_l400, n_l512, n_l593, n_l621, n_l640, n_l857, n_l1093, n_l1095, n_l2048, n_l3225, n_l10000, n_l22955, n_l29988, n_l29989, n_l65536, n_l99999, n_l1000000000, n_l2147483647, nI_add, pk_mul, pk_sub, pk_div, nI_clamp, ckN, nI_leI, nI_ltI, nI_eq, nI_nm1, Nat.add_zero, nI_addneg, k_ush, true_or, or_true, false_or, or_false, true_and, and_true, false_and, and_false, not_true_eq_false, not_false_eq_true, if_true, if_false, if_pos, if_neg, Option.bind_some, k_fold]
        exact fin
      · have : pcn 2 m = m - 1 := rfl
        simp (disch := omega) only [n_l0, n_l1, n_l2, n_l3, n_l4, n_l5, n_l6, n_l7, n_l8, n_l9, n_l15, n_l16, n_l17, n_l20, n_l24, n_l31, n_l32, n_l33, n_l36, n_l48, n_l49, n_l97, n_l128, n_l129, n_l192, n_l225, n_l256, n_l353, n_l400, n_l512, n_l593, n_l621, n_l640, n_l857, n_l1093, n_l1095, n_l2048, n_l3225, n_l10000, n_l22955, n_l29988, n_l29989, n_l65536, n_l99999, n_l1000000000, n_l2147483647, nI_add, pk_mul, pk_sub, pk_div, nI_clamp, ckN, nI_leI, nI_ltI, nI_eq, nI_nm1, Nat.add_zero, nI_addneg, k_ush, true_or, or_true, false_or, or_false, true_and, and_true, false_and, and_false, not_true_eq_false, not_false_eq_true, if_true, if_false, if_pos, if_neg, Option.bind_some]
        exact fin
    · obtain rfl : k = pcn form m := by omega
      refine Or.inr ?_
      unfold pX3_spreadBy_b61
      simp (disch := omega) only [n_l0, n_l1, n_l2, n_l3, n_l4, n_l5, n_l6, n_l7, n_l8, n_l9, n_l15, n_l16, n_l17, n_l20, n_l24, n_l31, n_l32, n_l33, n_l36, n_l48, n_l49, n_l97, n_l128, n_l129, n_l192, n_l225, n_l256, n_l353, n_l400, n_l512, n_l593, n_l621, n_l640, n_l857, n_l1093, n_l1095, n_l2048, n_l3225, n_l10000, n_l22955, n_l29988, n_l29989, n_l65536, n_l99999, n_l1000000000, n_l2147483647, nI_add, pk_mul, pk_sub, pk_div, nI_clamp, ckN, nI_leI, nI_ltI, nI_eq, nI_nm1, Nat.add_zero, nI_addneg, k_ush, true_or, or_true, false_or, or_false, true_and, and_true, false_and, and_false, not_true_eq_false, not_false_eq_true, if_true, if_false, if_pos, if_neg, Option.bind_some]
      exact ⟨_, rfl, h1, h2⟩
  obtain ⟨r, e, h1, h2⟩ := key
  unfold pX3_spreadBy pX3_spreadBy_j31 pX3_spreadBy_j56
  rcases (show form = 0 ∨ (form ≠ 0 ∧ 2 ≤ m) by omega) with rfl | ⟨hne, h2m⟩
  · have : pcn 0 m = m := rfl
    have hb0 : bse 0 g m = lv g m := rfl
    rw [hb0, this] at e
    rw [hb0, this]
    simp (disch := omega) only [n_l0, n_l1, n_l2, n_l3, n_l4, n_l5, n_l6, n_l7, n_l8, n_l9, n_l15, n_l16, n_l17, n_l20, n_l24, n_l31, n_l32, n_l33, n_l36, n_l48, n_l49, n_l97, n_l128, n_l129, n_l192, n_l225, n_l256, n_l353, n_l400, n_l512, n_l593, n_l621, n_l640, n_l857, n_l1093, n_l1095, n_l2048, n_l3225, n_l10000, n_l22955, n_l29988, n_l29989, n_l65536, n_l99999, n_l1000000000, n_l2147483647, nI_add, pk_mul, pk_sub, pk_div, nI_clamp, ckN, nI_leI, nI_ltI, nI_eq, nI_nm1, Nat.add_zero, nI_addneg, k_ush, true_or, or_true, false_or, or_false, true_and, and_true, false_and, and_false, not_true_eq_false, not_false_eq_true, if_true, if_false, if_pos, if_neg, Option.bind_some, el, k_leastGiven hm, e]
    exact ⟨_, rfl, rfl, rfl, rfl, h1, h2⟩
  · have h9 : pcn form m = m - 1 := if_neg hne
    have hb0 : bse form g m = g 0 := if_neg hne
    rw [hb0, h9] at e
    rw [hb0]
    rw [h9] at h1 h2 ⊢
    simp (disch := omega) only [n_l0, n_l1, n_l2, n_l3, n_l4, n_l5, n_l6, n_l7, n_l8, n_l9, n_l15, n_l16, n_l17, n_l20, n_l24, n_l31, n_l32, n_l33, n_l36, n_l48, n_l49, n_l97, n_l128, n_l129, n_l192, n_l225, n_l256, n_l353, n_l400, n_l512, n_l593, n_l621, n_l640, n_l857, n_l1093, n_l1095, n_l2048, n_l3225, n_l10000, n_l22955, n_l29988, n_l29989, n_l65536, n_l99999, n_l1000000000, n_l2147483647, nI_add, pk_mul, pk_sub, pk_div, nI_clamp, ckN, nI_leI, nI_ltI, nI_eq, nI_nm1, Nat.add_zero, nI_addneg, k_ush, true_or, or_true, false_or, or_false, true_and, and_true, false_and, and_false, not_true_eq_false, not_false_eq_true, if_true, if_false, if_pos, if_neg, Option.bind_some, el, k_maxN (a := 0) (b := m - 1) (by omega) (by omega), Nat.max_eq_right (Nat.zero_le (m - 1)), e]
    exact ⟨_, rfl, rfl, rfl, rfl, h1, h2⟩
