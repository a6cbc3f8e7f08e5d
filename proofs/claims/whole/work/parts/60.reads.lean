/-! ===== the reading calls, fourth lot: what is pending; part, read, patched, difference ===== -/
/-- what is pending, by both -/
def PD (a : Nat → Int32) (ph : Int32) (ptl : Nat → Int64) (P : Nat) (tp : Nat → Option Int32) : Prop :=
  P ≤ 16 ∧ ph = nI P ∧ (∀ k, k < P → ptl k = enc (tp k)) ∧ a 3 = nI P ∧ ∀ k, k < P → a (4 + k) = vv (tp k) ∧ a (20 + k) = ee (tp k)
section Pend
variable {a : Nat → Int32} {ph : Int32} {ptl : Nat → Int64} {P : Nat} {tp : Nat → Option Int32} {v1 v2 v3 : Int32}
theorem r_takePending (h : PD a ph ptl P tp) (xv xw : Int32) (vs : Nat → Int32) : ∃ g, pX10_takePending xv xw a vs = some (nI (cnt tp 0 P), nI P, g) ∧ ∀ i, i < cnt tp 0 P → g i = val tp 0 P i := by
  obtain ⟨hP, _, _, h33, hR⟩ := h
  obtain ⟨r, e, h1, h2⟩ := lpE (body := pX10_takePending_b17 (nI P) a) (fun k s => s.1 = nI k ∧ s.2.1 = nI (cnt tp 0 k) ∧ ∀ i, i < cnt tp 0 k → s.2.2 i = val tp 0 k i)
    (fun r => r.2.1 = nI (cnt tp 0 P) ∧ ∀ i, i < cnt tp 0 P → r.2.2 i = val tp 0 P i) P (nI 0, nI 0, vs) ⟨rfl, rfl, fun i hi => absurd hi (Nat.not_lt_zero i)⟩ (fun k s hk hI => by
      obtain ⟨s1, s2, s3⟩ := s
      obtain ⟨rfl, rfl, h3⟩ := hI
      have hle := cnt_le tp 0 k
      rcases Nat.lt_or_ge k P with hkn | hkn
      · refine Or.inl ?_
        unfold pX10_takePending_b17 pX10_takePending_b17j68
        simp (disch := omega) only [n_l0, n_l1, n_l2, n_l3, n_l4, n_l5, n_l6, n_l7, n_l8, n_l9, n_l15, n_l16, n_l17, n_l20, n_l24, n_l31, n_l32, n_l33, n_l36, n_l48, n_l49, n_l97, n_l128, n_l129, n_l192, n_l225, n_l256, n_l353, n_l400, n_l512, n_l593, n_l621, n_l640, n_l857, n_l1093, n_l1095, n_l2048, n_l3225, n_l10000, n_l22955, n_l29988, n_l29989, n_l65536, n_l99999, n_l1000000000, n_l2147483647, nI_add, pk_mul, pk_sub, pk_div, nI_clamp, ckN, nI_leI, nI_ltI, nI_eq, nI_nm1, Nat.add_zero, nI_addneg, k_ush, true_or, or_true, false_or, or_false, true_and, and_true, false_and, and_false, not_true_eq_false, not_false_eq_true, if_true, if_false, if_pos, if_neg, Option.bind_some, (hR k hkn).1, (hR k hkn).2]
        cases ht : tp k with
        | none =>
          obtain ⟨c1, c2⟩ := cnt_none (tv := tp) (f := 0) (k := k) (by rw [Nat.zero_add]; exact ht)
          rw [c1, c2]
          exact ⟨_, if_pos rfl, hkn, rfl, rfl, h3⟩
        | some v =>
          obtain ⟨c1, c2⟩ := cnt_some (tv := tp) (f := 0) (k := k) (by rw [Nat.zero_add]; exact ht)
          rw [c1, c2]
          refine ⟨_, if_neg (fun q => absurd (show nI 0 = nI 1 from q) (by decide)), hkn, rfl, rfl, fun i hi => ?_⟩
          show upd s3 (cnt tp 0 k) v i = upd (val tp 0 k) (cnt tp 0 k) v i
          unfold upd
          split
          · rfl
          · exact h3 i (by omega)
      · obtain rfl : k = P := by omega
        refine Or.inr ⟨(nI k, nI (cnt tp 0 k), s3), ?_, rfl, h3⟩
        unfold pX10_takePending_b17
        simp (disch := omega) only [n_l0, n_l1, n_l2, n_l3, n_l4, n_l5, n_l6, n_l7, n_l8, n_l9, n_l15, n_l16, n_l17, n_l20, n_l24, n_l31, n_l32, n_l33, n_l36, n_l48, n_l49, n_l97, n_l128, n_l129, n_l192, n_l225, n_l256, n_l353, n_l400, n_l512, n_l593, n_l621, n_l640, n_l857, n_l1093, n_l1095, n_l2048, n_l3225, n_l10000, n_l22955, n_l29988, n_l29989, n_l65536, n_l99999, n_l1000000000, n_l2147483647, nI_add, pk_mul, pk_sub, pk_div, nI_clamp, ckN, nI_leI, nI_ltI, nI_eq, nI_nm1, Nat.add_zero, nI_addneg, k_ush, true_or, or_true, false_or, or_false, true_and, and_true, false_and, and_false, not_true_eq_false, not_false_eq_true, if_true, if_false, if_pos, if_neg, Option.bind_some])
  refine ⟨r.2.2, ?_, h2⟩
  unfold pX10_takePending
  simp (disch := omega) only [n_l0, n_l1, n_l2, n_l3, n_l4, n_l5, n_l6, n_l7, n_l8, n_l9, n_l15, n_l16, n_l17, n_l20, n_l24, n_l31, n_l32, n_l33, n_l36, n_l48, n_l49, n_l97, n_l128, n_l129, n_l192, n_l225, n_l256, n_l353, n_l400, n_l512, n_l593, n_l621, n_l640, n_l857, n_l1093, n_l1095, n_l2048, n_l3225, n_l10000, n_l22955, n_l29988, n_l29989, n_l65536, n_l99999, n_l1000000000, n_l2147483647, nI_add, pk_mul, pk_sub, pk_div, nI_clamp, ckN, nI_leI, nI_ltI, nI_eq, nI_nm1, Nat.add_zero, nI_addneg, k_ush, true_or, or_true, false_or, or_false, true_and, and_true, false_and, and_false, not_true_eq_false, not_false_eq_true, if_true, if_false, if_pos, if_neg, Option.bind_some, h33, e, h1]
theorem r_canBeO {m : Int32} (h : v1 < 0 ∨ nI 3 ≤ v1) : pX10_canBe v1 m = some (nI 0) := by
  unfold pX10_canBe
  have h0 : ¬ v1 = 0 := fun q => by
    subst q
    rcases h with h | h
    · exact absurd h (by decide)
    · exact absurd h (by decide)
  rw [if_neg h0]
  have : pX10_isIn v1 (nI 1) (nI 2) = some (nI 0) := by
    rcases h with h | h
    · exact r_isIn_lo (by
        have := Int32.lt_iff_toInt_lt.mp h
        refine Int32.lt_iff_toInt_lt.mpr ?_
        have h3 : (0 : Int32).toInt = 0 := by decide
        have h4 : (nI 1 : Int32).toInt = 1 := by decide
        omega)
    · exact r_isIn_hi (by
        have := Int32.le_iff_toInt_le.mp h
        refine Int32.lt_iff_toInt_lt.mpr ?_
        have h3 : (nI 3).toInt = 3 := by decide
        have h4 : (nI 2 : Int32).toInt = 2 := by decide
        omega)
  simp (disch := omega) only [n_l0, n_l1, n_l2, n_l3, n_l4, n_l5, n_l6, n_l7, n_l8, n_l9, n_l15, n_l16, n_l17, n_l20, n_l24, n_l31, n_l32, n_l33, n_l36, n_l48, n_l49, n_l97, n_l128, n_l129, n_l192, n_l225, n_l256, n_l353, n_l400, n_l512, n_l593, n_l621, n_l640, n_l857, n_l1093, n_l1095, n_l2048, n_l3225, n_l10000, n_l22955, n_l29988, n_l29989, n_l65536, n_l99999, n_l1000000000, n_l2147483647, nI_add, pk_mul, pk_sub, pk_div, nI_clamp, ckN, nI_leI, nI_ltI, nI_eq, nI_nm1, Nat.add_zero, nI_addneg, k_ush, true_or, or_true, false_or, or_false, true_and, and_true, false_and, and_false, not_true_eq_false, not_false_eq_true, if_true, if_false, if_pos, if_neg, Option.bind_some, this]
theorem k_suitsO {m : Int32} (h : v1 < 0 ∨ nI 3 ≤ v1) : pX3_suits v1 m = some (nI 0) := by
  unfold pX3_suits
  have h0 : ¬ v1 = 0 := fun q => by
    subst q
    rcases h with h | h
    · exact absurd h (by decide)
    · exact absurd h (by decide)
  rw [if_neg h0]
  rcases h with h | h
  · rw [if_pos (Int32.le_of_lt h)]; rfl
  · rw [if_pos (show (3 : Int32) ≤ v1 from h)]
    split <;> rfl
theorem k_pend (h : PD a ph ptl P tp) (xp xv : Int32) (g0 : Nat → Int32) : ∃ g, pX3_load 16 (nI 0) ph xp xv g0 ph ptl = some (nI P, nI (cnt tp 0 P), g) ∧ ∀ i, i < cnt tp 0 P → g i = val tp 0 P i := by
  obtain ⟨hP, rfl, ht, h3, hR⟩ := h
  have e : min P (P - 0) = P := Nat.min_eq_left (by omega)
  obtain ⟨g, e1, h1⟩ := k_load (N := 16) (H := P) (f := 0) (n := P) (by omega) (by omega) (by omega) hP ht xp xv g0
  rw [e] at e1 h1
  exact ⟨g, e1, h1⟩
theorem k_mp {form : Nat} (hf : form ≤ 2) (h : PD a ph ptl P tp) (xp xv : Int32) (g0 : Nat → Int32) : ∃ g, pX9_measurePending 16 (nI form) ph ptl xp xv g0 = some (if 0 < P ∧ (form = 0 ∨ 2 ≤ cnt tp 0 P) then nI 1 else nI 0, nI P, nI (cnt tp 0 P), g) ∧ ∀ i, i < cnt tp 0 P → g i = val tp 0 P i := by
  have hP := h.1
  have hm := cnt_le tp 0 P
  obtain ⟨g, e, hg⟩ := k_pend h xp xv g0
  refine ⟨g, ?_, hg⟩
  unfold pX9_measurePending
  by_cases h0 : 0 < P
  · by_cases hc : form = 0 ∨ 2 ≤ cnt tp 0 P
    · simp (disch := omega) only [n_l0, n_l1, n_l2, n_l3, n_l4, n_l5, n_l6, n_l7, n_l8, n_l9, n_l15, n_l16, n_l17, n_l20, n_l24, n_l31, n_l32, n_l33, n_l36, n_l48, n_l49, n_l97, n_l128, n_l129, n_l192, n_l225, n_l256, n_l353, n_l400, n_l512, n_l593, n_l621, n_l640, n_l857, n_l1093, n_l1095, n_l2048, n_l3225, n_l10000, n_l22955, n_l29988, n_l29989, n_l65536, n_l99999, n_l1000000000, n_l2147483647, nI_add, pk_mul, pk_sub, pk_div, nI_clamp, ckN, nI_leI, nI_ltI, nI_eq, nI_nm1, Nat.add_zero, nI_addneg, k_ush, true_or, or_true, false_or, or_false, true_and, and_true, false_and, and_false, not_true_eq_false, not_false_eq_true, if_true, if_false, if_pos, if_neg, Option.bind_some, e, k_suits hf (show cnt tp 0 P ≤ 16 by omega), hc, h0]
    · simp (disch := omega) only [n_l0, n_l1, n_l2, n_l3, n_l4, n_l5, n_l6, n_l7, n_l8, n_l9, n_l15, n_l16, n_l17, n_l20, n_l24, n_l31, n_l32, n_l33, n_l36, n_l48, n_l49, n_l97, n_l128, n_l129, n_l192, n_l225, n_l256, n_l353, n_l400, n_l512, n_l593, n_l621, n_l640, n_l857, n_l1093, n_l1095, n_l2048, n_l3225, n_l10000, n_l22955, n_l29988, n_l29989, n_l65536, n_l99999, n_l1000000000, n_l2147483647, nI_add, pk_mul, pk_sub, pk_div, nI_clamp, ckN, nI_leI, nI_ltI, nI_eq, nI_nm1, Nat.add_zero, nI_addneg, k_ush, true_or, or_true, false_or, or_false, true_and, and_true, false_and, and_false, not_true_eq_false, not_false_eq_true, if_true, if_false, if_pos, if_neg, Option.bind_some, e, k_suits hf (show cnt tp 0 P ≤ 16 by omega), hc, h0]
  · obtain rfl : P = 0 := by omega
    simp (disch := omega) only [n_l0, n_l1, n_l2, n_l3, n_l4, n_l5, n_l6, n_l7, n_l8, n_l9, n_l15, n_l16, n_l17, n_l20, n_l24, n_l31, n_l32, n_l33, n_l36, n_l48, n_l49, n_l97, n_l128, n_l129, n_l192, n_l225, n_l256, n_l353, n_l400, n_l512, n_l593, n_l621, n_l640, n_l857, n_l1093, n_l1095, n_l2048, n_l3225, n_l10000, n_l22955, n_l29988, n_l29989, n_l65536, n_l99999, n_l1000000000, n_l2147483647, nI_add, pk_mul, pk_sub, pk_div, nI_clamp, ckN, nI_leI, nI_ltI, nI_eq, nI_nm1, Nat.add_zero, nI_addneg, k_ush, true_or, or_true, false_or, or_false, true_and, and_true, false_and, and_false, not_true_eq_false, not_false_eq_true, if_true, if_false, if_pos, if_neg, Option.bind_some, e]
theorem k_mpO (hv : v1 < 0 ∨ nI 3 ≤ v1) (h : PD a ph ptl P tp) (xp xv : Int32) (g0 : Nat → Int32) : ∃ g, pX9_measurePending 16 v1 ph ptl xp xv g0 = some (nI 0, nI P, nI (cnt tp 0 P), g) := by
  have hP := h.1
  obtain ⟨g, e, hg⟩ := k_pend h xp xv g0
  refine ⟨g, ?_⟩
  unfold pX9_measurePending
  by_cases h0 : 0 < P
  · simp (disch := omega) only [n_l0, n_l1, n_l2, n_l3, n_l4, n_l5, n_l6, n_l7, n_l8, n_l9, n_l15, n_l16, n_l17, n_l20, n_l24, n_l31, n_l32, n_l33, n_l36, n_l48, n_l49, n_l97, n_l128, n_l129, n_l192, n_l225, n_l256, n_l353, n_l400, n_l512, n_l593, n_l621, n_l640, n_l857, n_l1093, n_l1095, n_l2048, n_l3225, n_l10000, n_l22955, n_l29988, n_l29989, n_l65536, n_l99999, n_l1000000000, n_l2147483647, nI_add, pk_mul, pk_sub, pk_div, nI_clamp, ckN, nI_leI, nI_ltI, nI_eq, nI_nm1, Nat.add_zero, nI_addneg, k_ush, true_or, or_true, false_or, or_false, true_and, and_true, false_and, and_false, not_true_eq_false, not_false_eq_true, if_true, if_false, if_pos, if_neg, Option.bind_some, e, k_suitsO hv, h0]
  · obtain rfl : P = 0 := by omega
    simp (disch := omega) only [n_l0, n_l1, n_l2, n_l3, n_l4, n_l5, n_l6, n_l7, n_l8, n_l9, n_l15, n_l16, n_l17, n_l20, n_l24, n_l31, n_l32, n_l33, n_l36, n_l48, n_l49, n_l97, n_l128, n_l129, n_l192, n_l225, n_l256, n_l353, n_l400, n_l512, n_l593, n_l621, n_l640, n_l857, n_l1093, n_l1095, n_l2048, n_l3225, n_l10000, n_l22955, n_l29988, n_l29989, n_l65536, n_l99999, n_l1000000000, n_l2147483647, nI_add, pk_mul, pk_sub, pk_div, nI_clamp, ckN, nI_leI, nI_ltI, nI_eq, nI_nm1, Nat.add_zero, nI_addneg, k_ush, true_or, or_true, false_or, or_false, true_and, and_true, false_and, and_false, not_true_eq_false, not_false_eq_true, if_true, if_false, if_pos, if_neg, Option.bind_some, e]
theorem r_laid {form : Nat} (hf : form ≤ 2) (h : PD a ph ptl P tp) (xv xw xp xs : Int32) (vs : Nat → Int32) (ps : Nat → Int64) :
    ∃ z, pX10_areLaid (nI form) xv xw xp xs a vs ps = some z ∧ ((¬ (0 < P ∧ (form = 0 ∨ 2 ≤ cnt tp 0 P)) ∧ z.1 = nI 0) ∨ ((0 < P ∧ (form = 0 ∨ 2 ≤ cnt tp 0 P)) ∧ z.1 = nI 1 ∧ z.2.1 = nI (cnt tp 0 P) ∧ z.2.2.1 = nI P ∧ z.2.2.2.1 = nI (pcn form (cnt tp 0 P)) ∧ (∀ i, i < pcn form (cnt tp 0 P) → z.2.2.2.2.2.2 i = lN (qs form (stp (val tp 0 P) (cnt tp 0 P)) (val tp 0 P) (cnt tp 0 P) i)))) := by
  have hP := h.1
  have hm := cnt_le tp 0 P
  obtain ⟨g, e, hg⟩ := r_takePending h xv xw vs
  unfold pX10_areLaid pX10_areLaid_j38
  by_cases h0 : 0 < P
  · by_cases hc : form = 0 ∨ 2 ≤ cnt tp 0 P
    · by_cases h1 : cnt tp 0 P ≤ 1
      · obtain ⟨q, e2, hq⟩ := r_layParts (form := form) (m := cnt tp 0 P) hf (by omega) xp (nI 0) g ps
        have hs : stp (val tp 0 P) (cnt tp 0 P) = nI 0 := if_pos h1
        simp (disch := omega) only [n_l0, n_l1, n_l2, n_l3, n_l4, n_l5, n_l6, n_l7, n_l8, n_l9, n_l15, n_l16, n_l17, n_l20, n_l24, n_l31, n_l32, n_l33, n_l36, n_l48, n_l49, n_l97, n_l128, n_l129, n_l192, n_l225, n_l256, n_l353, n_l400, n_l512, n_l593, n_l621, n_l640, n_l857, n_l1093, n_l1095, n_l2048, n_l3225, n_l10000, n_l22955, n_l29988, n_l29989, n_l65536, n_l99999, n_l1000000000, n_l2147483647, nI_add, pk_mul, pk_sub, pk_div, nI_clamp, ckN, nI_leI, nI_ltI, nI_eq, nI_nm1, Nat.add_zero, nI_addneg, k_ush, true_or, or_true, false_or, or_false, true_and, and_true, false_and, and_false, not_true_eq_false, not_false_eq_true, if_true, if_false, if_pos, if_neg, Option.bind_some, e, r_canBe hf (show cnt tp 0 P ≤ 16 by omega), hc, h0, e2]
        refine ⟨_, rfl, rfl, rfl, rfl, rfl, fun i hi => ?_⟩
        show q i = _
        rw [hq i hi, hs, qs_congr _ _ _ hg i hi]
      · obtain ⟨q, e2, hq⟩ := r_layParts (form := form) (m := cnt tp 0 P) hf (by omega) xp (lss g (cnt tp 0 P - 2)) g ps
        have hs : stp (val tp 0 P) (cnt tp 0 P) = lss g (cnt tp 0 P - 2) := by
          rw [← stp_congr _ hg]; exact if_neg h1
        simp (disch := omega) only [n_l0, n_l1, n_l2, n_l3, n_l4, n_l5, n_l6, n_l7, n_l8, n_l9, n_l15, n_l16, n_l17, n_l20, n_l24, n_l31, n_l32, n_l33, n_l36, n_l48, n_l49, n_l97, n_l128, n_l129, n_l192, n_l225, n_l256, n_l353, n_l400, n_l512, n_l593, n_l621, n_l640, n_l857, n_l1093, n_l1095, n_l2048, n_l3225, n_l10000, n_l22955, n_l29988, n_l29989, n_l65536, n_l99999, n_l1000000000, n_l2147483647, nI_add, pk_mul, pk_sub, pk_div, nI_clamp, ckN, nI_leI, nI_ltI, nI_eq, nI_nm1, Nat.add_zero, nI_addneg, k_ush, true_or, or_true, false_or, or_false, true_and, and_true, false_and, and_false, not_true_eq_false, not_false_eq_true, if_true, if_false, if_pos, if_neg, Option.bind_some, e, r_canBe hf (show cnt tp 0 P ≤ 16 by omega), hc, h0, r_leastStep (show 2 ≤ cnt tp 0 P by omega) (show cnt tp 0 P ≤ 16 by omega), e2]
        refine ⟨_, rfl, rfl, rfl, rfl, rfl, fun i hi => ?_⟩
        show q i = _
        rw [hq i hi, hs, qs_congr _ _ _ hg i hi]
    · simp (disch := omega) only [n_l0, n_l1, n_l2, n_l3, n_l4, n_l5, n_l6, n_l7, n_l8, n_l9, n_l15, n_l16, n_l17, n_l20, n_l24, n_l31, n_l32, n_l33, n_l36, n_l48, n_l49, n_l97, n_l128, n_l129, n_l192, n_l225, n_l256, n_l353, n_l400, n_l512, n_l593, n_l621, n_l640, n_l857, n_l1093, n_l1095, n_l2048, n_l3225, n_l10000, n_l22955, n_l29988, n_l29989, n_l65536, n_l99999, n_l1000000000, n_l2147483647, nI_add, pk_mul, pk_sub, pk_div, nI_clamp, ckN, nI_leI, nI_ltI, nI_eq, nI_nm1, Nat.add_zero, nI_addneg, k_ush, true_or, or_true, false_or, or_false, true_and, and_true, false_and, and_false, not_true_eq_false, not_false_eq_true, if_true, if_false, if_pos, if_neg, Option.bind_some, e, r_canBe hf (show cnt tp 0 P ≤ 16 by omega), hc, h0]
      exact ⟨_, rfl, rfl⟩
  · obtain rfl : P = 0 := by omega
    simp (disch := omega) only [n_l0, n_l1, n_l2, n_l3, n_l4, n_l5, n_l6, n_l7, n_l8, n_l9, n_l15, n_l16, n_l17, n_l20, n_l24, n_l31, n_l32, n_l33, n_l36, n_l48, n_l49, n_l97, n_l128, n_l129, n_l192, n_l225, n_l256, n_l353, n_l400, n_l512, n_l593, n_l621, n_l640, n_l857, n_l1093, n_l1095, n_l2048, n_l3225, n_l10000, n_l22955, n_l29988, n_l29989, n_l65536, n_l99999, n_l1000000000, n_l2147483647, nI_add, pk_mul, pk_sub, pk_div, nI_clamp, ckN, nI_leI, nI_ltI, nI_eq, nI_nm1, Nat.add_zero, nI_addneg, k_ush, true_or, or_true, false_or, or_false, true_and, and_true, false_and, and_false, not_true_eq_false, not_false_eq_true, if_true, if_false, if_pos, if_neg, Option.bind_some, e]
    exact ⟨_, rfl, Or.inl ⟨fun q => absurd q.1 (Nat.lt_irrefl 0), rfl⟩⟩
theorem r_laidO (hv : v1 < 0 ∨ nI 3 ≤ v1) (h : PD a ph ptl P tp) (xv xw xp xs : Int32) (vs : Nat → Int32) (ps : Nat → Int64) : ∃ z, pX10_areLaid v1 xv xw xp xs a vs ps = some z ∧ z.1 = nI 0 := by
  have hP := h.1
  obtain ⟨g, e, hg⟩ := r_takePending h xv xw vs
  unfold pX10_areLaid pX10_areLaid_j38
  by_cases h0 : 0 < P
  · simp (disch := omega) only [n_l0, n_l1, n_l2, n_l3, n_l4, n_l5, n_l6, n_l7, n_l8, n_l9, n_l15, n_l16, n_l17, n_l20, n_l24, n_l31, n_l32, n_l33, n_l36, n_l48, n_l49, n_l97, n_l128, n_l129, n_l192, n_l225, n_l256, n_l353, n_l400, n_l512, n_l593, n_l621, n_l640, n_l857, n_l1093, n_l1095, n_l2048, n_l3225, n_l10000, n_l22955, n_l29988, n_l29989, n_l65536, n_l99999, n_l1000000000, n_l2147483647, nI_add, pk_mul, pk_sub, pk_div, nI_clamp, ckN, nI_leI, nI_ltI, nI_eq, nI_nm1, Nat.add_zero, nI_addneg, k_ush, true_or, or_true, false_or, or_false, true_and, and_true, false_and, and_false, not_true_eq_false, not_false_eq_true, if_true, if_false, if_pos, if_neg, Option.bind_some, e, r_canBeO hv, h0]
    exact ⟨_, rfl, rfl⟩
  · obtain rfl : P = 0 := by omega
    simp (disch := omega) only [n_l0, n_l1, n_l2, n_l3, n_l4, n_l5, n_l6, n_l7, n_l8, n_l9, n_l15, n_l16, n_l17, n_l20, n_l24, n_l31, n_l32, n_l33, n_l36, n_l48, n_l49, n_l97, n_l128, n_l129, n_l192, n_l225, n_l256, n_l353, n_l400, n_l512, n_l593, n_l621, n_l640, n_l857, n_l1093, n_l1095, n_l2048, n_l3225, n_l10000, n_l22955, n_l29988, n_l29989, n_l65536, n_l99999, n_l1000000000, n_l2147483647, nI_add, pk_mul, pk_sub, pk_div, nI_clamp, ckN, nI_leI, nI_ltI, nI_eq, nI_nm1, Nat.add_zero, nI_addneg, k_ush, true_or, or_true, false_or, or_false, true_and, and_true, false_and, and_false, not_true_eq_false, not_false_eq_true, if_true, if_false, if_pos, if_neg, Option.bind_some, e]
    exact ⟨_, rfl, rfl⟩
theorem w_cases (v : Int32) : (∃ k, k ≤ 32 ∧ v = nI k) ∨ v < nI 0 ∨ nI 32 < v := by
  rcases pk_ix v (n := 33) (by decide) with h | h | ⟨k, h1, h2⟩
  · exact Or.inr (Or.inl h)
  · refine Or.inr (Or.inr ?_)
    have := Int32.le_iff_toInt_le.mp h
    refine Int32.lt_iff_toInt_lt.mpr ?_
    have h3 : (nI 33).toInt = 33 := by decide
    have h4 : (nI 32).toInt = 32 := by decide
    omega
  · exact Or.inl ⟨k, by omega, h2⟩
theorem r_w {k : Nat} (h : k ≤ 32) : pX10_isIn (nI k) (nI 0) (nI 32) = some (nI 1) := r_isInT (Nat.zero_le _) h (by omega)
theorem k_spread {form m : Nat} (hf : form ≤ 2) (hfm : form = 0 ∨ 2 ≤ m) (hm : m ≤ 16) (xp xb xs : Int32) (g ps ls : Nat → Int32) :
    ∃ z, pX3_spread (nI form) (nI m) xp xb xs g ps ls = some z ∧ z.1 = nI (pcn form m) ∧ (∀ i, i < pcn form m → u32 (z.2.2.2.1 i) = qs form (stp g m) g m i) ∧ ∀ w, w ≤ 32 → z.2.2.2.2 w = nI (lenc w (qs form (stp g m) g m) (pcn form m)) := by
  have hst : pX3_stepOf (nI form) (nI m) g = some (if form = 2 then stp g m else 0) := by
    rcases (show form = 2 ∨ form < 2 by omega) with rfl | h2
    · exact k_stepOf2 (by omega) hm g
    · rw [if_neg (by omega)]; exact k_stepOf0 h2 _ _
  obtain ⟨y, ey, y1, y2, y3, y4, y5⟩ := k_spreadBy (form := form) (m := m) hf hfm hm (if form = 2 then stp g m else 0) xp xb xs (fun h1 => if_neg (by omega)) g ps ls
  have hqq : qs form (if form = 2 then stp g m else 0) g m = qs form (stp g m) g m := by
    rcases (show form = 2 ∨ form < 2 by omega) with rfl | h2
    · rfl
    · exact qs_st0 h2 _ _ _ _
  rw [hqq] at y4 y5
  unfold pX3_spread
  rw [hst, Option.bind_some, ey]
  exact ⟨_, rfl, y1, y4, y5⟩
theorem lenc_congr {w : Nat} {q r : Nat → Nat} : ∀ n, (∀ i, i < n → q i = r i) → lenc w q n = lenc w r n := by
  intro n
  induction n with
  | zero => intro _; rfl
  | succ k ih => intro h; rw [lenc_s, lenc_s, ih (fun i hi => h i (by omega)), h k (by omega)]
theorem q_total (h : PD a ph ptl P tp) (xv xw xp xs : Int32) (vs : Nat → Int32) (ps : Nat → Int64) (m1 m2 m3 m4 m5 : Int32) (n1 n2 n3 : Nat → Int32) : ∃ z w, pX10_total v1 v2 xv xw xp xs a vs ps = some z ∧ pX9_total 16 v1 v2 ph ptl m1 m2 m3 m4 m5 n1 n2 n3 = some w ∧ w.1 = z.1 := by
  have hP := h.1
  have hm := cnt_le tp 0 P
  unfold pX10_total pX9_total
  rcases col_cases v1 with ⟨form, hf, rfl⟩ | hv
  · obtain ⟨g, e, hg⟩ := k_mp (form := form) (by omega) h m1 m2 n1
    obtain ⟨z, ez, hz⟩ := r_laid (form := form) (by omega) h xv xw xp xs vs ps
    rcases w_cases v2 with ⟨k, hk, rfl⟩ | hw | hw
    · rcases hz with ⟨hn, hz⟩ | ⟨hy, h1, h2, h3, h4, h6⟩
      · simp (disch := omega) only [n_l0, n_l1, n_l2, n_l3, n_l4, n_l5, n_l6, n_l7, n_l8, n_l9, n_l15, n_l16, n_l17, n_l20, n_l24, n_l31, n_l32, n_l33, n_l36, n_l48, n_l49, n_l97, n_l128, n_l129, n_l192, n_l225, n_l256, n_l353, n_l400, n_l512, n_l593, n_l621, n_l640, n_l857, n_l1093, n_l1095, n_l2048, n_l3225, n_l10000, n_l22955, n_l29988, n_l29989, n_l65536, n_l99999, n_l1000000000, n_l2147483647, nI_add, pk_mul, pk_sub, pk_div, nI_clamp, ckN, nI_leI, nI_ltI, nI_eq, nI_nm1, Nat.add_zero, nI_addneg, k_ush, true_or, or_true, false_or, or_false, true_and, and_true, false_and, and_false, not_true_eq_false, not_false_eq_true, if_true, if_false, if_pos, if_neg, Option.bind_some, r_w hk, ez, e, hz, hn]
        exact ⟨_, _, rfl, rfl, rfl⟩
      · obtain ⟨y, ey, y1, y4, _⟩ := k_spread (form := form) (m := cnt tp 0 P) (by omega) hy.2 (by omega) m3 m4 m5 g n2 n3
        have y5 : ∀ i, i < pcn form (cnt tp 0 P) → u32 (y.2.2.2.1 i) = qs form (stp (val tp 0 P) (cnt tp 0 P)) (val tp 0 P) (cnt tp 0 P) i := fun i hi => by
          rw [y4 i hi, stp_congr _ hg, qs_congr _ _ _ hg i hi]
        have hp := pcn_le form (cnt tp 0 P)
        have hr := r_totalBy (form := form) (w := k) (n := P) (m := cnt tp 0 P) (by omega) hk hP (by omega) (show pcn form (cnt tp 0 P) ≤ 16 by omega) (fun i hi => ⟨qs_lt _ _ _ _ _, h6 i hi⟩)
        have ko := k_overAt (w := k) (show pcn form (cnt tp 0 P) ≤ 16 by omega) hk y5
        have kb := k_bitsBy (form := form) (n := P) (m := cnt tp 0 P) (w := k) (by omega) hP (by omega) (show pcn form (cnt tp 0 P) ≤ 16 by omega) hk y5
        have hle := exc_le k (qs form (stp (val tp 0 P) (cnt tp 0 P)) (val tp 0 P) (cnt tp 0 P)) (pcn form (cnt tp 0 P))
        generalize exc k (qs form (stp (val tp 0 P) (cnt tp 0 P)) (val tp 0 P) (cnt tp 0 P)) (pcn form (cnt tp 0 P)) = E at *
        by_cases h15 : E ≤ 15
        · simp (disch := omega) only [n_l0, n_l1, n_l2, n_l3, n_l4, n_l5, n_l6, n_l7, n_l8, n_l9, n_l15, n_l16, n_l17, n_l20, n_l24, n_l31, n_l32, n_l33, n_l36, n_l48, n_l49, n_l97, n_l128, n_l129, n_l192, n_l225, n_l256, n_l353, n_l400, n_l512, n_l593, n_l621, n_l640, n_l857, n_l1093, n_l1095, n_l2048, n_l3225, n_l10000, n_l22955, n_l29988, n_l29989, n_l65536, n_l99999, n_l1000000000, n_l2147483647, nI_add, pk_mul, pk_sub, pk_div, nI_clamp, ckN, nI_leI, nI_ltI, nI_eq, nI_nm1, Nat.add_zero, nI_addneg, k_ush, true_or, or_true, false_or, or_false, true_and, and_true, false_and, and_false, not_true_eq_false, not_false_eq_true, if_true, if_false, if_pos, if_neg, Option.bind_some, r_w hk, ez, e, hy, h1, h2, h3, h4, ey, y1, hr, ko, kb]
          exact ⟨_, _, rfl, rfl, rfl⟩
        · simp (disch := omega) only [n_l0, n_l1, n_l2, n_l3, n_l4, n_l5, n_l6, n_l7, n_l8, n_l9, n_l15, n_l16, n_l17, n_l20, n_l24, n_l31, n_l32, n_l33, n_l36, n_l48, n_l49, n_l97, n_l128, n_l129, n_l192, n_l225, n_l256, n_l353, n_l400, n_l512, n_l593, n_l621, n_l640, n_l857, n_l1093, n_l1095, n_l2048, n_l3225, n_l10000, n_l22955, n_l29988, n_l29989, n_l65536, n_l99999, n_l1000000000, n_l2147483647, nI_add, pk_mul, pk_sub, pk_div, nI_clamp, ckN, nI_leI, nI_ltI, nI_eq, nI_nm1, Nat.add_zero, nI_addneg, k_ush, true_or, or_true, false_or, or_false, true_and, and_true, false_and, and_false, not_true_eq_false, not_false_eq_true, if_true, if_false, if_pos, if_neg, Option.bind_some, r_w hk, ez, e, hy, h1, h2, h3, h4, ey, y1, hr, ko]
          exact ⟨_, _, rfl, rfl, rfl⟩
    · simp (disch := omega) only [n_l0, n_l1, n_l2, n_l3, n_l4, n_l5, n_l6, n_l7, n_l8, n_l9, n_l15, n_l16, n_l17, n_l20, n_l24, n_l31, n_l32, n_l33, n_l36, n_l48, n_l49, n_l97, n_l128, n_l129, n_l192, n_l225, n_l256, n_l353, n_l400, n_l512, n_l593, n_l621, n_l640, n_l857, n_l1093, n_l1095, n_l2048, n_l3225, n_l10000, n_l22955, n_l29988, n_l29989, n_l65536, n_l99999, n_l1000000000, n_l2147483647, nI_add, pk_mul, pk_sub, pk_div, nI_clamp, ckN, nI_leI, nI_ltI, nI_eq, nI_nm1, Nat.add_zero, nI_addneg, k_ush, true_or, or_true, false_or, or_false, true_and, and_true, false_and, and_false, not_true_eq_false, not_false_eq_true, if_true, if_false, if_pos, if_neg, Option.bind_some, r_isIn_lo hw, e, hw]
      by_cases hc : 0 < P ∧ (form = 0 ∨ 2 ≤ cnt tp 0 P)
      · simp (disch := omega) only [n_l0, n_l1, n_l2, n_l3, n_l4, n_l5, n_l6, n_l7, n_l8, n_l9, n_l15, n_l16, n_l17, n_l20, n_l24, n_l31, n_l32, n_l33, n_l36, n_l48, n_l49, n_l97, n_l128, n_l129, n_l192, n_l225, n_l256, n_l353, n_l400, n_l512, n_l593, n_l621, n_l640, n_l857, n_l1093, n_l1095, n_l2048, n_l3225, n_l10000, n_l22955, n_l29988, n_l29989, n_l65536, n_l99999, n_l1000000000, n_l2147483647, nI_add, pk_mul, pk_sub, pk_div, nI_clamp, ckN, nI_leI, nI_ltI, nI_eq, nI_nm1, Nat.add_zero, nI_addneg, k_ush, true_or, or_true, false_or, or_false, true_and, and_true, false_and, and_false, not_true_eq_false, not_false_eq_true, if_true, if_false, if_pos, if_neg, Option.bind_some, hc]
        exact ⟨_, _, rfl, rfl, rfl⟩
      · simp (disch := omega) only [n_l0, n_l1, n_l2, n_l3, n_l4, n_l5, n_l6, n_l7, n_l8, n_l9, n_l15, n_l16, n_l17, n_l20, n_l24, n_l31, n_l32, n_l33, n_l36, n_l48, n_l49, n_l97, n_l128, n_l129, n_l192, n_l225, n_l256, n_l353, n_l400, n_l512, n_l593, n_l621, n_l640, n_l857, n_l1093, n_l1095, n_l2048, n_l3225, n_l10000, n_l22955, n_l29988, n_l29989, n_l65536, n_l99999, n_l1000000000, n_l2147483647, nI_add, pk_mul, pk_sub, pk_div, nI_clamp, ckN, nI_leI, nI_ltI, nI_eq, nI_nm1, Nat.add_zero, nI_addneg, k_ush, true_or, or_true, false_or, or_false, true_and, and_true, false_and, and_false, not_true_eq_false, not_false_eq_true, if_true, if_false, if_pos, if_neg, Option.bind_some, hc]
        exact ⟨_, _, rfl, rfl, rfl⟩
    · have hw2 := Int32.not_le.mpr hw
      simp (disch := omega) only [n_l0, n_l1, n_l2, n_l3, n_l4, n_l5, n_l6, n_l7, n_l8, n_l9, n_l15, n_l16, n_l17, n_l20, n_l24, n_l31, n_l32, n_l33, n_l36, n_l48, n_l49, n_l97, n_l128, n_l129, n_l192, n_l225, n_l256, n_l353, n_l400, n_l512, n_l593, n_l621, n_l640, n_l857, n_l1093, n_l1095, n_l2048, n_l3225, n_l10000, n_l22955, n_l29988, n_l29989, n_l65536, n_l99999, n_l1000000000, n_l2147483647, nI_add, pk_mul, pk_sub, pk_div, nI_clamp, ckN, nI_leI, nI_ltI, nI_eq, nI_nm1, Nat.add_zero, nI_addneg, k_ush, true_or, or_true, false_or, or_false, true_and, and_true, false_and, and_false, not_true_eq_false, not_false_eq_true, if_true, if_false, if_pos, if_neg, Option.bind_some, r_isIn_hi hw, e, hw2]
      by_cases hc : 0 < P ∧ (form = 0 ∨ 2 ≤ cnt tp 0 P)
      · simp (disch := omega) only [n_l0, n_l1, n_l2, n_l3, n_l4, n_l5, n_l6, n_l7, n_l8, n_l9, n_l15, n_l16, n_l17, n_l20, n_l24, n_l31, n_l32, n_l33, n_l36, n_l48, n_l49, n_l97, n_l128, n_l129, n_l192, n_l225, n_l256, n_l353, n_l400, n_l512, n_l593, n_l621, n_l640, n_l857, n_l1093, n_l1095, n_l2048, n_l3225, n_l10000, n_l22955, n_l29988, n_l29989, n_l65536, n_l99999, n_l1000000000, n_l2147483647, nI_add, pk_mul, pk_sub, pk_div, nI_clamp, ckN, nI_leI, nI_ltI, nI_eq, nI_nm1, Nat.add_zero, nI_addneg, k_ush, true_or, or_true, false_or, or_false, true_and, and_true, false_and, and_false, not_true_eq_false, not_false_eq_true, if_true, if_false, if_pos, if_neg, Option.bind_some, hc]
        split <;> exact ⟨_, _, rfl, rfl, rfl⟩
      · simp (disch := omega) only [n_l0, n_l1, n_l2, n_l3, n_l4, n_l5, n_l6, n_l7, n_l8, n_l9, n_l15, n_l16, n_l17, n_l20, n_l24, n_l31, n_l32, n_l33, n_l36, n_l48, n_l49, n_l97, n_l128, n_l129, n_l192, n_l225, n_l256, n_l353, n_l400, n_l512, n_l593, n_l621, n_l640, n_l857, n_l1093, n_l1095, n_l2048, n_l3225, n_l10000, n_l22955, n_l29988, n_l29989, n_l65536, n_l99999, n_l1000000000, n_l2147483647, nI_add, pk_mul, pk_sub, pk_div, nI_clamp, ckN, nI_leI, nI_ltI, nI_eq, nI_nm1, Nat.add_zero, nI_addneg, k_ush, true_or, or_true, false_or, or_false, true_and, and_true, false_and, and_false, not_true_eq_false, not_false_eq_true, if_true, if_false, if_pos, if_neg, Option.bind_some, hc]
        exact ⟨_, _, rfl, rfl, rfl⟩
  · obtain ⟨g, e⟩ := k_mpO hv h m1 m2 n1
    obtain ⟨z, ez, hz⟩ := r_laidO hv h xv xw xp xs vs ps
    rcases w_cases v2 with ⟨k, hk, rfl⟩ | hw | hw
    · simp (disch := omega) only [n_l0, n_l1, n_l2, n_l3, n_l4, n_l5, n_l6, n_l7, n_l8, n_l9, n_l15, n_l16, n_l17, n_l20, n_l24, n_l31, n_l32, n_l33, n_l36, n_l48, n_l49, n_l97, n_l128, n_l129, n_l192, n_l225, n_l256, n_l353, n_l400, n_l512, n_l593, n_l621, n_l640, n_l857, n_l1093, n_l1095, n_l2048, n_l3225, n_l10000, n_l22955, n_l29988, n_l29989, n_l65536, n_l99999, n_l1000000000, n_l2147483647, nI_add, pk_mul, pk_sub, pk_div, nI_clamp, ckN, nI_leI, nI_ltI, nI_eq, nI_nm1, Nat.add_zero, nI_addneg, k_ush, true_or, or_true, false_or, or_false, true_and, and_true, false_and, and_false, not_true_eq_false, not_false_eq_true, if_true, if_false, if_pos, if_neg, Option.bind_some, r_w hk, ez, hz, e]
      exact ⟨_, _, rfl, rfl, rfl⟩
    · simp (disch := omega) only [n_l0, n_l1, n_l2, n_l3, n_l4, n_l5, n_l6, n_l7, n_l8, n_l9, n_l15, n_l16, n_l17, n_l20, n_l24, n_l31, n_l32, n_l33, n_l36, n_l48, n_l49, n_l97, n_l128, n_l129, n_l192, n_l225, n_l256, n_l353, n_l400, n_l512, n_l593, n_l621, n_l640, n_l857, n_l1093, n_l1095, n_l2048, n_l3225, n_l10000, n_l22955, n_l29988, n_l29989, n_l65536, n_l99999, n_l1000000000, n_l2147483647, nI_add, pk_mul, pk_sub, pk_div, nI_clamp, ckN, nI_leI, nI_ltI, nI_eq, nI_nm1, Nat.add_zero, nI_addneg, k_ush, true_or, or_true, false_or, or_false, true_and, and_true, false_and, and_false, not_true_eq_false, not_false_eq_true, if_true, if_false, if_pos, if_neg, Option.bind_some, r_isIn_lo hw, e]
      exact ⟨_, _, rfl, rfl, rfl⟩
    · simp (disch := omega) only [n_l0, n_l1, n_l2, n_l3, n_l4, n_l5, n_l6, n_l7, n_l8, n_l9, n_l15, n_l16, n_l17, n_l20, n_l24, n_l31, n_l32, n_l33, n_l36, n_l48, n_l49, n_l97, n_l128, n_l129, n_l192, n_l225, n_l256, n_l353, n_l400, n_l512, n_l593, n_l621, n_l640, n_l857, n_l1093, n_l1095, n_l2048, n_l3225, n_l10000, n_l22955, n_l29988, n_l29989, n_l65536, n_l99999, n_l1000000000, n_l2147483647, nI_add, pk_mul, pk_sub, pk_div, nI_clamp, ckN, nI_leI, nI_ltI, nI_eq, nI_nm1, Nat.add_zero, nI_addneg, k_ush, true_or, or_true, false_or, or_false, true_and, and_true, false_and, and_false, not_true_eq_false, not_false_eq_true, if_true, if_false, if_pos, if_neg, Option.bind_some, r_isIn_hi hw, e]
      exact ⟨_, _, rfl, rfl, rfl⟩
theorem r_narrowN {w pc : Nat} (hw : w ≤ 32) (hp : pc ≤ 16) {ps : Nat → Int64} {q : Nat → Nat} (hq : ∀ i, i < pc → q i < 2 ^ 32 ∧ ps i = lN (q i)) : lp (pX10_narrow_b25 (nI w) (nI pc) ps) FU (nI 0, nI 0) = some (nI (lenc w q pc), nI pc) := by
  refine lpF (fun k => (nI (lenc w q k), nI k)) pc _ rfl (fun k hk => ?_) ?_
  · have h1 : bl (q k) ≤ 32 := (bl_le _ 32).mpr (hq k hk).1
    unfold pX10_narrow_b25 pX10_narrow_b25j54
    by_cases hh : bl (q k) = w
    · simp (disch := omega) only [n_l0, n_l1, n_l2, n_l3, n_l4, n_l5, n_l6, n_l7, n_l8, n_l9, n_l15, n_l16, n_l17, n_l20, n_l24, n_l31, n_l32, n_l33, n_l36, n_l48, n_l49, n_l97, n_l128, n_l129, n_l192, n_l225, n_l256, n_l353, n_l400, n_l512, n_l593, n_l621, n_l640, n_l857, n_l1093, n_l1095, n_l2048, n_l3225, n_l10000, n_l22955, n_l29988, n_l29989, n_l65536, n_l99999, n_l1000000000, n_l2147483647, nI_add, pk_mul, pk_sub, pk_div, nI_clamp, ckN, nI_leI, nI_ltI, nI_eq, nI_nm1, Nat.add_zero, nI_addneg, k_ush, true_or, or_true, false_or, or_false, true_and, and_true, false_and, and_false, not_true_eq_false, not_false_eq_true, if_true, if_false, if_pos, if_neg, Option.bind_some, (hq k hk).2, r_bitsOf (hq k hk).1, lenc_s, hh]
    · simp (disch := omega) only [n_l0, n_l1, n_l2, n_l3, n_l4, n_l5, n_l6, n_l7, n_l8, n_l9, n_l15, n_l16, n_l17, n_l20, n_l24, n_l31, n_l32, n_l33, n_l36, n_l48, n_l49, n_l97, n_l128, n_l129, n_l192, n_l225, n_l256, n_l353, n_l400, n_l512, n_l593, n_l621, n_l640, n_l857, n_l1093, n_l1095, n_l2048, n_l3225, n_l10000, n_l22955, n_l29988, n_l29989, n_l65536, n_l99999, n_l1000000000, n_l2147483647, nI_add, pk_mul, pk_sub, pk_div, nI_clamp, ckN, nI_leI, nI_ltI, nI_eq, nI_nm1, Nat.add_zero, nI_addneg, k_ush, true_or, or_true, false_or, or_false, true_and, and_true, false_and, and_false, not_true_eq_false, not_false_eq_true, if_true, if_false, if_pos, if_neg, Option.bind_some, (hq k hk).2, r_bitsOf (hq k hk).1, lenc_s, hh]
  · unfold pX10_narrow_b25
    simp (disch := omega) only [n_l0, n_l1, n_l2, n_l3, n_l4, n_l5, n_l6, n_l7, n_l8, n_l9, n_l15, n_l16, n_l17, n_l20, n_l24, n_l31, n_l32, n_l33, n_l36, n_l48, n_l49, n_l97, n_l128, n_l129, n_l192, n_l225, n_l256, n_l353, n_l400, n_l512, n_l593, n_l621, n_l640, n_l857, n_l1093, n_l1095, n_l2048, n_l3225, n_l10000, n_l22955, n_l29988, n_l29989, n_l65536, n_l99999, n_l1000000000, n_l2147483647, nI_add, pk_mul, pk_sub, pk_div, nI_clamp, ckN, nI_leI, nI_ltI, nI_eq, nI_nm1, Nat.add_zero, nI_addneg, k_ush, true_or, or_true, false_or, or_false, true_and, and_true, false_and, and_false, not_true_eq_false, not_false_eq_true, if_true, if_false, if_pos, if_neg, Option.bind_some]
theorem q_narrow (h : PD a ph ptl P tp) (xv xw xp xs : Int32) (vs : Nat → Int32) (ps : Nat → Int64) (m1 m2 m3 m4 m5 : Int32) (n1 n2 n3 : Nat → Int32) : ∃ z w, pX10_narrow v1 v2 xv xw xp xs a vs ps = some z ∧ pX9_narrow 16 v1 v2 ph ptl m1 m2 m3 m4 m5 n1 n2 n3 = some w ∧ w.1 = z.1 := by
  have hP := h.1
  have hm := cnt_le tp 0 P
  unfold pX10_narrow pX9_narrow
  rcases col_cases v1 with ⟨form, hf, rfl⟩ | hv
  · obtain ⟨g, e, hg⟩ := k_mp (form := form) (by omega) h m1 m2 n1
    obtain ⟨z, ez, hz⟩ := r_laid (form := form) (by omega) h xv xw xp xs vs ps
    rcases w_cases v2 with ⟨k, hk, rfl⟩ | hw | hw
    · rcases hz with ⟨hn, hz⟩ | ⟨hy, h1, h2, h3, h4, h6⟩
      · simp (disch := omega) only [n_l0, n_l1, n_l2, n_l3, n_l4, n_l5, n_l6, n_l7, n_l8, n_l9, n_l15, n_l16, n_l17, n_l20, n_l24, n_l31, n_l32, n_l33, n_l36, n_l48, n_l49, n_l97, n_l128, n_l129, n_l192, n_l225, n_l256, n_l353, n_l400, n_l512, n_l593, n_l621, n_l640, n_l857, n_l1093, n_l1095, n_l2048, n_l3225, n_l10000, n_l22955, n_l29988, n_l29989, n_l65536, n_l99999, n_l1000000000, n_l2147483647, nI_add, pk_mul, pk_sub, pk_div, nI_clamp, ckN, nI_leI, nI_ltI, nI_eq, nI_nm1, Nat.add_zero, nI_addneg, k_ush, true_or, or_true, false_or, or_false, true_and, and_true, false_and, and_false, not_true_eq_false, not_false_eq_true, if_true, if_false, if_pos, if_neg, Option.bind_some, r_w hk, ez, e, hz, hn]
        exact ⟨_, _, rfl, rfl, rfl⟩
      · obtain ⟨y, ey, y1, _, y5⟩ := k_spread (form := form) (m := cnt tp 0 P) (by omega) hy.2 (by omega) m3 m4 m5 g n2 n3
        have hp := pcn_le form (cnt tp 0 P)
        have hr := r_narrowN (w := k) hk (show pcn form (cnt tp 0 P) ≤ 16 by omega) (fun i hi => ⟨qs_lt _ _ _ _ _, h6 i hi⟩)
        have y6 := y5 k hk
        rw [stp_congr _ hg, lenc_congr _ (fun i hi => qs_congr form (stp (val tp 0 P) (cnt tp 0 P)) (cnt tp 0 P) hg i hi)] at y6
        simp (disch := omega) only [n_l0, n_l1, n_l2, n_l3, n_l4, n_l5, n_l6, n_l7, n_l8, n_l9, n_l15, n_l16, n_l17, n_l20, n_l24, n_l31, n_l32, n_l33, n_l36, n_l48, n_l49, n_l97, n_l128, n_l129, n_l192, n_l225, n_l256, n_l353, n_l400, n_l512, n_l593, n_l621, n_l640, n_l857, n_l1093, n_l1095, n_l2048, n_l3225, n_l10000, n_l22955, n_l29988, n_l29989, n_l65536, n_l99999, n_l1000000000, n_l2147483647, nI_add, pk_mul, pk_sub, pk_div, nI_clamp, ckN, nI_leI, nI_ltI, nI_eq, nI_nm1, Nat.add_zero, nI_addneg, k_ush, true_or, or_true, false_or, or_false, true_and, and_true, false_and, and_false, not_true_eq_false, not_false_eq_true, if_true, if_false, if_pos, if_neg, Option.bind_some, r_w hk, ez, e, hy, h1, h2, h3, h4, ey, hr, y6]
        exact ⟨_, _, rfl, rfl, rfl⟩
    · simp (disch := omega) only [n_l0, n_l1, n_l2, n_l3, n_l4, n_l5, n_l6, n_l7, n_l8, n_l9, n_l15, n_l16, n_l17, n_l20, n_l24, n_l31, n_l32, n_l33, n_l36, n_l48, n_l49, n_l97, n_l128, n_l129, n_l192, n_l225, n_l256, n_l353, n_l400, n_l512, n_l593, n_l621, n_l640, n_l857, n_l1093, n_l1095, n_l2048, n_l3225, n_l10000, n_l22955, n_l29988, n_l29989, n_l65536, n_l99999, n_l1000000000, n_l2147483647, nI_add, pk_mul, pk_sub, pk_div, nI_clamp, ckN, nI_leI, nI_ltI, nI_eq, nI_nm1, Nat.add_zero, nI_addneg, k_ush, true_or, or_true, false_or, or_false, true_and, and_true, false_and, and_false, not_true_eq_false, not_false_eq_true, if_true, if_false, if_pos, if_neg, Option.bind_some, r_isIn_lo hw, e, hw]
      by_cases hc : 0 < P ∧ (form = 0 ∨ 2 ≤ cnt tp 0 P)
      · simp (disch := omega) only [n_l0, n_l1, n_l2, n_l3, n_l4, n_l5, n_l6, n_l7, n_l8, n_l9, n_l15, n_l16, n_l17, n_l20, n_l24, n_l31, n_l32, n_l33, n_l36, n_l48, n_l49, n_l97, n_l128, n_l129, n_l192, n_l225, n_l256, n_l353, n_l400, n_l512, n_l593, n_l621, n_l640, n_l857, n_l1093, n_l1095, n_l2048, n_l3225, n_l10000, n_l22955, n_l29988, n_l29989, n_l65536, n_l99999, n_l1000000000, n_l2147483647, nI_add, pk_mul, pk_sub, pk_div, nI_clamp, ckN, nI_leI, nI_ltI, nI_eq, nI_nm1, Nat.add_zero, nI_addneg, k_ush, true_or, or_true, false_or, or_false, true_and, and_true, false_and, and_false, not_true_eq_false, not_false_eq_true, if_true, if_false, if_pos, if_neg, Option.bind_some, hc]
        exact ⟨_, _, rfl, rfl, rfl⟩
      · simp (disch := omega) only [n_l0, n_l1, n_l2, n_l3, n_l4, n_l5, n_l6, n_l7, n_l8, n_l9, n_l15, n_l16, n_l17, n_l20, n_l24, n_l31, n_l32, n_l33, n_l36, n_l48, n_l49, n_l97, n_l128, n_l129, n_l192, n_l225, n_l256, n_l353, n_l400, n_l512, n_l593, n_l621, n_l640, n_l857, n_l1093, n_l1095, n_l2048, n_l3225, n_l10000, n_l22955, n_l29988, n_l29989, n_l65536, n_l99999, n_l1000000000, n_l2147483647, nI_add, pk_mul, pk_sub, pk_div, nI_clamp, ckN, nI_leI, nI_ltI, nI_eq, nI_nm1, Nat.add_zero, nI_addneg, k_ush, true_or, or_true, false_or, or_false, true_and, and_true, false_and, and_false, not_true_eq_false, not_false_eq_true, if_true, if_false, if_pos, if_neg, Option.bind_some, hc]
        exact ⟨_, _, rfl, rfl, rfl⟩
    · have hw2 := Int32.not_le.mpr hw
      simp (disch := omega) only [n_l0, n_l1, n_l2, n_l3, n_l4, n_l5, n_l6, n_l7, n_l8, n_l9, n_l15, n_l16, n_l17, n_l20, n_l24, n_l31, n_l32, n_l33, n_l36, n_l48, n_l49, n_l97, n_l128, n_l129, n_l192, n_l225, n_l256, n_l353, n_l400, n_l512, n_l593, n_l621, n_l640, n_l857, n_l1093, n_l1095, n_l2048, n_l3225, n_l10000, n_l22955, n_l29988, n_l29989, n_l65536, n_l99999, n_l1000000000, n_l2147483647, nI_add, pk_mul, pk_sub, pk_div, nI_clamp, ckN, nI_leI, nI_ltI, nI_eq, nI_nm1, Nat.add_zero, nI_addneg, k_ush, true_or, or_true, false_or, or_false, true_and, and_true, false_and, and_false, not_true_eq_false, not_false_eq_true, if_true, if_false, if_pos, if_neg, Option.bind_some, r_isIn_hi hw, e, hw2]
      by_cases hc : 0 < P ∧ (form = 0 ∨ 2 ≤ cnt tp 0 P)
      · simp (disch := omega) only [n_l0, n_l1, n_l2, n_l3, n_l4, n_l5, n_l6, n_l7, n_l8, n_l9, n_l15, n_l16, n_l17, n_l20, n_l24, n_l31, n_l32, n_l33, n_l36, n_l48, n_l49, n_l97, n_l128, n_l129, n_l192, n_l225, n_l256, n_l353, n_l400, n_l512, n_l593, n_l621, n_l640, n_l857, n_l1093, n_l1095, n_l2048, n_l3225, n_l10000, n_l22955, n_l29988, n_l29989, n_l65536, n_l99999, n_l1000000000, n_l2147483647, nI_add, pk_mul, pk_sub, pk_div, nI_clamp, ckN, nI_leI, nI_ltI, nI_eq, nI_nm1, Nat.add_zero, nI_addneg, k_ush, true_or, or_true, false_or, or_false, true_and, and_true, false_and, and_false, not_true_eq_false, not_false_eq_true, if_true, if_false, if_pos, if_neg, Option.bind_some, hc]
        split <;> exact ⟨_, _, rfl, rfl, rfl⟩
      · simp (disch := omega) only [n_l0, n_l1, n_l2, n_l3, n_l4, n_l5, n_l6, n_l7, n_l8, n_l9, n_l15, n_l16, n_l17, n_l20, n_l24, n_l31, n_l32, n_l33, n_l36, n_l48, n_l49, n_l97, n_l128, n_l129, n_l192, n_l225, n_l256, n_l353, n_l400, n_l512, n_l593, n_l621, n_l640, n_l857, n_l1093, n_l1095, n_l2048, n_l3225, n_l10000, n_l22955, n_l29988, n_l29989, n_l65536, n_l99999, n_l1000000000, n_l2147483647, nI_add, pk_mul, pk_sub, pk_div, nI_clamp, ckN, nI_leI, nI_ltI, nI_eq, nI_nm1, Nat.add_zero, nI_addneg, k_ush, true_or, or_true, false_or, or_false, true_and, and_true, false_and, and_false, not_true_eq_false, not_false_eq_true, if_true, if_false, if_pos, if_neg, Option.bind_some, hc]
        exact ⟨_, _, rfl, rfl, rfl⟩
  · obtain ⟨g, e⟩ := k_mpO hv h m1 m2 n1
    obtain ⟨z, ez, hz⟩ := r_laidO hv h xv xw xp xs vs ps
    rcases w_cases v2 with ⟨k, hk, rfl⟩ | hw | hw
    · simp (disch := omega) only [n_l0, n_l1, n_l2, n_l3, n_l4, n_l5, n_l6, n_l7, n_l8, n_l9, n_l15, n_l16, n_l17, n_l20, n_l24, n_l31, n_l32, n_l33, n_l36, n_l48, n_l49, n_l97, n_l128, n_l129, n_l192, n_l225, n_l256, n_l353, n_l400, n_l512, n_l593, n_l621, n_l640, n_l857, n_l1093, n_l1095, n_l2048, n_l3225, n_l10000, n_l22955, n_l29988, n_l29989, n_l65536, n_l99999, n_l1000000000, n_l2147483647, nI_add, pk_mul, pk_sub, pk_div, nI_clamp, ckN, nI_leI, nI_ltI, nI_eq, nI_nm1, Nat.add_zero, nI_addneg, k_ush, true_or, or_true, false_or, or_false, true_and, and_true, false_and, and_false, not_true_eq_false, not_false_eq_true, if_true, if_false, if_pos, if_neg, Option.bind_some, r_w hk, ez, hz, e]
      exact ⟨_, _, rfl, rfl, rfl⟩
    · simp (disch := omega) only [n_l0, n_l1, n_l2, n_l3, n_l4, n_l5, n_l6, n_l7, n_l8, n_l9, n_l15, n_l16, n_l17, n_l20, n_l24, n_l31, n_l32, n_l33, n_l36, n_l48, n_l49, n_l97, n_l128, n_l129, n_l192, n_l225, n_l256, n_l353, n_l400, n_l512, n_l593, n_l621, n_l640, n_l857, n_l1093, n_l1095, n_l2048, n_l3225, n_l10000, n_l22955, n_l29988, n_l29989, n_l65536, n_l99999, n_l1000000000, n_l2147483647, nI_add, pk_mul, pk_sub, pk_div, nI_clamp, ckN, nI_leI, nI_ltI, nI_eq, nI_nm1, Nat.add_zero, nI_addneg, k_ush, true_or, or_true, false_or, or_false, true_and, and_true, false_and, and_false, not_true_eq_false, not_false_eq_true, if_true, if_false, if_pos, if_neg, Option.bind_some, r_isIn_lo hw, e]
      exact ⟨_, _, rfl, rfl, rfl⟩
    · simp (disch := omega) only [n_l0, n_l1, n_l2, n_l3, n_l4, n_l5, n_l6, n_l7, n_l8, n_l9, n_l15, n_l16, n_l17, n_l20, n_l24, n_l31, n_l32, n_l33, n_l36, n_l48, n_l49, n_l97, n_l128, n_l129, n_l192, n_l225, n_l256, n_l353, n_l400, n_l512, n_l593, n_l621, n_l640, n_l857, n_l1093, n_l1095, n_l2048, n_l3225, n_l10000, n_l22955, n_l29988, n_l29989, n_l65536, n_l99999, n_l1000000000, n_l2147483647, nI_add, pk_mul, pk_sub, pk_div, nI_clamp, ckN, nI_leI, nI_ltI, nI_eq, nI_nm1, Nat.add_zero, nI_addneg, k_ush, true_or, or_true, false_or, or_false, true_and, and_true, false_and, and_false, not_true_eq_false, not_false_eq_true, if_true, if_false, if_pos, if_neg, Option.bind_some, r_isIn_hi hw, e]
      exact ⟨_, _, rfl, rfl, rfl⟩
theorem q_best (h : PD a ph ptl P tp) (xv xw xp xs xf xu xt xb : Int32) (vs : Nat → Int32) (ps : Nat → Int64) (m1 m2 m3 m4 m5 m6 m7 m8 m9 m10 m11 : Int32) (n1 n2 n3 : Nat → Int32) : ∃ z w, pX10_best v1 xv xw xp xs xf xu xt xb a vs ps = some z ∧ pX9_best 16 v1 ph ptl m1 m2 m3 m4 m5 m6 m7 m8 m9 m10 m11 n1 n2 n3 = some w ∧ w.1 = z.1 := by
  have hP := h.1
  have hm := cnt_le tp 0 P
  obtain ⟨g, e, hg⟩ := k_mp (form := 0) (by omega) h m1 m2 n1
  obtain ⟨G, E, hG⟩ := r_takePending h xv xw vs
  unfold pX10_best pX9_best
  by_cases h0 : P = 0
  · subst h0
    simp (disch := omega) only [n_l0, n_l1, n_l2, n_l3, n_l4, n_l5, n_l6, n_l7, n_l8, n_l9, n_l15, n_l16, n_l17, n_l20, n_l24, n_l31, n_l32, n_l33, n_l36, n_l48, n_l49, n_l97, n_l128, n_l129, n_l192, n_l225, n_l256, n_l353, n_l400, n_l512, n_l593, n_l621, n_l640, n_l857, n_l1093, n_l1095, n_l2048, n_l3225, n_l10000, n_l22955, n_l29988, n_l29989, n_l65536, n_l99999, n_l1000000000, n_l2147483647, nI_add, pk_mul, pk_sub, pk_div, nI_clamp, ckN, nI_leI, nI_ltI, nI_eq, nI_nm1, Nat.add_zero, nI_addneg, k_ush, true_or, or_true, false_or, or_false, true_and, and_true, false_and, and_false, not_true_eq_false, not_false_eq_true, if_true, if_false, if_pos, if_neg, Option.bind_some, e, E]
    exact ⟨_, _, rfl, rfl, rfl⟩
  · obtain ⟨w, ew, hw⟩ := k_choose (n := P) (m := cnt tp 0 P) hP (by omega) m3 m4 m5 m6 m7 m8 m9 m10 m11 g n2 n3
    rw [bst_congr hg] at hw
    obtain ⟨f, ef, f1, f2, f3, f4⟩ := r_findBest (n := P) (m := cnt tp 0 P) hP (by omega) xp xs xf xu xt xb G ps
    rw [bst_congr hG] at f1 f2 f3
    obtain ⟨b1, b2, b3, b4, b5⟩ := bst_ok P (cnt tp 0 P) (val tp 0 P)
    obtain ⟨k1, k2, k3, k4, _⟩ := hw
    simp (disch := omega) only [n_l0, n_l1, n_l2, n_l3, n_l4, n_l5, n_l6, n_l7, n_l8, n_l9, n_l15, n_l16, n_l17, n_l20, n_l24, n_l31, n_l32, n_l33, n_l36, n_l48, n_l49, n_l97, n_l128, n_l129, n_l192, n_l225, n_l256, n_l353, n_l400, n_l512, n_l593, n_l621, n_l640, n_l857, n_l1093, n_l1095, n_l2048, n_l3225, n_l10000, n_l22955, n_l29988, n_l29989, n_l65536, n_l99999, n_l1000000000, n_l2147483647, nI_add, pk_mul, pk_sub, pk_div, nI_clamp, ckN, nI_leI, nI_ltI, nI_eq, nI_nm1, Nat.add_zero, nI_addneg, k_ush, true_or, or_true, false_or, or_false, true_and, and_true, false_and, and_false, not_true_eq_false, not_false_eq_true, if_true, if_false, if_pos, if_neg, Option.bind_some, e, E, show 0 < P by omega, ew, ef]
    by_cases c0 : v1 = nI 0
    · subst c0
      simp (disch := omega) only [n_l0, n_l1, n_l2, n_l3, n_l4, n_l5, n_l6, n_l7, n_l8, n_l9, n_l15, n_l16, n_l17, n_l20, n_l24, n_l31, n_l32, n_l33, n_l36, n_l48, n_l49, n_l97, n_l128, n_l129, n_l192, n_l225, n_l256, n_l353, n_l400, n_l512, n_l593, n_l621, n_l640, n_l857, n_l1093, n_l1095, n_l2048, n_l3225, n_l10000, n_l22955, n_l29988, n_l29989, n_l65536, n_l99999, n_l1000000000, n_l2147483647, nI_add, pk_mul, pk_sub, pk_div, nI_clamp, ckN, nI_leI, nI_ltI, nI_eq, nI_nm1, Nat.add_zero, nI_addneg, k_ush, true_or, or_true, false_or, or_false, true_and, and_true, false_and, and_false, not_true_eq_false, not_false_eq_true, if_true, if_false, if_pos, if_neg, Option.bind_some]
      exact ⟨_, _, rfl, rfl, by rw [f1]; exact k1⟩
    by_cases c1 : v1 = nI 1
    · subst c1
      simp (disch := omega) only [n_l0, n_l1, n_l2, n_l3, n_l4, n_l5, n_l6, n_l7, n_l8, n_l9, n_l15, n_l16, n_l17, n_l20, n_l24, n_l31, n_l32, n_l33, n_l36, n_l48, n_l49, n_l97, n_l128, n_l129, n_l192, n_l225, n_l256, n_l353, n_l400, n_l512, n_l593, n_l621, n_l640, n_l857, n_l1093, n_l1095, n_l2048, n_l3225, n_l10000, n_l22955, n_l29988, n_l29989, n_l65536, n_l99999, n_l1000000000, n_l2147483647, nI_add, pk_mul, pk_sub, pk_div, nI_clamp, ckN, nI_leI, nI_ltI, nI_eq, nI_nm1, Nat.add_zero, nI_addneg, k_ush, true_or, or_true, false_or, or_false, true_and, and_true, false_and, and_false, not_true_eq_false, not_false_eq_true, if_true, if_false, if_pos, if_neg, Option.bind_some]
      exact ⟨_, _, rfl, rfl, by rw [f2]; exact k2⟩
    by_cases c2 : v1 = nI 2
    · subst c2
      simp (disch := omega) only [n_l0, n_l1, n_l2, n_l3, n_l4, n_l5, n_l6, n_l7, n_l8, n_l9, n_l15, n_l16, n_l17, n_l20, n_l24, n_l31, n_l32, n_l33, n_l36, n_l48, n_l49, n_l97, n_l128, n_l129, n_l192, n_l225, n_l256, n_l353, n_l400, n_l512, n_l593, n_l621, n_l640, n_l857, n_l1093, n_l1095, n_l2048, n_l3225, n_l10000, n_l22955, n_l29988, n_l29989, n_l65536, n_l99999, n_l1000000000, n_l2147483647, nI_add, pk_mul, pk_sub, pk_div, nI_clamp, ckN, nI_leI, nI_ltI, nI_eq, nI_nm1, Nat.add_zero, nI_addneg, k_ush, true_or, or_true, false_or, or_false, true_and, and_true, false_and, and_false, not_true_eq_false, not_false_eq_true, if_true, if_false, if_pos, if_neg, Option.bind_some]
      exact ⟨_, _, rfl, rfl, by rw [f3]; exact k4⟩
    by_cases c3 : v1 = nI 3
    · subst c3
      obtain ⟨z, ez, hz⟩ := r_laid (form := (bst P (cnt tp 0 P) (val tp 0 P)).1) b1 h (nI (cnt tp 0 P)) (nI P) f.1 f.2.1 G f.2.2.2.2.2.2
      rcases hz with ⟨hn, _⟩ | ⟨hy, h1, h2, h3, h4, h6⟩
      · exact absurd ⟨show 0 < P by omega, b3⟩ hn
      · have hp := pcn_le (bst P (cnt tp 0 P) (val tp 0 P)).1 (cnt tp 0 P)
        have hr := r_exceptionsBy (w := (bst P (cnt tp 0 P) (val tp 0 P)).2.1) b2 (show pcn (bst P (cnt tp 0 P) (val tp 0 P)).1 (cnt tp 0 P) ≤ 16 by omega) (fun i hi => ⟨qs_lt _ _ _ _ _, h6 i hi⟩)
        simp (disch := omega) only [n_l0, n_l1, n_l2, n_l3, n_l4, n_l5, n_l6, n_l7, n_l8, n_l9, n_l15, n_l16, n_l17, n_l20, n_l24, n_l31, n_l32, n_l33, n_l36, n_l48, n_l49, n_l97, n_l128, n_l129, n_l192, n_l225, n_l256, n_l353, n_l400, n_l512, n_l593, n_l621, n_l640, n_l857, n_l1093, n_l1095, n_l2048, n_l3225, n_l10000, n_l22955, n_l29988, n_l29989, n_l65536, n_l99999, n_l1000000000, n_l2147483647, nI_add, pk_mul, pk_sub, pk_div, nI_clamp, ckN, nI_leI, nI_ltI, nI_eq, nI_nm1, Nat.add_zero, nI_addneg, k_ush, true_or, or_true, false_or, or_false, true_and, and_true, false_and, and_false, not_true_eq_false, not_false_eq_true, if_true, if_false, if_pos, if_neg, Option.bind_some, f1, f2, ez, h1, h4, hr]
        exact ⟨_, _, rfl, rfl, by rw [stp_congr _ hg, exc_congr _ (fun i hi => qs_congr _ _ _ hg i hi)] at k3; exact k3⟩
    simp (disch := omega) only [n_l0, n_l1, n_l2, n_l3, n_l4, n_l5, n_l6, n_l7, n_l8, n_l9, n_l15, n_l16, n_l17, n_l20, n_l24, n_l31, n_l32, n_l33, n_l36, n_l48, n_l49, n_l97, n_l128, n_l129, n_l192, n_l225, n_l256, n_l353, n_l400, n_l512, n_l593, n_l621, n_l640, n_l857, n_l1093, n_l1095, n_l2048, n_l3225, n_l10000, n_l22955, n_l29988, n_l29989, n_l65536, n_l99999, n_l1000000000, n_l2147483647, nI_add, pk_mul, pk_sub, pk_div, nI_clamp, ckN, nI_leI, nI_ltI, nI_eq, nI_nm1, Nat.add_zero, nI_addneg, k_ush, true_or, or_true, false_or, or_false, true_and, and_true, false_and, and_false, not_true_eq_false, not_false_eq_true, if_true, if_false, if_pos, if_neg, Option.bind_some, c0, c1, c2, c3]
    exact ⟨_, _, rfl, rfl, rfl⟩
theorem q_pending (h : PD a ph ptl P tp) : ∃ r, pX10_pending v1 a = some r ∧ pX9_pending 16 v1 ph ptl = some r := by
  obtain ⟨hP, rfl, ht, h3, hR⟩ := h
  unfold pX10_pending pX9_pending
  rcases ix_cases v1 (n := P) (by omega) with ⟨k, hk, rfl⟩ | hk
  · have e : pX10_isIn (nI k) (nI 0) (nI P - nI 1) = some (nI 1) := r_within (by omega) hk
    cases hx : tp k with
    | none =>
      simp only [n_l0, n_l1, n_l3, n_l20, n_l4, nI_clamp (show 3 < 2 ^ 31 by omega), h3, e, Option.bind_some, nI_add]
      simp (disch := omega) only [n_l0, n_l1, n_l2, n_l3, n_l4, n_l5, n_l6, n_l7, n_l8, n_l9, n_l15, n_l16, n_l17, n_l20, n_l24, n_l31, n_l32, n_l33, n_l36, n_l48, n_l49, n_l97, n_l128, n_l129, n_l192, n_l225, n_l256, n_l353, n_l400, n_l512, n_l593, n_l621, n_l640, n_l857, n_l1093, n_l1095, n_l2048, n_l3225, n_l10000, n_l22955, n_l29988, n_l29989, n_l65536, n_l99999, n_l1000000000, n_l2147483647, nI_add, pk_mul, pk_sub, pk_div, nI_clamp, ckN, nI_leI, nI_ltI, nI_eq, nI_nm1, Nat.add_zero, nI_addneg, k_ush, true_or, or_true, false_or, or_false, true_and, and_true, false_and, and_false, not_true_eq_false, not_false_eq_true, if_true, if_false, if_pos, if_neg, Option.bind_some, (hR k hk).1, (hR k hk).2, k_tellAt (N := 16) (by omega) hP (show k < 2 ^ 31 by omega) ht, hx, e_none, e_some, l64_ne, l64_inj, l64_lt, l64_le, vv_some, vv_none, ee_some, ee_none, lc_eq, lc_lt, lc_le, lc_gt, lc_ge, reduceCtorEq, Option.isSome_none, Option.isSome_some, Bool.false_eq_true]
      exact ⟨_, rfl, rfl⟩
    | some v =>
      simp only [n_l0, n_l1, n_l3, n_l20, n_l4, nI_clamp (show 3 < 2 ^ 31 by omega), h3, e, Option.bind_some, nI_add]
      simp (disch := omega) only [n_l0, n_l1, n_l2, n_l3, n_l4, n_l5, n_l6, n_l7, n_l8, n_l9, n_l15, n_l16, n_l17, n_l20, n_l24, n_l31, n_l32, n_l33, n_l36, n_l48, n_l49, n_l97, n_l128, n_l129, n_l192, n_l225, n_l256, n_l353, n_l400, n_l512, n_l593, n_l621, n_l640, n_l857, n_l1093, n_l1095, n_l2048, n_l3225, n_l10000, n_l22955, n_l29988, n_l29989, n_l65536, n_l99999, n_l1000000000, n_l2147483647, nI_add, pk_mul, pk_sub, pk_div, nI_clamp, ckN, nI_leI, nI_ltI, nI_eq, nI_nm1, Nat.add_zero, nI_addneg, k_ush, true_or, or_true, false_or, or_false, true_and, and_true, false_and, and_false, not_true_eq_false, not_false_eq_true, if_true, if_false, if_pos, if_neg, Option.bind_some, (hR k hk).1, (hR k hk).2, k_tellAt (N := 16) (by omega) hP (show k < 2 ^ 31 by omega) ht, hx, e_none, e_some, l64_ne, l64_inj, l64_lt, l64_le, vv_some, vv_none, ee_some, ee_none, lc_eq, lc_lt, lc_le, lc_gt, lc_ge, reduceCtorEq, Option.isSome_none, Option.isSome_some, Bool.false_eq_true]
      exact ⟨_, rfl, rfl⟩
  · have e : pX10_isIn v1 (nI 0) (nI P - nI 1) = some (nI 0) := r_below (by omega) hk
    simp only [n_l0, n_l1, n_l3, n_l20, n_l4, nI_clamp (show 3 < 2 ^ 31 by omega), h3, e, Option.bind_some]
    simp (disch := omega) only [n_l0, n_l1, n_l2, n_l3, n_l4, n_l5, n_l6, n_l7, n_l8, n_l9, n_l15, n_l16, n_l17, n_l20, n_l24, n_l31, n_l32, n_l33, n_l36, n_l48, n_l49, n_l97, n_l128, n_l129, n_l192, n_l225, n_l256, n_l353, n_l400, n_l512, n_l593, n_l621, n_l640, n_l857, n_l1093, n_l1095, n_l2048, n_l3225, n_l10000, n_l22955, n_l29988, n_l29989, n_l65536, n_l99999, n_l1000000000, n_l2147483647, nI_add, pk_mul, pk_sub, pk_div, nI_clamp, ckN, nI_leI, nI_ltI, nI_eq, nI_nm1, Nat.add_zero, nI_addneg, k_ush, true_or, or_true, false_or, or_false, true_and, and_true, false_and, and_false, not_true_eq_false, not_false_eq_true, if_true, if_false, if_pos, if_neg, Option.bind_some, k_tellAtO hk]
    exact ⟨_, rfl, rfl⟩
end Pend
theorem q_folded (v : Int32) : ∃ r, pX10_folded v = some r ∧ pX9_folded v = some r := by
  refine ⟨_, r_folded v, ?_⟩
  unfold pX9_folded pX9_unsigned
  rw [k_fold, Option.bind_some, Option.bind_some, l_mask]
section Reads
variable {c : Nat} {a : Nat → Int32} {v1 v2 v3 bk hd : Int32} {tl : Nat → Int64} {fc : Nat → Int32} {C : AC} {xc : Nat → Option Nat}
theorem q_part (xv xw xp xs : Int32) (vs : Nat → Int32) (ps : Nat → Int64) (m1 m2 m3 m4 m5 : Int32) (n1 n2 n3 : Nat → Int32) (h : COL a v1 bk hd tl fc C) : ∃ z w, pX10_part v1 v2 v3 xv xw xp xs a vs ps = some z ∧ pX9_part 128 v1 v2 v3 xc m1 m2 m3 m4 m5 n1 n2 n3 bk hd tl fc = some w ∧ w.1 = z.1 := by
  obtain ⟨⟨rfl, rfl, hT, hP, hF⟩, ho, hr⟩ := h
  have hn := ho.1
  have hl := ho.2.1
  have hH : ∀ k, k < HL C → tl k = enc (TV C k) := hT
  unfold pX10_part pX9_part
  rcases col_cases v1 with ⟨c, hc, rfl⟩ | hv
  · have hR := hr c hc rfl
    rcases ix_cases v2 (n := NB C) (by omega) with ⟨b, hb, rfl⟩ | hb
    · obtain ⟨z, ez, z1, z2, z3, z4, z5, z6⟩ := r_layBlock xv xw xp xs vs ps hc hR ho hb
      obtain ⟨y, ey, y1, y2, y3, y4⟩ := k_asTold (tl := tl) (fc := fc) m1 m2 m3 m4 m5 n1 n2 n3 ho hT hP hb (hF b hb)
      have hm := cm_le C b
      have hp := cp_le C b
      have o2 := (ho.2.2 b hb).2.1
      simp only [r_isBlock hc hR ho hb, k_withBlock hc hb hn, Option.bind_some, ez, ey, z3, y3, show (0 : Int32) = nI 0 from rfl, show (1 : Int32) = nI 1 from rfl]
      rcases ix_cases v3 (n := cp C b) (by omega) with ⟨i, hi, rfl⟩ | hi
      · simp (disch := omega) only [n_l0, n_l1, n_l2, n_l3, n_l4, n_l5, n_l6, n_l7, n_l8, n_l9, n_l15, n_l16, n_l17, n_l20, n_l24, n_l31, n_l32, n_l33, n_l36, n_l48, n_l49, n_l97, n_l128, n_l129, n_l192, n_l225, n_l256, n_l353, n_l400, n_l512, n_l593, n_l621, n_l640, n_l857, n_l1093, n_l1095, n_l2048, n_l3225, n_l10000, n_l22955, n_l29988, n_l29989, n_l65536, n_l99999, n_l1000000000, n_l2147483647, nI_add, pk_mul, pk_sub, pk_div, nI_clamp, ckN, nI_leI, nI_ltI, nI_eq, nI_nm1, Nat.add_zero, nI_addneg, k_ush, true_or, or_true, false_or, or_false, true_and, and_true, false_and, and_false, not_true_eq_false, not_false_eq_true, if_true, if_false, if_pos, if_neg, Option.bind_some, r_isInT, k_hasPart hi (show cp C b < 2 ^ 31 by omega), z6 i hi]
        unfold pX9_unsigned
        refine ⟨_, _, rfl, rfl, ?_⟩
        show (y.2.2.2.2.2.2.1 i).toInt64 &&& 4294967295 = _
        rw [l_mask, y4 i hi]
      · simp (disch := omega) only [n_l0, n_l1, n_l2, n_l3, n_l4, n_l5, n_l6, n_l7, n_l8, n_l9, n_l15, n_l16, n_l17, n_l20, n_l24, n_l31, n_l32, n_l33, n_l36, n_l48, n_l49, n_l97, n_l128, n_l129, n_l192, n_l225, n_l256, n_l353, n_l400, n_l512, n_l593, n_l621, n_l640, n_l857, n_l1093, n_l1095, n_l2048, n_l3225, n_l10000, n_l22955, n_l29988, n_l29989, n_l65536, n_l99999, n_l1000000000, n_l2147483647, nI_add, pk_mul, pk_sub, pk_div, nI_clamp, ckN, nI_leI, nI_ltI, nI_eq, nI_nm1, Nat.add_zero, nI_addneg, k_ush, true_or, or_true, false_or, or_false, true_and, and_true, false_and, and_false, not_true_eq_false, not_false_eq_true, if_true, if_false, if_pos, if_neg, Option.bind_some, r_below (n := cp C b) (by omega) hi, k_hasPartO hi]
        exact ⟨_, _, rfl, rfl, rfl⟩
    · simp (disch := omega) only [n_l0, n_l1, n_l2, n_l3, n_l4, n_l5, n_l6, n_l7, n_l8, n_l9, n_l15, n_l16, n_l17, n_l20, n_l24, n_l31, n_l32, n_l33, n_l36, n_l48, n_l49, n_l97, n_l128, n_l129, n_l192, n_l225, n_l256, n_l353, n_l400, n_l512, n_l593, n_l621, n_l640, n_l857, n_l1093, n_l1095, n_l2048, n_l3225, n_l10000, n_l22955, n_l29988, n_l29989, n_l65536, n_l99999, n_l1000000000, n_l2147483647, nI_add, pk_mul, pk_sub, pk_div, nI_clamp, ckN, nI_leI, nI_ltI, nI_eq, nI_nm1, Nat.add_zero, nI_addneg, k_ush, true_or, or_true, false_or, or_false, true_and, and_true, false_and, and_false, not_true_eq_false, not_false_eq_true, if_true, if_false, if_pos, if_neg, Option.bind_some, r_isCol hc, r_blocks hc hR, r_places hc hR hn, eHL, k_col hc, r_isBlockO hc hR ho hb, k_withBlockO hc hb, Bool.false_eq_true]
      exact ⟨_, _, rfl, rfl, rfl⟩
  · simp (disch := omega) only [n_l0, n_l1, n_l2, n_l3, n_l4, n_l5, n_l6, n_l7, n_l8, n_l9, n_l15, n_l16, n_l17, n_l20, n_l24, n_l31, n_l32, n_l33, n_l36, n_l48, n_l49, n_l97, n_l128, n_l129, n_l192, n_l225, n_l256, n_l353, n_l400, n_l512, n_l593, n_l621, n_l640, n_l857, n_l1093, n_l1095, n_l2048, n_l3225, n_l10000, n_l22955, n_l29988, n_l29989, n_l65536, n_l99999, n_l1000000000, n_l2147483647, nI_add, pk_mul, pk_sub, pk_div, nI_clamp, ckN, nI_leI, nI_ltI, nI_eq, nI_nm1, Nat.add_zero, nI_addneg, k_ush, true_or, or_true, false_or, or_false, true_and, and_true, false_and, and_false, not_true_eq_false, not_false_eq_true, if_true, if_false, if_pos, if_neg, Option.bind_some, r_isColO hv, k_colO hv, r_isBlockC hv, k_withBlockC hv, Bool.false_eq_true]
    exact ⟨_, _, rfl, rfl, rfl⟩
theorem k_ahead (hn : NB C ≤ 24) (hl : HL C ≤ 128) (hT : KT tl C) (hP : KP fc C) {b k : Nat} (hb : b < NB C) (h1 : sm (PL C) b ≤ k) (hk : k < HL C) : pX0_valuesAhead 128 (nI b) (nI k) (nI (NB C)) (nI (HL C)) tl fc = some (nI (cnt (TV C) (sm (PL C) b) (k - sm (PL C) b))) := by
  have hle := cnt_le (TV C) (sm (PL C) b) (k - sm (PL C) b)
  unfold pX0_valuesAhead
  simp (disch := omega) only [n_l0, n_l1, n_l2, n_l3, n_l4, n_l5, n_l6, n_l7, n_l8, n_l9, n_l15, n_l16, n_l17, n_l20, n_l24, n_l31, n_l32, n_l33, n_l36, n_l48, n_l49, n_l97, n_l128, n_l129, n_l192, n_l225, n_l256, n_l353, n_l400, n_l512, n_l593, n_l621, n_l640, n_l857, n_l1093, n_l1095, n_l2048, n_l3225, n_l10000, n_l22955, n_l29988, n_l29989, n_l65536, n_l99999, n_l1000000000, n_l2147483647, nI_add, pk_mul, pk_sub, pk_div, nI_clamp, ckN, nI_leI, nI_ltI, nI_eq, nI_nm1, Nat.add_zero, nI_addneg, k_ush, true_or, or_true, false_or, or_false, true_and, and_true, false_and, and_false, not_true_eq_false, not_false_eq_true, if_true, if_false, if_pos, if_neg, Option.bind_some, k_firstOf hn hP (Nat.le_of_lt hb), k_vacant hl hT h1 (Nat.le_of_lt hk)]
  exact congrArg some (congrArg nI (by omega))
theorem r_ahead (hc : c < 3) (hR : RCa a c C) (hl : HL C ≤ 128) {f k : Nat} (h1 : f ≤ k) (hk : k < HL C) (x : Int32) : lp (pX10_read_b52 (nI c) (nI k) a) FU (x, nI f) = some (x + nI (cnt (TV C) f (k - f)), nI k) := by
  refine lpF (fun j => (x + nI (cnt (TV C) f j), nI (f + j))) (k - f) _ (by show _ = (x + nI 0, nI f); rw [show x + nI 0 = x from Int32.add_zero x]) (fun j hj => ?_) ?_
  · unfold pX10_read_b52 pX10_read_b52j75
    cases hx : TV C (f + j) with
    | none =>
      have e := (cnt_none hx).1
      simp (disch := omega) only [n_l0, n_l1, n_l2, n_l3, n_l4, n_l5, n_l6, n_l7, n_l8, n_l9, n_l15, n_l16, n_l17, n_l20, n_l24, n_l31, n_l32, n_l33, n_l36, n_l48, n_l49, n_l97, n_l128, n_l129, n_l192, n_l225, n_l256, n_l353, n_l400, n_l512, n_l593, n_l621, n_l640, n_l857, n_l1093, n_l1095, n_l2048, n_l3225, n_l10000, n_l22955, n_l29988, n_l29989, n_l65536, n_l99999, n_l1000000000, n_l2147483647, nI_add, pk_mul, pk_sub, pk_div, nI_clamp, ckN, nI_leI, nI_ltI, nI_eq, nI_nm1, Nat.add_zero, nI_addneg, k_ush, true_or, or_true, false_or, or_false, true_and, and_true, false_and, and_false, not_true_eq_false, not_false_eq_true, if_true, if_false, if_pos, if_neg, Option.bind_some, r_empty hc hR (show f + j < HL C by omega) hl, hx, e_none, e_some, l64_ne, l64_inj, l64_lt, l64_le, vv_some, vv_none, ee_some, ee_none, lc_eq, lc_lt, lc_le, lc_gt, lc_ge, reduceCtorEq, Option.isSome_none, Option.isSome_some, Bool.false_eq_true, e]
      rw [show x + nI (cnt (TV C) f j) + nI 0 = x + nI (cnt (TV C) f j) from Int32.add_zero _]
      rfl
    | some v =>
      have e := (cnt_some hx).1
      simp (disch := omega) only [n_l0, n_l1, n_l2, n_l3, n_l4, n_l5, n_l6, n_l7, n_l8, n_l9, n_l15, n_l16, n_l17, n_l20, n_l24, n_l31, n_l32, n_l33, n_l36, n_l48, n_l49, n_l97, n_l128, n_l129, n_l192, n_l225, n_l256, n_l353, n_l400, n_l512, n_l593, n_l621, n_l640, n_l857, n_l1093, n_l1095, n_l2048, n_l3225, n_l10000, n_l22955, n_l29988, n_l29989, n_l65536, n_l99999, n_l1000000000, n_l2147483647, nI_add, pk_mul, pk_sub, pk_div, nI_clamp, ckN, nI_leI, nI_ltI, nI_eq, nI_nm1, Nat.add_zero, nI_addneg, k_ush, true_or, or_true, false_or, or_false, true_and, and_true, false_and, and_false, not_true_eq_false, not_false_eq_true, if_true, if_false, if_pos, if_neg, Option.bind_some, r_empty hc hR (show f + j < HL C by omega) hl, hx, e_none, e_some, l64_ne, l64_inj, l64_lt, l64_le, vv_some, vv_none, ee_some, ee_none, lc_eq, lc_lt, lc_le, lc_gt, lc_ge, reduceCtorEq, Option.isSome_none, Option.isSome_some, Bool.false_eq_true, e]
      rw [Int32.add_assoc, nI_add]
      rfl
  · unfold pX10_read_b52
    simp (disch := omega) only [n_l0, n_l1, n_l2, n_l3, n_l4, n_l5, n_l6, n_l7, n_l8, n_l9, n_l15, n_l16, n_l17, n_l20, n_l24, n_l31, n_l32, n_l33, n_l36, n_l48, n_l49, n_l97, n_l128, n_l129, n_l192, n_l225, n_l256, n_l353, n_l400, n_l512, n_l593, n_l621, n_l640, n_l857, n_l1093, n_l1095, n_l2048, n_l3225, n_l10000, n_l22955, n_l29988, n_l29989, n_l65536, n_l99999, n_l1000000000, n_l2147483647, nI_add, pk_mul, pk_sub, pk_div, nI_clamp, ckN, nI_leI, nI_ltI, nI_eq, nI_nm1, Nat.add_zero, nI_addneg, k_ush, true_or, or_true, false_or, or_false, true_and, and_true, false_and, and_false, not_true_eq_false, not_false_eq_true, if_true, if_false, if_pos, if_neg, Option.bind_some, show f + (k - f) = k by omega]
theorem q_read (h : COL a v1 bk hd tl fc C) : ∃ r, pX10_read v1 v2 a = some r ∧ pX9_read 128 v1 v2 xc bk hd tl fc = some r := by
  obtain ⟨⟨rfl, rfl, hT, hP, hF⟩, ho, hr⟩ := h
  have hn := ho.1
  have hl := ho.2.1
  have hH : ∀ k, k < HL C → tl k = enc (TV C k) := hT
  unfold pX10_read pX9_read
  rcases col_cases v1 with ⟨c, hc, rfl⟩ | hv
  · have hR := hr c hc rfl
    rcases ix_cases v2 (n := HL C) (by omega) with ⟨k, hk, rfl⟩ | hk
    · obtain ⟨b, hb, h1, h2⟩ := blk_ex _ k hk
      cases hx : TV C k with
      | none =>
        simp (disch := omega) only [n_l0, n_l1, n_l2, n_l3, n_l4, n_l5, n_l6, n_l7, n_l8, n_l9, n_l15, n_l16, n_l17, n_l20, n_l24, n_l31, n_l32, n_l33, n_l36, n_l48, n_l49, n_l97, n_l128, n_l129, n_l192, n_l225, n_l256, n_l353, n_l400, n_l512, n_l593, n_l621, n_l640, n_l857, n_l1093, n_l1095, n_l2048, n_l3225, n_l10000, n_l22955, n_l29988, n_l29989, n_l65536, n_l99999, n_l1000000000, n_l2147483647, nI_add, pk_mul, pk_sub, pk_div, nI_clamp, ckN, nI_leI, nI_ltI, nI_eq, nI_nm1, Nat.add_zero, nI_addneg, k_ush, true_or, or_true, false_or, or_false, true_and, and_true, false_and, and_false, not_true_eq_false, not_false_eq_true, if_true, if_false, if_pos, if_neg, Option.bind_some, r_isPlace hc hR ho hk, r_empty hc hR hk hl, k_withPlace hc hk hl, k_isFull (N := 128) (by omega) hl hk hT, hx, e_none, e_some, l64_ne, l64_inj, l64_lt, l64_le, vv_some, vv_none, ee_some, ee_none, lc_eq, lc_lt, lc_le, lc_gt, lc_ge, reduceCtorEq, Option.isSome_none, Option.isSome_some, Bool.false_eq_true]
        exact ⟨_, rfl, rfl⟩
      | some v =>
        have o3 := (ho.2.2 b hb).2.2.1
        by_cases c0 : FM C b = 0
        · simp (disch := omega) only [n_l0, n_l1, n_l2, n_l3, n_l4, n_l5, n_l6, n_l7, n_l8, n_l9, n_l15, n_l16, n_l17, n_l20, n_l24, n_l31, n_l32, n_l33, n_l36, n_l48, n_l49, n_l97, n_l128, n_l129, n_l192, n_l225, n_l256, n_l353, n_l400, n_l512, n_l593, n_l621, n_l640, n_l857, n_l1093, n_l1095, n_l2048, n_l3225, n_l10000, n_l22955, n_l29988, n_l29989, n_l65536, n_l99999, n_l1000000000, n_l2147483647, nI_add, pk_mul, pk_sub, pk_div, nI_clamp, ckN, nI_leI, nI_ltI, nI_eq, nI_nm1, Nat.add_zero, nI_addneg, k_ush, true_or, or_true, false_or, or_false, true_and, and_true, false_and, and_false, not_true_eq_false, not_false_eq_true, if_true, if_false, if_pos, if_neg, Option.bind_some, r_isPlace hc hR ho hk, r_empty hc hR hk hl, k_withPlace hc hk hl, k_isFull (N := 128) (by omega) hl hk hT, hx, e_none, e_some, l64_ne, l64_inj, l64_lt, l64_le, vv_some, vv_none, ee_some, ee_none, lc_eq, lc_lt, lc_le, lc_gt, lc_ge, reduceCtorEq, Option.isSome_none, Option.isSome_some, Bool.false_eq_true, r_blockWith hc hR hn hl hb h1 h2, k_holderOf hn hl hP hb h1 h2, r_ofFm hc hR hb hn, k_fact (fc := fc) hb hn (show 2 < 8 by omega), (hF b hb).2.1, c0]
          exact ⟨_, rfl, rfl⟩
        · simp (disch := omega) only [n_l0, n_l1, n_l2, n_l3, n_l4, n_l5, n_l6, n_l7, n_l8, n_l9, n_l15, n_l16, n_l17, n_l20, n_l24, n_l31, n_l32, n_l33, n_l36, n_l48, n_l49, n_l97, n_l128, n_l129, n_l192, n_l225, n_l256, n_l353, n_l400, n_l512, n_l593, n_l621, n_l640, n_l857, n_l1093, n_l1095, n_l2048, n_l3225, n_l10000, n_l22955, n_l29988, n_l29989, n_l65536, n_l99999, n_l1000000000, n_l2147483647, nI_add, pk_mul, pk_sub, pk_div, nI_clamp, ckN, nI_leI, nI_ltI, nI_eq, nI_nm1, Nat.add_zero, nI_addneg, k_ush, true_or, or_true, false_or, or_false, true_and, and_true, false_and, and_false, not_true_eq_false, not_false_eq_true, if_true, if_false, if_pos, if_neg, Option.bind_some, r_isPlace hc hR ho hk, r_empty hc hR hk hl, k_withPlace hc hk hl, k_isFull (N := 128) (by omega) hl hk hT, hx, e_none, e_some, l64_ne, l64_inj, l64_lt, l64_le, vv_some, vv_none, ee_some, ee_none, lc_eq, lc_lt, lc_le, lc_gt, lc_ge, reduceCtorEq, Option.isSome_none, Option.isSome_some, Bool.false_eq_true, r_blockWith hc hR hn hl hb h1 h2, k_holderOf hn hl hP hb h1 h2, r_ofFm hc hR hb hn, k_fact (fc := fc) hb hn (show 2 < 8 by omega), (hF b hb).2.1, r_firstOf hc hR (Nat.le_of_lt hb) hn, k_ahead hn hl hT hP hb h1 hk, r_ahead hc hR hl h1 hk]
          exact ⟨_, rfl, by rw [Nat.zero_add]⟩
    · simp (disch := omega) only [n_l0, n_l1, n_l2, n_l3, n_l4, n_l5, n_l6, n_l7, n_l8, n_l9, n_l15, n_l16, n_l17, n_l20, n_l24, n_l31, n_l32, n_l33, n_l36, n_l48, n_l49, n_l97, n_l128, n_l129, n_l192, n_l225, n_l256, n_l353, n_l400, n_l512, n_l593, n_l621, n_l640, n_l857, n_l1093, n_l1095, n_l2048, n_l3225, n_l10000, n_l22955, n_l29988, n_l29989, n_l65536, n_l99999, n_l1000000000, n_l2147483647, nI_add, pk_mul, pk_sub, pk_div, nI_clamp, ckN, nI_leI, nI_ltI, nI_eq, nI_nm1, Nat.add_zero, nI_addneg, k_ush, true_or, or_true, false_or, or_false, true_and, and_true, false_and, and_false, not_true_eq_false, not_false_eq_true, if_true, if_false, if_pos, if_neg, Option.bind_some, r_isCol hc, r_blocks hc hR, r_places hc hR hn, eHL, k_col hc, r_isPlaceO hc hR ho hk, k_withPlaceO hc hk, Bool.false_eq_true]
      exact ⟨_, rfl, rfl⟩
  · simp (disch := omega) only [n_l0, n_l1, n_l2, n_l3, n_l4, n_l5, n_l6, n_l7, n_l8, n_l9, n_l15, n_l16, n_l17, n_l20, n_l24, n_l31, n_l32, n_l33, n_l36, n_l48, n_l49, n_l97, n_l128, n_l129, n_l192, n_l225, n_l256, n_l353, n_l400, n_l512, n_l593, n_l621, n_l640, n_l857, n_l1093, n_l1095, n_l2048, n_l3225, n_l10000, n_l22955, n_l29988, n_l29989, n_l65536, n_l99999, n_l1000000000, n_l2147483647, nI_add, pk_mul, pk_sub, pk_div, nI_clamp, ckN, nI_leI, nI_ltI, nI_eq, nI_nm1, Nat.add_zero, nI_addneg, k_ush, true_or, or_true, false_or, or_false, true_and, and_true, false_and, and_false, not_true_eq_false, not_false_eq_true, if_true, if_false, if_pos, if_neg, Option.bind_some, r_isColO hv, k_colO hv, r_isPlaceC hv, k_withPlaceC hv, Bool.false_eq_true]
    exact ⟨_, rfl, rfl⟩
/-- a value within a block: fewer are ahead than there are -/
theorem cnt_in {tv : Nat → Option Int32} {f n j : Nat} {v : Int32} (hj : j < n) (h : tv (f + j) = some v) : cnt tv f j < cnt tv f n := by
  have h1 := (cnt_some h).1
  have h2 := cnt_add tv f (j + 1) (n - (j + 1))
  rw [show j + 1 + (n - (j + 1)) = n by omega] at h2
  omega
/-- whether the part that tells a place is an exception -/
def pch (C : AC) (b k : Nat) : Nat := if cnt (TV C) (sm (PL C) b) (k - sm (PL C) b) + (if FM C b = 0 then 1 else 0) = 0 then 0 else if bl (cq C b (cnt (TV C) (sm (PL C) b) (k - sm (PL C) b) + (if FM C b = 0 then 1 else 0) - 1)) ≤ WD C b then 0 else 1
theorem pch_idx {v : Int32} {b k : Nat} (h1 : sm (PL C) b ≤ k) (h2 : k < sm (PL C) (b + 1)) (hx : TV C k = some v) : cnt (TV C) (sm (PL C) b) (k - sm (PL C) b) + (if FM C b = 0 then 1 else 0) ≤ cp C b ∧ cp C b ≤ PL C b := by
  have hs : sm (PL C) (b + 1) = sm (PL C) b + PL C b := rfl
  have hin : cnt (TV C) (sm (PL C) b) (k - sm (PL C) b) < cm C b := cnt_in (v := v) (by omega) (by rw [show sm (PL C) b + (k - sm (PL C) b) = k by omega]; exact hx)
  have hm := cm_le C b
  unfold cp pcn
  split <;> omega
theorem r_patched (xv xw xp xs : Int32) (vs : Nat → Int32) (ps : Nat → Int64) (hc : c < 3) (hR : RCa a c C) (ho : OKC C) {v : Int32} {b k : Nat} (hk : k < HL C) (hb : b < NB C) (h1 : sm (PL C) b ≤ k) (h2 : k < sm (PL C) (b + 1)) (hx : TV C k = some v) : ∃ z, pX10_patched (nI c) (nI k) xv xw xp xs a vs ps = some z ∧ z.1 = nI (pch C b k) := by
  have hn := ho.1
  have hl := ho.2.1
  obtain ⟨o1, o2, o3, o4, o5, o6, _⟩ := ho.2.2 b hb
  obtain ⟨i1, i2⟩ := pch_idx h1 h2 hx
  obtain ⟨z, ez, z1, z2, z3, z4, z5, z6⟩ := r_layBlock xv xw xp xs vs ps hc hR ho hb
  have hra := fun x => r_ahead hc hR hl h1 hk x
  simp only [show pX10_read_b52 = pX10_patched_b52 from rfl] at hra
  have fin : ∀ i, i < cp C b → pX10_bitsOf (z.2.2.2.2.2 i) = some (nI (bl (cq C b i))) ∧ bl (cq C b i) ≤ 32 := fun i hi => by
    refine ⟨?_, bl_32 _⟩
    rw [z6 i hi]; exact r_bitsOf (qs_lt _ _ _ _ _)
  unfold pch
  generalize cnt (TV C) (sm (PL C) b) (k - sm (PL C) b) = j at *
  have tail : ∀ (t0 : Int32) (J : Nat), (t0 + nI j : Int32) = (if J = 0 then -nI 1 else nI (J - 1)) → J ≤ cp C b → ∃ z, pX10_patched_j42 (nI c) (nI k) (nI b) t0 xv xw xp xs a vs ps = some z ∧ z.1 = nI (if J = 0 then 0 else if bl (cq C b (J - 1)) ≤ WD C b then 0 else 1) := fun t0 J hJ hJ2 => by
    unfold pX10_patched_j42
    simp only [r_firstOf hc hR (Nat.le_of_lt hb) hn, Option.bind_some, hra, ez, hJ]
    by_cases j0 : J = 0
    · rw [if_pos j0, if_pos j0, if_pos (show (-nI 1 : Int32) < 0 by decide)]
      exact ⟨_, rfl, rfl⟩
    · obtain ⟨f1, f3⟩ := fin (J - 1) (by omega)
      rw [if_neg j0, if_neg j0, if_neg (nI_pos (by omega)), ckN (by omega) (by omega), nI_clamp (by omega), f1, Option.bind_some, show (2 : Int32) = nI 2 from rfl, r_ofWd hc hR hb hn, Option.bind_some]
      by_cases hbl : bl (cq C b (J - 1)) ≤ WD C b
      · rw [if_pos hbl, if_pos (nI_le hbl (by omega))]
        exact ⟨_, rfl, rfl⟩
      · rw [if_neg hbl, if_neg (fun q => hbl (by rw [nI_leI (by omega) (by omega)] at q; exact q))]
        exact ⟨_, rfl, rfl⟩
  unfold pX10_patched
  by_cases c0 : FM C b = 0
  · rw [if_pos c0] at i1 ⊢
    obtain ⟨y, ey, hy⟩ := tail (nI 0) (j + 1) (by rw [if_neg (by omega), nI_add, Nat.zero_add, Nat.add_sub_cancel]) i1
    simp (disch := omega) only [n_l0, n_l1, n_l2, n_l3, n_l4, n_l5, n_l6, n_l7, n_l8, n_l9, n_l15, n_l16, n_l17, n_l20, n_l24, n_l31, n_l32, n_l33, n_l36, n_l48, n_l49, n_l97, n_l128, n_l129, n_l192, n_l225, n_l256, n_l353, n_l400, n_l512, n_l593, n_l621, n_l640, n_l857, n_l1093, n_l1095, n_l2048, n_l3225, n_l10000, n_l22955, n_l29988, n_l29989, n_l65536, n_l99999, n_l1000000000, n_l2147483647, nI_add, pk_mul, pk_sub, pk_div, nI_clamp, ckN, nI_leI, nI_ltI, nI_eq, nI_nm1, Nat.add_zero, nI_addneg, k_ush, true_or, or_true, false_or, or_false, true_and, and_true, false_and, and_false, not_true_eq_false, not_false_eq_true, if_true, if_false, if_pos, if_neg, Option.bind_some, r_isPlace hc hR ho hk, r_empty hc hR hk hl, hx, e_none, e_some, l64_ne, l64_inj, l64_lt, l64_le, vv_some, vv_none, ee_some, ee_none, lc_eq, lc_lt, lc_le, lc_gt, lc_ge, reduceCtorEq, Option.isSome_none, Option.isSome_some, Bool.false_eq_true, r_blockWith hc hR hn hl hb h1 h2, r_ofFm hc hR hb hn, c0, ey]
    exact ⟨_, rfl, hy⟩
  · rw [if_neg c0] at i1 ⊢
    obtain ⟨y, ey, hy⟩ := tail (-nI 1) j (by
      by_cases j0 : j = 0
      · subst j0; rfl
      · rw [if_neg j0, Int32.add_comm]; exact nI_addneg (by omega)) i1
    simp (disch := omega) only [n_l0, n_l1, n_l2, n_l3, n_l4, n_l5, n_l6, n_l7, n_l8, n_l9, n_l15, n_l16, n_l17, n_l20, n_l24, n_l31, n_l32, n_l33, n_l36, n_l48, n_l49, n_l97, n_l128, n_l129, n_l192, n_l225, n_l256, n_l353, n_l400, n_l512, n_l593, n_l621, n_l640, n_l857, n_l1093, n_l1095, n_l2048, n_l3225, n_l10000, n_l22955, n_l29988, n_l29989, n_l65536, n_l99999, n_l1000000000, n_l2147483647, nI_add, pk_mul, pk_sub, pk_div, nI_clamp, ckN, nI_leI, nI_ltI, nI_eq, nI_nm1, Nat.add_zero, nI_addneg, k_ush, true_or, or_true, false_or, or_false, true_and, and_true, false_and, and_false, not_true_eq_false, not_false_eq_true, if_true, if_false, if_pos, if_neg, Option.bind_some, r_isPlace hc hR ho hk, r_empty hc hR hk hl, hx, e_none, e_some, l64_ne, l64_inj, l64_lt, l64_le, vv_some, vv_none, ee_some, ee_none, lc_eq, lc_lt, lc_le, lc_gt, lc_ge, reduceCtorEq, Option.isSome_none, Option.isSome_some, Bool.false_eq_true, r_blockWith hc hR hn hl hb h1 h2, r_ofFm hc hR hb hn, ey]
    exact ⟨_, rfl, hy⟩
theorem k_patched (m1 m2 m3 m4 m5 : Int32) (n1 n2 n3 : Nat → Int32) (hc : c < 3) (ho : OKC C) (hT : KT tl C) (hP : KP fc C) (hF : ∀ b, b < NB C → KF fc C b) {v : Int32} {b k : Nat} (hk : k < HL C) (hb : b < NB C) (h1 : sm (PL C) b ≤ k) (h2 : k < sm (PL C) (b + 1)) (hx : TV C k = some v) : ∃ z, pX9_patched 128 (nI c) (nI k) xc m1 m2 m3 m4 m5 n1 n2 n3 (nI (NB C)) (nI (HL C)) tl fc = some z ∧ z.1 = nI (pch C b k) := by
  have hn := ho.1
  have hl := ho.2.1
  obtain ⟨o1, o2, o3, o4, o5, o6, _⟩ := ho.2.2 b hb
  obtain ⟨i1, i2⟩ := pch_idx h1 h2 hx
  obtain ⟨y, ey, y1, y2, y3, y4⟩ := k_asTold (tl := tl) (fc := fc) m1 m2 m3 m4 m5 n1 n2 n3 ho hT hP hb (hF b hb)
  have hka := k_ahead hn hl hT hP hb h1 hk
  unfold pch
  generalize cnt (TV C) (sm (PL C) b) (k - sm (PL C) b) = j at *
  have tail : ∀ (t0 : Int32) (J : Nat), t0 = (if J = 0 then -nI 1 else nI (J - 1)) → J ≤ cp C b → ∃ z, pX9_patched_j53 128 (nI b) t0 m1 m2 m3 m4 m5 n1 n2 n3 (nI (NB C)) (nI (HL C)) tl fc = some z ∧ z.1 = nI (if J = 0 then 0 else if bl (cq C b (J - 1)) ≤ WD C b then 0 else 1) := fun t0 J hJ hJ2 => by
    subst hJ
    unfold pX9_patched_j53
    simp only [ey, Option.bind_some, show (3 : Int32) = nI 3 from rfl, k_fact (fc := fc) hb hn (show 3 < 8 by omega), (hF b hb).2.2.1, y3]
    by_cases j0 : J = 0
    · rw [if_pos j0, if_pos j0]
      have e9 : pX3_isOver (-nI 1) (nI (WD C b)) (nI (cp C b)) y.2.2.2.2.2.2.1 = some (nI 0) := by
        unfold pX3_isOver
        rw [k_hasPartO (Or.inl (by decide))]; rfl
      rw [e9]
      exact ⟨_, rfl, rfl⟩
    · rw [if_neg j0, if_neg j0, k_isOver (show J - 1 < cp C b by omega) (by omega) o4, y4 _ (by omega)]
      refine ⟨_, rfl, ?_⟩
      split <;> rfl
  unfold pX9_patched
  by_cases c0 : FM C b = 0
  · rw [if_pos c0] at i1 ⊢
    obtain ⟨y, ey, hy⟩ := tail (nI j) (j + 1) (by rw [if_neg (by omega), Nat.add_sub_cancel]) i1
    simp (disch := omega) only [n_l0, n_l1, n_l2, n_l3, n_l4, n_l5, n_l6, n_l7, n_l8, n_l9, n_l15, n_l16, n_l17, n_l20, n_l24, n_l31, n_l32, n_l33, n_l36, n_l48, n_l49, n_l97, n_l128, n_l129, n_l192, n_l225, n_l256, n_l353, n_l400, n_l512, n_l593, n_l621, n_l640, n_l857, n_l1093, n_l1095, n_l2048, n_l3225, n_l10000, n_l22955, n_l29988, n_l29989, n_l65536, n_l99999, n_l1000000000, n_l2147483647, nI_add, pk_mul, pk_sub, pk_div, nI_clamp, ckN, nI_leI, nI_ltI, nI_eq, nI_nm1, Nat.add_zero, nI_addneg, k_ush, true_or, or_true, false_or, or_false, true_and, and_true, false_and, and_false, not_true_eq_false, not_false_eq_true, if_true, if_false, if_pos, if_neg, Option.bind_some, k_withPlace hc hk hl, k_isFull (N := 128) (by omega) hl hk hT, hx, e_none, e_some, l64_ne, l64_inj, l64_lt, l64_le, vv_some, vv_none, ee_some, ee_none, lc_eq, lc_lt, lc_le, lc_gt, lc_ge, reduceCtorEq, Option.isSome_none, Option.isSome_some, Bool.false_eq_true, k_holderOf hn hl hP hb h1 h2, hka, k_fact (fc := fc) hb hn (show 2 < 8 by omega), (hF b hb).2.1, c0, ey]
    exact ⟨_, rfl, hy⟩
  · rw [if_neg c0] at i1 ⊢
    obtain ⟨y, ey, hy⟩ := tail (nI j + -nI 1) j (by
      by_cases j0 : j = 0
      · subst j0; rfl
      · rw [if_neg j0]; exact nI_addneg (by omega)) i1
    simp only [k_withPlace hc hk hl, Option.bind_some, if_true, k_isFull (N := 128) (by omega) hl hk hT, hx, Option.isSome_some, show ¬ (nI 1 : Int32) = 0 by decide, if_false, k_holderOf hn hl hP hb h1 h2, hka, show (2 : Int32) = nI 2 from rfl, k_fact (fc := fc) hb hn (show 2 < 8 by omega), (hF b hb).2.1]
    have hf0 : ¬ nI (FM C b) = (0 : Int32) := fun q => c0 ((nI_eq (b := 0) (by omega) (by omega)).mp q)
    rw [if_neg hf0]
    exact ⟨_, ey, hy⟩
theorem q_patched (xv xw xp xs : Int32) (vs : Nat → Int32) (ps : Nat → Int64) (m1 m2 m3 m4 m5 : Int32) (n1 n2 n3 : Nat → Int32) (h : COL a v1 bk hd tl fc C) : ∃ z w, pX10_patched v1 v2 xv xw xp xs a vs ps = some z ∧ pX9_patched 128 v1 v2 xc m1 m2 m3 m4 m5 n1 n2 n3 bk hd tl fc = some w ∧ w.1 = z.1 := by
  obtain ⟨⟨rfl, rfl, hT, hP, hF⟩, ho, hr⟩ := h
  have hn := ho.1
  have hl := ho.2.1
  have hH : ∀ k, k < HL C → tl k = enc (TV C k) := hT
  rcases col_cases v1 with ⟨c, hc, rfl⟩ | hv
  · have hR := hr c hc rfl
    rcases ix_cases v2 (n := HL C) (by omega) with ⟨k, hk, rfl⟩ | hk
    · obtain ⟨b, hb, h1, h2⟩ := blk_ex _ k hk
      cases hx : TV C k with
      | none =>
        unfold pX10_patched pX9_patched
        simp (disch := omega) only [n_l0, n_l1, n_l2, n_l3, n_l4, n_l5, n_l6, n_l7, n_l8, n_l9, n_l15, n_l16, n_l17, n_l20, n_l24, n_l31, n_l32, n_l33, n_l36, n_l48, n_l49, n_l97, n_l128, n_l129, n_l192, n_l225, n_l256, n_l353, n_l400, n_l512, n_l593, n_l621, n_l640, n_l857, n_l1093, n_l1095, n_l2048, n_l3225, n_l10000, n_l22955, n_l29988, n_l29989, n_l65536, n_l99999, n_l1000000000, n_l2147483647, nI_add, pk_mul, pk_sub, pk_div, nI_clamp, ckN, nI_leI, nI_ltI, nI_eq, nI_nm1, Nat.add_zero, nI_addneg, k_ush, true_or, or_true, false_or, or_false, true_and, and_true, false_and, and_false, not_true_eq_false, not_false_eq_true, if_true, if_false, if_pos, if_neg, Option.bind_some, r_isPlace hc hR ho hk, r_empty hc hR hk hl, k_withPlace hc hk hl, k_isFull (N := 128) (by omega) hl hk hT, hx, e_none, e_some, l64_ne, l64_inj, l64_lt, l64_le, vv_some, vv_none, ee_some, ee_none, lc_eq, lc_lt, lc_le, lc_gt, lc_ge, reduceCtorEq, Option.isSome_none, Option.isSome_some, Bool.false_eq_true]
        exact ⟨_, _, rfl, rfl, rfl⟩
      | some v =>
        obtain ⟨z, ez, hz⟩ := r_patched xv xw xp xs vs ps hc hR ho hk hb h1 h2 hx
        obtain ⟨w, ew, hw⟩ := k_patched (xc := xc) m1 m2 m3 m4 m5 n1 n2 n3 hc ho hT hP hF hk hb h1 h2 hx
        exact ⟨z, w, ez, ew, by rw [hz, hw]⟩
    · unfold pX10_patched pX9_patched
      simp (disch := omega) only [n_l0, n_l1, n_l2, n_l3, n_l4, n_l5, n_l6, n_l7, n_l8, n_l9, n_l15, n_l16, n_l17, n_l20, n_l24, n_l31, n_l32, n_l33, n_l36, n_l48, n_l49, n_l97, n_l128, n_l129, n_l192, n_l225, n_l256, n_l353, n_l400, n_l512, n_l593, n_l621, n_l640, n_l857, n_l1093, n_l1095, n_l2048, n_l3225, n_l10000, n_l22955, n_l29988, n_l29989, n_l65536, n_l99999, n_l1000000000, n_l2147483647, nI_add, pk_mul, pk_sub, pk_div, nI_clamp, ckN, nI_leI, nI_ltI, nI_eq, nI_nm1, Nat.add_zero, nI_addneg, k_ush, true_or, or_true, false_or, or_false, true_and, and_true, false_and, and_false, not_true_eq_false, not_false_eq_true, if_true, if_false, if_pos, if_neg, Option.bind_some, r_isCol hc, r_blocks hc hR, r_places hc hR hn, eHL, k_col hc, r_isPlaceO hc hR ho hk, k_withPlaceO hc hk, Bool.false_eq_true]
      exact ⟨_, _, rfl, rfl, rfl⟩
  · unfold pX10_patched pX9_patched
    simp (disch := omega) only [n_l0, n_l1, n_l2, n_l3, n_l4, n_l5, n_l6, n_l7, n_l8, n_l9, n_l15, n_l16, n_l17, n_l20, n_l24, n_l31, n_l32, n_l33, n_l36, n_l48, n_l49, n_l97, n_l128, n_l129, n_l192, n_l225, n_l256, n_l353, n_l400, n_l512, n_l593, n_l621, n_l640, n_l857, n_l1093, n_l1095, n_l2048, n_l3225, n_l10000, n_l22955, n_l29988, n_l29989, n_l65536, n_l99999, n_l1000000000, n_l2147483647, nI_add, pk_mul, pk_sub, pk_div, nI_clamp, ckN, nI_leI, nI_ltI, nI_eq, nI_nm1, Nat.add_zero, nI_addneg, k_ush, true_or, or_true, false_or, or_false, true_and, and_true, false_and, and_false, not_true_eq_false, not_false_eq_true, if_true, if_false, if_pos, if_neg, Option.bind_some, r_isColO hv, k_colO hv, r_isPlaceC hv, k_withPlaceC hv, Bool.false_eq_true]
    exact ⟨_, _, rfl, rfl, rfl⟩
end Reads
