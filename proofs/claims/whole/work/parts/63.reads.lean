/-! ===== distinct, unlike, alike; the tape, X ===== -/
section Reads
variable {c : Nat} {a : Nat → Int32} {v1 v2 v3 bk hd : Int32} {tl : Nat → Int64} {fc : Nat → Int32} {C : AC} {xc : Nat → Option Nat}
theorem r_nd {n : Nat} (hn : n ≤ 128) (g : Nat → Int32) : (lp (pX10_distinct_b29 (nI n) g) FU (nI (if n = 0 then 0 else 1), nI 1)).bind (fun y => some y.1) = some (nI (ND g n)) := by
  cases n with
  | zero =>
    have e := lpF (body := pX10_distinct_b29 (nI 0) g) (r := (nI 0, nI 1)) (fun _ => (nI 0, nI 1)) 0 (nI 0, nI 1) rfl (fun k hk => absurd hk (Nat.not_lt_zero k)) (by
      unfold pX10_distinct_b29
      simp (disch := omega) only [n_l0, n_l1, n_l2, n_l3, n_l4, n_l5, n_l6, n_l7, n_l8, n_l9, n_l15, n_l16, n_l17, n_l20, n_l24, n_l31, n_l32, n_l33, n_l36, n_l48, n_l49, n_l97, n_l128, n_l129, n_l192, n_l225, n_l256, n_l353, n_l400, n_l512, n_l593, n_l621, n_l640, n_l857, n_l1093, n_l1095, n_l2048, n_l3225, n_l10000, n_l22955, n_l29988, n_l29989, n_l65536, n_l99999, n_l1000000000, n_l2147483647, nI_add, pk_mul, pk_sub, pk_div, nI_clamp, ckN, nI_leI, nI_ltI, nI_eq, nI_nm1, Nat.add_zero, nI_addneg, k_ush, true_or, or_true, false_or, or_false, true_and, and_true, false_and, and_false, not_true_eq_false, not_false_eq_true, if_true, if_false, if_pos, if_neg, Option.bind_some])
    rw [if_pos rfl, e]; rfl
  | succ m =>
    have e := lpF (body := pX10_distinct_b29 (nI (m + 1)) g) (r := (nI (ND g (m + 1)), nI (m + 1))) (fun k => (nI (ND g (k + 1)), nI (k + 1))) m (nI 1, nI 1) rfl (fun k hk => by
      unfold pX10_distinct_b29 pX10_distinct_b29j60
      have hs : ND g (k + 1 + 1) = ND g (k + 1) + (if g (k + 1) = g k then 0 else 1) := by
        show ND g (k + 1) + (if k + 1 = 0 then 1 else if g (k + 1) = g (k + 1 - 1) then 0 else 1) = _
        rw [if_neg (by omega), Nat.add_sub_cancel]
      by_cases h : g (k + 1) = g k
      · simp (disch := omega) only [n_l0, n_l1, n_l2, n_l3, n_l4, n_l5, n_l6, n_l7, n_l8, n_l9, n_l15, n_l16, n_l17, n_l20, n_l24, n_l31, n_l32, n_l33, n_l36, n_l48, n_l49, n_l97, n_l128, n_l129, n_l192, n_l225, n_l256, n_l353, n_l400, n_l512, n_l593, n_l621, n_l640, n_l857, n_l1093, n_l1095, n_l2048, n_l3225, n_l10000, n_l22955, n_l29988, n_l29989, n_l65536, n_l99999, n_l1000000000, n_l2147483647, nI_add, pk_mul, pk_sub, pk_div, nI_clamp, ckN, nI_leI, nI_ltI, nI_eq, nI_nm1, Nat.add_zero, nI_addneg, k_ush, true_or, or_true, false_or, or_false, true_and, and_true, false_and, and_false, not_true_eq_false, not_false_eq_true, if_true, if_false, if_pos, if_neg, Option.bind_some, Nat.add_sub_cancel, h, hs]
      · simp (disch := omega) only [n_l0, n_l1, n_l2, n_l3, n_l4, n_l5, n_l6, n_l7, n_l8, n_l9, n_l15, n_l16, n_l17, n_l20, n_l24, n_l31, n_l32, n_l33, n_l36, n_l48, n_l49, n_l97, n_l128, n_l129, n_l192, n_l225, n_l256, n_l353, n_l400, n_l512, n_l593, n_l621, n_l640, n_l857, n_l1093, n_l1095, n_l2048, n_l3225, n_l10000, n_l22955, n_l29988, n_l29989, n_l65536, n_l99999, n_l1000000000, n_l2147483647, nI_add, pk_mul, pk_sub, pk_div, nI_clamp, ckN, nI_leI, nI_ltI, nI_eq, nI_nm1, Nat.add_zero, nI_addneg, k_ush, true_or, or_true, false_or, or_false, true_and, and_true, false_and, and_false, not_true_eq_false, not_false_eq_true, if_true, if_false, if_pos, if_neg, Option.bind_some, Nat.add_sub_cancel, h, hs]) (by
      unfold pX10_distinct_b29
      simp (disch := omega) only [n_l0, n_l1, n_l2, n_l3, n_l4, n_l5, n_l6, n_l7, n_l8, n_l9, n_l15, n_l16, n_l17, n_l20, n_l24, n_l31, n_l32, n_l33, n_l36, n_l48, n_l49, n_l97, n_l128, n_l129, n_l192, n_l225, n_l256, n_l353, n_l400, n_l512, n_l593, n_l621, n_l640, n_l857, n_l1093, n_l1095, n_l2048, n_l3225, n_l10000, n_l22955, n_l29988, n_l29989, n_l65536, n_l99999, n_l1000000000, n_l2147483647, nI_add, pk_mul, pk_sub, pk_div, nI_clamp, ckN, nI_leI, nI_ltI, nI_eq, nI_nm1, Nat.add_zero, nI_addneg, k_ush, true_or, or_true, false_or, or_false, true_and, and_true, false_and, and_false, not_true_eq_false, not_false_eq_true, if_true, if_false, if_pos, if_neg, Option.bind_some])
    rw [if_neg (by omega), e]; rfl
theorem DN_s (tv : Nat → Option Int32) (k : Nat) : DN tv (k + 1) = DN tv k + (match tv k with | none => 0 | some v => if TN (fun w => decide (w = v)) tv k = 0 then 1 else 0) := rfl
theorem k_stands (hl : HL C ≤ 128) (hT : KT tl C) {k : Nat} {v : Int32} (hk : k < HL C) (hx : TV C k = some v) : pX5_standsAhead 128 (nI k) tl = some (if TN (fun w => decide (w = v)) (TV C) k = 0 then nI 0 else nI 1) := by
  obtain ⟨r, e, hq⟩ := lpE (body := pX5_standsAhead_b2 128 (nI k) tl) (fun j s => s = nI j ∧ TN (fun w => decide (w = v)) (TV C) j = 0) (fun r => if TN (fun w => decide (w = v)) (TV C) k = 0 then ∃ x, r = .inl x else r = .inr (nI 1)) k (nI 0) ⟨rfl, rfl⟩ (fun j s hj hI => by
    obtain ⟨rfl, hI⟩ := hI
    unfold pX5_standsAhead_b2
    rcases Nat.lt_or_ge j k with h9 | h9
    · cases hy : TV C j with
      | none =>
        refine Or.inl ?_
        have h2 : ¬ (4294967296 : Int64) = v.toInt64 := fun q => by have := l64_ne v; rw [← q] at this; exact absurd rfl (by rw [this]; exact id)
        simp (disch := omega) only [n_l0, n_l1, n_l2, n_l3, n_l4, n_l5, n_l6, n_l7, n_l8, n_l9, n_l15, n_l16, n_l17, n_l20, n_l24, n_l31, n_l32, n_l33, n_l36, n_l48, n_l49, n_l97, n_l128, n_l129, n_l192, n_l225, n_l256, n_l353, n_l400, n_l512, n_l593, n_l621, n_l640, n_l857, n_l1093, n_l1095, n_l2048, n_l3225, n_l10000, n_l22955, n_l29988, n_l29989, n_l65536, n_l99999, n_l1000000000, n_l2147483647, nI_add, pk_mul, pk_sub, pk_div, nI_clamp, ckN, nI_leI, nI_ltI, nI_eq, nI_nm1, Nat.add_zero, nI_addneg, k_ush, true_or, or_true, false_or, or_false, true_and, and_true, false_and, and_false, not_true_eq_false, not_false_eq_true, if_true, if_false, if_pos, if_neg, Option.bind_some, hT j (by omega), hT k hk, hx, hy, e_none, e_some, l64_ne, l64_inj, l64_lt, l64_le, vv_some, vv_none, ee_some, ee_none, lc_eq, lc_lt, lc_le, lc_gt, lc_ge, reduceCtorEq, Option.isSome_none, Option.isSome_some, Bool.false_eq_true, h2]
        exact ⟨_, rfl, h9, rfl, by rw [TN_s, hy, hI]; rfl⟩
      | some w =>
        by_cases hw : w = v
        · refine Or.inr ?_
          have hne : ¬ TN (fun w => decide (w = v)) (TV C) k = 0 := by
            have : 0 < TN (fun w => decide (w = v)) (TV C) k := TN_pos.mpr ⟨j, w, h9, hy, decide_eq_true hw⟩
            omega
          simp (disch := omega) only [n_l0, n_l1, n_l2, n_l3, n_l4, n_l5, n_l6, n_l7, n_l8, n_l9, n_l15, n_l16, n_l17, n_l20, n_l24, n_l31, n_l32, n_l33, n_l36, n_l48, n_l49, n_l97, n_l128, n_l129, n_l192, n_l225, n_l256, n_l353, n_l400, n_l512, n_l593, n_l621, n_l640, n_l857, n_l1093, n_l1095, n_l2048, n_l3225, n_l10000, n_l22955, n_l29988, n_l29989, n_l65536, n_l99999, n_l1000000000, n_l2147483647, nI_add, pk_mul, pk_sub, pk_div, nI_clamp, ckN, nI_leI, nI_ltI, nI_eq, nI_nm1, Nat.add_zero, nI_addneg, k_ush, true_or, or_true, false_or, or_false, true_and, and_true, false_and, and_false, not_true_eq_false, not_false_eq_true, if_true, if_false, if_pos, if_neg, Option.bind_some, hT j (by omega), hT k hk, hx, hy, e_none, e_some, l64_ne, l64_inj, l64_lt, l64_le, vv_some, vv_none, ee_some, ee_none, lc_eq, lc_lt, lc_le, lc_gt, lc_ge, reduceCtorEq, Option.isSome_none, Option.isSome_some, Bool.false_eq_true, hw, hne]
          exact ⟨_, rfl, rfl⟩
        · refine Or.inl ?_
          simp (disch := omega) only [n_l0, n_l1, n_l2, n_l3, n_l4, n_l5, n_l6, n_l7, n_l8, n_l9, n_l15, n_l16, n_l17, n_l20, n_l24, n_l31, n_l32, n_l33, n_l36, n_l48, n_l49, n_l97, n_l128, n_l129, n_l192, n_l225, n_l256, n_l353, n_l400, n_l512, n_l593, n_l621, n_l640, n_l857, n_l1093, n_l1095, n_l2048, n_l3225, n_l10000, n_l22955, n_l29988, n_l29989, n_l65536, n_l99999, n_l1000000000, n_l2147483647, nI_add, pk_mul, pk_sub, pk_div, nI_clamp, ckN, nI_leI, nI_ltI, nI_eq, nI_nm1, Nat.add_zero, nI_addneg, k_ush, true_or, or_true, false_or, or_false, true_and, and_true, false_and, and_false, not_true_eq_false, not_false_eq_true, if_true, if_false, if_pos, if_neg, Option.bind_some, hT j (by omega), hT k hk, hx, hy, e_none, e_some, l64_ne, l64_inj, l64_lt, l64_le, vv_some, vv_none, ee_some, ee_none, lc_eq, lc_lt, lc_le, lc_gt, lc_ge, reduceCtorEq, Option.isSome_none, Option.isSome_some, Bool.false_eq_true, hw]
          refine ⟨_, rfl, h9, rfl, ?_⟩
          rw [TN_s, hy, hI]
          show 0 + (if decide (w = v) then 1 else 0) = 0
          rw [decide_eq_false hw]; rfl
    · obtain rfl : j = k := by omega
      refine Or.inr ?_
      simp (disch := omega) only [n_l0, n_l1, n_l2, n_l3, n_l4, n_l5, n_l6, n_l7, n_l8, n_l9, n_l15, n_l16, n_l17, n_l20, n_l24, n_l31, n_l32, n_l33, n_l36, n_l48, n_l49, n_l97, n_l128, n_l129, n_l192, n_l225, n_l256, n_l353, n_l400, n_l512, n_l593, n_l621, n_l640, n_l857, n_l1093, n_l1095, n_l2048, n_l3225, n_l10000, n_l22955, n_l29988, n_l29989, n_l65536, n_l99999, n_l1000000000, n_l2147483647, nI_add, pk_mul, pk_sub, pk_div, nI_clamp, ckN, nI_leI, nI_ltI, nI_eq, nI_nm1, Nat.add_zero, nI_addneg, k_ush, true_or, or_true, false_or, or_false, true_and, and_true, false_and, and_false, not_true_eq_false, not_false_eq_true, if_true, if_false, if_pos, if_neg, Option.bind_some, hI]
      exact ⟨_, rfl, _, rfl⟩)
  unfold pX5_standsAhead
  rw [n_l0, e]
  by_cases h0 : TN (fun w => decide (w = v)) (TV C) k = 0
  · rw [if_pos h0] at hq ⊢
    obtain ⟨x, rfl⟩ := hq
    rfl
  · rw [if_neg h0] at hq ⊢
    rw [hq]; rfl
theorem q_distinct (mg : Nat → Int32) (h : COL a v1 bk hd tl fc C) : ∃ z, pX10_distinct v1 a mg = some z ∧ pX9_distinct 128 v1 xc hd tl = some z.1 := by
  obtain ⟨⟨rfl, rfl, hT, hP, hF⟩, ho, hr⟩ := h
  have hn := ho.1
  have hl := ho.2.1
  have hH : ∀ k, k < HL C → tl k = enc (TV C k) := hT
  unfold pX10_distinct pX9_distinct
  rcases col_cases v1 with ⟨c, hc, rfl⟩ | hv
  · have hR := hr c hc rfl
    have hcl := cnt_le (TV C) 0 (HL C)
    obtain ⟨g, eg, g1, g2, g3⟩ := r_mergedBy hc hR ho (n0 := 0) (by omega) (g0 := mg) (fun i j _ hj => absurd hj (Nat.not_lt_zero j))
    rw [Nat.zero_add] at eg
    have e := lpF (body := pX5_howManyUnlike_b4 128 (nI (HL C)) tl) (r := (nI (DN (TV C) (HL C)), nI (HL C))) (fun k => (nI (DN (TV C) k), nI k)) (HL C) (nI 0, nI 0) rfl (fun k hk => by
      unfold pX5_howManyUnlike_b4 pX5_howManyUnlike_b4j36
      cases hx : TV C k with
      | none =>
        simp (disch := omega) only [n_l0, n_l1, n_l2, n_l3, n_l4, n_l5, n_l6, n_l7, n_l8, n_l9, n_l15, n_l16, n_l17, n_l20, n_l24, n_l31, n_l32, n_l33, n_l36, n_l48, n_l49, n_l97, n_l128, n_l129, n_l192, n_l225, n_l256, n_l353, n_l400, n_l512, n_l593, n_l621, n_l640, n_l857, n_l1093, n_l1095, n_l2048, n_l3225, n_l10000, n_l22955, n_l29988, n_l29989, n_l65536, n_l99999, n_l1000000000, n_l2147483647, nI_add, pk_mul, pk_sub, pk_div, nI_clamp, ckN, nI_leI, nI_ltI, nI_eq, nI_nm1, Nat.add_zero, nI_addneg, k_ush, true_or, or_true, false_or, or_false, true_and, and_true, false_and, and_false, not_true_eq_false, not_false_eq_true, if_true, if_false, if_pos, if_neg, Option.bind_some, hT k hk, hx, e_none, e_some, l64_ne, l64_inj, l64_lt, l64_le, vv_some, vv_none, ee_some, ee_none, lc_eq, lc_lt, lc_le, lc_gt, lc_ge, reduceCtorEq, Option.isSome_none, Option.isSome_some, Bool.false_eq_true, DN_s]
      | some v =>
        by_cases h0 : TN (fun w => decide (w = v)) (TV C) k = 0
        · simp (disch := omega) only [n_l0, n_l1, n_l2, n_l3, n_l4, n_l5, n_l6, n_l7, n_l8, n_l9, n_l15, n_l16, n_l17, n_l20, n_l24, n_l31, n_l32, n_l33, n_l36, n_l48, n_l49, n_l97, n_l128, n_l129, n_l192, n_l225, n_l256, n_l353, n_l400, n_l512, n_l593, n_l621, n_l640, n_l857, n_l1093, n_l1095, n_l2048, n_l3225, n_l10000, n_l22955, n_l29988, n_l29989, n_l65536, n_l99999, n_l1000000000, n_l2147483647, nI_add, pk_mul, pk_sub, pk_div, nI_clamp, ckN, nI_leI, nI_ltI, nI_eq, nI_nm1, Nat.add_zero, nI_addneg, k_ush, true_or, or_true, false_or, or_false, true_and, and_true, false_and, and_false, not_true_eq_false, not_false_eq_true, if_true, if_false, if_pos, if_neg, Option.bind_some, hT k hk, hx, e_none, e_some, l64_ne, l64_inj, l64_lt, l64_le, vv_some, vv_none, ee_some, ee_none, lc_eq, lc_lt, lc_le, lc_gt, lc_ge, reduceCtorEq, Option.isSome_none, Option.isSome_some, Bool.false_eq_true, DN_s, k_stands hl hT hk hx, h0]
        · simp (disch := omega) only [n_l0, n_l1, n_l2, n_l3, n_l4, n_l5, n_l6, n_l7, n_l8, n_l9, n_l15, n_l16, n_l17, n_l20, n_l24, n_l31, n_l32, n_l33, n_l36, n_l48, n_l49, n_l97, n_l128, n_l129, n_l192, n_l225, n_l256, n_l353, n_l400, n_l512, n_l593, n_l621, n_l640, n_l857, n_l1093, n_l1095, n_l2048, n_l3225, n_l10000, n_l22955, n_l29988, n_l29989, n_l65536, n_l99999, n_l1000000000, n_l2147483647, nI_add, pk_mul, pk_sub, pk_div, nI_clamp, ckN, nI_leI, nI_ltI, nI_eq, nI_nm1, Nat.add_zero, nI_addneg, k_ush, true_or, or_true, false_or, or_false, true_and, and_true, false_and, and_false, not_true_eq_false, not_false_eq_true, if_true, if_false, if_pos, if_neg, Option.bind_some, hT k hk, hx, e_none, e_some, l64_ne, l64_inj, l64_lt, l64_le, vv_some, vv_none, ee_some, ee_none, lc_eq, lc_lt, lc_le, lc_gt, lc_ge, reduceCtorEq, Option.isSome_none, Option.isSome_some, Bool.false_eq_true, DN_s, k_stands hl hT hk hx, h0]) (by
      unfold pX5_howManyUnlike_b4
      simp (disch := omega) only [n_l0, n_l1, n_l2, n_l3, n_l4, n_l5, n_l6, n_l7, n_l8, n_l9, n_l15, n_l16, n_l17, n_l20, n_l24, n_l31, n_l32, n_l33, n_l36, n_l48, n_l49, n_l97, n_l128, n_l129, n_l192, n_l225, n_l256, n_l353, n_l400, n_l512, n_l593, n_l621, n_l640, n_l857, n_l1093, n_l1095, n_l2048, n_l3225, n_l10000, n_l22955, n_l29988, n_l29989, n_l65536, n_l99999, n_l1000000000, n_l2147483647, nI_add, pk_mul, pk_sub, pk_div, nI_clamp, ckN, nI_leI, nI_ltI, nI_eq, nI_nm1, Nat.add_zero, nI_addneg, k_ush, true_or, or_true, false_or, or_false, true_and, and_true, false_and, and_false, not_true_eq_false, not_false_eq_true, if_true, if_false, if_pos, if_neg, Option.bind_some])
    have hnd := r_nd (n := cnt (TV C) 0 (HL C)) (by omega) g
    rw [g3 rfl] at hnd
    unfold pX5_howManyUnlike pX10_distinct_j25
    simp (disch := omega) only [n_l0, n_l1, n_l2, n_l3, n_l4, n_l5, n_l6, n_l7, n_l8, n_l9, n_l15, n_l16, n_l17, n_l20, n_l24, n_l31, n_l32, n_l33, n_l36, n_l48, n_l49, n_l97, n_l128, n_l129, n_l192, n_l225, n_l256, n_l353, n_l400, n_l512, n_l593, n_l621, n_l640, n_l857, n_l1093, n_l1095, n_l2048, n_l3225, n_l10000, n_l22955, n_l29988, n_l29989, n_l65536, n_l99999, n_l1000000000, n_l2147483647, nI_add, pk_mul, pk_sub, pk_div, nI_clamp, ckN, nI_leI, nI_ltI, nI_eq, nI_nm1, Nat.add_zero, nI_addneg, k_ush, true_or, or_true, false_or, or_false, true_and, and_true, false_and, and_false, not_true_eq_false, not_false_eq_true, if_true, if_false, if_pos, if_neg, Option.bind_some, r_isCol hc, r_blocks hc hR, r_places hc hR hn, eHL, k_col hc, eg, e]
    by_cases h0 : cnt (TV C) 0 (HL C) = 0
    · rw [if_pos h0] at hnd
      simp (disch := omega) only [n_l0, n_l1, n_l2, n_l3, n_l4, n_l5, n_l6, n_l7, n_l8, n_l9, n_l15, n_l16, n_l17, n_l20, n_l24, n_l31, n_l32, n_l33, n_l36, n_l48, n_l49, n_l97, n_l128, n_l129, n_l192, n_l225, n_l256, n_l353, n_l400, n_l512, n_l593, n_l621, n_l640, n_l857, n_l1093, n_l1095, n_l2048, n_l3225, n_l10000, n_l22955, n_l29988, n_l29989, n_l65536, n_l99999, n_l1000000000, n_l2147483647, nI_add, pk_mul, pk_sub, pk_div, nI_clamp, ckN, nI_leI, nI_ltI, nI_eq, nI_nm1, Nat.add_zero, nI_addneg, k_ush, true_or, or_true, false_or, or_false, true_and, and_true, false_and, and_false, not_true_eq_false, not_false_eq_true, if_true, if_false, if_pos, if_neg, Option.bind_some, h0]
      rw [h0] at hnd
      cases hlp : lp (pX10_distinct_b29 (nI 0) g) FU (nI 0, nI 1) with
      | none => rw [hlp] at hnd; cases hnd
      | some y => rw [hlp] at hnd; exact ⟨_, rfl, hnd.symm⟩
    · rw [if_neg h0] at hnd
      simp (disch := omega) only [n_l0, n_l1, n_l2, n_l3, n_l4, n_l5, n_l6, n_l7, n_l8, n_l9, n_l15, n_l16, n_l17, n_l20, n_l24, n_l31, n_l32, n_l33, n_l36, n_l48, n_l49, n_l97, n_l128, n_l129, n_l192, n_l225, n_l256, n_l353, n_l400, n_l512, n_l593, n_l621, n_l640, n_l857, n_l1093, n_l1095, n_l2048, n_l3225, n_l10000, n_l22955, n_l29988, n_l29989, n_l65536, n_l99999, n_l1000000000, n_l2147483647, nI_add, pk_mul, pk_sub, pk_div, nI_clamp, ckN, nI_leI, nI_ltI, nI_eq, nI_nm1, Nat.add_zero, nI_addneg, k_ush, true_or, or_true, false_or, or_false, true_and, and_true, false_and, and_false, not_true_eq_false, not_false_eq_true, if_true, if_false, if_pos, if_neg, Option.bind_some, h0]
      cases hlp : lp (pX10_distinct_b29 (nI (cnt (TV C) 0 (HL C))) g) FU (nI 1, nI 1) with
      | none => rw [hlp] at hnd; cases hnd
      | some y => rw [hlp] at hnd; exact ⟨_, rfl, hnd.symm⟩
  · simp (disch := omega) only [n_l0, n_l1, n_l2, n_l3, n_l4, n_l5, n_l6, n_l7, n_l8, n_l9, n_l15, n_l16, n_l17, n_l20, n_l24, n_l31, n_l32, n_l33, n_l36, n_l48, n_l49, n_l97, n_l128, n_l129, n_l192, n_l225, n_l256, n_l353, n_l400, n_l512, n_l593, n_l621, n_l640, n_l857, n_l1093, n_l1095, n_l2048, n_l3225, n_l10000, n_l22955, n_l29988, n_l29989, n_l65536, n_l99999, n_l1000000000, n_l2147483647, nI_add, pk_mul, pk_sub, pk_div, nI_clamp, ckN, nI_leI, nI_ltI, nI_eq, nI_nm1, Nat.add_zero, nI_addneg, k_ush, true_or, or_true, false_or, or_false, true_and, and_true, false_and, and_false, not_true_eq_false, not_false_eq_true, if_true, if_false, if_pos, if_neg, Option.bind_some, r_isColO hv, k_colO hv, Bool.false_eq_true]
    exact ⟨_, rfl, rfl⟩
/-! unlike -/
def tvl (C : AC) (k : Nat) : Int64 := if k < HL C then enc (TV C k) else -4294967296
theorem r_val (hc : c < 3) (hR : RCa a c C) (ho : OKC C) {k : Nat} (hk : k < 2 ^ 31) : pX10_value (nI c) (nI k) a = some (tvl C k) := by
  have hl := ho.2.1
  unfold pX10_value tvl
  by_cases h : k < HL C
  · cases hx : TV C k with
    | none => simp (disch := omega) only [n_l0, n_l1, n_l2, n_l3, n_l4, n_l5, n_l6, n_l7, n_l8, n_l9, n_l15, n_l16, n_l17, n_l20, n_l24, n_l31, n_l32, n_l33, n_l36, n_l48, n_l49, n_l97, n_l128, n_l129, n_l192, n_l225, n_l256, n_l353, n_l400, n_l512, n_l593, n_l621, n_l640, n_l857, n_l1093, n_l1095, n_l2048, n_l3225, n_l10000, n_l22955, n_l29988, n_l29989, n_l65536, n_l99999, n_l1000000000, n_l2147483647, nI_add, pk_mul, pk_sub, pk_div, nI_clamp, ckN, nI_leI, nI_ltI, nI_eq, nI_nm1, Nat.add_zero, nI_addneg, k_ush, true_or, or_true, false_or, or_false, true_and, and_true, false_and, and_false, not_true_eq_false, not_false_eq_true, if_true, if_false, if_pos, if_neg, Option.bind_some, r_isPlace hc hR ho h, r_empty hc hR h hl, hx, e_none, e_some, l64_ne, l64_inj, l64_lt, l64_le, vv_some, vv_none, ee_some, ee_none, lc_eq, lc_lt, lc_le, lc_gt, lc_ge, reduceCtorEq, Option.isSome_none, Option.isSome_some, Bool.false_eq_true, h]
    | some v => simp (disch := omega) only [n_l0, n_l1, n_l2, n_l3, n_l4, n_l5, n_l6, n_l7, n_l8, n_l9, n_l15, n_l16, n_l17, n_l20, n_l24, n_l31, n_l32, n_l33, n_l36, n_l48, n_l49, n_l97, n_l128, n_l129, n_l192, n_l225, n_l256, n_l353, n_l400, n_l512, n_l593, n_l621, n_l640, n_l857, n_l1093, n_l1095, n_l2048, n_l3225, n_l10000, n_l22955, n_l29988, n_l29989, n_l65536, n_l99999, n_l1000000000, n_l2147483647, nI_add, pk_mul, pk_sub, pk_div, nI_clamp, ckN, nI_leI, nI_ltI, nI_eq, nI_nm1, Nat.add_zero, nI_addneg, k_ush, true_or, or_true, false_or, or_false, true_and, and_true, false_and, and_false, not_true_eq_false, not_false_eq_true, if_true, if_false, if_pos, if_neg, Option.bind_some, r_isPlace hc hR ho h, r_empty hc hR h hl, r_value hc hR h hl, hx, e_none, e_some, l64_ne, l64_inj, l64_lt, l64_le, vv_some, vv_none, ee_some, ee_none, lc_eq, lc_lt, lc_le, lc_gt, lc_ge, reduceCtorEq, Option.isSome_none, Option.isSome_some, Bool.false_eq_true, h]
  · have : inO (nI k) (HL C) := Or.inr (nI_le (by omega) hk)
    simp (disch := omega) only [n_l0, n_l1, n_l2, n_l3, n_l4, n_l5, n_l6, n_l7, n_l8, n_l9, n_l15, n_l16, n_l17, n_l20, n_l24, n_l31, n_l32, n_l33, n_l36, n_l48, n_l49, n_l97, n_l128, n_l129, n_l192, n_l225, n_l256, n_l353, n_l400, n_l512, n_l593, n_l621, n_l640, n_l857, n_l1093, n_l1095, n_l2048, n_l3225, n_l10000, n_l22955, n_l29988, n_l29989, n_l65536, n_l99999, n_l1000000000, n_l2147483647, nI_add, pk_mul, pk_sub, pk_div, nI_clamp, ckN, nI_leI, nI_ltI, nI_eq, nI_nm1, Nat.add_zero, nI_addneg, k_ush, true_or, or_true, false_or, or_false, true_and, and_true, false_and, and_false, not_true_eq_false, not_false_eq_true, if_true, if_false, if_pos, if_neg, Option.bind_some, r_isPlaceO hc hR ho this, h]
theorem k_val (hl : HL C ≤ 128) (hT : KT tl C) {k : Nat} (hk : k < 2 ^ 31) : pX5_tellAt 128 (nI k) (nI (HL C)) tl = some (tvl C k) := by
  rw [k_tellAt (N := 128) (by omega) hl hk hT]; rfl
/-- the first place at which two are unlike -/
def fu (f g : Nat → Int64) : Nat → Option Nat
  | 0 => none
  | n + 1 => match fu f g n with
    | some j => some j
    | none => if f n = g n then none else some n
theorem fu_s (f g : Nat → Int64) (n : Nat) : fu f g (n + 1) = match fu f g n with
    | some j => some j
    | none => if f n = g n then none else some n := rfl
theorem fu_up {f g : Nat → Int64} {n j : Nat} (h : fu f g n = some j) : ∀ m, fu f g (n + m) = some j := by
  intro m
  induction m with
  | zero => exact h
  | succ k ih => rw [← Nat.add_assoc, fu_s, ih]
theorem fu_none {f g : Nat → Int64} {n : Nat} (h : fu f g n = none) : ∀ m, (∀ k, n ≤ k → f k = g k) → fu f g (n + m) = none := by
  intro m hm
  induction m with
  | zero => exact h
  | succ k ih => rw [← Nat.add_assoc, fu_s, ih]; exact if_pos (hm _ (by omega))
def fuI : Option Nat → Int32
  | none => -nI 1
  | some j => nI j
theorem r_unl {c2 : Nat} {C2 : AC} (hc : c < 3) (hR : RCa a c C) (ho : OKC C) (hc2 : c2 < 3) (hR2 : RCa a c2 C2) (ho2 : OKC C2) : pX10_unlike (nI c) (nI c2) a = some (fuI (fu (tvl C) (tvl C2) 128)) := by
  obtain ⟨r, e, hq⟩ := lpE (body := pX10_unlike_b18 (nI c) (nI c2) a) (fun k s => s = nI k ∧ fu (tvl C) (tvl C2) k = none) (fun r => match fu (tvl C) (tvl C2) 128 with | none => ∃ x, r = .inl x | some j => r = .inr (nI j)) 128 (nI 0) ⟨rfl, rfl⟩ (fun k s hk hI => by
    obtain ⟨rfl, hI⟩ := hI
    unfold pX10_unlike_b18
    rcases Nat.lt_or_ge k 128 with h9 | h9
    · by_cases heq : tvl C k = tvl C2 k
      · refine Or.inl ?_
        simp (disch := omega) only [n_l0, n_l1, n_l2, n_l3, n_l4, n_l5, n_l6, n_l7, n_l8, n_l9, n_l15, n_l16, n_l17, n_l20, n_l24, n_l31, n_l32, n_l33, n_l36, n_l48, n_l49, n_l97, n_l128, n_l129, n_l192, n_l225, n_l256, n_l353, n_l400, n_l512, n_l593, n_l621, n_l640, n_l857, n_l1093, n_l1095, n_l2048, n_l3225, n_l10000, n_l22955, n_l29988, n_l29989, n_l65536, n_l99999, n_l1000000000, n_l2147483647, nI_add, pk_mul, pk_sub, pk_div, nI_clamp, ckN, nI_leI, nI_ltI, nI_eq, nI_nm1, Nat.add_zero, nI_addneg, k_ush, true_or, or_true, false_or, or_false, true_and, and_true, false_and, and_false, not_true_eq_false, not_false_eq_true, if_true, if_false, if_pos, if_neg, Option.bind_some, r_val hc hR ho (show k < 2 ^ 31 by omega), r_val hc2 hR2 ho2 (show k < 2 ^ 31 by omega), lc_eq, heq]
        exact ⟨_, rfl, h9, rfl, by rw [fu_s, hI]; exact if_pos heq⟩
      · refine Or.inr ?_
        have h1 : fu (tvl C) (tvl C2) (k + 1) = some k := by rw [fu_s, hI]; exact if_neg heq
        have h2 := fu_up h1 (127 - k)
        rw [show k + 1 + (127 - k) = 128 by omega] at h2
        simp (disch := omega) only [n_l0, n_l1, n_l2, n_l3, n_l4, n_l5, n_l6, n_l7, n_l8, n_l9, n_l15, n_l16, n_l17, n_l20, n_l24, n_l31, n_l32, n_l33, n_l36, n_l48, n_l49, n_l97, n_l128, n_l129, n_l192, n_l225, n_l256, n_l353, n_l400, n_l512, n_l593, n_l621, n_l640, n_l857, n_l1093, n_l1095, n_l2048, n_l3225, n_l10000, n_l22955, n_l29988, n_l29989, n_l65536, n_l99999, n_l1000000000, n_l2147483647, nI_add, pk_mul, pk_sub, pk_div, nI_clamp, ckN, nI_leI, nI_ltI, nI_eq, nI_nm1, Nat.add_zero, nI_addneg, k_ush, true_or, or_true, false_or, or_false, true_and, and_true, false_and, and_false, not_true_eq_false, not_false_eq_true, if_true, if_false, if_pos, if_neg, Option.bind_some, r_val hc hR ho (show k < 2 ^ 31 by omega), r_val hc2 hR2 ho2 (show k < 2 ^ 31 by omega), lc_eq, heq, h2]
        exact ⟨_, rfl, rfl⟩
    · obtain rfl : k = 128 := by omega
      refine Or.inr ?_
      simp (disch := omega) only [n_l0, n_l1, n_l2, n_l3, n_l4, n_l5, n_l6, n_l7, n_l8, n_l9, n_l15, n_l16, n_l17, n_l20, n_l24, n_l31, n_l32, n_l33, n_l36, n_l48, n_l49, n_l97, n_l128, n_l129, n_l192, n_l225, n_l256, n_l353, n_l400, n_l512, n_l593, n_l621, n_l640, n_l857, n_l1093, n_l1095, n_l2048, n_l3225, n_l10000, n_l22955, n_l29988, n_l29989, n_l65536, n_l99999, n_l1000000000, n_l2147483647, nI_add, pk_mul, pk_sub, pk_div, nI_clamp, ckN, nI_leI, nI_ltI, nI_eq, nI_nm1, Nat.add_zero, nI_addneg, k_ush, true_or, or_true, false_or, or_false, true_and, and_true, false_and, and_false, not_true_eq_false, not_false_eq_true, if_true, if_false, if_pos, if_neg, Option.bind_some, hI]
      exact ⟨_, rfl, _, rfl⟩)
  unfold pX10_unlike
  simp (disch := omega) only [n_l0, n_l1, n_l2, n_l3, n_l4, n_l5, n_l6, n_l7, n_l8, n_l9, n_l15, n_l16, n_l17, n_l20, n_l24, n_l31, n_l32, n_l33, n_l36, n_l48, n_l49, n_l97, n_l128, n_l129, n_l192, n_l225, n_l256, n_l353, n_l400, n_l512, n_l593, n_l621, n_l640, n_l857, n_l1093, n_l1095, n_l2048, n_l3225, n_l10000, n_l22955, n_l29988, n_l29989, n_l65536, n_l99999, n_l1000000000, n_l2147483647, nI_add, pk_mul, pk_sub, pk_div, nI_clamp, ckN, nI_leI, nI_ltI, nI_eq, nI_nm1, Nat.add_zero, nI_addneg, k_ush, true_or, or_true, false_or, or_false, true_and, and_true, false_and, and_false, not_true_eq_false, not_false_eq_true, if_true, if_false, if_pos, if_neg, Option.bind_some, r_isCol hc, r_isCol hc2]
  rw [e]
  cases hf : fu (tvl C) (tvl C2) 128 with
  | none =>
    rw [hf] at hq
    obtain ⟨x, rfl⟩ := hq
    rfl
  | some j =>
    rw [hf] at hq
    replace hq : r = .inr (nI j) := hq
    rw [hq]; rfl
theorem k_unl {C2 : AC} {tl2 : Nat → Int64} (hl : HL C ≤ 128) (hT : KT tl C) (hl2 : HL C2 ≤ 128) (hT2 : KT tl2 C2) : pX5_firstUnlike 128 128 (nI (HL C)) tl (nI (HL C2)) tl2 = some (fuI (fu (tvl C) (tvl C2) 128)) := by
  obtain ⟨r, e, hq⟩ := lpE (body := pX5_firstUnlike_b14 128 128 (nI (max (HL C) (HL C2))) (nI (HL C)) tl (nI (HL C2)) tl2) (fun k s => s = nI k ∧ fu (tvl C) (tvl C2) k = none) (fun r => match fu (tvl C) (tvl C2) 128 with | none => ∃ x, r = .inl x | some j => r = .inr (nI j)) (max (HL C) (HL C2)) (nI 0) ⟨rfl, rfl⟩ (fun k s hk hI => by
    obtain ⟨rfl, hI⟩ := hI
    unfold pX5_firstUnlike_b14
    rcases Nat.lt_or_ge k (max (HL C) (HL C2)) with h9 | h9
    · by_cases heq : tvl C k = tvl C2 k
      · refine Or.inl ?_
        simp (disch := omega) only [n_l0, n_l1, n_l2, n_l3, n_l4, n_l5, n_l6, n_l7, n_l8, n_l9, n_l15, n_l16, n_l17, n_l20, n_l24, n_l31, n_l32, n_l33, n_l36, n_l48, n_l49, n_l97, n_l128, n_l129, n_l192, n_l225, n_l256, n_l353, n_l400, n_l512, n_l593, n_l621, n_l640, n_l857, n_l1093, n_l1095, n_l2048, n_l3225, n_l10000, n_l22955, n_l29988, n_l29989, n_l65536, n_l99999, n_l1000000000, n_l2147483647, nI_add, pk_mul, pk_sub, pk_div, nI_clamp, ckN, nI_leI, nI_ltI, nI_eq, nI_nm1, Nat.add_zero, nI_addneg, k_ush, true_or, or_true, false_or, or_false, true_and, and_true, false_and, and_false, not_true_eq_false, not_false_eq_true, if_true, if_false, if_pos, if_neg, Option.bind_some, k_val hl hT (show k < 2 ^ 31 by omega), k_val hl2 hT2 (show k < 2 ^ 31 by omega), lc_eq, heq]
        exact ⟨_, rfl, h9, rfl, by rw [fu_s, hI]; exact if_pos heq⟩
      · refine Or.inr ?_
        have h1 : fu (tvl C) (tvl C2) (k + 1) = some k := by rw [fu_s, hI]; exact if_neg heq
        have h2 := fu_up h1 (127 - k)
        rw [show k + 1 + (127 - k) = 128 by omega] at h2
        simp (disch := omega) only [n_l0, n_l1, n_l2, n_l3, n_l4, n_l5, n_l6, n_l7, n_l8, n_l9, n_l15, n_l16, n_l17, n_l20, n_l24, n_l31, n_l32, n_l33, n_l36, n_l48, n_l49, n_l97, n_l128, n_l129, n_l192, n_l225, n_l256, n_l353, n_l400, n_l512, n_l593, n_l621, n_l640, n_l857, n_l1093, n_l1095, n_l2048, n_l3225, n_l10000, n_l22955, n_l29988, n_l29989, n_l65536, n_l99999, n_l1000000000, n_l2147483647, nI_add, pk_mul, pk_sub, pk_div, nI_clamp, ckN, nI_leI, nI_ltI, nI_eq, nI_nm1, Nat.add_zero, nI_addneg, k_ush, true_or, or_true, false_or, or_false, true_and, and_true, false_and, and_false, not_true_eq_false, not_false_eq_true, if_true, if_false, if_pos, if_neg, Option.bind_some, k_val hl hT (show k < 2 ^ 31 by omega), k_val hl2 hT2 (show k < 2 ^ 31 by omega), lc_eq, heq, h2]
        exact ⟨_, rfl, rfl⟩
    · obtain rfl : k = max (HL C) (HL C2) := by omega
      refine Or.inr ?_
      have h2 := fu_none hI (128 - max (HL C) (HL C2)) (fun k hk => by unfold tvl; rw [if_neg (by omega), if_neg (by omega)])
      rw [show max (HL C) (HL C2) + (128 - max (HL C) (HL C2)) = 128 by omega] at h2
      simp (disch := omega) only [n_l0, n_l1, n_l2, n_l3, n_l4, n_l5, n_l6, n_l7, n_l8, n_l9, n_l15, n_l16, n_l17, n_l20, n_l24, n_l31, n_l32, n_l33, n_l36, n_l48, n_l49, n_l97, n_l128, n_l129, n_l192, n_l225, n_l256, n_l353, n_l400, n_l512, n_l593, n_l621, n_l640, n_l857, n_l1093, n_l1095, n_l2048, n_l3225, n_l10000, n_l22955, n_l29988, n_l29989, n_l65536, n_l99999, n_l1000000000, n_l2147483647, nI_add, pk_mul, pk_sub, pk_div, nI_clamp, ckN, nI_leI, nI_ltI, nI_eq, nI_nm1, Nat.add_zero, nI_addneg, k_ush, true_or, or_true, false_or, or_false, true_and, and_true, false_and, and_false, not_true_eq_false, not_false_eq_true, if_true, if_false, if_pos, if_neg, Option.bind_some, h2]
      exact ⟨_, rfl, _, rfl⟩)
  unfold pX5_firstUnlike
  rw [k_maxN (a := HL C) (b := HL C2) (by omega) (by omega), Option.bind_some, n_l0, e]
  cases hf : fu (tvl C) (tvl C2) 128 with
  | none =>
    rw [hf] at hq
    obtain ⟨x, rfl⟩ := hq
    rfl
  | some j =>
    rw [hf] at hq
    replace hq : r = .inr (nI j) := hq
    rw [hq]; rfl
theorem fu_self (f : Nat → Int64) (n : Nat) : fu f f n = none := by
  have := fu_none (f := f) (g := f) (n := 0) rfl n (fun _ _ => rfl)
  rw [Nat.zero_add] at this; exact this
theorem k_unlS (hl : HL C ≤ 128) (hT : KT tl C) : pX5_firstUnlike_p1this 128 (nI (HL C)) tl = some (-nI 1) := by
  have e := lpF (body := pX5_firstUnlike_p1this_b14 128 (nI (HL C)) (nI (HL C)) tl) (r := .inl (nI (HL C))) (fun k => nI k) (HL C) (nI 0) rfl (fun k hk => by
    unfold pX5_firstUnlike_p1this_b14
    simp (disch := omega) only [n_l0, n_l1, n_l2, n_l3, n_l4, n_l5, n_l6, n_l7, n_l8, n_l9, n_l15, n_l16, n_l17, n_l20, n_l24, n_l31, n_l32, n_l33, n_l36, n_l48, n_l49, n_l97, n_l128, n_l129, n_l192, n_l225, n_l256, n_l353, n_l400, n_l512, n_l593, n_l621, n_l640, n_l857, n_l1093, n_l1095, n_l2048, n_l3225, n_l10000, n_l22955, n_l29988, n_l29989, n_l65536, n_l99999, n_l1000000000, n_l2147483647, nI_add, pk_mul, pk_sub, pk_div, nI_clamp, ckN, nI_leI, nI_ltI, nI_eq, nI_nm1, Nat.add_zero, nI_addneg, k_ush, true_or, or_true, false_or, or_false, true_and, and_true, false_and, and_false, not_true_eq_false, not_false_eq_true, if_true, if_false, if_pos, if_neg, Option.bind_some, k_val hl hT (show k < 2 ^ 31 by omega), lc_eq]) (by
    unfold pX5_firstUnlike_p1this_b14
    simp (disch := omega) only [n_l0, n_l1, n_l2, n_l3, n_l4, n_l5, n_l6, n_l7, n_l8, n_l9, n_l15, n_l16, n_l17, n_l20, n_l24, n_l31, n_l32, n_l33, n_l36, n_l48, n_l49, n_l97, n_l128, n_l129, n_l192, n_l225, n_l256, n_l353, n_l400, n_l512, n_l593, n_l621, n_l640, n_l857, n_l1093, n_l1095, n_l2048, n_l3225, n_l10000, n_l22955, n_l29988, n_l29989, n_l65536, n_l99999, n_l1000000000, n_l2147483647, nI_add, pk_mul, pk_sub, pk_div, nI_clamp, ckN, nI_leI, nI_ltI, nI_eq, nI_nm1, Nat.add_zero, nI_addneg, k_ush, true_or, or_true, false_or, or_false, true_and, and_true, false_and, and_false, not_true_eq_false, not_false_eq_true, if_true, if_false, if_pos, if_neg, Option.bind_some])
  unfold pX5_firstUnlike_p1this
  rw [k_maxN (a := HL C) (b := HL C) (by omega) (by omega), Option.bind_some, Nat.max_self, n_l0, e]
  rfl
variable {C2 : AC} {bk2 hd2 : Int32} {tl2 : Nat → Int64} {fc2 : Nat → Int32}
theorem q_unlike (h : COL a v1 bk hd tl fc C) (h2 : COL a v2 bk2 hd2 tl2 fc2 C2) : ∃ r, pX10_unlike v1 v2 a = some r ∧ pX9_unlike 128 128 v1 v2 xc hd tl hd2 tl2 = some r := by
  obtain ⟨⟨rfl, rfl, hT, hP, hF⟩, ho, hr⟩ := h
  obtain ⟨⟨rfl, rfl, hT2, hP2, hF2⟩, ho2, hr2⟩ := h2
  unfold pX9_unlike
  rcases col_cases v1 with ⟨c, hc, rfl⟩ | hv
  · rcases col_cases v2 with ⟨c2, hc2, rfl⟩ | hv2
    · simp (disch := omega) only [n_l0, n_l1, n_l2, n_l3, n_l4, n_l5, n_l6, n_l7, n_l8, n_l9, n_l15, n_l16, n_l17, n_l20, n_l24, n_l31, n_l32, n_l33, n_l36, n_l48, n_l49, n_l97, n_l128, n_l129, n_l192, n_l225, n_l256, n_l353, n_l400, n_l512, n_l593, n_l621, n_l640, n_l857, n_l1093, n_l1095, n_l2048, n_l3225, n_l10000, n_l22955, n_l29988, n_l29989, n_l65536, n_l99999, n_l1000000000, n_l2147483647, nI_add, pk_mul, pk_sub, pk_div, nI_clamp, ckN, nI_leI, nI_ltI, nI_eq, nI_nm1, Nat.add_zero, nI_addneg, k_ush, true_or, or_true, false_or, or_false, true_and, and_true, false_and, and_false, not_true_eq_false, not_false_eq_true, if_true, if_false, if_pos, if_neg, Option.bind_some, k_col hc, k_col hc2, k_unl ho.2.1 hT ho2.2.1 hT2, r_unl hc (hr c hc rfl) ho hc2 (hr2 c2 hc2 rfl) ho2]
      exact ⟨_, rfl, rfl⟩
    · unfold pX10_unlike
      simp (disch := omega) only [n_l0, n_l1, n_l2, n_l3, n_l4, n_l5, n_l6, n_l7, n_l8, n_l9, n_l15, n_l16, n_l17, n_l20, n_l24, n_l31, n_l32, n_l33, n_l36, n_l48, n_l49, n_l97, n_l128, n_l129, n_l192, n_l225, n_l256, n_l353, n_l400, n_l512, n_l593, n_l621, n_l640, n_l857, n_l1093, n_l1095, n_l2048, n_l3225, n_l10000, n_l22955, n_l29988, n_l29989, n_l65536, n_l99999, n_l1000000000, n_l2147483647, nI_add, pk_mul, pk_sub, pk_div, nI_clamp, ckN, nI_leI, nI_ltI, nI_eq, nI_nm1, Nat.add_zero, nI_addneg, k_ush, true_or, or_true, false_or, or_false, true_and, and_true, false_and, and_false, not_true_eq_false, not_false_eq_true, if_true, if_false, if_pos, if_neg, Option.bind_some, r_isCol hc, k_col hc, r_isColO hv2, k_colO hv2, Bool.false_eq_true]
      exact ⟨_, rfl, rfl⟩
  · unfold pX10_unlike
    rcases col_cases v2 with ⟨c2, hc2, rfl⟩ | hv2
    · simp (disch := omega) only [n_l0, n_l1, n_l2, n_l3, n_l4, n_l5, n_l6, n_l7, n_l8, n_l9, n_l15, n_l16, n_l17, n_l20, n_l24, n_l31, n_l32, n_l33, n_l36, n_l48, n_l49, n_l97, n_l128, n_l129, n_l192, n_l225, n_l256, n_l353, n_l400, n_l512, n_l593, n_l621, n_l640, n_l857, n_l1093, n_l1095, n_l2048, n_l3225, n_l10000, n_l22955, n_l29988, n_l29989, n_l65536, n_l99999, n_l1000000000, n_l2147483647, nI_add, pk_mul, pk_sub, pk_div, nI_clamp, ckN, nI_leI, nI_ltI, nI_eq, nI_nm1, Nat.add_zero, nI_addneg, k_ush, true_or, or_true, false_or, or_false, true_and, and_true, false_and, and_false, not_true_eq_false, not_false_eq_true, if_true, if_false, if_pos, if_neg, Option.bind_some, r_isColO hv, k_colO hv, r_isCol hc2, k_col hc2, Bool.false_eq_true]
      exact ⟨_, rfl, rfl⟩
    · simp (disch := omega) only [n_l0, n_l1, n_l2, n_l3, n_l4, n_l5, n_l6, n_l7, n_l8, n_l9, n_l15, n_l16, n_l17, n_l20, n_l24, n_l31, n_l32, n_l33, n_l36, n_l48, n_l49, n_l97, n_l128, n_l129, n_l192, n_l225, n_l256, n_l353, n_l400, n_l512, n_l593, n_l621, n_l640, n_l857, n_l1093, n_l1095, n_l2048, n_l3225, n_l10000, n_l22955, n_l29988, n_l29989, n_l65536, n_l99999, n_l1000000000, n_l2147483647, nI_add, pk_mul, pk_sub, pk_div, nI_clamp, ckN, nI_leI, nI_ltI, nI_eq, nI_nm1, Nat.add_zero, nI_addneg, k_ush, true_or, or_true, false_or, or_false, true_and, and_true, false_and, and_false, not_true_eq_false, not_false_eq_true, if_true, if_false, if_pos, if_neg, Option.bind_some, r_isColO hv, k_colO hv, r_isColO hv2, k_colO hv2, Bool.false_eq_true]
      exact ⟨_, rfl, rfl⟩
theorem fuI_m1 (x : Option Nat) (hx : ∀ j, x = some j → j < 2 ^ 31) : (fuI x = -nI 1) = (x = none) := by
  cases x with
  | none => exact propext ⟨fun _ => rfl, fun _ => rfl⟩
  | some j =>
    show (nI j = -nI 1) = _
    rw [nI_nm1 (hx j rfl)]
    exact propext ⟨False.elim, fun h => by cases h⟩
theorem q_alike (h : COL a v1 bk hd tl fc C) (h2 : COL a v2 bk2 hd2 tl2 fc2 C2) : ∃ r, pX10_alike v1 v2 a = some r ∧ pX9_alike 128 128 v1 v2 xc hd tl hd2 tl2 = some r := by
  obtain ⟨⟨rfl, rfl, hT, hP, hF⟩, ho, hr⟩ := h
  obtain ⟨⟨rfl, rfl, hT2, hP2, hF2⟩, ho2, hr2⟩ := h2
  unfold pX9_alike pX10_alike
  rcases col_cases v1 with ⟨c, hc, rfl⟩ | hv
  · rcases col_cases v2 with ⟨c2, hc2, rfl⟩ | hv2
    · simp (disch := omega) only [n_l0, n_l1, n_l2, n_l3, n_l4, n_l5, n_l6, n_l7, n_l8, n_l9, n_l15, n_l16, n_l17, n_l20, n_l24, n_l31, n_l32, n_l33, n_l36, n_l48, n_l49, n_l97, n_l128, n_l129, n_l192, n_l225, n_l256, n_l353, n_l400, n_l512, n_l593, n_l621, n_l640, n_l857, n_l1093, n_l1095, n_l2048, n_l3225, n_l10000, n_l22955, n_l29988, n_l29989, n_l65536, n_l99999, n_l1000000000, n_l2147483647, nI_add, pk_mul, pk_sub, pk_div, nI_clamp, ckN, nI_leI, nI_ltI, nI_eq, nI_nm1, Nat.add_zero, nI_addneg, k_ush, true_or, or_true, false_or, or_false, true_and, and_true, false_and, and_false, not_true_eq_false, not_false_eq_true, if_true, if_false, if_pos, if_neg, Option.bind_some, r_isCol hc, r_isCol hc2, k_col hc, k_col hc2, k_unl ho.2.1 hT ho2.2.1 hT2, r_unl hc (hr c hc rfl) ho hc2 (hr2 c2 hc2 rfl) ho2]
      by_cases hm : fuI (fu (tvl C) (tvl C2) 128) = -nI 1
      · simp (disch := omega) only [n_l0, n_l1, n_l2, n_l3, n_l4, n_l5, n_l6, n_l7, n_l8, n_l9, n_l15, n_l16, n_l17, n_l20, n_l24, n_l31, n_l32, n_l33, n_l36, n_l48, n_l49, n_l97, n_l128, n_l129, n_l192, n_l225, n_l256, n_l353, n_l400, n_l512, n_l593, n_l621, n_l640, n_l857, n_l1093, n_l1095, n_l2048, n_l3225, n_l10000, n_l22955, n_l29988, n_l29989, n_l65536, n_l99999, n_l1000000000, n_l2147483647, nI_add, pk_mul, pk_sub, pk_div, nI_clamp, ckN, nI_leI, nI_ltI, nI_eq, nI_nm1, Nat.add_zero, nI_addneg, k_ush, true_or, or_true, false_or, or_false, true_and, and_true, false_and, and_false, not_true_eq_false, not_false_eq_true, if_true, if_false, if_pos, if_neg, Option.bind_some, hm]
        exact ⟨_, rfl, rfl⟩
      · simp (disch := omega) only [n_l0, n_l1, n_l2, n_l3, n_l4, n_l5, n_l6, n_l7, n_l8, n_l9, n_l15, n_l16, n_l17, n_l20, n_l24, n_l31, n_l32, n_l33, n_l36, n_l48, n_l49, n_l97, n_l128, n_l129, n_l192, n_l225, n_l256, n_l353, n_l400, n_l512, n_l593, n_l621, n_l640, n_l857, n_l1093, n_l1095, n_l2048, n_l3225, n_l10000, n_l22955, n_l29988, n_l29989, n_l65536, n_l99999, n_l1000000000, n_l2147483647, nI_add, pk_mul, pk_sub, pk_div, nI_clamp, ckN, nI_leI, nI_ltI, nI_eq, nI_nm1, Nat.add_zero, nI_addneg, k_ush, true_or, or_true, false_or, or_false, true_and, and_true, false_and, and_false, not_true_eq_false, not_false_eq_true, if_true, if_false, if_pos, if_neg, Option.bind_some, hm]
        exact ⟨_, rfl, rfl⟩
    · simp (disch := omega) only [n_l0, n_l1, n_l2, n_l3, n_l4, n_l5, n_l6, n_l7, n_l8, n_l9, n_l15, n_l16, n_l17, n_l20, n_l24, n_l31, n_l32, n_l33, n_l36, n_l48, n_l49, n_l97, n_l128, n_l129, n_l192, n_l225, n_l256, n_l353, n_l400, n_l512, n_l593, n_l621, n_l640, n_l857, n_l1093, n_l1095, n_l2048, n_l3225, n_l10000, n_l22955, n_l29988, n_l29989, n_l65536, n_l99999, n_l1000000000, n_l2147483647, nI_add, pk_mul, pk_sub, pk_div, nI_clamp, ckN, nI_leI, nI_ltI, nI_eq, nI_nm1, Nat.add_zero, nI_addneg, k_ush, true_or, or_true, false_or, or_false, true_and, and_true, false_and, and_false, not_true_eq_false, not_false_eq_true, if_true, if_false, if_pos, if_neg, Option.bind_some, r_isCol hc, k_col hc, r_isColO hv2, k_colO hv2, Bool.false_eq_true]
      exact ⟨_, rfl, rfl⟩
  · rcases col_cases v2 with ⟨c2, hc2, rfl⟩ | hv2
    · simp (disch := omega) only [n_l0, n_l1, n_l2, n_l3, n_l4, n_l5, n_l6, n_l7, n_l8, n_l9, n_l15, n_l16, n_l17, n_l20, n_l24, n_l31, n_l32, n_l33, n_l36, n_l48, n_l49, n_l97, n_l128, n_l129, n_l192, n_l225, n_l256, n_l353, n_l400, n_l512, n_l593, n_l621, n_l640, n_l857, n_l1093, n_l1095, n_l2048, n_l3225, n_l10000, n_l22955, n_l29988, n_l29989, n_l65536, n_l99999, n_l1000000000, n_l2147483647, nI_add, pk_mul, pk_sub, pk_div, nI_clamp, ckN, nI_leI, nI_ltI, nI_eq, nI_nm1, Nat.add_zero, nI_addneg, k_ush, true_or, or_true, false_or, or_false, true_and, and_true, false_and, and_false, not_true_eq_false, not_false_eq_true, if_true, if_false, if_pos, if_neg, Option.bind_some, r_isColO hv, k_colO hv, r_isCol hc2, k_col hc2, Bool.false_eq_true]
      exact ⟨_, rfl, rfl⟩
    · simp (disch := omega) only [n_l0, n_l1, n_l2, n_l3, n_l4, n_l5, n_l6, n_l7, n_l8, n_l9, n_l15, n_l16, n_l17, n_l20, n_l24, n_l31, n_l32, n_l33, n_l36, n_l48, n_l49, n_l97, n_l128, n_l129, n_l192, n_l225, n_l256, n_l353, n_l400, n_l512, n_l593, n_l621, n_l640, n_l857, n_l1093, n_l1095, n_l2048, n_l3225, n_l10000, n_l22955, n_l29988, n_l29989, n_l65536, n_l99999, n_l1000000000, n_l2147483647, nI_add, pk_mul, pk_sub, pk_div, nI_clamp, ckN, nI_leI, nI_ltI, nI_eq, nI_nm1, Nat.add_zero, nI_addneg, k_ush, true_or, or_true, false_or, or_false, true_and, and_true, false_and, and_false, not_true_eq_false, not_false_eq_true, if_true, if_false, if_pos, if_neg, Option.bind_some, r_isColO hv, k_colO hv, r_isColO hv2, k_colO hv2, Bool.false_eq_true]
      exact ⟨_, rfl, rfl⟩
theorem q_unlike_s (hc : c < 3) (h : COL a (nI c) bk hd tl fc C) : ∃ r, pX10_unlike (nI c) (nI c) a = some r ∧ pX9_unlike_s 128 (nI c) (nI c) xc hd tl = some r := by
  obtain ⟨⟨rfl, rfl, hT, hP, hF⟩, ho, hr⟩ := h
  unfold pX9_unlike_s
  have e := r_unl hc (hr c hc rfl) ho hc (hr c hc rfl) ho
  rw [fu_self] at e
  simp (disch := omega) only [n_l0, n_l1, n_l2, n_l3, n_l4, n_l5, n_l6, n_l7, n_l8, n_l9, n_l15, n_l16, n_l17, n_l20, n_l24, n_l31, n_l32, n_l33, n_l36, n_l48, n_l49, n_l97, n_l128, n_l129, n_l192, n_l225, n_l256, n_l353, n_l400, n_l512, n_l593, n_l621, n_l640, n_l857, n_l1093, n_l1095, n_l2048, n_l3225, n_l10000, n_l22955, n_l29988, n_l29989, n_l65536, n_l99999, n_l1000000000, n_l2147483647, nI_add, pk_mul, pk_sub, pk_div, nI_clamp, ckN, nI_leI, nI_ltI, nI_eq, nI_nm1, Nat.add_zero, nI_addneg, k_ush, true_or, or_true, false_or, or_false, true_and, and_true, false_and, and_false, not_true_eq_false, not_false_eq_true, if_true, if_false, if_pos, if_neg, Option.bind_some, k_col hc, k_unlS ho.2.1 hT, e]
  exact ⟨_, rfl, rfl⟩
theorem q_alike_s (hc : c < 3) (h : COL a (nI c) bk hd tl fc C) : ∃ r, pX10_alike (nI c) (nI c) a = some r ∧ pX9_alike_s 128 (nI c) (nI c) xc hd tl = some r := by
  obtain ⟨⟨rfl, rfl, hT, hP, hF⟩, ho, hr⟩ := h
  unfold pX9_alike_s pX10_alike
  have e := r_unl hc (hr c hc rfl) ho hc (hr c hc rfl) ho
  rw [fu_self] at e
  simp (disch := omega) only [n_l0, n_l1, n_l2, n_l3, n_l4, n_l5, n_l6, n_l7, n_l8, n_l9, n_l15, n_l16, n_l17, n_l20, n_l24, n_l31, n_l32, n_l33, n_l36, n_l48, n_l49, n_l97, n_l128, n_l129, n_l192, n_l225, n_l256, n_l353, n_l400, n_l512, n_l593, n_l621, n_l640, n_l857, n_l1093, n_l1095, n_l2048, n_l3225, n_l10000, n_l22955, n_l29988, n_l29989, n_l65536, n_l99999, n_l1000000000, n_l2147483647, nI_add, pk_mul, pk_sub, pk_div, nI_clamp, ckN, nI_leI, nI_ltI, nI_eq, nI_nm1, Nat.add_zero, nI_addneg, k_ush, true_or, or_true, false_or, or_false, true_and, and_true, false_and, and_false, not_true_eq_false, not_false_eq_true, if_true, if_false, if_pos, if_neg, Option.bind_some, r_isCol hc, k_col hc, k_unlS ho.2.1 hT, e]
  exact ⟨_, rfl, rfl⟩
end Reads
/-! the tape -/
/-- the tape, by both -/
def TP (tp hd : Int32) (tw hw : Nat → Int32) (T : Nat) : Prop := T ≤ 400 ∧ tp = nI T ∧ hd = nI T ∧ ∀ i, i < T → hw i = tw i
section Tape
variable {tp hd v1 : Int32} {tw hw : Nat → Int32} {T : Nat}
theorem q_tape (h : TP tp hd tw hw T) : ∃ r, pX10_tape v1 tp tw = some r ∧ pX9_tape v1 hd hw = some r := by
  obtain ⟨hT, rfl, rfl, he⟩ := h
  unfold pX10_tape pX9_tape pX8_has
  rcases ix_cases v1 (n := T) (by omega) with ⟨k, hk, rfl⟩ | hk
  · rw [show pX10_isIn (nI k) 0 (nI T - 1) = some (nI 1) from r_within (by omega) hk]
    simp (disch := omega) only [n_l0, n_l1, n_l2, n_l3, n_l4, n_l5, n_l6, n_l7, n_l8, n_l9, n_l15, n_l16, n_l17, n_l20, n_l24, n_l31, n_l32, n_l33, n_l36, n_l48, n_l49, n_l97, n_l128, n_l129, n_l192, n_l225, n_l256, n_l353, n_l400, n_l512, n_l593, n_l621, n_l640, n_l857, n_l1093, n_l1095, n_l2048, n_l3225, n_l10000, n_l22955, n_l29988, n_l29989, n_l65536, n_l99999, n_l1000000000, n_l2147483647, nI_add, pk_mul, pk_sub, pk_div, nI_clamp, ckN, nI_leI, nI_ltI, nI_eq, nI_nm1, Nat.add_zero, nI_addneg, k_ush, true_or, or_true, false_or, or_false, true_and, and_true, false_and, and_false, not_true_eq_false, not_false_eq_true, if_true, if_false, if_pos, if_neg, Option.bind_some, he k hk, nI_pos]
    exact ⟨_, rfl, rfl⟩
  · rw [show pX10_isIn v1 0 (nI T - 1) = some (nI 0) from r_below (by omega) hk]
    have e9 : (if v1 < 0 then some (0 : Int32) else if nI T ≤ v1 then some 0 else some 1) = some 0 := by
      rcases hk with hk | hk
      · rw [if_pos hk]
      · rw [if_pos hk]; split <;> rfl
    rw [e9]
    exact ⟨_, rfl, rfl⟩
theorem q_word (h : TP tp hd tw hw T) : ∃ z w T', pX10_word v1 tp tw = some z ∧ pX9_word v1 hd hw = some w ∧ w.1 = z.1 ∧ TP z.2.1 w.2.1 z.2.2 w.2.2 T' := by
  obtain ⟨hT, rfl, rfl, he⟩ := h
  unfold pX10_word pX9_word pX8_append
  by_cases h0 : T = 400
  · subst h0
    simp (disch := omega) only [n_l0, n_l1, n_l2, n_l3, n_l4, n_l5, n_l6, n_l7, n_l8, n_l9, n_l15, n_l16, n_l17, n_l20, n_l24, n_l31, n_l32, n_l33, n_l36, n_l48, n_l49, n_l97, n_l128, n_l129, n_l192, n_l225, n_l256, n_l353, n_l400, n_l512, n_l593, n_l621, n_l640, n_l857, n_l1093, n_l1095, n_l2048, n_l3225, n_l10000, n_l22955, n_l29988, n_l29989, n_l65536, n_l99999, n_l1000000000, n_l2147483647, nI_add, pk_mul, pk_sub, pk_div, nI_clamp, ckN, nI_leI, nI_ltI, nI_eq, nI_nm1, Nat.add_zero, nI_addneg, k_ush, true_or, or_true, false_or, or_false, true_and, and_true, false_and, and_false, not_true_eq_false, not_false_eq_true, if_true, if_false, if_pos, if_neg, Option.bind_some]
    exact ⟨_, _, 400, rfl, rfl, rfl, by omega, rfl, rfl, he⟩
  · simp (disch := omega) only [n_l0, n_l1, n_l2, n_l3, n_l4, n_l5, n_l6, n_l7, n_l8, n_l9, n_l15, n_l16, n_l17, n_l20, n_l24, n_l31, n_l32, n_l33, n_l36, n_l48, n_l49, n_l97, n_l128, n_l129, n_l192, n_l225, n_l256, n_l353, n_l400, n_l512, n_l593, n_l621, n_l640, n_l857, n_l1093, n_l1095, n_l2048, n_l3225, n_l10000, n_l22955, n_l29988, n_l29989, n_l65536, n_l99999, n_l1000000000, n_l2147483647, nI_add, pk_mul, pk_sub, pk_div, nI_clamp, ckN, nI_leI, nI_ltI, nI_eq, nI_nm1, Nat.add_zero, nI_addneg, k_ush, true_or, or_true, false_or, or_false, true_and, and_true, false_and, and_false, not_true_eq_false, not_false_eq_true, if_true, if_false, if_pos, if_neg, Option.bind_some, show T < 400 by omega]
    refine ⟨_, _, T + 1, rfl, rfl, rfl, by omega, rfl, rfl, fun i hi => ?_⟩
    show upd hw T v1 i = upd tw T v1 i
    unfold upd
    split
    · rfl
    · exact he i (by omega)
theorem q_end (h : TP tp hd tw hw T) : ∃ z w T', pX10_end v1 tp = some z ∧ pX9_end v1 hd = some w ∧ w.1 = z.1 ∧ TP z.2 w.2 tw hw T' := by
  obtain ⟨hT, rfl, rfl, he⟩ := h
  unfold pX10_end pX9_end
  rcases ix_cases v1 (n := T + 1) (by omega) with ⟨k, hk, rfl⟩ | hk
  · simp (disch := omega) only [n_l0, n_l1, n_l2, n_l3, n_l4, n_l5, n_l6, n_l7, n_l8, n_l9, n_l15, n_l16, n_l17, n_l20, n_l24, n_l31, n_l32, n_l33, n_l36, n_l48, n_l49, n_l97, n_l128, n_l129, n_l192, n_l225, n_l256, n_l353, n_l400, n_l512, n_l593, n_l621, n_l640, n_l857, n_l1093, n_l1095, n_l2048, n_l3225, n_l10000, n_l22955, n_l29988, n_l29989, n_l65536, n_l99999, n_l1000000000, n_l2147483647, nI_add, pk_mul, pk_sub, pk_div, nI_clamp, ckN, nI_leI, nI_ltI, nI_eq, nI_nm1, Nat.add_zero, nI_addneg, k_ush, true_or, or_true, false_or, or_false, true_and, and_true, false_and, and_false, not_true_eq_false, not_false_eq_true, if_true, if_false, if_pos, if_neg, Option.bind_some, r_isInT, nI_pos]
    exact ⟨_, _, k, rfl, rfl, rfl, by omega, rfl, rfl, fun i hi => he i (by omega)⟩
  · rcases hk with hk | hk
    · rw [show pX10_isIn v1 0 (nI T) = some (nI 0) from r_isIn_lo hk, if_pos hk]
      exact ⟨_, _, T, rfl, rfl, rfl, hT, rfl, rfl, he⟩
    · have h1 : nI T < v1 := by
        have := Int32.le_iff_toInt_le.mp hk
        refine Int32.lt_iff_toInt_lt.mpr ?_
        rw [nI_toInt (by omega)] at this ⊢
        omega
      rw [show pX10_isIn v1 0 (nI T) = some (nI 0) from r_isIn_hi h1, if_neg (Int32.not_le.mpr h1)]
      have e9 : (if v1 < 0 then some ((0 : Int32), nI T) else some (0, nI T)) = some (0, nI T) := by split <;> rfl
      rw [e9]
      exact ⟨_, _, T, rfl, rfl, rfl, hT, rfl, rfl, he⟩
theorem q_fault {op ki wh fa fp : Int32} (h : (op = 0 ∧ fa = -nI 1 ∧ fp = -nI 1) ∨ (op ≠ 0 ∧ fa = ki ∧ fp = wh)) : ∃ r, pX10_fault v1 fa fp = some r ∧ pX9_fault v1 op ki wh = some r := by
  unfold pX10_fault pX9_fault
  rcases h with ⟨rfl, rfl, rfl⟩ | ⟨h, rfl, rfl⟩
  · rw [if_pos rfl]
    refine ⟨_, ?_, rfl⟩
    split
    · rfl
    · split <;> rfl
  · rw [if_neg h]
    by_cases h0 : v1 = 0
    · rw [if_pos h0]; exact ⟨_, rfl, rfl⟩
    · rw [if_neg h0]
      by_cases h1 : v1 = 1
      · rw [if_pos h1]; exact ⟨_, rfl, rfl⟩
      · rw [if_neg h1]; exact ⟨_, rfl, rfl⟩
theorem q_tell {a : Nat → Int32} {x : Int32} (h : a 2 = x) : ∃ z w, pX10_tell v1 a = some z ∧ pX9_tell v1 x = some w ∧ w.1 = z.1 ∧ z.2 2 = w.2 ∧ ∀ i, i ≠ 2 → z.2 i = a i := by
  unfold pX10_tell pX9_tell
  rcases ix_cases v1 (n := 29989) (by omega) with ⟨k, hk, rfl⟩ | hk
  · simp (disch := omega) only [n_l0, n_l1, n_l2, n_l3, n_l4, n_l5, n_l6, n_l7, n_l8, n_l9, n_l15, n_l16, n_l17, n_l20, n_l24, n_l31, n_l32, n_l33, n_l36, n_l48, n_l49, n_l97, n_l128, n_l129, n_l192, n_l225, n_l256, n_l353, n_l400, n_l512, n_l593, n_l621, n_l640, n_l857, n_l1093, n_l1095, n_l2048, n_l3225, n_l10000, n_l22955, n_l29988, n_l29989, n_l65536, n_l99999, n_l1000000000, n_l2147483647, nI_add, pk_mul, pk_sub, pk_div, nI_clamp, ckN, nI_leI, nI_ltI, nI_eq, nI_nm1, Nat.add_zero, nI_addneg, k_ush, true_or, or_true, false_or, or_false, true_and, and_true, false_and, and_false, not_true_eq_false, not_false_eq_true, if_true, if_false, if_pos, if_neg, Option.bind_some, r_isInT, nI_pos]
    refine ⟨_, _, rfl, rfl, rfl, ?_, fun i hi => ?_⟩
    · show upd a 2 (nI k) 2 = _
      unfold upd; rw [if_pos rfl]
    · show upd a 2 (nI k) i = _
      unfold upd; rw [if_neg hi]
  · rcases hk with hk | hk
    · rw [show pX10_isIn v1 0 29988 = some (nI 0) from r_isIn_lo hk, if_pos hk]
      exact ⟨_, _, rfl, rfl, rfl, h, fun _ _ => rfl⟩
    · have h1 : nI 29988 < v1 := by
        have := Int32.le_iff_toInt_le.mp hk
        refine Int32.lt_iff_toInt_lt.mpr ?_
        rw [nI_toInt (by omega)] at this ⊢
        omega
      rw [show pX10_isIn v1 0 29988 = some (nI 0) from r_isIn_hi h1, if_neg (Int32.not_lt.mpr (show (29989 : Int32) ≤ v1 from hk))]
      have e9 : (if v1 < 0 then some ((0 : Int32), x) else some (0, x)) = some (0, x) := by split <;> rfl
      rw [e9]
      exact ⟨_, _, rfl, rfl, rfl, h, fun _ _ => rfl⟩
end Tape
