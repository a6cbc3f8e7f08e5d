/-! ===== the reference measures ===== -/
section Ref
variable {a : Nat → Int32} {c nb : Nat} {pl : Nat → Nat} {tv : Nat → Option Int32} {fm wd : Nat → Nat} {st : Nat → Int32}
theorem r_take (hc : c < 3) (h : RC a c nb pl tv fm wd st) (hs : sm pl nb ≤ 128) {f n : Nat} (hf : f + n ≤ sm pl nb) (hn : n ≤ 16) (xv xw : Int32) (vs : Nat → Int32) :
    ∃ g, pX10_take (nI c) (nI f) (nI n) xv xw a vs = some (nI (cnt tv f n), nI n, g) ∧ ∀ i, i < cnt tv f n → g i = val tv f n i := by
  obtain ⟨r, e, h1, h2⟩ := lpE (body := pX10_take_b13 (nI c) (nI f) (nI n) a) (fun k s => s.1 = nI (f + k) ∧ s.2.1 = nI (cnt tv f k) ∧ ∀ i, i < cnt tv f k → s.2.2 i = val tv f k i)
    (fun r => r.2.1 = nI (cnt tv f n) ∧ ∀ i, i < cnt tv f n → r.2.2 i = val tv f n i) n (nI f, nI 0, vs) ⟨rfl, rfl, fun i hi => absurd hi (Nat.not_lt_zero i)⟩ (fun k s hk hI => by
      obtain ⟨s1, s2, s3⟩ := s
      obtain ⟨rfl, rfl, h3⟩ := hI
      have hle := cnt_le tv f k
      rcases Nat.lt_or_ge k n with hkn | hkn
      · refine Or.inl ?_
        unfold pX10_take_b13 pX10_take_b13j60
        simp (disch := omega) only [n_l0, n_l1, n_l2, n_l3, n_l4, n_l5, n_l6, n_l7, n_l8, n_l9, n_l15, n_l16, n_l17, n_l20, n_l24, n_l31, n_l32, n_l33, n_l36, n_l48, n_l49, n_l97, n_l128, n_l129, n_l192, n_l225, n_l256, n_l353, n_l400, n_l512, n_l593, n_l621, n_l640, n_l857, n_l1093, n_l1095, n_l2048, n_l3225, n_l10000, n_l22955, n_l29988, n_l29989, n_l65536, n_l99999, n_l1000000000, n_l2147483647, nI_add, pk_mul, pk_sub, pk_div, nI_clamp, ckN, nI_leI, nI_ltI, nI_eq, nI_nm1, Nat.add_zero, nI_addneg, k_ush, true_or, or_true, false_or, or_false, true_and, and_true, false_and, and_false, not_true_eq_false, not_false_eq_true, if_true, if_false, if_pos, if_neg, Option.bind_some, r_empty hc h (show f + k < sm pl nb by omega) hs, r_value hc h (show f + k < sm pl nb by omega) hs]
        cases ht : tv (f + k) with
        | none =>
          obtain ⟨c1, c2⟩ := cnt_none ht
          rw [c1, c2]
          exact ⟨_, if_neg (by decide), hkn, rfl, rfl, h3⟩
        | some v =>
          obtain ⟨c1, c2⟩ := cnt_some ht
          rw [c1, c2]
          refine ⟨_, if_pos rfl, hkn, rfl, rfl, fun i hi => ?_⟩
          show upd s3 (cnt tv f k) v i = upd (val tv f k) (cnt tv f k) v i
          unfold upd
          split
          · rfl
          · exact h3 i (by omega)
      · obtain rfl : k = n := by omega
        refine Or.inr ⟨(nI (f + k), nI (cnt tv f k), s3), ?_, rfl, h3⟩
        unfold pX10_take_b13
        simp (disch := omega) only [n_l0, n_l1, n_l2, n_l3, n_l4, n_l5, n_l6, n_l7, n_l8, n_l9, n_l15, n_l16, n_l17, n_l20, n_l24, n_l31, n_l32, n_l33, n_l36, n_l48, n_l49, n_l97, n_l128, n_l129, n_l192, n_l225, n_l256, n_l353, n_l400, n_l512, n_l593, n_l621, n_l640, n_l857, n_l1093, n_l1095, n_l2048, n_l3225, n_l10000, n_l22955, n_l29988, n_l29989, n_l65536, n_l99999, n_l1000000000, n_l2147483647, nI_add, pk_mul, pk_sub, pk_div, nI_clamp, ckN, nI_leI, nI_ltI, nI_eq, nI_nm1, Nat.add_zero, nI_addneg, k_ush, true_or, or_true, false_or, or_false, true_and, and_true, false_and, and_false, not_true_eq_false, not_false_eq_true, if_true, if_false, if_pos, if_neg, Option.bind_some])
  refine ⟨r.2.2, ?_, h2⟩
  unfold pX10_take
  simp (disch := omega) only [n_l0, n_l1, n_l2, n_l3, n_l4, n_l5, n_l6, n_l7, n_l8, n_l9, n_l15, n_l16, n_l17, n_l20, n_l24, n_l31, n_l32, n_l33, n_l36, n_l48, n_l49, n_l97, n_l128, n_l129, n_l192, n_l225, n_l256, n_l353, n_l400, n_l512, n_l593, n_l621, n_l640, n_l857, n_l1093, n_l1095, n_l2048, n_l3225, n_l10000, n_l22955, n_l29988, n_l29989, n_l65536, n_l99999, n_l1000000000, n_l2147483647, nI_add, pk_mul, pk_sub, pk_div, nI_clamp, ckN, nI_leI, nI_ltI, nI_eq, nI_nm1, Nat.add_zero, nI_addneg, k_ush, true_or, or_true, false_or, or_false, true_and, and_true, false_and, and_false, not_true_eq_false, not_false_eq_true, if_true, if_false, if_pos, if_neg, Option.bind_some, e, h1]
theorem r_takeBlock (hc : c < 3) (h : RC a c nb pl tv fm wd st) (hn : nb ≤ 24) (hs : sm pl nb ≤ 128) {b : Nat} (hb : b < nb) (hp : pl b ≤ 16) (xv xw : Int32) (vs : Nat → Int32) :
    ∃ g, pX10_takeBlock (nI c) (nI b) xv xw a vs = some (nI (cnt tv (sm pl b) (pl b)), nI (pl b), g) ∧ ∀ i, i < cnt tv (sm pl b) (pl b) → g i = val tv (sm pl b) (pl b) i := by
  obtain ⟨g, e, h1⟩ := r_take hc h hs (sm_lt (p := pl) hb) hp xv xw vs
  refine ⟨g, ?_, h1⟩
  unfold pX10_takeBlock
  simp (disch := omega) only [n_l0, n_l1, n_l2, n_l3, n_l4, n_l5, n_l6, n_l7, n_l8, n_l9, n_l15, n_l16, n_l17, n_l20, n_l24, n_l31, n_l32, n_l33, n_l36, n_l48, n_l49, n_l97, n_l128, n_l129, n_l192, n_l225, n_l256, n_l353, n_l400, n_l512, n_l593, n_l621, n_l640, n_l857, n_l1093, n_l1095, n_l2048, n_l3225, n_l10000, n_l22955, n_l29988, n_l29989, n_l65536, n_l99999, n_l1000000000, n_l2147483647, nI_add, pk_mul, pk_sub, pk_div, nI_clamp, ckN, nI_leI, nI_ltI, nI_eq, nI_nm1, Nat.add_zero, nI_addneg, k_ush, true_or, or_true, false_or, or_false, true_and, and_true, false_and, and_false, not_true_eq_false, not_false_eq_true, if_true, if_false, if_pos, if_neg, Option.bind_some, r_firstOf hc h (show b ≤ nb by omega) hn, r_ofPl hc h hb hn, e]
end Ref
theorem r_leastValue {m : Nat} (hm : m ≤ 16) (g : Nat → Int32) : pX10_leastValue (nI m) g = some (lv g m) := by
  unfold pX10_leastValue pX10_leastValue_j17
  cases m with
  | zero =>
    have e := lpF (body := pX10_leastValue_b20 (nI 0) g) (r := (nI 0, nI 1)) (fun _ => (nI 0, nI 1)) 0 (nI 0, nI 1) rfl (fun k hk => absurd hk (Nat.not_lt_zero k)) (by
      unfold pX10_leastValue_b20
      simp (disch := omega) only [n_l0, n_l1, n_l2, n_l3, n_l4, n_l5, n_l6, n_l7, n_l8, n_l9, n_l15, n_l16, n_l17, n_l20, n_l24, n_l31, n_l32, n_l33, n_l36, n_l48, n_l49, n_l97, n_l128, n_l129, n_l192, n_l225, n_l256, n_l353, n_l400, n_l512, n_l593, n_l621, n_l640, n_l857, n_l1093, n_l1095, n_l2048, n_l3225, n_l10000, n_l22955, n_l29988, n_l29989, n_l65536, n_l99999, n_l1000000000, n_l2147483647, nI_add, pk_mul, pk_sub, pk_div, nI_clamp, ckN, nI_leI, nI_ltI, nI_eq, nI_nm1, Nat.add_zero, nI_addneg, k_ush, true_or, or_true, false_or, or_false, true_and, and_true, false_and, and_false, not_true_eq_false, not_false_eq_true, if_true, if_false, if_pos, if_neg, Option.bind_some])
    simp (disch := omega) only [n_l0, n_l1, n_l2, n_l3, n_l4, n_l5, n_l6, n_l7, n_l8, n_l9, n_l15, n_l16, n_l17, n_l20, n_l24, n_l31, n_l32, n_l33, n_l36, n_l48, n_l49, n_l97, n_l128, n_l129, n_l192, n_l225, n_l256, n_l353, n_l400, n_l512, n_l593, n_l621, n_l640, n_l857, n_l1093, n_l1095, n_l2048, n_l3225, n_l10000, n_l22955, n_l29988, n_l29989, n_l65536, n_l99999, n_l1000000000, n_l2147483647, nI_add, pk_mul, pk_sub, pk_div, nI_clamp, ckN, nI_leI, nI_ltI, nI_eq, nI_nm1, Nat.add_zero, nI_addneg, k_ush, true_or, or_true, false_or, or_false, true_and, and_true, false_and, and_false, not_true_eq_false, not_false_eq_true, if_true, if_false, if_pos, if_neg, Option.bind_some, e]
    rfl
  | succ q =>
    have e := lpF (body := pX10_leastValue_b20 (nI (q + 1)) g) (r := (lvs g q, nI (q + 1))) (fun k => (lvs g k, nI (k + 1))) q (g 0, nI 1) rfl (fun k hk => by
      unfold pX10_leastValue_b20 pX10_leastValue_b20j48
      simp (disch := omega) only [n_l0, n_l1, n_l2, n_l3, n_l4, n_l5, n_l6, n_l7, n_l8, n_l9, n_l15, n_l16, n_l17, n_l20, n_l24, n_l31, n_l32, n_l33, n_l36, n_l48, n_l49, n_l97, n_l128, n_l129, n_l192, n_l225, n_l256, n_l353, n_l400, n_l512, n_l593, n_l621, n_l640, n_l857, n_l1093, n_l1095, n_l2048, n_l3225, n_l10000, n_l22955, n_l29988, n_l29989, n_l65536, n_l99999, n_l1000000000, n_l2147483647, nI_add, pk_mul, pk_sub, pk_div, nI_clamp, ckN, nI_leI, nI_ltI, nI_eq, nI_nm1, Nat.add_zero, nI_addneg, k_ush, true_or, or_true, false_or, or_false, true_and, and_true, false_and, and_false, not_true_eq_false, not_false_eq_true, if_true, if_false, if_pos, if_neg, Option.bind_some]
      show (if lvs g k ≤ g (k + 1) then _ else _) = some (Sum.inl ((if lvs g k ≤ g (k + 1) then lvs g k else g (k + 1)), nI (k + 1 + 1)))
      split <;> rfl) (by
      unfold pX10_leastValue_b20
      simp (disch := omega) only [n_l0, n_l1, n_l2, n_l3, n_l4, n_l5, n_l6, n_l7, n_l8, n_l9, n_l15, n_l16, n_l17, n_l20, n_l24, n_l31, n_l32, n_l33, n_l36, n_l48, n_l49, n_l97, n_l128, n_l129, n_l192, n_l225, n_l256, n_l353, n_l400, n_l512, n_l593, n_l621, n_l640, n_l857, n_l1093, n_l1095, n_l2048, n_l3225, n_l10000, n_l22955, n_l29988, n_l29989, n_l65536, n_l99999, n_l1000000000, n_l2147483647, nI_add, pk_mul, pk_sub, pk_div, nI_clamp, ckN, nI_leI, nI_ltI, nI_eq, nI_nm1, Nat.add_zero, nI_addneg, k_ush, true_or, or_true, false_or, or_false, true_and, and_true, false_and, and_false, not_true_eq_false, not_false_eq_true, if_true, if_false, if_pos, if_neg, Option.bind_some])
    simp (disch := omega) only [n_l0, n_l1, n_l2, n_l3, n_l4, n_l5, n_l6, n_l7, n_l8, n_l9, n_l15, n_l16, n_l17, n_l20, n_l24, n_l31, n_l32, n_l33, n_l36, n_l48, n_l49, n_l97, n_l128, n_l129, n_l192, n_l225, n_l256, n_l353, n_l400, n_l512, n_l593, n_l621, n_l640, n_l857, n_l1093, n_l1095, n_l2048, n_l3225, n_l10000, n_l22955, n_l29988, n_l29989, n_l65536, n_l99999, n_l1000000000, n_l2147483647, nI_add, pk_mul, pk_sub, pk_div, nI_clamp, ckN, nI_leI, nI_ltI, nI_eq, nI_nm1, Nat.add_zero, nI_addneg, k_ush, true_or, or_true, false_or, or_false, true_and, and_true, false_and, and_false, not_true_eq_false, not_false_eq_true, if_true, if_false, if_pos, if_neg, Option.bind_some, e]
    rfl
theorem r_leastStep {m : Nat} (h2 : 2 ≤ m) (hm : m ≤ 16) (g : Nat → Int32) : pX10_leastStep (nI m) g = some (lss g (m - 2)) := by
  unfold pX10_leastStep
  have e := lpF (body := pX10_leastStep_b16 (nI m) g) (r := (lss g (m - 2), nI m)) (fun k => (lss g k, nI (k + 2))) (m - 2) (g 1 - g 0, nI 2) rfl (fun k hk => by
      unfold pX10_leastStep_b16 pX10_leastStep_b16j62
      simp (disch := omega) only [n_l0, n_l1, n_l2, n_l3, n_l4, n_l5, n_l6, n_l7, n_l8, n_l9, n_l15, n_l16, n_l17, n_l20, n_l24, n_l31, n_l32, n_l33, n_l36, n_l48, n_l49, n_l97, n_l128, n_l129, n_l192, n_l225, n_l256, n_l353, n_l400, n_l512, n_l593, n_l621, n_l640, n_l857, n_l1093, n_l1095, n_l2048, n_l3225, n_l10000, n_l22955, n_l29988, n_l29989, n_l65536, n_l99999, n_l1000000000, n_l2147483647, nI_add, pk_mul, pk_sub, pk_div, nI_clamp, ckN, nI_leI, nI_ltI, nI_eq, nI_nm1, Nat.add_zero, nI_addneg, k_ush, true_or, or_true, false_or, or_false, true_and, and_true, false_and, and_false, not_true_eq_false, not_false_eq_true, if_true, if_false, if_pos, if_neg, Option.bind_some, show k + 2 - 1 = k + 1 by omega]
      show (if lss g k ≤ g (k + 2) - g (k + 1) then _ else _) = some (Sum.inl ((if lss g k ≤ g (k + 2) - g (k + 1) then lss g k else g (k + 2) - g (k + 1)), nI (k + 1 + 2)))
      split <;> rfl) (by
      unfold pX10_leastStep_b16
      simp (disch := omega) only [n_l0, n_l1, n_l2, n_l3, n_l4, n_l5, n_l6, n_l7, n_l8, n_l9, n_l15, n_l16, n_l17, n_l20, n_l24, n_l31, n_l32, n_l33, n_l36, n_l48, n_l49, n_l97, n_l128, n_l129, n_l192, n_l225, n_l256, n_l353, n_l400, n_l512, n_l593, n_l621, n_l640, n_l857, n_l1093, n_l1095, n_l2048, n_l3225, n_l10000, n_l22955, n_l29988, n_l29989, n_l65536, n_l99999, n_l1000000000, n_l2147483647, nI_add, pk_mul, pk_sub, pk_div, nI_clamp, ckN, nI_leI, nI_ltI, nI_eq, nI_nm1, Nat.add_zero, nI_addneg, k_ush, true_or, or_true, false_or, or_false, true_and, and_true, false_and, and_false, not_true_eq_false, not_false_eq_true, if_true, if_false, if_pos, if_neg, Option.bind_some, show m - 2 + 2 = m by omega])
  simp (disch := omega) only [n_l0, n_l1, n_l2, n_l3, n_l4, n_l5, n_l6, n_l7, n_l8, n_l9, n_l15, n_l16, n_l17, n_l20, n_l24, n_l31, n_l32, n_l33, n_l36, n_l48, n_l49, n_l97, n_l128, n_l129, n_l192, n_l225, n_l256, n_l353, n_l400, n_l512, n_l593, n_l621, n_l640, n_l857, n_l1093, n_l1095, n_l2048, n_l3225, n_l10000, n_l22955, n_l29988, n_l29989, n_l65536, n_l99999, n_l1000000000, n_l2147483647, nI_add, pk_mul, pk_sub, pk_div, nI_clamp, ckN, nI_leI, nI_ltI, nI_eq, nI_nm1, Nat.add_zero, nI_addneg, k_ush, true_or, or_true, false_or, or_false, true_and, and_true, false_and, and_false, not_true_eq_false, not_false_eq_true, if_true, if_false, if_pos, if_neg, Option.bind_some, e]
theorem r_layParts {form m : Nat} (hf : form ≤ 2) (hm : m ≤ 16) (xp s : Int32) (g : Nat → Int32) (ps : Nat → Int64) :
    ∃ q, pX10_layParts (nI form) (nI m) xp s g ps = some (nI (pcn form m), q) ∧ ∀ i, i < pcn form m → q i = lN (qs form s g m i) := by
  unfold pX10_layParts
  rcases Nat.lt_or_ge 0 form with h0 | h0
  · have hp : pcn form m = m - 1 := if_neg (by omega)
    have hb : ∀ (k : Nat) (q0 : Nat → Int64), k < m - 1 → pX10_layParts_b61 (nI form) (nI m) s g (nI (k + 1), nI k, q0) = some (.inl (nI (k + 1 + 1), nI (k + 1), vp_updL q0 k (lN (qs form s g m k)))) := fun k q0 hk => by
      unfold pX10_layParts_b61 pX10_layParts_b61j117
      simp (disch := omega) only [n_l0, n_l1, n_l2, n_l3, n_l4, n_l5, n_l6, n_l7, n_l8, n_l9, n_l15, n_l16, n_l17, n_l20, n_l24, n_l31, n_l32, n_l33, n_l36, n_l48, n_l49, n_l97, n_l128, n_l129, n_l192, n_l225, n_l256, n_l353, n_l400, n_l512, n_l593, n_l621, n_l640, n_l857, n_l1093, n_l1095, n_l2048, n_l3225, n_l10000, n_l22955, n_l29988, n_l29989, n_l65536, n_l99999, n_l1000000000, n_l2147483647, nI_add, pk_mul, pk_sub, pk_div, nI_clamp, ckN, nI_leI, nI_ltI, nI_eq, nI_nm1, Nat.add_zero, nI_addneg, k_ush, true_or, or_true, false_or, or_false, true_and, and_true, false_and, and_false, not_true_eq_false, not_false_eq_true, if_true, if_false, if_pos, if_neg, Option.bind_some, r_folded, l_mask, show k + 1 - 1 = k by omega]
      unfold qs
      rcases Nat.lt_or_ge 1 form with h1 | h1
      · obtain rfl : form = 2 := by omega
        simp (disch := omega) only [n_l0, n_l1, n_l2, n_l3, n_l4, n_l5, n_l6, n_l7, n_l8, n_l9, n_l15, n_l16, n_l17, n_l20, n_l24, n_l31, n_l32, n_l33, n_l36, n_l48, n_l49, n_l97, n_l128, n_l129, n_l192, n_l225, n_l256, n_l353, n_l400, n_l512, n_l593, n_l621, n_l640, n_l857, n_l1093, n_l1095, n_l2048, n_l3225, n_l10000, n_l22955, n_l29988, n_l29989, n_l65536, n_l99999, n_l1000000000, n_l2147483647, nI_add, pk_mul, pk_sub, pk_div, nI_clamp, ckN, nI_leI, nI_ltI, nI_eq, nI_nm1, Nat.add_zero, nI_addneg, k_ush, true_or, or_true, false_or, or_false, true_and, and_true, false_and, and_false, not_true_eq_false, not_false_eq_true, if_true, if_false, if_pos, if_neg, Option.bind_some]
        rfl
      · obtain rfl : form = 1 := by omega
        simp (disch := omega) only [n_l0, n_l1, n_l2, n_l3, n_l4, n_l5, n_l6, n_l7, n_l8, n_l9, n_l15, n_l16, n_l17, n_l20, n_l24, n_l31, n_l32, n_l33, n_l36, n_l48, n_l49, n_l97, n_l128, n_l129, n_l192, n_l225, n_l256, n_l353, n_l400, n_l512, n_l593, n_l621, n_l640, n_l857, n_l1093, n_l1095, n_l2048, n_l3225, n_l10000, n_l22955, n_l29988, n_l29989, n_l65536, n_l99999, n_l1000000000, n_l2147483647, nI_add, pk_mul, pk_sub, pk_div, nI_clamp, ckN, nI_leI, nI_ltI, nI_eq, nI_nm1, Nat.add_zero, nI_addneg, k_ush, true_or, or_true, false_or, or_false, true_and, and_true, false_and, and_false, not_true_eq_false, not_false_eq_true, if_true, if_false, if_pos, if_neg, Option.bind_some]
        rfl
    obtain ⟨r, e, h1, h2⟩ := lpE (body := pX10_layParts_b61 (nI form) (nI m) s g) (fun k z => z.1 = nI (k + 1) ∧ z.2.1 = nI k ∧ ∀ i, i < k → z.2.2 i = lN (qs form s g m i))
      (fun r => r.2.1 = nI (m - 1) ∧ ∀ i, i < m - 1 → r.2.2 i = lN (qs form s g m i)) (m - 1) (nI 1, nI 0, ps) ⟨rfl, rfl, fun i hi => absurd hi (Nat.not_lt_zero i)⟩ (fun k z hk hI => by
        obtain ⟨z1, z2, z3⟩ := z
        obtain ⟨rfl, rfl, h3⟩ := hI
        rcases Nat.lt_or_ge k (m - 1) with hkn | hkn
        · refine Or.inl ⟨_, hb k z3 hkn, hkn, rfl, rfl, fun i hi => ?_⟩
          show vp_updL z3 k _ i = _
          unfold vp_updL
          split
          · rename_i hik; rw [hik]
          · exact h3 i (by omega)
        · obtain rfl : k = m - 1 := by omega
          refine Or.inr ⟨(nI (m - 1 + 1), nI (m - 1), z3), ?_, rfl, h3⟩
          unfold pX10_layParts_b61
          simp (disch := omega) only [n_l0, n_l1, n_l2, n_l3, n_l4, n_l5, n_l6, n_l7, n_l8, n_l9, n_l15, n_l16, n_l17, n_l20, n_l24, n_l31, n_l32, n_l33, n_l36, n_l48, n_l49, n_l97, n_l128, n_l129, n_l192, n_l225, n_l256, n_l353, n_l400, n_l512, n_l593, n_l621, n_l640, n_l857, n_l1093, n_l1095, n_l2048, n_l3225, n_l10000, n_l22955, n_l29988, n_l29989, n_l65536, n_l99999, n_l1000000000, n_l2147483647, nI_add, pk_mul, pk_sub, pk_div, nI_clamp, ckN, nI_leI, nI_ltI, nI_eq, nI_nm1, Nat.add_zero, nI_addneg, k_ush, true_or, or_true, false_or, or_false, true_and, and_true, false_and, and_false, not_true_eq_false, not_false_eq_true, if_true, if_false, if_pos, if_neg, Option.bind_some])
    refine ⟨r.2.2, ?_, fun i hi => h2 i (by rw [hp] at hi; exact hi)⟩
    rw [hp]
    simp (disch := omega) only [n_l0, n_l1, n_l2, n_l3, n_l4, n_l5, n_l6, n_l7, n_l8, n_l9, n_l15, n_l16, n_l17, n_l20, n_l24, n_l31, n_l32, n_l33, n_l36, n_l48, n_l49, n_l97, n_l128, n_l129, n_l192, n_l225, n_l256, n_l353, n_l400, n_l512, n_l593, n_l621, n_l640, n_l857, n_l1093, n_l1095, n_l2048, n_l3225, n_l10000, n_l22955, n_l29988, n_l29989, n_l65536, n_l99999, n_l1000000000, n_l2147483647, nI_add, pk_mul, pk_sub, pk_div, nI_clamp, ckN, nI_leI, nI_ltI, nI_eq, nI_nm1, Nat.add_zero, nI_addneg, k_ush, true_or, or_true, false_or, or_false, true_and, and_true, false_and, and_false, not_true_eq_false, not_false_eq_true, if_true, if_false, if_pos, if_neg, Option.bind_some, e, h1]
  · obtain rfl : form = 0 := by omega
    have hp : pcn 0 m = m := rfl
    obtain ⟨r, e, h2⟩ := lpE (body := pX10_layParts_b18 (lv g m).toInt64 (nI m) g) (fun k z => z.1 = nI k ∧ ∀ i, i < k → z.2 i = lN (qs 0 s g m i))
      (fun r => ∀ i, i < m → r.2 i = lN (qs 0 s g m i)) m (nI 0, ps) ⟨rfl, fun i hi => absurd hi (Nat.not_lt_zero i)⟩ (fun k z hk hI => by
        obtain ⟨z1, z3⟩ := z
        obtain ⟨rfl, h3⟩ := hI
        rcases Nat.lt_or_ge k m with hkn | hkn
        · refine Or.inl ⟨(nI (k + 1), vp_updL z3 k (lN (qs 0 s g m k))), ?_, hkn, rfl, fun i hi => ?_⟩
          · unfold pX10_layParts_b18
            simp (disch := omega) only [n_l0, n_l1, n_l2, n_l3, n_l4, n_l5, n_l6, n_l7, n_l8, n_l9, n_l15, n_l16, n_l17, n_l20, n_l24, n_l31, n_l32, n_l33, n_l36, n_l48, n_l49, n_l97, n_l128, n_l129, n_l192, n_l225, n_l256, n_l353, n_l400, n_l512, n_l593, n_l621, n_l640, n_l857, n_l1093, n_l1095, n_l2048, n_l3225, n_l10000, n_l22955, n_l29988, n_l29989, n_l65536, n_l99999, n_l1000000000, n_l2147483647, nI_add, pk_mul, pk_sub, pk_div, nI_clamp, ckN, nI_leI, nI_ltI, nI_eq, nI_nm1, Nat.add_zero, nI_addneg, k_ush, true_or, or_true, false_or, or_false, true_and, and_true, false_and, and_false, not_true_eq_false, not_false_eq_true, if_true, if_false, if_pos, if_neg, Option.bind_some, l_sub (lv_le g hkn)]
            rfl
          · show vp_updL z3 k _ i = _
            unfold vp_updL
            split
            · rename_i hik; rw [hik]
            · exact h3 i (by omega)
        · obtain rfl : k = m := by omega
          refine Or.inr ⟨(nI k, z3), ?_, h3⟩
          unfold pX10_layParts_b18
          simp (disch := omega) only [n_l0, n_l1, n_l2, n_l3, n_l4, n_l5, n_l6, n_l7, n_l8, n_l9, n_l15, n_l16, n_l17, n_l20, n_l24, n_l31, n_l32, n_l33, n_l36, n_l48, n_l49, n_l97, n_l128, n_l129, n_l192, n_l225, n_l256, n_l353, n_l400, n_l512, n_l593, n_l621, n_l640, n_l857, n_l1093, n_l1095, n_l2048, n_l3225, n_l10000, n_l22955, n_l29988, n_l29989, n_l65536, n_l99999, n_l1000000000, n_l2147483647, nI_add, pk_mul, pk_sub, pk_div, nI_clamp, ckN, nI_leI, nI_ltI, nI_eq, nI_nm1, Nat.add_zero, nI_addneg, k_ush, true_or, or_true, false_or, or_false, true_and, and_true, false_and, and_false, not_true_eq_false, not_false_eq_true, if_true, if_false, if_pos, if_neg, Option.bind_some])
    refine ⟨r.2, ?_, h2⟩
    rw [hp]
    simp (disch := omega) only [n_l0, n_l1, n_l2, n_l3, n_l4, n_l5, n_l6, n_l7, n_l8, n_l9, n_l15, n_l16, n_l17, n_l20, n_l24, n_l31, n_l32, n_l33, n_l36, n_l48, n_l49, n_l97, n_l128, n_l129, n_l192, n_l225, n_l256, n_l353, n_l400, n_l512, n_l593, n_l621, n_l640, n_l857, n_l1093, n_l1095, n_l2048, n_l3225, n_l10000, n_l22955, n_l29988, n_l29989, n_l65536, n_l99999, n_l1000000000, n_l2147483647, nI_add, pk_mul, pk_sub, pk_div, nI_clamp, ckN, nI_leI, nI_ltI, nI_eq, nI_nm1, Nat.add_zero, nI_addneg, k_ush, true_or, or_true, false_or, or_false, true_and, and_true, false_and, and_false, not_true_eq_false, not_false_eq_true, if_true, if_false, if_pos, if_neg, Option.bind_some, r_leastValue hm, e]
theorem lN_0 {p : Nat} (h : p < 2 ^ 63) : lN p = 0 ↔ p = 0 := pk_lEQ (b := 0) h (by omega)
theorem r_bitsOf {p : Nat} (hp : p < 2 ^ 32) : pX10_bitsOf (lN p) = some (nI (bl p)) := by
  have hb : bl p ≤ 32 := (bl_le p 32).mpr hp
  have hd : ∀ k, p / 2 ^ k < 2 ^ 62 := fun k => Nat.lt_of_le_of_lt (Nat.div_le_self _ _) (by omega)
  have e := lpF (body := pX10_bitsOf_b4) (r := (nI (bl p), lN (p / 2 ^ bl p))) (fun k => (nI k, lN (p / 2 ^ k))) (bl p) (nI 0, lN p) (by simp) (fun k hk => by
      have h1 : ¬ p < 2 ^ k := fun q => absurd ((bl_le p k).mpr q) (by omega)
      have h2 : ¬ p / 2 ^ k = 0 := fun q => h1 ((Nat.div_eq_zero_iff_lt (Nat.two_pow_pos k)).mp q)
      unfold pX10_bitsOf_b4
      rw [if_neg (fun q => h2 ((lN_0 (by have := hd k; omega)).mp ((lg_cmp_eq _ _).mp q)))]
      show some (Sum.inl (nI k + 1, lN (p / 2 ^ k) >>> ((1 : Int32).toInt64 &&& 63))) = some (Sum.inl (nI (k + 1), lN (p / 2 ^ (k + 1))))
      rw [pf_shr (d := 1) (by decide) (hd k), nI_1, Nat.div_div_eq_div_mul, ← Nat.pow_add]) (by
      have h1 : p < 2 ^ bl p := (bl_le p _).mp (Nat.le_refl _)
      have h2 : p / 2 ^ bl p = 0 := (Nat.div_eq_zero_iff_lt (Nat.two_pow_pos _)).mpr h1
      unfold pX10_bitsOf_b4
      rw [if_pos ((lg_cmp_eq _ _).mpr ((lN_0 (by have := hd (bl p); omega)).mpr h2))])
  unfold pX10_bitsOf
  simp (disch := omega) only [n_l0, n_l1, n_l2, n_l3, n_l4, n_l5, n_l6, n_l7, n_l8, n_l9, n_l15, n_l16, n_l17, n_l20, n_l24, n_l31, n_l32, n_l33, n_l36, n_l48, n_l49, n_l97, n_l128, n_l129, n_l192, n_l225, n_l256, n_l353, n_l400, n_l512, n_l593, n_l621, n_l640, n_l857, n_l1093, n_l1095, n_l2048, n_l3225, n_l10000, n_l22955, n_l29988, n_l29989, n_l65536, n_l99999, n_l1000000000, n_l2147483647, nI_add, pk_mul, pk_sub, pk_div, nI_clamp, ckN, nI_leI, nI_ltI, nI_eq, nI_nm1, Nat.add_zero, nI_addneg, k_ush, true_or, or_true, false_or, or_false, true_and, and_true, false_and, and_false, not_true_eq_false, not_false_eq_true, if_true, if_false, if_pos, if_neg, Option.bind_some, e]
theorem r_exceptionsBy {w pc : Nat} (hw : w ≤ 32) (hp : pc ≤ 16) {ps : Nat → Int64} {q : Nat → Nat} (hq : ∀ i, i < pc → q i < 2 ^ 32 ∧ ps i = lN (q i)) : pX10_exceptionsBy (nI w) (nI pc) ps = some (nI (exc w q pc)) := by
  have e := lpF (body := pX10_exceptionsBy_b4 (nI w) (nI pc) ps) (r := (nI (exc w q pc), nI pc)) (fun k => (nI (exc w q k), nI k)) pc (nI 0, nI 0) rfl (fun k hk => by
      have h1 : bl (q k) ≤ 32 := (bl_le _ 32).mpr (hq k hk).1
      unfold pX10_exceptionsBy_b4 pX10_exceptionsBy_b4j31
      by_cases hh : bl (q k) ≤ w
      · simp (disch := omega) only [n_l0, n_l1, n_l2, n_l3, n_l4, n_l5, n_l6, n_l7, n_l8, n_l9, n_l15, n_l16, n_l17, n_l20, n_l24, n_l31, n_l32, n_l33, n_l36, n_l48, n_l49, n_l97, n_l128, n_l129, n_l192, n_l225, n_l256, n_l353, n_l400, n_l512, n_l593, n_l621, n_l640, n_l857, n_l1093, n_l1095, n_l2048, n_l3225, n_l10000, n_l22955, n_l29988, n_l29989, n_l65536, n_l99999, n_l1000000000, n_l2147483647, nI_add, pk_mul, pk_sub, pk_div, nI_clamp, ckN, nI_leI, nI_ltI, nI_eq, nI_nm1, Nat.add_zero, nI_addneg, k_ush, true_or, or_true, false_or, or_false, true_and, and_true, false_and, and_false, not_true_eq_false, not_false_eq_true, if_true, if_false, if_pos, if_neg, Option.bind_some, (hq k hk).2, r_bitsOf (hq k hk).1, exc_s]
      · simp (disch := omega) only [n_l0, n_l1, n_l2, n_l3, n_l4, n_l5, n_l6, n_l7, n_l8, n_l9, n_l15, n_l16, n_l17, n_l20, n_l24, n_l31, n_l32, n_l33, n_l36, n_l48, n_l49, n_l97, n_l128, n_l129, n_l192, n_l225, n_l256, n_l353, n_l400, n_l512, n_l593, n_l621, n_l640, n_l857, n_l1093, n_l1095, n_l2048, n_l3225, n_l10000, n_l22955, n_l29988, n_l29989, n_l65536, n_l99999, n_l1000000000, n_l2147483647, nI_add, pk_mul, pk_sub, pk_div, nI_clamp, ckN, nI_leI, nI_ltI, nI_eq, nI_nm1, Nat.add_zero, nI_addneg, k_ush, true_or, or_true, false_or, or_false, true_and, and_true, false_and, and_false, not_true_eq_false, not_false_eq_true, if_true, if_false, if_pos, if_neg, Option.bind_some, (hq k hk).2, r_bitsOf (hq k hk).1, exc_s]) (by
      unfold pX10_exceptionsBy_b4
      simp (disch := omega) only [n_l0, n_l1, n_l2, n_l3, n_l4, n_l5, n_l6, n_l7, n_l8, n_l9, n_l15, n_l16, n_l17, n_l20, n_l24, n_l31, n_l32, n_l33, n_l36, n_l48, n_l49, n_l97, n_l128, n_l129, n_l192, n_l225, n_l256, n_l353, n_l400, n_l512, n_l593, n_l621, n_l640, n_l857, n_l1093, n_l1095, n_l2048, n_l3225, n_l10000, n_l22955, n_l29988, n_l29989, n_l65536, n_l99999, n_l1000000000, n_l2147483647, nI_add, pk_mul, pk_sub, pk_div, nI_clamp, ckN, nI_leI, nI_ltI, nI_eq, nI_nm1, Nat.add_zero, nI_addneg, k_ush, true_or, or_true, false_or, or_false, true_and, and_true, false_and, and_false, not_true_eq_false, not_false_eq_true, if_true, if_false, if_pos, if_neg, Option.bind_some])
  unfold pX10_exceptionsBy
  simp (disch := omega) only [n_l0, n_l1, n_l2, n_l3, n_l4, n_l5, n_l6, n_l7, n_l8, n_l9, n_l15, n_l16, n_l17, n_l20, n_l24, n_l31, n_l32, n_l33, n_l36, n_l48, n_l49, n_l97, n_l128, n_l129, n_l192, n_l225, n_l256, n_l353, n_l400, n_l512, n_l593, n_l621, n_l640, n_l857, n_l1093, n_l1095, n_l2048, n_l3225, n_l10000, n_l22955, n_l29988, n_l29989, n_l65536, n_l99999, n_l1000000000, n_l2147483647, nI_add, pk_mul, pk_sub, pk_div, nI_clamp, ckN, nI_leI, nI_ltI, nI_eq, nI_nm1, Nat.add_zero, nI_addneg, k_ush, true_or, or_true, false_or, or_false, true_and, and_true, false_and, and_false, not_true_eq_false, not_false_eq_true, if_true, if_false, if_pos, if_neg, Option.bind_some, e]
theorem r_totalBy {form w n m pc : Nat} (hf : form ≤ 2) (hw : w ≤ 32) (hn : n ≤ 16) (hm : m ≤ 16) (hp : pc ≤ 16) {ps : Nat → Int64} {q : Nat → Nat} (hq : ∀ i, i < pc → q i < 2 ^ 32 ∧ ps i = lN (q i)) :
    pX10_totalBy (nI form) (nI w) (nI m) (nI n) (nI pc) ps = some (if exc w q pc ≤ 15 then nI (tot n m form w pc (exc w q pc)) else -1) := by
  have he := exc_le w q pc
  unfold pX10_totalBy pX10_totalBy_j33 pX10_totalBy_j60 tot
  by_cases h1 : exc w q pc ≤ 15
  · by_cases h2 : m < n
    · by_cases h3 : form = 2
      · subst h3
        simp (disch := omega) only [n_l0, n_l1, n_l2, n_l3, n_l4, n_l5, n_l6, n_l7, n_l8, n_l9, n_l15, n_l16, n_l17, n_l20, n_l24, n_l31, n_l32, n_l33, n_l36, n_l48, n_l49, n_l97, n_l128, n_l129, n_l192, n_l225, n_l256, n_l353, n_l400, n_l512, n_l593, n_l621, n_l640, n_l857, n_l1093, n_l1095, n_l2048, n_l3225, n_l10000, n_l22955, n_l29988, n_l29989, n_l65536, n_l99999, n_l1000000000, n_l2147483647, nI_add, pk_mul, pk_sub, pk_div, nI_clamp, ckN, nI_leI, nI_ltI, nI_eq, nI_nm1, Nat.add_zero, nI_addneg, k_ush, true_or, or_true, false_or, or_false, true_and, and_true, false_and, and_false, not_true_eq_false, not_false_eq_true, if_true, if_false, if_pos, if_neg, Option.bind_some, r_exceptionsBy hw hp hq]
        all_goals (first | rfl | exact congrArg some (congrArg nI (by omega)))
      · simp (disch := omega) only [n_l0, n_l1, n_l2, n_l3, n_l4, n_l5, n_l6, n_l7, n_l8, n_l9, n_l15, n_l16, n_l17, n_l20, n_l24, n_l31, n_l32, n_l33, n_l36, n_l48, n_l49, n_l97, n_l128, n_l129, n_l192, n_l225, n_l256, n_l353, n_l400, n_l512, n_l593, n_l621, n_l640, n_l857, n_l1093, n_l1095, n_l2048, n_l3225, n_l10000, n_l22955, n_l29988, n_l29989, n_l65536, n_l99999, n_l1000000000, n_l2147483647, nI_add, pk_mul, pk_sub, pk_div, nI_clamp, ckN, nI_leI, nI_ltI, nI_eq, nI_nm1, Nat.add_zero, nI_addneg, k_ush, true_or, or_true, false_or, or_false, true_and, and_true, false_and, and_false, not_true_eq_false, not_false_eq_true, if_true, if_false, if_pos, if_neg, Option.bind_some, r_exceptionsBy hw hp hq]
        all_goals (first | rfl | exact congrArg some (congrArg nI (by omega)))
    · by_cases h3 : form = 2
      · subst h3
        simp (disch := omega) only [n_l0, n_l1, n_l2, n_l3, n_l4, n_l5, n_l6, n_l7, n_l8, n_l9, n_l15, n_l16, n_l17, n_l20, n_l24, n_l31, n_l32, n_l33, n_l36, n_l48, n_l49, n_l97, n_l128, n_l129, n_l192, n_l225, n_l256, n_l353, n_l400, n_l512, n_l593, n_l621, n_l640, n_l857, n_l1093, n_l1095, n_l2048, n_l3225, n_l10000, n_l22955, n_l29988, n_l29989, n_l65536, n_l99999, n_l1000000000, n_l2147483647, nI_add, pk_mul, pk_sub, pk_div, nI_clamp, ckN, nI_leI, nI_ltI, nI_eq, nI_nm1, Nat.add_zero, nI_addneg, k_ush, true_or, or_true, false_or, or_false, true_and, and_true, false_and, and_false, not_true_eq_false, not_false_eq_true, if_true, if_false, if_pos, if_neg, Option.bind_some, r_exceptionsBy hw hp hq]
        all_goals (first | rfl | exact congrArg some (congrArg nI (by omega)))
      · simp (disch := omega) only [n_l0, n_l1, n_l2, n_l3, n_l4, n_l5, n_l6, n_l7, n_l8, n_l9, n_l15, n_l16, n_l17, n_l20, n_l24, n_l31, n_l32, n_l33, n_l36, n_l48, n_l49, n_l97, n_l128, n_l129, n_l192, n_l225, n_l256, n_l353, n_l400, n_l512, n_l593, n_l621, n_l640, n_l857, n_l1093, n_l1095, n_l2048, n_l3225, n_l10000, n_l22955, n_l29988, n_l29989, n_l65536, n_l99999, n_l1000000000, n_l2147483647, nI_add, pk_mul, pk_sub, pk_div, nI_clamp, ckN, nI_leI, nI_ltI, nI_eq, nI_nm1, Nat.add_zero, nI_addneg, k_ush, true_or, or_true, false_or, or_false, true_and, and_true, false_and, and_false, not_true_eq_false, not_false_eq_true, if_true, if_false, if_pos, if_neg, Option.bind_some, r_exceptionsBy hw hp hq]
        all_goals (first | rfl | exact congrArg some (congrArg nI (by omega)))
  · simp (disch := omega) only [n_l0, n_l1, n_l2, n_l3, n_l4, n_l5, n_l6, n_l7, n_l8, n_l9, n_l15, n_l16, n_l17, n_l20, n_l24, n_l31, n_l32, n_l33, n_l36, n_l48, n_l49, n_l97, n_l128, n_l129, n_l192, n_l225, n_l256, n_l353, n_l400, n_l512, n_l593, n_l621, n_l640, n_l857, n_l1093, n_l1095, n_l2048, n_l3225, n_l10000, n_l22955, n_l29988, n_l29989, n_l65536, n_l99999, n_l1000000000, n_l2147483647, nI_add, pk_mul, pk_sub, pk_div, nI_clamp, ckN, nI_leI, nI_ltI, nI_eq, nI_nm1, Nat.add_zero, nI_addneg, k_ush, true_or, or_true, false_or, or_false, true_and, and_true, false_and, and_false, not_true_eq_false, not_false_eq_true, if_true, if_false, if_pos, if_neg, Option.bind_some, r_exceptionsBy hw hp hq]
theorem r_canBe {form m : Nat} (hf : form ≤ 2) (hm : m ≤ 16) : pX10_canBe (nI form) (nI m) = some (if form = 0 ∨ 2 ≤ m then 1 else 0) := by
  unfold pX10_canBe pX10_isIn
  by_cases h0 : form = 0
  · subst h0
    simp (disch := omega) only [n_l0, n_l1, n_l2, n_l3, n_l4, n_l5, n_l6, n_l7, n_l8, n_l9, n_l15, n_l16, n_l17, n_l20, n_l24, n_l31, n_l32, n_l33, n_l36, n_l48, n_l49, n_l97, n_l128, n_l129, n_l192, n_l225, n_l256, n_l353, n_l400, n_l512, n_l593, n_l621, n_l640, n_l857, n_l1093, n_l1095, n_l2048, n_l3225, n_l10000, n_l22955, n_l29988, n_l29989, n_l65536, n_l99999, n_l1000000000, n_l2147483647, nI_add, pk_mul, pk_sub, pk_div, nI_clamp, ckN, nI_leI, nI_ltI, nI_eq, nI_nm1, Nat.add_zero, nI_addneg, k_ush, true_or, or_true, false_or, or_false, true_and, and_true, false_and, and_false, not_true_eq_false, not_false_eq_true, if_true, if_false, if_pos, if_neg, Option.bind_some]
  · by_cases h2 : 2 ≤ m
    · simp (disch := omega) only [n_l0, n_l1, n_l2, n_l3, n_l4, n_l5, n_l6, n_l7, n_l8, n_l9, n_l15, n_l16, n_l17, n_l20, n_l24, n_l31, n_l32, n_l33, n_l36, n_l48, n_l49, n_l97, n_l128, n_l129, n_l192, n_l225, n_l256, n_l353, n_l400, n_l512, n_l593, n_l621, n_l640, n_l857, n_l1093, n_l1095, n_l2048, n_l3225, n_l10000, n_l22955, n_l29988, n_l29989, n_l65536, n_l99999, n_l1000000000, n_l2147483647, nI_add, pk_mul, pk_sub, pk_div, nI_clamp, ckN, nI_leI, nI_ltI, nI_eq, nI_nm1, Nat.add_zero, nI_addneg, k_ush, true_or, or_true, false_or, or_false, true_and, and_true, false_and, and_false, not_true_eq_false, not_false_eq_true, if_true, if_false, if_pos, if_neg, Option.bind_some]
    · rw [if_neg (show ¬ (form = 0 ∨ 2 ≤ m) by omega)]
      simp (disch := omega) only [n_l0, n_l1, n_l2, n_l3, n_l4, n_l5, n_l6, n_l7, n_l8, n_l9, n_l15, n_l16, n_l17, n_l20, n_l24, n_l31, n_l32, n_l33, n_l36, n_l48, n_l49, n_l97, n_l128, n_l129, n_l192, n_l225, n_l256, n_l353, n_l400, n_l512, n_l593, n_l621, n_l640, n_l857, n_l1093, n_l1095, n_l2048, n_l3225, n_l10000, n_l22955, n_l29988, n_l29989, n_l65536, n_l99999, n_l1000000000, n_l2147483647, nI_add, pk_mul, pk_sub, pk_div, nI_clamp, ckN, nI_leI, nI_ltI, nI_eq, nI_nm1, Nat.add_zero, nI_addneg, k_ush, true_or, or_true, false_or, or_false, true_and, and_true, false_and, and_false, not_true_eq_false, not_false_eq_true, if_true, if_false, if_pos, if_neg, Option.bind_some]
/-- the best so far -/
def okA (acc : Option (Nat × Nat × Nat)) (f w t : Int32) : Prop := match acc with
  | none => t = -1
  | some x => f = nI x.1 ∧ w = nI x.2.1 ∧ t = nI x.2.2 ∧ x.2.2 < 2000
theorem bw_s (n m form : Nat) (q : Nat → Nat) (acc : Option (Nat × Nat × Nat)) (k : Nat) : bw n m form q acc (k + 1) = bstp form k (cand n m form k q) (bw n m form q acc k) := rfl
theorem r_fbw {form n m : Nat} (hf : form ≤ 2) (hn : n ≤ 16) (hm : m ≤ 16) {ps : Nat → Int64} {q : Nat → Nat} (hq : ∀ i, i < pcn form m → q i < 2 ^ 32 ∧ ps i = lN (q i)) {acc : Option (Nat × Nat × Nat)} {f w t : Int32} (ha : okA acc f w t) :
    ∃ r, lp (pX10_findBest_b58 (nI form) (nI m) (nI n) (nI (pcn form m)) ps) FU (nI 0, f, w, t) = some r ∧ okA (bw n m form q acc 33) r.2.1 r.2.2.1 r.2.2.2 := by
  have hp := pcn_le form m
  refine lpE (body := pX10_findBest_b58 (nI form) (nI m) (nI n) (nI (pcn form m)) ps) (fun k s => s.1 = nI k ∧ okA (bw n m form q acc k) s.2.1 s.2.2.1 s.2.2.2) (fun r => okA (bw n m form q acc 33) r.2.1 r.2.2.1 r.2.2.2) 33 _ ⟨rfl, ha⟩ (fun k s hk hI => ?_)
  obtain ⟨s1, s2, s3, s4⟩ := s
  obtain ⟨rfl, h⟩ := hI
  replace h : okA (bw n m form q acc k) s2 s3 s4 := h
  rcases Nat.lt_or_ge k 33 with hk3 | hk3
  · refine Or.inl ?_
    rw [bw_s]
    unfold pX10_findBest_b58 pX10_findBest_b58j95 pX10_findBest_b58j110
    have he := exc_le k q (pcn form m)
    have hl := tot_lt (m := m) (form := form) (w := k) (e := exc k q (pcn form m)) hn (by omega) (show pcn form m ≤ 16 by omega) (by omega)
    by_cases h1 : exc k q (pcn form m) ≤ 15
    · have hc : cand n m form k q = some (tot n m form k (pcn form m) (exc k q (pcn form m))) := if_pos h1
      rw [hc]
      have hT := r_totalBy hf (show k ≤ 32 by omega) hn hm (show pcn form m ≤ 16 by omega) hq
      rw [if_pos h1] at hT
      generalize tot n m form k (pcn form m) (exc k q (pcn form m)) = T at *
      cases hb : bw n m form q acc k with
      | none =>
        rw [hb] at h
        obtain rfl : s4 = -1 := h
        simp (disch := omega) only [n_l0, n_l1, n_l2, n_l3, n_l4, n_l5, n_l6, n_l7, n_l8, n_l9, n_l15, n_l16, n_l17, n_l20, n_l24, n_l31, n_l32, n_l33, n_l36, n_l48, n_l49, n_l97, n_l128, n_l129, n_l192, n_l225, n_l256, n_l353, n_l400, n_l512, n_l593, n_l621, n_l640, n_l857, n_l1093, n_l1095, n_l2048, n_l3225, n_l10000, n_l22955, n_l29988, n_l29989, n_l65536, n_l99999, n_l1000000000, n_l2147483647, nI_add, pk_mul, pk_sub, pk_div, nI_clamp, ckN, nI_leI, nI_ltI, nI_eq, nI_nm1, Nat.add_zero, nI_addneg, k_ush, true_or, or_true, false_or, or_false, true_and, and_true, false_and, and_false, not_true_eq_false, not_false_eq_true, if_true, if_false, if_pos, if_neg, Option.bind_some, hT]
        refine ⟨_, rfl, ?_⟩
        exact ⟨hk3, rfl, rfl, rfl, rfl, hl⟩
      | some x =>
        rw [hb] at h
        obtain ⟨rfl, rfl, rfl, hx⟩ := h
        simp (disch := omega) only [n_l0, n_l1, n_l2, n_l3, n_l4, n_l5, n_l6, n_l7, n_l8, n_l9, n_l15, n_l16, n_l17, n_l20, n_l24, n_l31, n_l32, n_l33, n_l36, n_l48, n_l49, n_l97, n_l128, n_l129, n_l192, n_l225, n_l256, n_l353, n_l400, n_l512, n_l593, n_l621, n_l640, n_l857, n_l1093, n_l1095, n_l2048, n_l3225, n_l10000, n_l22955, n_l29988, n_l29989, n_l65536, n_l99999, n_l1000000000, n_l2147483647, nI_add, pk_mul, pk_sub, pk_div, nI_clamp, ckN, nI_leI, nI_ltI, nI_eq, nI_nm1, Nat.add_zero, nI_addneg, k_ush, true_or, or_true, false_or, or_false, true_and, and_true, false_and, and_false, not_true_eq_false, not_false_eq_true, if_true, if_false, if_pos, if_neg, Option.bind_some, hT]
        unfold bstp
        by_cases ht : T < x.2.2
        · simp (disch := omega) only [n_l0, n_l1, n_l2, n_l3, n_l4, n_l5, n_l6, n_l7, n_l8, n_l9, n_l15, n_l16, n_l17, n_l20, n_l24, n_l31, n_l32, n_l33, n_l36, n_l48, n_l49, n_l97, n_l128, n_l129, n_l192, n_l225, n_l256, n_l353, n_l400, n_l512, n_l593, n_l621, n_l640, n_l857, n_l1093, n_l1095, n_l2048, n_l3225, n_l10000, n_l22955, n_l29988, n_l29989, n_l65536, n_l99999, n_l1000000000, n_l2147483647, nI_add, pk_mul, pk_sub, pk_div, nI_clamp, ckN, nI_leI, nI_ltI, nI_eq, nI_nm1, Nat.add_zero, nI_addneg, k_ush, true_or, or_true, false_or, or_false, true_and, and_true, false_and, and_false, not_true_eq_false, not_false_eq_true, if_true, if_false, if_pos, if_neg, Option.bind_some]
          refine ⟨_, rfl, ?_⟩
          exact ⟨hk3, rfl, rfl, rfl, rfl, hl⟩
        · simp (disch := omega) only [n_l0, n_l1, n_l2, n_l3, n_l4, n_l5, n_l6, n_l7, n_l8, n_l9, n_l15, n_l16, n_l17, n_l20, n_l24, n_l31, n_l32, n_l33, n_l36, n_l48, n_l49, n_l97, n_l128, n_l129, n_l192, n_l225, n_l256, n_l353, n_l400, n_l512, n_l593, n_l621, n_l640, n_l857, n_l1093, n_l1095, n_l2048, n_l3225, n_l10000, n_l22955, n_l29988, n_l29989, n_l65536, n_l99999, n_l1000000000, n_l2147483647, nI_add, pk_mul, pk_sub, pk_div, nI_clamp, ckN, nI_leI, nI_ltI, nI_eq, nI_nm1, Nat.add_zero, nI_addneg, k_ush, true_or, or_true, false_or, or_false, true_and, and_true, false_and, and_false, not_true_eq_false, not_false_eq_true, if_true, if_false, if_pos, if_neg, Option.bind_some]
          refine ⟨_, rfl, ?_⟩
          exact ⟨hk3, rfl, rfl, rfl, rfl, hx⟩
    · have hc : cand n m form k q = none := if_neg h1
      rw [hc]
      simp (disch := omega) only [n_l0, n_l1, n_l2, n_l3, n_l4, n_l5, n_l6, n_l7, n_l8, n_l9, n_l15, n_l16, n_l17, n_l20, n_l24, n_l31, n_l32, n_l33, n_l36, n_l48, n_l49, n_l97, n_l128, n_l129, n_l192, n_l225, n_l256, n_l353, n_l400, n_l512, n_l593, n_l621, n_l640, n_l857, n_l1093, n_l1095, n_l2048, n_l3225, n_l10000, n_l22955, n_l29988, n_l29989, n_l65536, n_l99999, n_l1000000000, n_l2147483647, nI_add, pk_mul, pk_sub, pk_div, nI_clamp, ckN, nI_leI, nI_ltI, nI_eq, nI_nm1, Nat.add_zero, nI_addneg, k_ush, true_or, or_true, false_or, or_false, true_and, and_true, false_and, and_false, not_true_eq_false, not_false_eq_true, if_true, if_false, if_pos, if_neg, Option.bind_some, r_totalBy hf (show k ≤ 32 by omega) hn hm (show pcn form m ≤ 16 by omega) hq]
      refine ⟨_, rfl, ?_⟩
      exact ⟨hk3, rfl, h⟩
  · obtain rfl : k = 33 := by omega
    refine Or.inr ⟨(nI 33, s2, s3, s4), ?_, h⟩
    unfold pX10_findBest_b58
    simp (disch := omega) only [n_l0, n_l1, n_l2, n_l3, n_l4, n_l5, n_l6, n_l7, n_l8, n_l9, n_l15, n_l16, n_l17, n_l20, n_l24, n_l31, n_l32, n_l33, n_l36, n_l48, n_l49, n_l97, n_l128, n_l129, n_l192, n_l225, n_l256, n_l353, n_l400, n_l512, n_l593, n_l621, n_l640, n_l857, n_l1093, n_l1095, n_l2048, n_l3225, n_l10000, n_l22955, n_l29988, n_l29989, n_l65536, n_l99999, n_l1000000000, n_l2147483647, nI_add, pk_mul, pk_sub, pk_div, nI_clamp, ckN, nI_leI, nI_ltI, nI_eq, nI_nm1, Nat.add_zero, nI_addneg, k_ush, true_or, or_true, false_or, or_false, true_and, and_true, false_and, and_false, not_true_eq_false, not_false_eq_true, if_true, if_false, if_pos, if_neg, Option.bind_some]
theorem qs_lt (form : Nat) (s : Int32) (g : Nat → Int32) (m i : Nat) : qs form s g m i < 2 ^ 32 := u32_lt _
theorem bfs_s (n m : Nat) (g : Nat → Int32) (k : Nat) : bfs n m g (k + 1) = bf n m g k (bfs n m g k) := rfl
theorem r_findBest {n m : Nat} (hn : n ≤ 16) (hm : m ≤ 16) (xp xs f w t b : Int32) (g : Nat → Int32) (ps : Nat → Int64) :
    ∃ z, pX10_findBest (nI m) (nI n) xp xs f w t b g ps = some z ∧ z.2.2.1 = nI (bst n m g).1 ∧ z.2.2.2.1 = nI (bst n m g).2.1 ∧ z.2.2.2.2.1 = nI (bst n m g).2.2 ∧ z.2.2.2.2.2.1 = stp g m := by
  have key : ∃ r, lp (pX10_findBest_b27 (nI m) (nI n) (stp g m) g) FU (nI 0, xp, xs, f, w, -nI 1, ps) = some r ∧ okA (bfs n m g 3) r.2.2.2.1 r.2.2.2.2.1 r.2.2.2.2.2.1 := by
    refine lpE (body := pX10_findBest_b27 (nI m) (nI n) (stp g m) g) (fun k s => s.1 = nI k ∧ okA (bfs n m g k) s.2.2.2.1 s.2.2.2.2.1 s.2.2.2.2.2.1) (fun r => okA (bfs n m g 3) r.2.2.2.1 r.2.2.2.2.1 r.2.2.2.2.2.1) 3 _ ⟨rfl, rfl⟩ (fun k s hk hI => ?_)
    obtain ⟨s1, s2, s3, s4, s5, s6, s7⟩ := s
    obtain ⟨rfl, h⟩ := hI
    replace h : okA (bfs n m g k) s4 s5 s6 := h
    rcases Nat.lt_or_ge k 3 with hk3 | hk3
    · refine Or.inl ?_
      unfold pX10_findBest_b27 pX10_findBest_b27j116
      rw [bfs_s]
      by_cases hc : k = 0 ∨ 2 ≤ m
      · obtain ⟨q, e, hq⟩ := r_layParts (form := k) (show k ≤ 2 by omega) hm s2 (stp g m) g s7
        obtain ⟨r, e2, h2⟩ := r_fbw (q := qs k (stp g m) g m) (show k ≤ 2 by omega) hn hm (fun i hi => ⟨qs_lt _ _ _ _ _, hq i hi⟩) h
        simp (disch := omega) only [n_l0, n_l1, n_l2, n_l3, n_l4, n_l5, n_l6, n_l7, n_l8, n_l9, n_l15, n_l16, n_l17, n_l20, n_l24, n_l31, n_l32, n_l33, n_l36, n_l48, n_l49, n_l97, n_l128, n_l129, n_l192, n_l225, n_l256, n_l353, n_l400, n_l512, n_l593, n_l621, n_l640, n_l857, n_l1093, n_l1095, n_l2048, n_l3225, n_l10000, n_l22955, n_l29988, n_l29989, n_l65536, n_l99999, n_l1000000000, n_l2147483647, nI_add, pk_mul, pk_sub, pk_div, nI_clamp, ckN, nI_leI, nI_ltI, nI_eq, nI_nm1, Nat.add_zero, nI_addneg, k_ush, true_or, or_true, false_or, or_false, true_and, and_true, false_and, and_false, not_true_eq_false, not_false_eq_true, if_true, if_false, if_pos, if_neg, Option.bind_some, r_canBe (show k ≤ 2 by omega) hm, hc, e, e2]
        refine ⟨_, rfl, ?_⟩
        refine ⟨hk3, rfl, ?_⟩
        unfold bf
        rw [if_pos hc]
        exact h2
      · simp (disch := omega) only [n_l0, n_l1, n_l2, n_l3, n_l4, n_l5, n_l6, n_l7, n_l8, n_l9, n_l15, n_l16, n_l17, n_l20, n_l24, n_l31, n_l32, n_l33, n_l36, n_l48, n_l49, n_l97, n_l128, n_l129, n_l192, n_l225, n_l256, n_l353, n_l400, n_l512, n_l593, n_l621, n_l640, n_l857, n_l1093, n_l1095, n_l2048, n_l3225, n_l10000, n_l22955, n_l29988, n_l29989, n_l65536, n_l99999, n_l1000000000, n_l2147483647, nI_add, pk_mul, pk_sub, pk_div, nI_clamp, ckN, nI_leI, nI_ltI, nI_eq, nI_nm1, Nat.add_zero, nI_addneg, k_ush, true_or, or_true, false_or, or_false, true_and, and_true, false_and, and_false, not_true_eq_false, not_false_eq_true, if_true, if_false, if_pos, if_neg, Option.bind_some, r_canBe (show k ≤ 2 by omega) hm, hc]
        refine ⟨_, rfl, ?_⟩
        refine ⟨hk3, rfl, ?_⟩
        unfold bf
        rw [if_neg hc]
        exact h
    · obtain rfl : k = 3 := by omega
      refine Or.inr ⟨(nI 3, s2, s3, s4, s5, s6, s7), ?_, h⟩
      unfold pX10_findBest_b27
      simp (disch := omega) only [n_l0, n_l1, n_l2, n_l3, n_l4, n_l5, n_l6, n_l7, n_l8, n_l9, n_l15, n_l16, n_l17, n_l20, n_l24, n_l31, n_l32, n_l33, n_l36, n_l48, n_l49, n_l97, n_l128, n_l129, n_l192, n_l225, n_l256, n_l353, n_l400, n_l512, n_l593, n_l621, n_l640, n_l857, n_l1093, n_l1095, n_l2048, n_l3225, n_l10000, n_l22955, n_l29988, n_l29989, n_l65536, n_l99999, n_l1000000000, n_l2147483647, nI_add, pk_mul, pk_sub, pk_div, nI_clamp, ckN, nI_leI, nI_ltI, nI_eq, nI_nm1, Nat.add_zero, nI_addneg, k_ush, true_or, or_true, false_or, or_false, true_and, and_true, false_and, and_false, not_true_eq_false, not_false_eq_true, if_true, if_false, if_pos, if_neg, Option.bind_some]
  obtain ⟨r, e, h⟩ := key
  rw [bfs_some] at h
  obtain ⟨h1, h2, h3, _⟩ := h
  unfold pX10_findBest pX10_findBest_j22
  by_cases h0 : m ≤ 1
  · have hs : stp g m = 0 := if_pos h0
    simp (disch := omega) only [n_l0, n_l1, n_l2, n_l3, n_l4, n_l5, n_l6, n_l7, n_l8, n_l9, n_l15, n_l16, n_l17, n_l20, n_l24, n_l31, n_l32, n_l33, n_l36, n_l48, n_l49, n_l97, n_l128, n_l129, n_l192, n_l225, n_l256, n_l353, n_l400, n_l512, n_l593, n_l621, n_l640, n_l857, n_l1093, n_l1095, n_l2048, n_l3225, n_l10000, n_l22955, n_l29988, n_l29989, n_l65536, n_l99999, n_l1000000000, n_l2147483647, nI_add, pk_mul, pk_sub, pk_div, nI_clamp, ckN, nI_leI, nI_ltI, nI_eq, nI_nm1, Nat.add_zero, nI_addneg, k_ush, true_or, or_true, false_or, or_false, true_and, and_true, false_and, and_false, not_true_eq_false, not_false_eq_true, if_true, if_false, if_pos, if_neg, Option.bind_some]
    rw [hs] at e ⊢
    rw [n_l0] at e
    simp (disch := omega) only [n_l0, n_l1, n_l2, n_l3, n_l4, n_l5, n_l6, n_l7, n_l8, n_l9, n_l15, n_l16, n_l17, n_l20, n_l24, n_l31, n_l32, n_l33, n_l36, n_l48, n_l49, n_l97, n_l128, n_l129, n_l192, n_l225, n_l256, n_l353, n_l400, n_l512, n_l593, n_l621, n_l640, n_l857, n_l1093, n_l1095, n_l2048, n_l3225, n_l10000, n_l22955, n_l29988, n_l29989, n_l65536, n_l99999, n_l1000000000, n_l2147483647, nI_add, pk_mul, pk_sub, pk_div, nI_clamp, ckN, nI_leI, nI_ltI, nI_eq, nI_nm1, Nat.add_zero, nI_addneg, k_ush, true_or, or_true, false_or, or_false, true_and, and_true, false_and, and_false, not_true_eq_false, not_false_eq_true, if_true, if_false, if_pos, if_neg, Option.bind_some, e]
    refine ⟨_, rfl, ?_⟩
    exact ⟨h1, h2, h3, rfl⟩
  · have hs : stp g m = lss g (m - 2) := if_neg h0
    rw [hs] at e ⊢
    simp (disch := omega) only [n_l0, n_l1, n_l2, n_l3, n_l4, n_l5, n_l6, n_l7, n_l8, n_l9, n_l15, n_l16, n_l17, n_l20, n_l24, n_l31, n_l32, n_l33, n_l36, n_l48, n_l49, n_l97, n_l128, n_l129, n_l192, n_l225, n_l256, n_l353, n_l400, n_l512, n_l593, n_l621, n_l640, n_l857, n_l1093, n_l1095, n_l2048, n_l3225, n_l10000, n_l22955, n_l29988, n_l29989, n_l65536, n_l99999, n_l1000000000, n_l2147483647, nI_add, pk_mul, pk_sub, pk_div, nI_clamp, ckN, nI_leI, nI_ltI, nI_eq, nI_nm1, Nat.add_zero, nI_addneg, k_ush, true_or, or_true, false_or, or_false, true_and, and_true, false_and, and_false, not_true_eq_false, not_false_eq_true, if_true, if_false, if_pos, if_neg, Option.bind_some, r_leastStep (show 2 ≤ m by omega) hm, e]
    refine ⟨_, rfl, ?_⟩
    exact ⟨h1, h2, h3, rfl⟩
