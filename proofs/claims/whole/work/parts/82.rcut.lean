/-! ===== cut anew: the reference ===== -/
def eR : Option Nat → Int32
  | none => -nI 1
  | some v => nI v
theorem eR_m1 {x : Option Nat} (h : ∀ v, x = some v → v < 2 ^ 31) : (eR x = -nI 1) = (x = none) := by
  cases x with
  | none => exact propext ⟨fun _ => rfl, fun _ => rfl⟩
  | some v =>
    show (nI v = -nI 1) = _
    rw [nI_nm1 (h v rfl)]
    exact propext ⟨False.elim, fun q => by cases q⟩
section RCut
variable {c : Nat} {a : Nat → Int32} {C : AC}
theorem r_costRow (xv xw xp xs xf xu xt xb : Int32) (vs : Nat → Int32) (ps : Nat → Int64) (hc : c < 3) (hR : RCa a c C) (ho : OKC C) {k : Nat} (hk : k < HL C) (cs : Nat → Int32) : ∃ r, lp (pX10_layCosts_b10 (nI c) (nI (HL C)) (nI k) a) FU (nI 1, xv, xw, xp, xs, xf, xu, xt, xb, vs, ps, cs) = some r ∧ (∀ n, 1 ≤ n → n ≤ 16 → k + n ≤ HL C → r.2.2.2.2.2.2.2.2.2.2.2 (17 * k + n) = nI (cst (TV C) k n)) ∧ ∀ i, ¬ (17 * k + 1 ≤ i ∧ i ≤ 17 * k + 16) → r.2.2.2.2.2.2.2.2.2.2.2 i = cs i := by
  have hl := ho.2.1
  obtain ⟨r, e, h1, h2⟩ := lpE (body := pX10_layCosts_b10 (nI c) (nI (HL C)) (nI k) a) (fun j s => s.1 = nI (j + 1) ∧ (∀ n, 1 ≤ n → n ≤ j → s.2.2.2.2.2.2.2.2.2.2.2 (17 * k + n) = nI (cst (TV C) k n)) ∧ ∀ i, ¬ (17 * k + 1 ≤ i ∧ i ≤ 17 * k + 16) → s.2.2.2.2.2.2.2.2.2.2.2 i = cs i) (fun r => (∀ n, 1 ≤ n → n ≤ min 16 (HL C - k) → r.2.2.2.2.2.2.2.2.2.2.2 (17 * k + n) = nI (cst (TV C) k n)) ∧ ∀ i, ¬ (17 * k + 1 ≤ i ∧ i ≤ 17 * k + 16) → r.2.2.2.2.2.2.2.2.2.2.2 i = cs i) (min 16 (HL C - k)) (nI 1, xv, xw, xp, xs, xf, xu, xt, xb, vs, ps, cs) ⟨rfl, fun n h1 h2 => absurd h2 (by omega), fun _ _ => rfl⟩ (fun j s hj hI => by
    obtain ⟨s1, s2, s3, s4, s5, s6, s7, s8, s9, s10, s11, s12⟩ := s
    obtain ⟨g1, g2, g3⟩ := hI
    replace g1 : s1 = nI (j + 1) := g1
    replace g2 : ∀ n, 1 ≤ n → n ≤ j → s12 (17 * k + n) = nI (cst (TV C) k n) := g2
    replace g3 : ∀ i, ¬ (17 * k + 1 ≤ i ∧ i ≤ 17 * k + 16) → s12 i = cs i := g3
    subst g1
    unfold pX10_layCosts_b10
    rcases Nat.lt_or_ge j (min 16 (HL C - k)) with h9 | h9
    · refine Or.inl ?_
      obtain ⟨y, ey, hy⟩ := r_bestOf s2 s3 s4 s5 s10 s11 s6 s7 s8 s9 hc hR hl (f := k) (n := j + 1) (by omega) (by omega)
      simp (disch := omega) only [n_l0, n_l1, n_l2, n_l3, n_l4, n_l5, n_l6, n_l7, n_l8, n_l9, n_l15, n_l16, n_l17, n_l20, n_l24, n_l31, n_l32, n_l33, n_l36, n_l48, n_l49, n_l97, n_l128, n_l129, n_l192, n_l225, n_l256, n_l353, n_l400, n_l512, n_l593, n_l621, n_l640, n_l857, n_l1093, n_l1095, n_l2048, n_l3225, n_l10000, n_l22955, n_l29988, n_l29989, n_l65536, n_l99999, n_l1000000000, n_l2147483647, nI_add, pk_mul, pk_sub, pk_div, nI_clamp, ckN, nI_leI, nI_ltI, nI_eq, nI_nm1, Nat.add_zero, nI_addneg, k_ush, true_or, or_true, false_or, or_false, true_and, and_true, false_and, and_false, not_true_eq_false, not_false_eq_true, if_true, if_false, if_pos, if_neg, Option.bind_some, ey]
      refine ⟨_, rfl, h9, rfl, fun n h1 h2 => ?_, fun i hi => ?_⟩
      · show upd s12 (17 * k + (j + 1)) y.1 (17 * k + n) = _
        by_cases hn : n = j + 1
        · subst hn; rw [u_at, hy]; rfl
        · rw [u_ne (by omega)]; exact g2 n h1 (by omega)
      · show upd s12 (17 * k + (j + 1)) y.1 i = _
        rw [u_ne (by omega)]; exact g3 i hi
    · obtain rfl : j = min 16 (HL C - k) := by omega
      refine Or.inr ?_
      by_cases h16 : 16 < min 16 (HL C - k) + 1
      · rw [if_pos (show (16 : Int32) < nI (min 16 (HL C - k) + 1) from nI_lt (a := 16) h16 (by omega))]
        exact ⟨_, rfl, g2, g3⟩
      · rw [if_neg (show ¬ (16 : Int32) < nI (min 16 (HL C - k) + 1) from fun q => h16 ((nI_ltI (a := 16) (by omega) (by omega)).mp q)), nI_add, if_pos (nI_lt (show HL C < k + (min 16 (HL C - k) + 1) by omega) (by omega))]
        exact ⟨_, rfl, g2, g3⟩)
  exact ⟨r, e, fun n q1 q2 q3 => h1 n q1 (by omega), h2⟩
theorem r_layCosts (xv xw xp xs xf xu xt xb : Int32) (vs : Nat → Int32) (ps : Nat → Int64) (hc : c < 3) (hR : RCa a c C) (ho : OKC C) (cs : Nat → Int32) : ∃ z, pX10_layCosts (nI c) (nI (HL C)) xv xw xp xs xf xu xt xb a vs ps cs = some z ∧ ∀ k n, 1 ≤ n → n ≤ 16 → k + n ≤ HL C → z.2.2.2.2.2.2.2.2.2.2 (17 * k + n) = nI (cst (TV C) k n) := by
  have hl := ho.2.1
  obtain ⟨r, e, h1⟩ := lpE (body := pX10_layCosts_b2 (nI c) (nI (HL C)) a) (fun j s => s.1 = nI j ∧ ∀ k n, k < j → 1 ≤ n → n ≤ 16 → k + n ≤ HL C → s.2.2.2.2.2.2.2.2.2.2.2 (17 * k + n) = nI (cst (TV C) k n)) (fun r => ∀ k n, 1 ≤ n → n ≤ 16 → k + n ≤ HL C → r.2.2.2.2.2.2.2.2.2.2.2 (17 * k + n) = nI (cst (TV C) k n)) (HL C) (nI 0, xv, xw, xp, xs, xf, xu, xt, xb, vs, ps, cs) ⟨rfl, fun k n h => absurd h (Nat.not_lt_zero k)⟩ (fun j s hj hI => by
    obtain ⟨s1, s2, s3, s4, s5, s6, s7, s8, s9, s10, s11, s12⟩ := s
    obtain ⟨g1, g2⟩ := hI
    replace g1 : s1 = nI j := g1
    replace g2 : ∀ k n, k < j → 1 ≤ n → n ≤ 16 → k + n ≤ HL C → s12 (17 * k + n) = nI (cst (TV C) k n) := g2
    subst g1
    unfold pX10_layCosts_b2
    rcases Nat.lt_or_ge j (HL C) with h9 | h9
    · refine Or.inl ?_
      obtain ⟨y, ey, y1, y2⟩ := r_costRow s2 s3 s4 s5 s6 s7 s8 s9 s10 s11 hc hR ho h9 s12
      rw [if_neg (show ¬ nI (HL C) ≤ nI j by rw [nI_leI (by omega) (by omega)]; omega), show (1 : Int32) = nI 1 from rfl, ey, Option.bind_some, nI_add]
      refine ⟨_, rfl, h9, rfl, fun k n q1 q2 q3 q4 => ?_⟩
      by_cases hkj : k = j
      · subst hkj; exact y1 n q2 q3 q4
      · show y.2.2.2.2.2.2.2.2.2.2.2 (17 * k + n) = _
        rw [y2 _ (by omega)]; exact g2 k n (by omega) q2 q3 q4
    · obtain rfl : j = HL C := by omega
      refine Or.inr ?_
      rw [if_pos (Int32.le_refl _)]
      exact ⟨_, rfl, fun k n q1 q2 q3 => g2 k n (by omega) q1 q2 q3⟩)
  unfold pX10_layCosts
  rw [n_l0, e]
  exact ⟨_, rfl, h1⟩
variable {T : Nat → Option Int32} {H : Nat} {cs : Nat → Int32}
theorem fw_lt {m k v : Nat} (hm : m ≤ 24) (h : fw T H m k = some v) : v < 2 ^ 20 := by
  have := fw_range _ _ _ h; omega
theorem mn_lt {m k j v : Nat} (hm : m + 1 ≤ 24) (hj : j ≤ 16) (h : mnO (fwn T H m k) j = some v) : v < 2 ^ 20 := by
  obtain ⟨n, h1, h2, h3⟩ := mn_ex _ _ h
  obtain ⟨w, h4, h5⟩ := fwn_some h3
  have := fw_range _ _ _ h4
  have := cst_le T (f := k) (n := n) (by omega)
  omega
theorem r_fewN (hH : H ≤ 128) (hcs : ∀ k n, 1 ≤ n → n ≤ 16 → k + n ≤ H → cs (17 * k + n) = nI (cst T k n)) {m k : Nat} (hm : m + 1 ≤ 24) (hk : k ≤ H) {fe : Nat → Int32} (hf : ∀ k', k' ≤ H → fe (129 * m + k') = eR (fw T H m k')) : ∃ x, lp (pX10_layFewest_b33 (nI H) (nI (m + 1)) (nI k) cs fe) FU (-nI 1, nI 1) = some (eR (fw T H (m + 1) k), x) := by
  obtain ⟨r, e, h1⟩ := lpE (body := pX10_layFewest_b33 (nI H) (nI (m + 1)) (nI k) cs fe) (fun j s => s.1 = eR (mnO (fwn T H m k) j) ∧ s.2 = nI (j + 1)) (fun r => r.1 = eR (fw T H (m + 1) k)) (min 16 (H - k)) (-nI 1, nI 1) ⟨rfl, rfl⟩ (fun j s hj hI => by
    obtain ⟨s1, s2⟩ := s
    obtain ⟨g1, g2⟩ := hI
    replace g1 : s1 = eR (mnO (fwn T H m k) j) := g1
    replace g2 : s2 = nI (j + 1) := g2
    subst g1 g2
    unfold pX10_layFewest_b33 pX10_layFewest_b33j103 pX10_layFewest_b33j120
    rcases Nat.lt_or_ge j (min 16 (H - k)) with h9 | h9
    · refine Or.inl ?_
      have hfe := hf (k + (j + 1)) (by omega)
      rw [← Nat.add_assoc] at hfe
      have hc1 := hcs k (j + 1) (by omega) (by omega) (by omega)
      have hcl := cst_le T (f := k) (n := j + 1) (by omega)
      cases hx : fw T H m (k + (j + 1)) with
      | none =>
        have hn : fwn T H m k (j + 1) = none := by unfold fwn; rw [hx]; rfl
        rw [hx] at hfe
        replace hfe : fe (129 * m + k + (j + 1)) = -nI 1 := hfe
        simp (disch := omega) only [n_l0, n_l1, n_l2, n_l3, n_l4, n_l5, n_l6, n_l7, n_l8, n_l9, n_l15, n_l16, n_l17, n_l20, n_l24, n_l31, n_l32, n_l33, n_l36, n_l48, n_l49, n_l97, n_l128, n_l129, n_l192, n_l225, n_l256, n_l353, n_l400, n_l512, n_l593, n_l621, n_l640, n_l857, n_l1093, n_l1095, n_l2048, n_l3225, n_l10000, n_l22955, n_l29988, n_l29989, n_l65536, n_l99999, n_l1000000000, n_l2147483647, nI_add, pk_mul, pk_sub, pk_div, nI_clamp, ckN, nI_leI, nI_ltI, nI_eq, nI_nm1, Nat.add_zero, nI_addneg, k_ush, true_or, or_true, false_or, or_false, true_and, and_true, false_and, and_false, not_true_eq_false, not_false_eq_true, if_true, if_false, if_pos, if_neg, Option.bind_some, Nat.add_sub_cancel, hfe]
        refine ⟨_, rfl, h9, ?_, rfl⟩
        show _ = eR (omn (mnO (fwn T H m k) j) (fwn T H m k (j + 1)))
        rw [hn]
        cases mnO (fwn T H m k) j <;> rfl
      | some w =>
        have hn : fwn T H m k (j + 1) = some (w + cst T k (j + 1)) := by unfold fwn; rw [hx]; rfl
        have hw := fw_lt (show m ≤ 24 by omega) hx
        rw [hx] at hfe
        replace hfe : fe (129 * m + k + (j + 1)) = nI w := hfe
        cases hy : mnO (fwn T H m k) j with
        | none =>
          have e0 : eR none = -nI 1 := rfl
          simp (disch := omega) only [n_l0, n_l1, n_l2, n_l3, n_l4, n_l5, n_l6, n_l7, n_l8, n_l9, n_l15, n_l16, n_l17, n_l20, n_l24, n_l31, n_l32, n_l33, n_l36, n_l48, n_l49, n_l97, n_l128, n_l129, n_l192, n_l225, n_l256, n_l353, n_l400, n_l512, n_l593, n_l621, n_l640, n_l857, n_l1093, n_l1095, n_l2048, n_l3225, n_l10000, n_l22955, n_l29988, n_l29989, n_l65536, n_l99999, n_l1000000000, n_l2147483647, nI_add, pk_mul, pk_sub, pk_div, nI_clamp, ckN, nI_leI, nI_ltI, nI_eq, nI_nm1, Nat.add_zero, nI_addneg, k_ush, true_or, or_true, false_or, or_false, true_and, and_true, false_and, and_false, not_true_eq_false, not_false_eq_true, if_true, if_false, if_pos, if_neg, Option.bind_some, Nat.add_sub_cancel, hfe, e0, hc1]
          refine ⟨_, rfl, h9, ?_, rfl⟩
          rw [mn_s, hy, hn]
          exact congrArg nI (Nat.add_comm _ _)
        | some x =>
          have hxl := mn_lt (show m + 1 ≤ 24 by omega) (show j ≤ 16 by omega) hy
          have e0 : eR (some x) = nI x := rfl
          by_cases hle : x ≤ cst T k (j + 1) + w
          · simp (disch := omega) only [n_l0, n_l1, n_l2, n_l3, n_l4, n_l5, n_l6, n_l7, n_l8, n_l9, n_l15, n_l16, n_l17, n_l20, n_l24, n_l31, n_l32, n_l33, n_l36, n_l48, n_l49, n_l97, n_l128, n_l129, n_l192, n_l225, n_l256, n_l353, n_l400, n_l512, n_l593, n_l621, n_l640, n_l857, n_l1093, n_l1095, n_l2048, n_l3225, n_l10000, n_l22955, n_l29988, n_l29989, n_l65536, n_l99999, n_l1000000000, n_l2147483647, nI_add, pk_mul, pk_sub, pk_div, nI_clamp, ckN, nI_leI, nI_ltI, nI_eq, nI_nm1, Nat.add_zero, nI_addneg, k_ush, true_or, or_true, false_or, or_false, true_and, and_true, false_and, and_false, not_true_eq_false, not_false_eq_true, if_true, if_false, if_pos, if_neg, Option.bind_some, Nat.add_sub_cancel, hfe, e0, hc1]
            refine ⟨_, rfl, h9, ?_, rfl⟩
            rw [mn_s, hy, hn]
            show nI x = nI (if x ≤ w + cst T k (j + 1) then x else _)
            rw [if_pos (by omega)]
          · simp (disch := omega) only [n_l0, n_l1, n_l2, n_l3, n_l4, n_l5, n_l6, n_l7, n_l8, n_l9, n_l15, n_l16, n_l17, n_l20, n_l24, n_l31, n_l32, n_l33, n_l36, n_l48, n_l49, n_l97, n_l128, n_l129, n_l192, n_l225, n_l256, n_l353, n_l400, n_l512, n_l593, n_l621, n_l640, n_l857, n_l1093, n_l1095, n_l2048, n_l3225, n_l10000, n_l22955, n_l29988, n_l29989, n_l65536, n_l99999, n_l1000000000, n_l2147483647, nI_add, pk_mul, pk_sub, pk_div, nI_clamp, ckN, nI_leI, nI_ltI, nI_eq, nI_nm1, Nat.add_zero, nI_addneg, k_ush, true_or, or_true, false_or, or_false, true_and, and_true, false_and, and_false, not_true_eq_false, not_false_eq_true, if_true, if_false, if_pos, if_neg, Option.bind_some, Nat.add_sub_cancel, hfe, e0, hc1]
            refine ⟨_, rfl, h9, ?_, rfl⟩
            rw [mn_s, hy, hn]
            show nI _ = nI (if x ≤ w + cst T k (j + 1) then x else w + cst T k (j + 1))
            rw [if_neg (by omega), Nat.add_comm]
    · obtain rfl : j = min 16 (H - k) := by omega
      refine Or.inr ?_
      by_cases h16 : 16 < min 16 (H - k) + 1
      · rw [if_pos (show (16 : Int32) < nI (min 16 (H - k) + 1) from nI_lt (a := 16) h16 (by omega))]
        exact ⟨_, rfl, by rw [fw_s]⟩
      · rw [if_neg (show ¬ (16 : Int32) < nI (min 16 (H - k) + 1) from fun q => h16 ((nI_ltI (a := 16) (by omega) (by omega)).mp q)), nI_add, if_pos (nI_lt (show H < k + (min 16 (H - k) + 1) by omega) (by omega))]
        exact ⟨_, rfl, by rw [fw_s]⟩)
  exact ⟨r.2, by rw [e, ← h1]⟩
theorem r_few0 {k : Nat} (hk : k ≤ H) (hH : H ≤ 128) (t : Int32) (fe : Nat → Int32) : lp (pX10_layFewest_b33 (nI H) (nI 0) (nI k) cs fe) FU (t, nI 1) = some (t, nI 1) := by
  refine lpF (fun _ => (t, nI 1)) 0 _ rfl (fun k hk => absurd hk (Nat.not_lt_zero k)) ?_
  unfold pX10_layFewest_b33
  by_cases h : H < k + 1
  · simp (disch := omega) only [n_l0, n_l1, n_l2, n_l3, n_l4, n_l5, n_l6, n_l7, n_l8, n_l9, n_l15, n_l16, n_l17, n_l20, n_l24, n_l31, n_l32, n_l33, n_l36, n_l48, n_l49, n_l97, n_l128, n_l129, n_l192, n_l225, n_l256, n_l353, n_l400, n_l512, n_l593, n_l621, n_l640, n_l857, n_l1093, n_l1095, n_l2048, n_l3225, n_l10000, n_l22955, n_l29988, n_l29989, n_l65536, n_l99999, n_l1000000000, n_l2147483647, nI_add, pk_mul, pk_sub, pk_div, nI_clamp, ckN, nI_leI, nI_ltI, nI_eq, nI_nm1, Nat.add_zero, nI_addneg, k_ush, true_or, or_true, false_or, or_false, true_and, and_true, false_and, and_false, not_true_eq_false, not_false_eq_true, if_true, if_false, if_pos, if_neg, Option.bind_some, h]
  · simp (disch := omega) only [n_l0, n_l1, n_l2, n_l3, n_l4, n_l5, n_l6, n_l7, n_l8, n_l9, n_l15, n_l16, n_l17, n_l20, n_l24, n_l31, n_l32, n_l33, n_l36, n_l48, n_l49, n_l97, n_l128, n_l129, n_l192, n_l225, n_l256, n_l353, n_l400, n_l512, n_l593, n_l621, n_l640, n_l857, n_l1093, n_l1095, n_l2048, n_l3225, n_l10000, n_l22955, n_l29988, n_l29989, n_l65536, n_l99999, n_l1000000000, n_l2147483647, nI_add, pk_mul, pk_sub, pk_div, nI_clamp, ckN, nI_leI, nI_ltI, nI_eq, nI_nm1, Nat.add_zero, nI_addneg, k_ush, true_or, or_true, false_or, or_false, true_and, and_true, false_and, and_false, not_true_eq_false, not_false_eq_true, if_true, if_false, if_pos, if_neg, Option.bind_some, h]
theorem r_fewRow (hH : H ≤ 128) (hcs : ∀ k n, 1 ≤ n → n ≤ 16 → k + n ≤ H → cs (17 * k + n) = nI (cst T k n)) {m : Nat} (hm : m ≤ 24) {fe : Nat → Int32} (hf : ∀ m' k', m' < m → k' ≤ H → fe (129 * m' + k') = eR (fw T H m' k')) : ∃ r, lp (pX10_layFewest_b10 (nI H) (nI m) cs) FU (nI H, fe) = some r ∧ ∀ m' k', m' < m + 1 → k' ≤ H → r.2 (129 * m' + k') = eR (fw T H m' k') := by
  obtain ⟨r, e, h1⟩ := lpE (body := pX10_layFewest_b10 (nI H) (nI m) cs) (fun j s => s.1 = dn (H + 1 - j) ∧ (∀ m' k', m' < m → k' ≤ H → s.2 (129 * m' + k') = eR (fw T H m' k')) ∧ ∀ k', H + 1 - j ≤ k' → k' ≤ H → s.2 (129 * m + k') = eR (fw T H m k')) (fun r => ∀ m' k', m' < m + 1 → k' ≤ H → r.2 (129 * m' + k') = eR (fw T H m' k')) (H + 1) (nI H, fe) ⟨(dn_s H).symm, hf, fun k' h1 h2 => absurd h1 (by omega)⟩ (fun j s hj hI => by
    obtain ⟨s1, s2⟩ := s
    obtain ⟨g1, g2, g3⟩ := hI
    replace g1 : s1 = dn (H + 1 - j) := g1
    replace g2 : ∀ m' k', m' < m → k' ≤ H → s2 (129 * m' + k') = eR (fw T H m' k') := g2
    replace g3 : ∀ k', H + 1 - j ≤ k' → k' ≤ H → s2 (129 * m + k') = eR (fw T H m k') := g3
    subst g1
    unfold pX10_layFewest_b10
    rcases Nat.lt_or_ge j (H + 1) with h9 | h9
    · refine Or.inl ?_
      obtain ⟨k, hk⟩ : ∃ k, H + 1 - j = k + 1 := ⟨H - j, by omega⟩
      rw [hk] at g3 ⊢
      rw [dn_s]
      have fin : ∀ t, (∃ x, lp (pX10_layFewest_b33 (nI H) (nI m) (nI k) cs s2) FU (t, nI 1) = some (eR (fw T H m k), x)) → ∃ s', pX10_layFewest_b10j28 (nI H) (nI m) (nI k) t cs s2 = some (Sum.inl s') ∧ j < H + 1 ∧ s'.1 = dn (H + 1 - (j + 1)) ∧ (∀ m' k', m' < m → k' ≤ H → s'.2 (129 * m' + k') = eR (fw T H m' k')) ∧ ∀ k', H + 1 - (j + 1) ≤ k' → k' ≤ H → s'.2 (129 * m + k') = eR (fw T H m k') := fun t ⟨x, hx⟩ => by
        unfold pX10_layFewest_b10j28
        rw [show (1 : Int32) = nI 1 from rfl, hx, Option.bind_some, show (129 : Int32) * nI m + nI k = nI (129 * m + k) from by rw [show (129 : Int32) = nI 129 from rfl, pk_mul, nI_add], ckN (by omega) (by omega), nI_clamp (by omega), dn_sub]
        refine ⟨_, rfl, h9, by rw [show H + 1 - (j + 1) = k by omega], fun m' k' q1 q2 => ?_, fun k' q1 q2 => ?_⟩
        · show upd s2 (129 * m + k) _ (129 * m' + k') = _
          rw [u_ne (by omega)]; exact g2 m' k' q1 q2
        · show upd s2 (129 * m + k) _ (129 * m + k') = _
          by_cases hkk : k' = k
          · subst hkk; rw [u_at]
          · rw [u_ne (by omega)]; exact g3 k' (by omega) q2
      rw [if_neg (nI_pos (by omega))]
      cases m with
      | zero =>
        rw [if_pos (show nI 0 = 0 from rfl)]
        by_cases hkH : k = H
        · subst hkH
          rw [if_pos rfl]
          exact fin 0 ⟨nI 1, by rw [r_few0 (Nat.le_refl _) hH]; unfold fw; rw [if_pos rfl]; rfl⟩
        · rw [if_neg (fun q => hkH ((nI_eq (by omega) (by omega)).mp q))]
          unfold pX10_layFewest_b10j27
          exact fin (-1) ⟨nI 1, by rw [r_few0 (by omega) hH]; unfold fw; rw [if_neg hkH]; rfl⟩
      | succ n =>
        rw [if_neg (show ¬ nI (n + 1) = 0 from fun q => by have := (nI_eq (b := 0) (by omega) (by omega)).mp q; omega)]
        unfold pX10_layFewest_b10j27
        exact fin (-1) (r_fewN hH hcs hm (by omega) (fun k' hk' => g2 n k' (by omega) hk'))
    · obtain rfl : j = H + 1 := by omega
      refine Or.inr ?_
      rw [Nat.sub_self] at g3 ⊢
      rw [dn_0, if_pos (show (-nI 1 : Int32) < 0 by decide)]
      refine ⟨_, rfl, fun m' k' q1 q2 => ?_⟩
      rcases Nat.lt_or_ge m' m with h5 | h5
      · exact g2 m' k' h5 q2
      · rw [show m' = m by omega]; exact g3 k' (by omega) q2)
  exact ⟨r, e, h1⟩
theorem r_layFewest (hH : H ≤ 128) (hcs : ∀ k n, 1 ≤ n → n ≤ 16 → k + n ≤ H → cs (17 * k + n) = nI (cst T k n)) (fe : Nat → Int32) : ∃ f2, pX10_layFewest (nI H) cs fe = some f2 ∧ ∀ m k, m ≤ 24 → k ≤ H → f2 (129 * m + k) = eR (fw T H m k) := by
  obtain ⟨r, e, h1⟩ := lpE (body := pX10_layFewest_b2 (nI H) cs) (fun j s => s.1 = nI j ∧ ∀ m k, m < j → k ≤ H → s.2 (129 * m + k) = eR (fw T H m k)) (fun r => ∀ m k, m ≤ 24 → k ≤ H → r.2 (129 * m + k) = eR (fw T H m k)) 25 (nI 0, fe) ⟨rfl, fun m k h => absurd h (Nat.not_lt_zero m)⟩ (fun j s hj hI => by
    obtain ⟨s1, s2⟩ := s
    obtain ⟨g1, g2⟩ := hI
    replace g1 : s1 = nI j := g1
    replace g2 : ∀ m k, m < j → k ≤ H → s2 (129 * m + k) = eR (fw T H m k) := g2
    subst g1
    unfold pX10_layFewest_b2
    rcases Nat.lt_or_ge j 25 with h9 | h9
    · refine Or.inl ?_
      obtain ⟨y, ey, hy⟩ := r_fewRow hH hcs (show j ≤ 24 by omega) g2
      rw [if_neg (show ¬ (24 : Int32) < nI j from fun q => by have := (nI_ltI (a := 24) (by omega) (by omega)).mp q; omega), ey, Option.bind_some]
      exact ⟨_, rfl, h9, by show nI j + nI 1 = _; rw [nI_add], hy⟩
    · obtain rfl : j = 25 := by omega
      refine Or.inr ?_
      rw [if_pos (show (24 : Int32) < nI 25 by decide)]
      exact ⟨_, rfl, fun m k q1 q2 => g2 m k (by omega) q2⟩)
  unfold pX10_layFewest
  rw [n_l0, e]
  exact ⟨_, rfl, h1⟩
/-- the best number of blocks, in the reference -/
theorem r_bC {fe : Nat → Int32} (hf : ∀ m k, m ≤ 24 → k ≤ H → fe (129 * m + k) = eR (fw T H m k)) (cm0 : Int32) : ∃ r, lp (pX10_layCut_b24 fe) FU (nI 1, cm0, -nI 1) = some r ∧ (match bC T H 24 with | none => r.2.2 = -nI 1 | some x => r.2.1 = nI x.1 ∧ r.2.2 = nI x.2) := by
  refine lpE (body := pX10_layCut_b24 fe) (fun j s => s.1 = nI (j + 1) ∧ (match bC T H j with | none => s.2.2 = -nI 1 | some x => s.2.1 = nI x.1 ∧ s.2.2 = nI x.2)) _ 24 (nI 1, cm0, -nI 1) ⟨rfl, rfl⟩ (fun j s hj hI => ?_)
  obtain ⟨s1, s2, s3⟩ := s
  obtain ⟨g1, g2⟩ := hI
  replace g1 : s1 = nI (j + 1) := g1
  subst g1
  unfold pX10_layCut_b24 pX10_layCut_b24j68 pX10_layCut_b24j79
  rcases Nat.lt_or_ge j 24 with h9 | h9
  · refine Or.inl ?_
    have hfe := hf (j + 1) 0 (by omega) (Nat.zero_le _)
    rw [Nat.add_zero] at hfe
    rw [bC_s]
    cases hx : fw T H (j + 1) 0 with
    | none =>
      rw [hx] at hfe
      replace hfe : fe (129 * (j + 1)) = -nI 1 := hfe
      simp (disch := omega) only [n_l0, n_l1, n_l2, n_l3, n_l4, n_l5, n_l6, n_l7, n_l8, n_l9, n_l15, n_l16, n_l17, n_l20, n_l24, n_l31, n_l32, n_l33, n_l36, n_l48, n_l49, n_l97, n_l128, n_l129, n_l192, n_l225, n_l256, n_l353, n_l400, n_l512, n_l593, n_l621, n_l640, n_l857, n_l1093, n_l1095, n_l2048, n_l3225, n_l10000, n_l22955, n_l29988, n_l29989, n_l65536, n_l99999, n_l1000000000, n_l2147483647, nI_add, pk_mul, pk_sub, pk_div, nI_clamp, ckN, nI_leI, nI_ltI, nI_eq, nI_nm1, Nat.add_zero, nI_addneg, k_ush, true_or, or_true, false_or, or_false, true_and, and_true, false_and, and_false, not_true_eq_false, not_false_eq_true, if_true, if_false, if_pos, if_neg, Option.bind_some, hfe]
      exact ⟨_, rfl, h9, rfl, g2⟩
    | some v =>
      have hv := fw_lt (show j + 1 ≤ 24 by omega) hx
      rw [hx] at hfe
      replace hfe : fe (129 * (j + 1)) = nI v := hfe
      cases hy : bC T H j with
      | none =>
        rw [hy] at g2
        replace g2 : s3 = -nI 1 := g2
        subst g2
        simp (disch := omega) only [n_l0, n_l1, n_l2, n_l3, n_l4, n_l5, n_l6, n_l7, n_l8, n_l9, n_l15, n_l16, n_l17, n_l20, n_l24, n_l31, n_l32, n_l33, n_l36, n_l48, n_l49, n_l97, n_l128, n_l129, n_l192, n_l225, n_l256, n_l353, n_l400, n_l512, n_l593, n_l621, n_l640, n_l857, n_l1093, n_l1095, n_l2048, n_l3225, n_l10000, n_l22955, n_l29988, n_l29989, n_l65536, n_l99999, n_l1000000000, n_l2147483647, nI_add, pk_mul, pk_sub, pk_div, nI_clamp, ckN, nI_leI, nI_ltI, nI_eq, nI_nm1, Nat.add_zero, nI_addneg, k_ush, true_or, or_true, false_or, or_false, true_and, and_true, false_and, and_false, not_true_eq_false, not_false_eq_true, if_true, if_false, if_pos, if_neg, Option.bind_some, hfe]
        exact ⟨_, rfl, h9, rfl, rfl, rfl⟩
      | some x =>
        rw [hy] at g2
        obtain ⟨q1, q2⟩ := g2
        replace q1 : s2 = nI x.1 := q1
        replace q2 : s3 = nI x.2 := q2
        subst q1 q2
        obtain ⟨b1, b2, b3⟩ := bC_ok j x hy
        have hx2 := fw_lt (show x.1 ≤ 24 by omega) b3
        by_cases hlt : v < x.2
        · simp (disch := omega) only [n_l0, n_l1, n_l2, n_l3, n_l4, n_l5, n_l6, n_l7, n_l8, n_l9, n_l15, n_l16, n_l17, n_l20, n_l24, n_l31, n_l32, n_l33, n_l36, n_l48, n_l49, n_l97, n_l128, n_l129, n_l192, n_l225, n_l256, n_l353, n_l400, n_l512, n_l593, n_l621, n_l640, n_l857, n_l1093, n_l1095, n_l2048, n_l3225, n_l10000, n_l22955, n_l29988, n_l29989, n_l65536, n_l99999, n_l1000000000, n_l2147483647, nI_add, pk_mul, pk_sub, pk_div, nI_clamp, ckN, nI_leI, nI_ltI, nI_eq, nI_nm1, Nat.add_zero, nI_addneg, k_ush, true_or, or_true, false_or, or_false, true_and, and_true, false_and, and_false, not_true_eq_false, not_false_eq_true, if_true, if_false, if_pos, if_neg, Option.bind_some, hfe, hlt]
          exact ⟨_, rfl, h9, rfl, rfl, rfl⟩
        · simp (disch := omega) only [n_l0, n_l1, n_l2, n_l3, n_l4, n_l5, n_l6, n_l7, n_l8, n_l9, n_l15, n_l16, n_l17, n_l20, n_l24, n_l31, n_l32, n_l33, n_l36, n_l48, n_l49, n_l97, n_l128, n_l129, n_l192, n_l225, n_l256, n_l353, n_l400, n_l512, n_l593, n_l621, n_l640, n_l857, n_l1093, n_l1095, n_l2048, n_l3225, n_l10000, n_l22955, n_l29988, n_l29989, n_l65536, n_l99999, n_l1000000000, n_l2147483647, nI_add, pk_mul, pk_sub, pk_div, nI_clamp, ckN, nI_leI, nI_ltI, nI_eq, nI_nm1, Nat.add_zero, nI_addneg, k_ush, true_or, or_true, false_or, or_false, true_and, and_true, false_and, and_false, not_true_eq_false, not_false_eq_true, if_true, if_false, if_pos, if_neg, Option.bind_some, hfe, hlt]
          exact ⟨_, rfl, h9, rfl, rfl, rfl⟩
  · obtain rfl : j = 24 := by omega
    refine Or.inr ?_
    rw [if_pos (show (24 : Int32) < nI (24 + 1) by decide)]
    exact ⟨_, rfl, g2⟩
theorem fwn_eR {m k n w : Nat} (hm : m ≤ 24) (hn : n ≤ 16) : (∀ v, fw T H m (k + n) = some v → (nI (cst T k n) + nI v = nI w) = (fwn T H m k n = some w)) ∨ 2 ^ 20 ≤ w := by
  rcases Nat.lt_or_ge w (2 ^ 20) with hw | hw
  · refine Or.inl (fun v hv => ?_)
    have h1 := fw_lt hm hv
    have h2 := cst_le T (f := k) hn
    rw [nI_add, propext (nI_eq (show cst T k n + v < 2 ^ 31 by omega) (show w < 2 ^ 31 by omega))]
    unfold fwn
    rw [hv]
    refine propext ⟨fun q => ?_, fun q => ?_⟩
    · show some (v + cst T k n) = _
      rw [← q, Nat.add_comm]
    · have : v + cst T k n = w := Option.some.inj q
      omega
  · exact Or.inr hw
theorem r_lst (hH : H ≤ 128) (hcs : ∀ k n, 1 ≤ n → n ≤ 16 → k + n ≤ H → cs (17 * k + n) = nI (cst T k n)) {fe : Nat → Int32} (hf : ∀ m k, m ≤ 24 → k ≤ H → fe (129 * m + k) = eR (fw T H m k)) {left k w : Nat} (hl : left + 1 ≤ 24) (hw : fw T H (left + 1) k = some w) : lp (pX10_layCut_b111 (nI k) (nI (left + 1)) cs fe) FU (nI 1) = some (nI (lst T H (left + 1) k)) := by
  obtain ⟨o1, o2, o3, o4⟩ := lst_ok (by omega) hw
  rw [Nat.add_sub_cancel] at o3 o4
  have hr := fw_range _ _ _ hw
  have hwl := fw_lt hl hw
  have hfk : fe (129 * (left + 1) + k) = nI w := by rw [hf (left + 1) k hl (by omega), hw]; rfl
  obtain ⟨n, hn⟩ : ∃ n, lst T H (left + 1) k = n + 1 := ⟨lst T H (left + 1) k - 1, by omega⟩
  rw [hn] at o2 o3 o4 ⊢
  refine lpF (fun j => nI (j + 1)) n _ rfl (fun j hj => ?_) ?_
  · have hfe := hf left (k + (j + 1)) (by omega) (by omega)
    rw [← Nat.add_assoc] at hfe
    have hc1 := hcs k (j + 1) (by omega) (by omega) (by omega)
    unfold pX10_layCut_b111 pX10_layCut_b111j180
    cases hx : fw T H left (k + (j + 1)) with
    | none =>
      rw [hx] at hfe
      replace hfe : fe (129 * left + k + (j + 1)) = -nI 1 := hfe
      simp (disch := omega) only [n_l0, n_l1, n_l2, n_l3, n_l4, n_l5, n_l6, n_l7, n_l8, n_l9, n_l15, n_l16, n_l17, n_l20, n_l24, n_l31, n_l32, n_l33, n_l36, n_l48, n_l49, n_l97, n_l128, n_l129, n_l192, n_l225, n_l256, n_l353, n_l400, n_l512, n_l593, n_l621, n_l640, n_l857, n_l1093, n_l1095, n_l2048, n_l3225, n_l10000, n_l22955, n_l29988, n_l29989, n_l65536, n_l99999, n_l1000000000, n_l2147483647, nI_add, pk_mul, pk_sub, pk_div, nI_clamp, ckN, nI_leI, nI_ltI, nI_eq, nI_nm1, Nat.add_zero, nI_addneg, k_ush, true_or, or_true, false_or, or_false, true_and, and_true, false_and, and_false, not_true_eq_false, not_false_eq_true, if_true, if_false, if_pos, if_neg, Option.bind_some, Nat.add_sub_cancel, hfe]
    | some v =>
      have hv := fw_lt (show left ≤ 24 by omega) hx
      have hcl := cst_le T (f := k) (n := j + 1) (by omega)
      rw [hx] at hfe
      replace hfe : fe (129 * left + k + (j + 1)) = nI v := hfe
      have hne : ¬ cst T k (j + 1) + v = w := fun q => o4 (j + 1) (by omega) (by omega) (by unfold fwn; rw [hx]; show some (v + cst T k (j + 1)) = _; rw [← q, Nat.add_comm])
      simp (disch := omega) only [n_l0, n_l1, n_l2, n_l3, n_l4, n_l5, n_l6, n_l7, n_l8, n_l9, n_l15, n_l16, n_l17, n_l20, n_l24, n_l31, n_l32, n_l33, n_l36, n_l48, n_l49, n_l97, n_l128, n_l129, n_l192, n_l225, n_l256, n_l353, n_l400, n_l512, n_l593, n_l621, n_l640, n_l857, n_l1093, n_l1095, n_l2048, n_l3225, n_l10000, n_l22955, n_l29988, n_l29989, n_l65536, n_l99999, n_l1000000000, n_l2147483647, nI_add, pk_mul, pk_sub, pk_div, nI_clamp, ckN, nI_leI, nI_ltI, nI_eq, nI_nm1, Nat.add_zero, nI_addneg, k_ush, true_or, or_true, false_or, or_false, true_and, and_true, false_and, and_false, not_true_eq_false, not_false_eq_true, if_true, if_false, if_pos, if_neg, Option.bind_some, Nat.add_sub_cancel, hfe, hc1, hfk]
  · have hfe := hf left (k + (n + 1)) (by omega) (by omega)
    rw [← Nat.add_assoc] at hfe
    have hc1 := hcs k (n + 1) (by omega) (by omega) (by omega)
    obtain ⟨v, hv, hv2⟩ := fwn_some o3
    have hvl := fw_lt (show left ≤ 24 by omega) hv
    have hcl := cst_le T (f := k) (n := n + 1) (by omega)
    rw [hv] at hfe
    replace hfe : fe (129 * left + k + (n + 1)) = nI v := hfe
    have heq : cst T k (n + 1) + v = w := by omega
    unfold pX10_layCut_b111
    simp (disch := omega) only [n_l0, n_l1, n_l2, n_l3, n_l4, n_l5, n_l6, n_l7, n_l8, n_l9, n_l15, n_l16, n_l17, n_l20, n_l24, n_l31, n_l32, n_l33, n_l36, n_l48, n_l49, n_l97, n_l128, n_l129, n_l192, n_l225, n_l256, n_l353, n_l400, n_l512, n_l593, n_l621, n_l640, n_l857, n_l1093, n_l1095, n_l2048, n_l3225, n_l10000, n_l22955, n_l29988, n_l29989, n_l65536, n_l99999, n_l1000000000, n_l2147483647, nI_add, pk_mul, pk_sub, pk_div, nI_clamp, ckN, nI_leI, nI_ltI, nI_eq, nI_nm1, Nat.add_zero, nI_addneg, k_ush, true_or, or_true, false_or, or_false, true_and, and_true, false_and, and_false, not_true_eq_false, not_false_eq_true, if_true, if_false, if_pos, if_neg, Option.bind_some, Nat.add_sub_cancel, hfe, hc1, hfk, heq]
theorem r_follow (hH : H ≤ 128) (hcs : ∀ k n, 1 ≤ n → n ≤ 16 → k + n ≤ H → cs (17 * k + n) = nI (cst T k n)) {fe : Nat → Int32} (hf : ∀ m k, m ≤ 24 → k ≤ H → fe (129 * m + k) = eR (fw T H m k)) {m w : Nat} (hm : m ≤ 24) (hw : fw T H m 0 = some w) (ct0 : Nat → Int32) : ∃ r, lp (pX10_layCut_b90 (nI m) cs fe) FU (nI 0, nI 0, ct0) = some r ∧ ∀ i, i < m → r.2.2 i = nI (sz T H m i) := by
  refine lpE (body := pX10_layCut_b90 (nI m) cs fe) (fun j s => s.1 = nI (kS T H m j) ∧ s.2.1 = nI j ∧ ∀ i, i < j → s.2.2 i = nI (sz T H m i)) _ m (nI 0, nI 0, ct0) ⟨rfl, rfl, fun i hi => absurd hi (Nat.not_lt_zero i)⟩ (fun j s hj hI => ?_)
  obtain ⟨s1, s2, s3⟩ := s
  obtain ⟨g1, g2, g3⟩ := hI
  replace g1 : s1 = nI (kS T H m j) := g1
  replace g2 : s2 = nI j := g2
  replace g3 : ∀ i, i < j → s3 i = nI (sz T H m i) := g3
  subst g1 g2
  unfold pX10_layCut_b90
  rcases Nat.lt_or_ge j m with h9 | h9
  · refine Or.inl ?_
    obtain ⟨v, hv⟩ := kS_ok hw j (by omega)
    obtain ⟨l, hl⟩ : ∃ l, m - j = l + 1 := ⟨m - j - 1, by omega⟩
    have hsz : sz T H m j = lst T H (m - j) (kS T H m j) := rfl
    rw [hl] at hv hsz
    have el := r_lst hH hcs hf (show l + 1 ≤ 24 by omega) hv
    rw [if_neg (show ¬ nI m ≤ nI j by rw [nI_leI (by omega) (by omega)]; omega), pk_sub (by omega), hl, show (1 : Int32) = nI 1 from rfl, el, Option.bind_some, ckN (by omega) (by omega), nI_clamp (by omega), nI_add, nI_add]
    refine ⟨_, rfl, h9, ?_, rfl, fun i hi => ?_⟩
    · rw [kS_s, hsz]
    · show upd s3 j _ i = _
      by_cases hij : i = j
      · subst hij; rw [u_at, hsz]
      · rw [u_ne hij]; exact g3 i (by omega)
  · obtain rfl : j = m := by omega
    refine Or.inr ?_
    rw [if_pos (Int32.le_refl _)]
    exact ⟨_, rfl, g3⟩
/-- the plan: how many blocks, bits, sizes -/
def PF (T : Nat → Option Int32) (H : Nat) (cb_ cf : Int32) (cz : Nat → Int32) : Prop := ∃ m v, bC T H 24 = some (m, v) ∧ cb_ = nI m ∧ cf = nI v ∧ ∀ i, i < m → cz i = nI (sz T H m i)
theorem r_layCut (xv xw xp xs xf xu xt xb : Int32) (vs : Nat → Int32) (ps : Nat → Int64) (hc : c < 3) (hR : RCa a c C) (ho : OKC C) (h1 : 1 ≤ HL C) (cy cz : Int32) (cs fe ct0 : Nat → Int32) : ∃ z, pX10_layCut (nI c) xv xw xp xs xf xu xt xb cy cz a vs ps cs fe ct0 = some z ∧ PF (TV C) (HL C) z.2.2.2.2.2.2.2.2.1 z.2.2.2.2.2.2.2.2.2.1 z.2.2.2.2.2.2.2.2.2.2.2.2.2.2 := by
  have hl := ho.2.1
  obtain ⟨y, ey, hy⟩ := r_layCosts xv xw xp xs xf xu xt xb vs ps hc hR ho cs
  obtain ⟨f2, ef, hf⟩ := r_layFewest hl hy fe
  obtain ⟨r, er, hr⟩ := r_bC hf cy
  obtain ⟨x, hx⟩ := bC_ex (T := TV C) h1 hl
  rw [hx] at hr
  obtain ⟨b1, b2, b3⟩ := bC_ok 24 x hx
  obtain ⟨q, eq, hq⟩ := r_follow hl hy hf b2 b3 ct0
  unfold pX10_layCut
  rw [r_places hc hR ho.1, Option.bind_some, eHL, ey, Option.bind_some, ef, Option.bind_some, show (1 : Int32) = nI 1 from rfl, er, Option.bind_some, hr.1, n_l0, eq, Option.bind_some]
  exact ⟨_, rfl, x.1, x.2, hx, rfl, hr.2, hq⟩
end RCut
