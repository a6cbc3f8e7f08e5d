/-! ===== copy ===== -/
section Q
variable {c c2 : Nat} {a : Nat → Int32} {v1 v2 v3 v4 bk hd bk2 hd2 : Int32} {tl tl2 : Nat → Int64} {fc fc2 : Nat → Int32} {C C2 : AC} {xc : Nat → Option Nat}
theorem nar_0 : vp_nar .boolean (nI 0) = nI 0 := rfl
theorem nar_1 : vp_nar .boolean (nI 1) = nI 1 := rfl
theorem nar_ee (t : Option Int32) : vp_nar .boolean (ee t) = ee t := by
  cases t with
  | none => exact nar_1
  | some v => exact nar_0
theorem r_copyN (hc : c < 3) (hR : RCa a c C) (hl : HL C ≤ 128) {f t : Nat} (hft : f ≤ t) (ht : t ≤ HL C) {mg gp : Nat → Int32} (hg : ∀ i, i < 256 → gp i = 0) : ∃ r, lp (pX10_copy_b62 (nI c) (nI f) (nI t) a) FU (nI f, mg, gp) = some r ∧ (∀ i, i < t - f → r.2.1 i = vv (TV C (f + i)) ∧ r.2.2 i = ee (TV C (f + i))) ∧ ∀ i, t - f ≤ i → i < 256 → r.2.2 i = 0 := by
  refine lpE (body := pX10_copy_b62 (nI c) (nI f) (nI t) a) (fun k s => s.1 = nI (f + k) ∧ (∀ i, i < k → s.2.1 i = vv (TV C (f + i)) ∧ s.2.2 i = ee (TV C (f + i))) ∧ ∀ i, k ≤ i → i < 256 → s.2.2 i = 0) _ (t - f) (nI f, mg, gp) ⟨rfl, fun i hi => absurd hi (Nat.not_lt_zero i), fun i _ hi => hg i hi⟩ (fun k s hk hI => ?_)
  obtain ⟨s1, s2, s3⟩ := s
  obtain ⟨h1, h2, h3⟩ := hI
  replace h1 : s1 = nI (f + k) := h1
  replace h2 : ∀ i, i < k → s2 i = vv (TV C (f + i)) ∧ s3 i = ee (TV C (f + i)) := h2
  replace h3 : ∀ i, k ≤ i → i < 256 → s3 i = 0 := h3
  subst h1
  unfold pX10_copy_b62
  rcases Nat.lt_or_ge k (t - f) with h9 | h9
  · refine Or.inl ?_
    simp (disch := omega) only [n_l0, n_l1, n_l2, n_l3, n_l4, n_l5, n_l6, n_l7, n_l8, n_l9, n_l15, n_l16, n_l17, n_l20, n_l24, n_l31, n_l32, n_l33, n_l36, n_l48, n_l49, n_l97, n_l128, n_l129, n_l192, n_l225, n_l256, n_l353, n_l400, n_l512, n_l593, n_l621, n_l640, n_l857, n_l1093, n_l1095, n_l2048, n_l3225, n_l10000, n_l22955, n_l29988, n_l29989, n_l65536, n_l99999, n_l1000000000, n_l2147483647, nI_add, pk_mul, pk_sub, pk_div, nI_clamp, ckN, nI_leI, nI_ltI, nI_eq, nI_nm1, Nat.add_zero, nI_addneg, k_ush, true_or, or_true, false_or, or_false, true_and, and_true, false_and, and_false, not_true_eq_false, not_false_eq_true, if_true, if_false, if_pos, if_neg, Option.bind_some, r_value hc hR (show f + k < HL C by omega) hl, r_empty hc hR (show f + k < HL C by omega) hl, show f + k - f = k by omega]
    refine ⟨_, rfl, h9, rfl, fun i hi => ?_, fun i h5 h6 => ?_⟩
    · show upd s2 k _ i = _ ∧ upd s3 k _ i = _
      by_cases hik : i = k
      · subst hik; rw [u_at, u_at, nar_ee]; exact ⟨rfl, rfl⟩
      · rw [u_ne hik, u_ne hik]; exact h2 i (by omega)
    · show upd s3 k _ i = 0
      rw [u_ne (by omega)]; exact h3 i (by omega) h6
  · obtain rfl : k = t - f := by omega
    refine Or.inr ?_
    simp (disch := omega) only [n_l0, n_l1, n_l2, n_l3, n_l4, n_l5, n_l6, n_l7, n_l8, n_l9, n_l15, n_l16, n_l17, n_l20, n_l24, n_l31, n_l32, n_l33, n_l36, n_l48, n_l49, n_l97, n_l128, n_l129, n_l192, n_l225, n_l256, n_l353, n_l400, n_l512, n_l593, n_l621, n_l640, n_l857, n_l1093, n_l1095, n_l2048, n_l3225, n_l10000, n_l22955, n_l29988, n_l29989, n_l65536, n_l99999, n_l1000000000, n_l2147483647, nI_add, pk_mul, pk_sub, pk_div, nI_clamp, ckN, nI_leI, nI_ltI, nI_eq, nI_nm1, Nat.add_zero, nI_addneg, k_ush, true_or, or_true, false_or, or_false, true_and, and_true, false_and, and_false, not_true_eq_false, not_false_eq_true, if_true, if_false, if_pos, if_neg, Option.bind_some, show f + (t - f) = t by omega]
    exact ⟨_, rfl, h2, h3⟩
/-- what a span is -/
theorem span_cases (v w : Int32) {H : Nat} (hH : H < 2 ^ 31) : (∃ f t : Nat, f < t ∧ t ≤ H ∧ v = nI f ∧ w = nI t) ∨ v < nI 0 ∨ (¬ v < nI 0 ∧ w ≤ v) ∨ (¬ v < nI 0 ∧ ¬ w ≤ v ∧ ¬ w ≤ nI H) := by
  by_cases h1 : v < nI 0
  · exact Or.inr (Or.inl h1)
  · by_cases h2 : w ≤ v
    · exact Or.inr (Or.inr (Or.inl ⟨h1, h2⟩))
    · by_cases h3 : w ≤ nI H
      · obtain ⟨f, t, q1, q2, rfl, rfl⟩ := span_ok hH h1 (fun q => h2 (Int32.le_of_lt q)) h3
        refine Or.inl ⟨f, t, ?_, q2, rfl, rfl⟩
        rw [nI_leI (by omega) (by omega)] at h2
        omega
      · exact Or.inr (Or.inr (Or.inr ⟨h1, h2, h3⟩))
/-- the reference's copy, where it can be -/
theorem r_copyY (xv xw xp xs xf xu xt xb : Int32) (vs : Nat → Int32) (ps : Nat → Int64) {f0 h0 f t : Nat} {mg gp : Nat → Int32} (hg : ∀ i, i < 256 → gp i = 0) (ha0 : a 0 = nI h0) (ha1 : a 1 = nI f0) (hh : h0 ≤ 20) (hf0 : f0 < 20) (hc : c < 3) (hR : RCa a c C) (ho : OKC C) (hc2 : c2 < 3) (hR2 : RCa a c2 C2) (ho2 : OKC C2) (hft : f < t) (ht : t ≤ HL C) (hroom : HL C2 + (t - f) ≤ 128 ∧ NB C2 + (t - f + 15) / 16 ≤ 24) :
    ∃ z a1, pX10_copy (nI c) (nI f) (nI t) (nI c2) xv xw xp xs xf xu xt xb a vs ps mg gp = some z ∧ z.1 = nI ((t - f + 15) / 16) ∧ pX10_keep a = some a1 ∧ FR c2 a1 z.2.2.2.2.2.2.2.2.2.1 ∧ RCa z.2.2.2.2.2.2.2.2.2.1 c2 (slN (reT C2 (apT (TV C2) (HL C2) (fun i => TV C (f + i)))) (HL C2 + (t - f)) ((t - f + 15) / 16)) ∧ ∀ i, i < 256 → z.2.2.2.2.2.2.2.2.2.2.2.2.2 i = 0 := by
  have hn := ho.1
  have hl := ho.2.1
  have hl2 := ho2.2.1
  obtain ⟨a1, ek, hK⟩ := r_keep ha0 ha1 hh hf0
  have hR1 := RC_now hc ho hK.2.2.1 hR
  have hR21 := RC_now hc2 ho2 hK.2.2.1 hR2
  obtain ⟨r, er, r1, r2⟩ := r_copyN (mg := mg) (gp := gp) hc hR1 hl (Nat.le_of_lt hft) ht hg
  obtain ⟨z, ez, z1, z2, z3⟩ := r_comeAll (C := reT C2 (apT (TV C2) (HL C2) (fun i => TV C (f + i)))) xv xw xp xs xf xu xt xb vs ps hc2 (n := t - f) (m := (t - f + 15) / 16) (mg := r.2.1) (gp := r.2.2) (re_RC hR21) (re_OK (fun k hk => apT_lo hk) ho2) hroom.1 rfl hroom.2 (fun i hi => by
    rw [re_HL, re_TV, apT_hi]
    refine ⟨(r1 i hi).2, fun v hv => ?_⟩
    rw [(r1 i hi).1, hv]; rfl) r2
  rw [re_HL] at z1
  unfold pX10_copy
  rw [r_isCol hc, Option.bind_some, if_neg (show ¬ nI 1 = 0 by decide), r_isCol hc2, Option.bind_some, if_neg (show ¬ nI 1 = 0 by decide), if_neg (nI_pos (by omega)), if_neg (show ¬ nI t ≤ nI f by rw [nI_leI (by omega) (by omega)]; omega), r_places hc hR hn, Option.bind_some, eHL, if_pos (nI_le ht (by omega)), pk_sub (by omega), blk16 (by omega), Option.bind_some, r_room hc2 hR2 ho2.1 (by omega) (by omega) hl2, Option.bind_some, if_pos hroom, if_neg (show ¬ nI 1 = 0 by decide), ek, Option.bind_some, er, Option.bind_some, ez, Option.bind_some, Option.bind_some]
  exact ⟨_, a1, rfl, rfl, rfl, z2, z1, z3⟩
/-- and where it can't -/
theorem r_copyN1 (xv xw xp xs xf xu xt xb : Int32) (vs : Nat → Int32) (ps : Nat → Int64) {mg gp : Nat → Int32} (hc : c < 3) (hR : RCa a c C) (ho : OKC C) (hc2 : c2 < 3) (hR2 : RCa a c2 C2) (ho2 : OKC C2) (h : v2 < nI 0 ∨ (¬ v2 < nI 0 ∧ v3 ≤ v2) ∨ (¬ v2 < nI 0 ∧ ¬ v3 ≤ v2 ∧ ¬ v3 ≤ nI (HL C)) ∨ ∃ f t : Nat, f < t ∧ t ≤ HL C ∧ v2 = nI f ∧ v3 = nI t ∧ ¬ (HL C2 + (t - f) ≤ 128 ∧ NB C2 + (t - f + 15) / 16 ≤ 24)) :
    pX10_copy (nI c) v2 v3 (nI c2) xv xw xp xs xf xu xt xb a vs ps mg gp = some (-1, xv, xw, xp, xs, xf, xu, xt, xb, a, vs, ps, mg, gp) := by
  have hn := ho.1
  have hl := ho.2.1
  unfold pX10_copy
  rw [r_isCol hc, Option.bind_some, if_neg (show ¬ nI 1 = 0 by decide), r_isCol hc2, Option.bind_some, if_neg (show ¬ nI 1 = 0 by decide)]
  rcases h with h | ⟨h1, h2⟩ | ⟨h1, h2, h3⟩ | ⟨f, t, hft, ht, rfl, rfl, hroom⟩
  · rw [if_pos (show v2 < 0 from h)]
  · rw [if_neg (show ¬ v2 < 0 from h1), if_pos h2]
  · rw [if_neg (show ¬ v2 < 0 from h1), if_neg h2, r_places hc hR hn, Option.bind_some, eHL, if_neg h3]
  · rw [if_neg (nI_pos (by omega)), if_neg (show ¬ nI t ≤ nI f by rw [nI_leI (by omega) (by omega)]; omega), r_places hc hR hn, Option.bind_some, eHL, if_pos (nI_le ht (by omega)), pk_sub (by omega), blk16 (by omega), Option.bind_some, r_room hc2 hR2 ho2.1 (by omega) (by omega) ho2.2.1, Option.bind_some, if_neg hroom, if_pos (show nI 0 = 0 from rfl)]
theorem k_spans0 {H : Nat} (hH : H < 2 ^ 31) (h : v2 < nI 0 ∨ (¬ v2 < nI 0 ∧ v3 ≤ v2) ∨ (¬ v2 < nI 0 ∧ ¬ v3 ≤ v2 ∧ ¬ v3 ≤ nI H)) : pX5_spans v2 v3 (nI H) = some (nI 0) ∨ v2 = v3 := by
  unfold pX5_spans
  rcases h with h | ⟨h1, h2⟩ | ⟨h1, h2, h3⟩
  · exact Or.inl (by rw [if_pos (show v2 < 0 from h)]; rfl)
  · by_cases he : v2 = v3
    · exact Or.inr he
    · have hlt : v3 < v2 := by
        refine Int32.lt_iff_toInt_lt.mpr ?_
        have h4 := Int32.le_iff_toInt_le.mp h2
        rcases Int.lt_or_le v3.toInt v2.toInt with h5 | h5
        · exact h5
        · exact absurd (Int32.toInt_inj.mp (by omega)) he
      exact Or.inl (by rw [if_neg (show ¬ v2 < 0 from h1), if_pos hlt]; rfl)
  · refine Or.inl ?_
    rw [if_neg (show ¬ v2 < 0 from h1), if_neg (fun q => h2 (Int32.le_of_lt q)), if_pos (Int32.not_le.mp h3)]; rfl
theorem k_spans1 {H f t : Nat} (hft : f < t) (ht : t ≤ H) (hH : H < 2 ^ 31) : pX5_spans (nI f) (nI t) (nI H) = some (nI 1) := by
  unfold pX5_spans
  simp (disch := omega) only [n_l0, n_l1, n_l2, n_l3, n_l4, n_l5, n_l6, n_l7, n_l8, n_l9, n_l15, n_l16, n_l17, n_l20, n_l24, n_l31, n_l32, n_l33, n_l36, n_l48, n_l49, n_l97, n_l128, n_l129, n_l192, n_l225, n_l256, n_l353, n_l400, n_l512, n_l593, n_l621, n_l640, n_l857, n_l1093, n_l1095, n_l2048, n_l3225, n_l10000, n_l22955, n_l29988, n_l29989, n_l65536, n_l99999, n_l1000000000, n_l2147483647, nI_add, pk_mul, pk_sub, pk_div, nI_clamp, ckN, nI_leI, nI_ltI, nI_eq, nI_nm1, Nat.add_zero, nI_addneg, k_ush, true_or, or_true, false_or, or_false, true_and, and_true, false_and, and_false, not_true_eq_false, not_false_eq_true, if_true, if_false, if_pos, if_neg, Option.bind_some, nI_pos]
theorem q_copy (xv xw xp xs xf xu xt xb : Int32) (vs : Nat → Int32) (ps : Nat → Int64) (m1 m2 m3 m4 m5 m6 m7 m8 m9 m10 m11 : Int32) (n1 n2 n3 : Nat → Int32) {f0 h0 : Nat} {mg gp : Nat → Int32} (hg : ∀ i, i < 256 → gp i = 0) (ha0 : a 0 = nI h0) (ha1 : a 1 = nI f0) (hh : h0 ≤ 20) (hf0 : f0 < 20) (h : COL a v1 bk hd tl fc C) (h2 : COL a v4 bk2 hd2 tl2 fc2 C2) :
    ∃ z w, pX10_copy v1 v2 v3 v4 xv xw xp xs xf xu xt xb a vs ps mg gp = some z ∧ pX9_copy 16 128 128 v1 v2 v3 v4 xc m1 m2 m3 m4 m5 m6 m7 m8 m9 m10 m11 n1 n2 n3 hd tl bk2 hd2 tl2 fc2 = some w ∧ w.1 = z.1 ∧ (∀ i, i < 256 → z.2.2.2.2.2.2.2.2.2.2.2.2.2 i = 0) ∧ MU a v4 w.2.1 z.2.2.2.2.2.2.2.2.2.1 w.2.2.2.2.2.2.2.2.2.2.2.2.2.2.2.2.1 w.2.2.2.2.2.2.2.2.2.2.2.2.2.2.2.2.2.1 w.2.2.2.2.2.2.2.2.2.2.2.2.2.2.2.2.2.2.1 w.2.2.2.2.2.2.2.2.2.2.2.2.2.2.2.2.2.2.2 := by
  have h2' := h2
  obtain ⟨⟨rfl, rfl, hT, hP, hF⟩, ho, hr⟩ := h
  obtain ⟨⟨rfl, rfl, hT2, hP2, hF2⟩, ho2, hr2⟩ := h2
  have hl := ho.2.1
  unfold pX9_copy
  rcases col_cases v1 with ⟨c, hc, rfl⟩ | hv
  · have hR := hr c hc rfl
    rcases col_cases v4 with ⟨c2, hc2, rfl⟩ | hv4
    · have hR2 := hr2 c2 hc2 rfl
      rw [k_col hc, Option.bind_some, if_pos rfl, k_col hc2, Option.bind_some, if_pos rfl]
      rcases span_cases v2 v3 (H := HL C) (by omega) with ⟨f, t, hft, ht, rfl, rfl⟩ | hno
      · rw [k_spans1 hft ht (by omega), Option.bind_some, if_neg (show ¬ nI 1 = 0 by decide), if_neg (fun q => by have := (nI_eq (by omega) (by omega)).mp q; omega), pk_sub (by omega), kblk16 (by omega), Option.bind_some, k_room ho2.1 (by omega) (by omega) ho2.2.1, Option.bind_some]
        by_cases hroom : HL C2 + (t - f) ≤ 128 ∧ NB C2 + (t - f + 15) / 16 ≤ 24
        · obtain ⟨z, a1, ez, z0, ek, z1, z2, z3⟩ := r_copyY xv xw xp xs xf xu xt xb vs ps (mg := mg) hg ha0 ha1 hh hf0 hc hR ho hc2 hR2 ho2 hft ht hroom
          obtain ⟨t2, et, ht2⟩ := k_appendFrom (T := TV C2) (tl := tl2) (N2 := 128) (H := HL C2) (OH := HL C) (f := f) (t := t) (ol := tl) (S := TV C) (by omega) hl hT (by omega) ht hT2 hroom.1
          obtain ⟨w, ew, w1, w2, hKC⟩ := k_come (C := C2) (fc := fc2) (t2 := t2) m1 m2 m3 m4 m5 m6 m7 m8 m9 m10 m11 n1 n2 n3 ho2 hP2 hF2 hroom.1 hroom.2 ht2
          rw [if_pos hroom, if_neg (show ¬ nI 1 = 0 by decide), et, Option.bind_some, ew, Option.bind_some]
          refine ⟨z, _, ez, rfl, by rw [z0]; exact w1, z3, MU_yes hc2 ek z1 ?_ (come_OK ho2 hroom.1 hroom.2) z2⟩
          show KC w.2.1 _ _ _ _
          rw [w2]; exact hKC
        · rw [if_neg hroom, if_pos (show nI 0 = 0 from rfl)]
          exact ⟨_, _, r_copyN1 xv xw xp xs xf xu xt xb vs ps hc hR ho hc2 hR2 ho2 (Or.inr (Or.inr (Or.inr ⟨f, t, hft, ht, rfl, rfl, hroom⟩))), rfl, rfl, hg, MU_no h2'⟩
      · have hrc := r_copyN1 xv xw xp xs xf xu xt xb vs ps (mg := mg) (gp := gp) hc hR ho hc2 hR2 ho2 (v2 := v2) (v3 := v3) (by
          rcases hno with q | q | q
          · exact Or.inl q
          · exact Or.inr (Or.inl q)
          · exact Or.inr (Or.inr (Or.inl q)))
        rcases k_spans0 (H := HL C) (by omega) hno with q | q
        · rw [q, Option.bind_some, if_pos (show nI 0 = 0 from rfl)]
          exact ⟨_, _, hrc, rfl, rfl, hg, MU_no h2'⟩
        · cases hsp : pX5_spans v2 v3 (nI (HL C)) with
          | none =>
            exfalso
            unfold pX5_spans at hsp
            split at hsp
            · cases hsp
            · split at hsp
              · cases hsp
              · split at hsp <;> cases hsp
          | some k32 =>
            rw [Option.bind_some, if_pos q]
            split <;> exact ⟨_, _, hrc, rfl, rfl, hg, MU_no h2'⟩
    · unfold pX10_copy
      simp (disch := omega) only [n_l0, n_l1, n_l2, n_l3, n_l4, n_l5, n_l6, n_l7, n_l8, n_l9, n_l15, n_l16, n_l17, n_l20, n_l24, n_l31, n_l32, n_l33, n_l36, n_l48, n_l49, n_l97, n_l128, n_l129, n_l192, n_l225, n_l256, n_l353, n_l400, n_l512, n_l593, n_l621, n_l640, n_l857, n_l1093, n_l1095, n_l2048, n_l3225, n_l10000, n_l22955, n_l29988, n_l29989, n_l65536, n_l99999, n_l1000000000, n_l2147483647, nI_add, pk_mul, pk_sub, pk_div, nI_clamp, ckN, nI_leI, nI_ltI, nI_eq, nI_nm1, Nat.add_zero, nI_addneg, k_ush, true_or, or_true, false_or, or_false, true_and, and_true, false_and, and_false, not_true_eq_false, not_false_eq_true, if_true, if_false, if_pos, if_neg, Option.bind_some, r_isCol hc, k_col hc, r_isColO hv4, k_colO hv4, Bool.false_eq_true]
      exact ⟨_, _, rfl, rfl, rfl, hg, MU_no h2'⟩
  · unfold pX10_copy
    rcases col_cases v4 with ⟨c2, hc2, rfl⟩ | hv4
    · simp (disch := omega) only [n_l0, n_l1, n_l2, n_l3, n_l4, n_l5, n_l6, n_l7, n_l8, n_l9, n_l15, n_l16, n_l17, n_l20, n_l24, n_l31, n_l32, n_l33, n_l36, n_l48, n_l49, n_l97, n_l128, n_l129, n_l192, n_l225, n_l256, n_l353, n_l400, n_l512, n_l593, n_l621, n_l640, n_l857, n_l1093, n_l1095, n_l2048, n_l3225, n_l10000, n_l22955, n_l29988, n_l29989, n_l65536, n_l99999, n_l1000000000, n_l2147483647, nI_add, pk_mul, pk_sub, pk_div, nI_clamp, ckN, nI_leI, nI_ltI, nI_eq, nI_nm1, Nat.add_zero, nI_addneg, k_ush, true_or, or_true, false_or, or_false, true_and, and_true, false_and, and_false, not_true_eq_false, not_false_eq_true, if_true, if_false, if_pos, if_neg, Option.bind_some, r_isColO hv, k_colO hv, k_col hc2, Bool.false_eq_true]
      exact ⟨_, _, rfl, rfl, rfl, hg, MU_no h2'⟩
    · simp (disch := omega) only [n_l0, n_l1, n_l2, n_l3, n_l4, n_l5, n_l6, n_l7, n_l8, n_l9, n_l15, n_l16, n_l17, n_l20, n_l24, n_l31, n_l32, n_l33, n_l36, n_l48, n_l49, n_l97, n_l128, n_l129, n_l192, n_l225, n_l256, n_l353, n_l400, n_l512, n_l593, n_l621, n_l640, n_l857, n_l1093, n_l1095, n_l2048, n_l3225, n_l10000, n_l22955, n_l29988, n_l29989, n_l65536, n_l99999, n_l1000000000, n_l2147483647, nI_add, pk_mul, pk_sub, pk_div, nI_clamp, ckN, nI_leI, nI_ltI, nI_eq, nI_nm1, Nat.add_zero, nI_addneg, k_ush, true_or, or_true, false_or, or_false, true_and, and_true, false_and, and_false, not_true_eq_false, not_false_eq_true, if_true, if_false, if_pos, if_neg, Option.bind_some, r_isColO hv, k_colO hv, k_colO hv4, Bool.false_eq_true]
      exact ⟨_, _, rfl, rfl, rfl, hg, MU_no h2'⟩
theorem q_copy_s (xv xw xp xs xf xu xt xb : Int32) (vs : Nat → Int32) (ps : Nat → Int64) (m1 m2 m3 m4 m5 m6 m7 m8 m9 m10 m11 : Int32) (n1 n2 n3 : Nat → Int32) {f0 h0 : Nat} {mg gp : Nat → Int32} (hg : ∀ i, i < 256 → gp i = 0) (ha0 : a 0 = nI h0) (ha1 : a 1 = nI f0) (hh : h0 ≤ 20) (hf0 : f0 < 20) (hc : c < 3) (h : COL a (nI c) bk hd tl fc C) :
    ∃ z w, pX10_copy (nI c) v2 v3 (nI c) xv xw xp xs xf xu xt xb a vs ps mg gp = some z ∧ pX9_copy_s 16 128 (nI c) v2 v3 (nI c) xc m1 m2 m3 m4 m5 m6 m7 m8 m9 m10 m11 n1 n2 n3 bk hd tl fc = some w ∧ w.1 = z.1 ∧ (∀ i, i < 256 → z.2.2.2.2.2.2.2.2.2.2.2.2.2 i = 0) ∧ MU a (nI c) w.2.1 z.2.2.2.2.2.2.2.2.2.1 w.2.2.2.2.2.2.2.2.2.2.2.2.2.2.2.2.1 w.2.2.2.2.2.2.2.2.2.2.2.2.2.2.2.2.2.1 w.2.2.2.2.2.2.2.2.2.2.2.2.2.2.2.2.2.2.1 w.2.2.2.2.2.2.2.2.2.2.2.2.2.2.2.2.2.2.2 := by
  have h2' := h
  obtain ⟨⟨rfl, rfl, hT, hP, hF⟩, ho, hr⟩ := h
  have hl := ho.2.1
  have hR := hr c hc rfl
  unfold pX9_copy_s
  rw [k_col hc, Option.bind_some, if_pos rfl, Option.bind_some, if_pos rfl]
  rcases span_cases v2 v3 (H := HL C) (by omega) with ⟨f, t, hft, ht, rfl, rfl⟩ | hno
  · rw [k_spans1 hft ht (by omega), Option.bind_some, if_neg (show ¬ nI 1 = 0 by decide), if_neg (fun q => by have := (nI_eq (by omega) (by omega)).mp q; omega), pk_sub (by omega), kblk16 (by omega), Option.bind_some, k_room ho.1 (by omega) (by omega) ho.2.1, Option.bind_some]
    by_cases hroom : HL C + (t - f) ≤ 128 ∧ NB C + (t - f + 15) / 16 ≤ 24
    · obtain ⟨z, a1, ez, z0, ek, z1, z2, z3⟩ := r_copyY xv xw xp xs xf xu xt xb vs ps (mg := mg) hg ha0 ha1 hh hf0 hc hR ho hc hR ho hft ht hroom
      obtain ⟨t2, et, ht2⟩ := k_appendFromS (T := TV C) (tl := tl) (H := HL C) (f := f) (t := t) (by omega) ht hT hroom.1
      obtain ⟨w, ew, w1, w2, hKC⟩ := k_come (C := C) (fc := fc) (t2 := t2) m1 m2 m3 m4 m5 m6 m7 m8 m9 m10 m11 n1 n2 n3 ho hP hF hroom.1 hroom.2 ht2
      rw [if_pos hroom, if_neg (show ¬ nI 1 = 0 by decide), et, Option.bind_some, ew, Option.bind_some]
      refine ⟨z, _, ez, rfl, by rw [z0]; exact w1, z3, MU_yes hc ek z1 ?_ (come_OK ho hroom.1 hroom.2) z2⟩
      show KC w.2.1 _ _ _ _
      rw [w2]; exact hKC
    · rw [if_neg hroom, if_pos (show nI 0 = 0 from rfl)]
      exact ⟨_, _, r_copyN1 xv xw xp xs xf xu xt xb vs ps hc hR ho hc hR ho (Or.inr (Or.inr (Or.inr ⟨f, t, hft, ht, rfl, rfl, hroom⟩))), rfl, rfl, hg, MU_no h2'⟩
  · have hrc := r_copyN1 xv xw xp xs xf xu xt xb vs ps (mg := mg) (gp := gp) hc hR ho hc hR ho (v2 := v2) (v3 := v3) (by
      rcases hno with q | q | q
      · exact Or.inl q
      · exact Or.inr (Or.inl q)
      · exact Or.inr (Or.inr (Or.inl q)))
    rcases k_spans0 (H := HL C) (by omega) hno with q | q
    · rw [q, Option.bind_some, if_pos (show nI 0 = 0 from rfl)]
      exact ⟨_, _, hrc, rfl, rfl, hg, MU_no h2'⟩
    · cases hsp : pX5_spans v2 v3 (nI (HL C)) with
      | none =>
        exfalso
        unfold pX5_spans at hsp
        split at hsp
        · cases hsp
        · split at hsp
          · cases hsp
          · split at hsp <;> cases hsp
      | some k32 =>
        rw [Option.bind_some, if_pos q]
        split <;> exact ⟨_, _, hrc, rfl, rfl, hg, MU_no h2'⟩
end Q
