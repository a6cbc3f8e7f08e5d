/-! ===== bits, save ===== -/
section Wr
variable {c : Nat} {a : Nat → Int32} {v1 v2 v3 bk hd : Int32} {tl : Nat → Int64} {fc : Nat → Int32} {C : AC} {xc : Nat → Option Nat}
theorem wds_20 {C : AC} {b : Nat} (h : okb C b) : wds (ct C b) ≤ 20 := by
  have := (ct_621 h).1
  unfold wds; omega
theorem k_wordAt {i t : Nat} (hi : i < wds t) (h20 : i < 20) (ht : t < 2 ^ 30) (wc : Nat → Int32) : pX6_wordAt (nI i) (nI t) wc = some (wc i) := by
  have h := k_words ht
  unfold wds at hi
  unfold pX6_wordAt
  simp (disch := omega) only [n_l0, n_l1, n_l2, n_l3, n_l4, n_l5, n_l6, n_l7, n_l8, n_l9, n_l15, n_l16, n_l17, n_l20, n_l24, n_l31, n_l32, n_l33, n_l36, n_l48, n_l49, n_l97, n_l128, n_l129, n_l192, n_l225, n_l256, n_l353, n_l400, n_l512, n_l593, n_l621, n_l640, n_l857, n_l1093, n_l1095, n_l2048, n_l3225, n_l10000, n_l22955, n_l29988, n_l29989, n_l65536, n_l99999, n_l1000000000, n_l2147483647, nI_add, pk_mul, pk_sub, pk_div, nI_clamp, ckN, nI_leI, nI_ltI, nI_eq, nI_nm1, Nat.add_zero, nI_addneg, k_ush, true_or, or_true, false_or, or_false, true_and, and_true, false_and, and_false, not_true_eq_false, not_false_eq_true, if_true, if_false, if_pos, if_neg, Option.bind_some, h, nI_pos]
theorem k_wordAtO {v : Int32} {t : Nat} (hi : inO v (wds t)) (ht : t < 2 ^ 30) (wc : Nat → Int32) : pX6_wordAt v (nI t) wc = some (nI 0) := by
  have h := k_words ht
  unfold pX6_wordAt
  rw [h, Option.bind_some]
  rcases hi with hi | hi
  · rw [if_pos hi]; rfl
  · rw [if_pos (show nI ((t + 31) / 32) ≤ v from hi)]
    split <;> rfl
theorem q_bits (xv xw xp xs : Int32) (vs : Nat → Int32) (ps : Nat → Int64) (m1 m2 m3 m4 m5 : Int32) (n1 n2 n3 : Nat → Int32) (xn xat : Int32) (ws wc : Nat → Int32) (h : COL a v1 bk hd tl fc C) : ∃ z w, pX10_bits v1 v2 v3 xv xw xp xs xn a vs ps ws = some z ∧ pX9_bits 128 v1 v2 v3 xc m1 m2 m3 m4 m5 n1 n2 n3 xat wc bk hd tl fc = some w ∧ w.1 = z.1 := by
  obtain ⟨⟨rfl, rfl, hT, hP, hF⟩, ho, hr⟩ := h
  have hn := ho.1
  have hl := ho.2.1
  have hH : ∀ k, k < HL C → tl k = enc (TV C k) := hT
  unfold pX10_bits pX9_bits
  rcases col_cases v1 with ⟨c, hc, rfl⟩ | hv
  · have hR := hr c hc rfl
    rcases ix_cases v2 (n := NB C) (by omega) with ⟨b, hb, rfl⟩ | hb
    · obtain ⟨z, w, ez, z1, ew, w1, hE⟩ := s_words (tl := tl) (fc := fc) xv xw xp xs vs ps m1 m2 m3 m4 m5 n1 n2 n3 xn xat ws wc hc hR ho hT hP hF hb
      have h20 := wds_20 (ho.2.2 b hb)
      have h621 := (ct_621 (ho.2.2 b hb)).1
      rw [r_isBlock hc hR ho hb, k_withBlock hc hb hn, Option.bind_some, Option.bind_some, if_neg (show ¬ nI 1 = 0 by decide), if_pos rfl, ez, ew, Option.bind_some, Option.bind_some, z1, w1]
      rcases ix_cases v3 (n := wds (ct C b)) (by omega) with ⟨i, hi, rfl⟩ | hi
      · rw [show pX10_isIn (nI i) 0 (nI (wds (ct C b)) - 1) = some (nI 1) from r_within (by omega) hi, k_wordAt hi (by omega) (by omega), Option.bind_some, if_neg (show ¬ nI 1 = 0 by decide), ckN (show i < 24 by omega) (by omega), nI_clamp (by omega)]
        exact ⟨_, _, rfl, rfl, (hE i (by omega)).symm⟩
      · rw [show pX10_isIn v3 0 (nI (wds (ct C b)) - 1) = some (nI 0) from r_below (by omega) hi, k_wordAtO hi (by omega), Option.bind_some, if_pos (show nI 0 = 0 from rfl)]
        exact ⟨_, _, rfl, rfl, rfl⟩
    · simp (disch := omega) only [n_l0, n_l1, n_l2, n_l3, n_l4, n_l5, n_l6, n_l7, n_l8, n_l9, n_l15, n_l16, n_l17, n_l20, n_l24, n_l31, n_l32, n_l33, n_l36, n_l48, n_l49, n_l97, n_l128, n_l129, n_l192, n_l225, n_l256, n_l353, n_l400, n_l512, n_l593, n_l621, n_l640, n_l857, n_l1093, n_l1095, n_l2048, n_l3225, n_l10000, n_l22955, n_l29988, n_l29989, n_l65536, n_l99999, n_l1000000000, n_l2147483647, nI_add, pk_mul, pk_sub, pk_div, nI_clamp, ckN, nI_leI, nI_ltI, nI_eq, nI_nm1, Nat.add_zero, nI_addneg, k_ush, true_or, or_true, false_or, or_false, true_and, and_true, false_and, and_false, not_true_eq_false, not_false_eq_true, if_true, if_false, if_pos, if_neg, Option.bind_some, r_isCol hc, r_blocks hc hR, r_places hc hR hn, eHL, k_col hc, r_isBlockO hc hR ho hb, k_withBlockO hc hb, Bool.false_eq_true]
      exact ⟨_, _, rfl, rfl, rfl⟩
  · simp (disch := omega) only [n_l0, n_l1, n_l2, n_l3, n_l4, n_l5, n_l6, n_l7, n_l8, n_l9, n_l15, n_l16, n_l17, n_l20, n_l24, n_l31, n_l32, n_l33, n_l36, n_l48, n_l49, n_l97, n_l128, n_l129, n_l192, n_l225, n_l256, n_l353, n_l400, n_l512, n_l593, n_l621, n_l640, n_l857, n_l1093, n_l1095, n_l2048, n_l3225, n_l10000, n_l22955, n_l29988, n_l29989, n_l65536, n_l99999, n_l1000000000, n_l2147483647, nI_add, pk_mul, pk_sub, pk_div, nI_clamp, ckN, nI_leI, nI_ltI, nI_eq, nI_nm1, Nat.add_zero, nI_addneg, k_ush, true_or, or_true, false_or, or_false, true_and, and_true, false_and, and_false, not_true_eq_false, not_false_eq_true, if_true, if_false, if_pos, if_neg, Option.bind_some, r_isColO hv, k_colO hv, r_isBlockC hv, k_withBlockC hv, Bool.false_eq_true]
    exact ⟨_, _, rfl, rfl, rfl⟩
theorem s_send {T n t : Nat} (hn : n = wds t) (h20 : n ≤ 20) (ht : t < 2 ^ 30) (hT : T + n ≤ 400) {wr wc tw hw : Nat → Int32} (hE : EW wr wc) (he : ∀ i, i < T → hw i = tw i) : ∃ r w, lp (pX10_save_b35 (nI n) wr) FU (nI 0, nI T, tw) = some r ∧ r.2.1 = nI (T + n) ∧ pX6_sendTo (nI t) wc (nI T) hw = some (nI (T + n), w) ∧ ∀ i, i < T + n → w i = r.2.2 i := by
  obtain ⟨r, r2, e1, e2, h1, h2, h3⟩ := lp2S (body := pX10_save_b35 (nI n) wr) (body2 := pX6_sendTo_b10 (nI n) (nI t) wc) (fun k s s2 => s.1 = nI k ∧ s2.1 = nI k ∧ s.2.1 = nI (T + k) ∧ s2.2.1 = nI (T + k) ∧ ∀ i, i < T + k → s2.2.2 i = s.2.2 i) (fun r r2 => r.2.1 = nI (T + n) ∧ r2.2.1 = nI (T + n) ∧ ∀ i, i < T + n → r2.2.2 i = r.2.2 i) n (nI 0, nI T, tw) (nI 0, nI T, hw) ⟨rfl, rfl, rfl, rfl, he⟩ (fun k s s2 hk hJ => by
    obtain ⟨s1, s3, s4⟩ := s
    obtain ⟨t1, t3, t4⟩ := s2
    obtain ⟨rfl, rfl, rfl, rfl, hq⟩ := hJ
    unfold pX10_save_b35 pX6_sendTo_b10 pX8_append
    rcases Nat.lt_or_ge k n with h9 | h9
    · refine Or.inl ?_
      simp (disch := omega) only [n_l0, n_l1, n_l2, n_l3, n_l4, n_l5, n_l6, n_l7, n_l8, n_l9, n_l15, n_l16, n_l17, n_l20, n_l24, n_l31, n_l32, n_l33, n_l36, n_l48, n_l49, n_l97, n_l128, n_l129, n_l192, n_l225, n_l256, n_l353, n_l400, n_l512, n_l593, n_l621, n_l640, n_l857, n_l1093, n_l1095, n_l2048, n_l3225, n_l10000, n_l22955, n_l29988, n_l29989, n_l65536, n_l99999, n_l1000000000, n_l2147483647, nI_add, pk_mul, pk_sub, pk_div, nI_clamp, ckN, nI_leI, nI_ltI, nI_eq, nI_nm1, Nat.add_zero, nI_addneg, k_ush, true_or, or_true, false_or, or_false, true_and, and_true, false_and, and_false, not_true_eq_false, not_false_eq_true, if_true, if_false, if_pos, if_neg, Option.bind_some, k_wordAt (show k < wds t by omega) (show k < 20 by omega) ht]
      refine ⟨_, _, rfl, rfl, h9, rfl, rfl, rfl, rfl, fun i hi => ?_⟩
      show upd t4 (T + k) (wc k) i = upd s4 (T + k) (wr k) i
      unfold upd
      split
      · exact (hE k (by omega)).symm
      · exact hq i (by omega)
    · obtain rfl : k = n := by omega
      refine Or.inr ?_
      simp (disch := omega) only [n_l0, n_l1, n_l2, n_l3, n_l4, n_l5, n_l6, n_l7, n_l8, n_l9, n_l15, n_l16, n_l17, n_l20, n_l24, n_l31, n_l32, n_l33, n_l36, n_l48, n_l49, n_l97, n_l128, n_l129, n_l192, n_l225, n_l256, n_l353, n_l400, n_l512, n_l593, n_l621, n_l640, n_l857, n_l1093, n_l1095, n_l2048, n_l3225, n_l10000, n_l22955, n_l29988, n_l29989, n_l65536, n_l99999, n_l1000000000, n_l2147483647, nI_add, pk_mul, pk_sub, pk_div, nI_clamp, ckN, nI_leI, nI_ltI, nI_eq, nI_nm1, Nat.add_zero, nI_addneg, k_ush, true_or, or_true, false_or, or_false, true_and, and_true, false_and, and_false, not_true_eq_false, not_false_eq_true, if_true, if_false, if_pos, if_neg, Option.bind_some]
      exact ⟨_, _, rfl, rfl, rfl, rfl, hq⟩)
  refine ⟨r, r2.2.2, e1, h1, ?_, h3⟩
  unfold pX6_sendTo
  rw [k_words ht, Option.bind_some, show (t + 31) / 32 = n from hn.symm, n_l0, e2, Option.bind_some, h2]
theorem wds_sum (ho : OKC C) : ∀ n, n ≤ NB C → 32 * sm (fun b => wds (ct C b)) n ≤ 112 * n + 37 * sm (PL C) n := by
  intro n
  induction n with
  | zero => intro _; exact Nat.le_refl _
  | succ k ih =>
    intro hk
    have h1 := ih (by omega)
    have h2 := (ct_621 (ho.2.2 k hk)).2
    have h3 : 32 * wds (ct C k) ≤ ct C k + 31 := by unfold wds; omega
    show 32 * (sm (fun b => wds (ct C b)) k + wds (ct C k)) ≤ 112 * (k + 1) + 37 * (sm (PL C) k + PL C k)
    omega
theorem q_save (xv xw xp xs : Int32) (vs : Nat → Int32) (ps : Nat → Int64) (m1 m2 m3 m4 m5 : Int32) (n1 n2 n3 : Nat → Int32) (xn xat : Int32) (ws wc : Nat → Int32) {tp th : Int32} {tw hw : Nat → Int32} {T : Nat} (hTP : TP tp th tw hw T) (h : COL a v1 bk hd tl fc C) : ∃ z w T', pX10_save v1 xv xw xp xs xn tp a vs ps ws tw = some z ∧ pX9_save 128 v1 xc th hw m1 m2 m3 m4 m5 n1 n2 n3 xat wc bk hd tl fc = some w ∧ w.1 = z.1 ∧ TP z.2.2.2.2.2.2.1 w.2.1 z.2.2.2.2.2.2.2.2.2.2 w.2.2.1 T' := by
  obtain ⟨⟨rfl, rfl, hT, hP, hF⟩, ho, hr⟩ := h
  have hn := ho.1
  have hl := ho.2.1
  have hH : ∀ k, k < HL C → tl k = enc (TV C k) := hT
  unfold pX10_save pX9_save
  rcases col_cases v1 with ⟨c, hc, rfl⟩ | hv
  · have hR := hr c hc rfl
    obtain ⟨r, r2, e1, e2, h1, h2, h3⟩ := lp2S (body := pX10_save_b16 (nI c) a) (body2 := pX9_save_b22 128 (nI (NB C)) (nI (HL C)) tl fc) (fun k s s2 => s.1 = nI k ∧ s2.1 = nI k ∧ s.2.2.2.2.2.2.1 = nI (sm (fun b => wds (ct C b)) k) ∧ s2.2.1 = nI (sm (fun b => wds (ct C b)) k) ∧ ∀ i, i < sm (fun b => wds (ct C b)) k → s2.2.2.1 i = s.2.2.2.2.2.2.2.2.2.2 i) (fun r r2 => r.2.2.2.2.2.2.1 = nI (sm (fun b => wds (ct C b)) (NB C)) ∧ r2.2.1 = nI (sm (fun b => wds (ct C b)) (NB C)) ∧ ∀ i, i < sm (fun b => wds (ct C b)) (NB C) → r2.2.2.1 i = r.2.2.2.2.2.2.2.2.2.2 i) (NB C) (nI 0, xv, xw, xp, xs, xn, nI 0, vs, ps, ws, tw) (nI 0, nI 0, hw, m1, m2, m3, m4, m5, n1, n2, n3, xat, wc) ⟨rfl, rfl, rfl, rfl, fun i hi => absurd hi (Nat.not_lt_zero i)⟩ (fun k s s2 hk hJ => by
      obtain ⟨s1, s2', s3, s4, s5, s6, s7, s8, s9, s10, s11⟩ := s
      obtain ⟨t1, t2, t3, t4, t5, t6, t7, t8, t9, t10, t11, t12, t13⟩ := s2
      obtain ⟨rfl, rfl, h5, h6, hq⟩ := hJ
      replace h5 : s7 = nI (sm (fun b => wds (ct C b)) k) := h5
      replace h6 : t2 = nI (sm (fun b => wds (ct C b)) k) := h6
      subst h5 h6
      unfold pX10_save_b16 pX9_save_b22
      rcases Nat.lt_or_ge k (NB C) with h9 | h9
      · refine Or.inl ?_
        obtain ⟨z, w, ez, z1, ew, w1, hE⟩ := s_words (tl := tl) (fc := fc) s2' s3 s4 s5 s8 s9 t4 t5 t6 t7 t8 t9 t10 t11 s6 t12 s10 t13 hc hR ho hT hP hF h9
        have h20 := wds_20 (ho.2.2 k h9)
        have h621 := (ct_621 (ho.2.2 k h9)).1
        have hsum := wds_sum ho (k + 1) h9
        have hs : sm (fun b => wds (ct C b)) (k + 1) = sm (fun b => wds (ct C b)) k + wds (ct C k) := rfl
        have hPL : sm (PL C) (k + 1) ≤ HL C := sm_mono (p := PL C) h9
        obtain ⟨y, w', e5, e6, e7, e8⟩ := s_send (T := sm (fun b => wds (ct C b)) k) (n := wds (ct C k)) (t := ct C k) rfl h20 (by omega) (by omega) hE hq
        rw [r_blocks hc hR, Option.bind_some, if_neg (show ¬ nI (NB C) ≤ nI k by rw [nI_leI (by omega) (by omega)]; omega), ez, Option.bind_some, z1, n_l0, e5, Option.bind_some, if_neg (show ¬ nI (NB C) ≤ nI k by rw [nI_leI (by omega) (by omega)]; omega), ew, Option.bind_some, w1, e7, Option.bind_some]
        refine ⟨_, _, rfl, rfl, h9, by show nI k + nI 1 = _; rw [nI_add], by show nI k + nI 1 = _; rw [nI_add], e6, rfl, e8⟩
      · obtain rfl : k = NB C := by omega
        refine Or.inr ?_
        simp (disch := omega) only [n_l0, n_l1, n_l2, n_l3, n_l4, n_l5, n_l6, n_l7, n_l8, n_l9, n_l15, n_l16, n_l17, n_l20, n_l24, n_l31, n_l32, n_l33, n_l36, n_l48, n_l49, n_l97, n_l128, n_l129, n_l192, n_l225, n_l256, n_l353, n_l400, n_l512, n_l593, n_l621, n_l640, n_l857, n_l1093, n_l1095, n_l2048, n_l3225, n_l10000, n_l22955, n_l29988, n_l29989, n_l65536, n_l99999, n_l1000000000, n_l2147483647, nI_add, pk_mul, pk_sub, pk_div, nI_clamp, ckN, nI_leI, nI_ltI, nI_eq, nI_nm1, Nat.add_zero, nI_addneg, k_ush, true_or, or_true, false_or, or_false, true_and, and_true, false_and, and_false, not_true_eq_false, not_false_eq_true, if_true, if_false, if_pos, if_neg, Option.bind_some, r_blocks hc hR]
        exact ⟨_, _, rfl, rfl, rfl, rfl, hq⟩)
    have hsum := wds_sum ho (NB C) (Nat.le_refl _)
    rw [eHL] at hsum
    rw [r_isCol hc, k_col hc, Option.bind_some, Option.bind_some, if_neg (show ¬ nI 1 = 0 by decide), if_pos rfl, n_l0, e1, e2]
    exact ⟨_, _, sm (fun b => wds (ct C b)) (NB C), rfl, rfl, by show r2.2.1 = r.2.2.2.2.2.2.1; rw [h1, h2], by omega, h1, h2, h3⟩
  · simp (disch := omega) only [n_l0, n_l1, n_l2, n_l3, n_l4, n_l5, n_l6, n_l7, n_l8, n_l9, n_l15, n_l16, n_l17, n_l20, n_l24, n_l31, n_l32, n_l33, n_l36, n_l48, n_l49, n_l97, n_l128, n_l129, n_l192, n_l225, n_l256, n_l353, n_l400, n_l512, n_l593, n_l621, n_l640, n_l857, n_l1093, n_l1095, n_l2048, n_l3225, n_l10000, n_l22955, n_l29988, n_l29989, n_l65536, n_l99999, n_l1000000000, n_l2147483647, nI_add, pk_mul, pk_sub, pk_div, nI_clamp, ckN, nI_leI, nI_ltI, nI_eq, nI_nm1, Nat.add_zero, nI_addneg, k_ush, true_or, or_true, false_or, or_false, true_and, and_true, false_and, and_false, not_true_eq_false, not_false_eq_true, if_true, if_false, if_pos, if_neg, Option.bind_some, r_isColO hv, k_colO hv, Bool.false_eq_true]
    exact ⟨_, _, T, rfl, rfl, rfl, hTP⟩
end Wr
