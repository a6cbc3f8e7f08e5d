/-! ===== flush, walk, copy ===== -/
theorem RC_low {a a' : Nat → Int32} {c : Nat} {C : AC} (ho : OKC C) (e : ∀ i, 36 ≤ i → i < 1095 → a' i = a i) (hc : c < 3) (h : RCa a c C) : RCa a' c C :=
  RC_BV.mpr ⟨RB_fr ho.1 (RC_BV.mp h).1 (fun i hi => e _ (by omega) (by omega)), RV_fr ho.2.1 (RC_BV.mp h).2 (fun i _ hi => e _ (by omega) (by omega))⟩
theorem blk16 {n : Nat} (h : n < 2 ^ 30) : pX10_blocksBy (nI n) = some (nI ((n + 15) / 16)) := by
  unfold pX10_blocksBy
  simp (disch := omega) only [n_l0, n_l1, n_l2, n_l3, n_l4, n_l5, n_l6, n_l7, n_l8, n_l9, n_l15, n_l16, n_l17, n_l20, n_l24, n_l31, n_l32, n_l33, n_l36, n_l48, n_l49, n_l97, n_l128, n_l129, n_l192, n_l225, n_l256, n_l353, n_l400, n_l512, n_l593, n_l621, n_l640, n_l857, n_l1093, n_l1095, n_l2048, n_l3225, n_l10000, n_l22955, n_l29988, n_l29989, n_l65536, n_l99999, n_l1000000000, n_l2147483647, nI_add, pk_mul, pk_sub, pk_div, nI_clamp, ckN, nI_leI, nI_ltI, nI_eq, nI_nm1, Nat.add_zero, nI_addneg, k_ush, true_or, or_true, false_or, or_false, true_and, and_true, false_and, and_false, not_true_eq_false, not_false_eq_true, if_true, if_false, if_pos, if_neg, Option.bind_some, show n + 16 - 1 = n + 15 by omega]
theorem kblk16 {n : Nat} (h : n < 2 ^ 30) : pX9_blocksFor (nI n) = some (nI ((n + 15) / 16)) := by
  unfold pX9_blocksFor
  simp (disch := omega) only [n_l0, n_l1, n_l2, n_l3, n_l4, n_l5, n_l6, n_l7, n_l8, n_l9, n_l15, n_l16, n_l17, n_l20, n_l24, n_l31, n_l32, n_l33, n_l36, n_l48, n_l49, n_l97, n_l128, n_l129, n_l192, n_l225, n_l256, n_l353, n_l400, n_l512, n_l593, n_l621, n_l640, n_l857, n_l1093, n_l1095, n_l2048, n_l3225, n_l10000, n_l22955, n_l29988, n_l29989, n_l65536, n_l99999, n_l1000000000, n_l2147483647, nI_add, pk_mul, pk_sub, pk_div, nI_clamp, ckN, nI_leI, nI_ltI, nI_eq, nI_nm1, Nat.add_zero, nI_addneg, k_ush, true_or, or_true, false_or, or_false, true_and, and_true, false_and, and_false, not_true_eq_false, not_false_eq_true, if_true, if_false, if_pos, if_neg, Option.bind_some, show n + 16 - 1 = n + 15 by omega]
section Q
variable {c : Nat} {a : Nat → Int32} {v1 v2 v3 v4 bk hd : Int32} {tl : Nat → Int64} {fc : Nat → Int32} {C : AC} {xc : Nat → Option Nat}
/-- in the class: rows are appended, then sealed -/
theorem k_come (m1 m2 m3 m4 m5 m6 m7 m8 m9 m10 m11 : Int32) (n1 n2 n3 : Nat → Int32) {n : Nat} {S : Nat → Option Int32} {t2 : Nat → Int64} (ho : OKC C) (hP : KP fc C) (hF : ∀ j, j < NB C → KF fc C j) (hr : HL C + n ≤ 128) (hn : NB C + (n + 15) / 16 ≤ 24) (ht2 : ∀ k, k < HL C + n → t2 k = enc (apT (TV C) (HL C) S k)) :
    ∃ z, pX0_seal 128 (nI (NB C)) (nI (HL C + n)) t2 fc m1 m2 m3 m4 m5 m6 m7 m8 m9 m10 m11 n1 n2 n3 = some z ∧ z.1 = nI ((n + 15) / 16) ∧ z.2.1 = nI (NB C + (n + 15) / 16) ∧ KC (nI (NB C + (n + 15) / 16)) (nI (HL C + n)) t2 z.2.2.1 (slN (reT C (apT (TV C) (HL C) S)) (HL C + n) ((n + 15) / 16)) := by
  have hT0 : ∀ k, k < HL C → apT (TV C) (HL C) S k = TV C k := fun k hk => apT_lo hk
  obtain ⟨z, ez, z1, z2, z3, z4⟩ := k_seal (C := reT C (apT (TV C) (HL C) S)) (tl := t2) (fc := fc) m1 m2 m3 m4 m5 m6 m7 m8 m9 m10 m11 n1 n2 n3 (L := HL C + n) (m := (n + 15) / 16) (by rw [re_HL]; omega) hr (by rw [re_HL, Nat.add_sub_cancel_left]) (by rw [re_NB]; exact hn) ht2 hP (re_KF hT0 hF)
  rw [re_NB] at ez z2 z4
  have i2 := sl_HL (C := reT C (apT (TV C) (HL C) S)) (L := HL C + n) (by rw [re_HL]; omega) ((n + 15) / 16)
  have i3 := sl_NB (reT C (apT (TV C) (HL C) S)) (HL C + n) ((n + 15) / 16)
  rw [re_HL] at i2
  rw [re_NB] at i3
  refine ⟨z, ez, z1, z2, by rw [i3], by rw [i2]; exact congrArg nI (by omega), fun k hk => ?_, z3, fun j hj => z4 j (by rw [i3] at hj; exact hj)⟩
  rw [sl_TV, re_TV]; exact ht2 k (by rw [i2] at hk; omega)
theorem come_OK {n : Nat} {S : Nat → Option Int32} (ho : OKC C) (hr : HL C + n ≤ 128) (hn : NB C + (n + 15) / 16 ≤ 24) : OKC (slN (reT C (apT (TV C) (HL C) S)) (HL C + n) ((n + 15) / 16)) :=
  sl_OK (by rw [re_HL]; omega) hr (re_OK (fun k hk => apT_lo hk) ho) _ (by rw [re_NB]; exact hn) (by rw [re_HL]; omega)
theorem re_RC {S : Nat → Option Int32} (h : RCa a c C) : RCa a c (reT C (apT (TV C) (HL C) S)) := RC_BV.mpr ⟨(RC_BV.mp h).1, fun k hk => by
  have hk' : k < HL C := hk
  show _ = vv (apT (TV C) (HL C) S k) ∧ _ = ee (apT (TV C) (HL C) S k)
  rw [apT_lo hk']
  exact (RC_BV.mp h).2 k hk'⟩
theorem r_flushN (hc : c < 3) (hR : RCa a c C) {ph : Int32} {ptl : Nat → Int64} {P : Nat} {tp : Nat → Option Int32} (hD : PD a ph ptl P tp) (hl : HL C ≤ 128) (hr : HL C + P ≤ 128) : ∃ r, lp (pX10_flush_b45 (nI c) (nI (HL C))) FU (nI 0, a) = some r ∧ (∀ i, i < 97 → r.2 (36 + 353 * c + i) = a (36 + 353 * c + i)) ∧ FR c a r.2 ∧ RV r.2 c (HL C + P) (apT (TV C) (HL C) tp) := by
  obtain ⟨hP, _, _, h33, hRp⟩ := hD
  have c3 : ∀ (α : Type) (x : Option α), ck 3 22955 x = x := fun α x => ckN (n := 3) (by omega) (by omega)
  refine lpE (body := pX10_flush_b45 (nI c) (nI (HL C))) (fun k s => s.1 = nI k ∧ (∀ i, i < 97 → s.2 (36 + 353 * c + i) = a (36 + 353 * c + i)) ∧ FR c a s.2 ∧ RV s.2 c (HL C + k) (apT (TV C) (HL C) tp)) _ P (nI 0, a) ⟨rfl, fun _ _ => rfl, FR_rf c a, fun k hk => by rw [apT_lo (show k < HL C from hk)]; exact (RC_BV.mp hR).2 k hk⟩ (fun k s hk hI => ?_)
  obtain ⟨s1, s2⟩ := s
  obtain ⟨h1, h2, h3, h4⟩ := hI
  replace h1 : s1 = nI k := h1
  replace h3 : FR c a s2 := h3
  replace h4 : RV s2 c (HL C + k) (apT (TV C) (HL C) tp) := h4
  subst h1
  have hcell : ∀ i, i < 36 → s2 i = a i := fun i hi => h3 i (fun q => by unfold inC at q; omega)
  unfold pX10_flush_b45 pX10_flush_b45j86
  have hP3 : s2 3 = nI P := by rw [hcell 3 (by omega)]; exact h33
  rcases Nat.lt_or_ge k P with h9 | h9
  · refine Or.inl ?_
    obtain ⟨g1, g2⟩ := hRp k h9
    rw [← hcell (4 + k) (by omega)] at g1
    rw [← hcell (20 + k) (by omega)] at g2
    have hput : ∀ t, pX10_putPlace (nI c) (nI (HL C + k)) (vv t) (ee t) s2 = some (pP s2 c (HL C + k) t) := fun t => r_putPP hc (by omega) t
    have fin : ∃ s', (some (Sum.inl (nI (k + 1), pP s2 c (HL C + k) (tp k))) : Option ((Int32 × (Nat → Int32)) ⊕ (Int32 × (Nat → Int32)))) = some (Sum.inl s') ∧ k < P ∧ s'.1 = nI (k + 1) ∧ (∀ i, i < 97 → s'.2 (36 + 353 * c + i) = a (36 + 353 * c + i)) ∧ FR c a s'.2 ∧ RV s'.2 c (HL C + (k + 1)) (apT (TV C) (HL C) tp) := by
      refine ⟨_, rfl, h9, rfl, fun i hi => ?_, FR_tr h3 (pP_fr (by omega) _), ?_⟩
      · show pP s2 c (HL C + k) _ _ = _
        rw [pP_lo _ hi]; exact h2 i hi
      · exact pP_RV (show HL C + k < 128 by omega) (by omega) _ (fun j hj hjk => h4 j (by omega)) (fun _ => apT_hi)
    cases hx : tp k with
    | none =>
      rw [hx] at fin g1 g2
      have hp0 : pX10_putPlace (nI c) (nI (HL C + k)) (nI 0) (nI 1) s2 = some (pP s2 c (HL C + k) none) := hput none
      simp (disch := omega) only [n_l0, n_l1, n_l2, n_l3, n_l4, n_l5, n_l6, n_l7, n_l8, n_l9, n_l15, n_l16, n_l17, n_l20, n_l24, n_l31, n_l32, n_l33, n_l36, n_l48, n_l49, n_l97, n_l128, n_l129, n_l192, n_l225, n_l256, n_l353, n_l400, n_l512, n_l593, n_l621, n_l640, n_l857, n_l1093, n_l1095, n_l2048, n_l3225, n_l10000, n_l22955, n_l29988, n_l29989, n_l65536, n_l99999, n_l1000000000, n_l2147483647, nI_add, pk_mul, pk_sub, pk_div, nI_clamp, ckN, nI_leI, nI_ltI, nI_eq, nI_nm1, Nat.add_zero, nI_addneg, k_ush, true_or, or_true, false_or, or_false, true_and, and_true, false_and, and_false, not_true_eq_false, not_false_eq_true, if_true, if_false, if_pos, if_neg, Option.bind_some, hP3, g1, g2, e_none, e_some, l64_ne, l64_inj, l64_lt, l64_le, vv_some, vv_none, ee_some, ee_none, lc_eq, lc_lt, lc_le, lc_gt, lc_ge, reduceCtorEq, Option.isSome_none, Option.isSome_some, Bool.false_eq_true, hp0]
      exact fin
    | some v =>
      rw [hx] at fin g1 g2
      have hp0 : pX10_putPlace (nI c) (nI (HL C + k)) v (nI 0) s2 = some (pP s2 c (HL C + k) (some v)) := hput (some v)
      simp (disch := omega) only [n_l0, n_l1, n_l2, n_l3, n_l4, n_l5, n_l6, n_l7, n_l8, n_l9, n_l15, n_l16, n_l17, n_l20, n_l24, n_l31, n_l32, n_l33, n_l36, n_l48, n_l49, n_l97, n_l128, n_l129, n_l192, n_l225, n_l256, n_l353, n_l400, n_l512, n_l593, n_l621, n_l640, n_l857, n_l1093, n_l1095, n_l2048, n_l3225, n_l10000, n_l22955, n_l29988, n_l29989, n_l65536, n_l99999, n_l1000000000, n_l2147483647, nI_add, pk_mul, pk_sub, pk_div, nI_clamp, ckN, nI_leI, nI_ltI, nI_eq, nI_nm1, Nat.add_zero, nI_addneg, k_ush, true_or, or_true, false_or, or_false, true_and, and_true, false_and, and_false, not_true_eq_false, not_false_eq_true, if_true, if_false, if_pos, if_neg, Option.bind_some, hP3, g1, g2, e_none, e_some, l64_ne, l64_inj, l64_lt, l64_le, vv_some, vv_none, ee_some, ee_none, lc_eq, lc_lt, lc_le, lc_gt, lc_ge, reduceCtorEq, Option.isSome_none, Option.isSome_some, Bool.false_eq_true, hp0]
      exact fin
  · obtain rfl : k = P := by omega
    refine Or.inr ?_
    simp (disch := omega) only [n_l0, n_l1, n_l2, n_l3, n_l4, n_l5, n_l6, n_l7, n_l8, n_l9, n_l15, n_l16, n_l17, n_l20, n_l24, n_l31, n_l32, n_l33, n_l36, n_l48, n_l49, n_l97, n_l128, n_l129, n_l192, n_l225, n_l256, n_l353, n_l400, n_l512, n_l593, n_l621, n_l640, n_l857, n_l1093, n_l1095, n_l2048, n_l3225, n_l10000, n_l22955, n_l29988, n_l29989, n_l65536, n_l99999, n_l1000000000, n_l2147483647, nI_add, pk_mul, pk_sub, pk_div, nI_clamp, ckN, nI_leI, nI_ltI, nI_eq, nI_nm1, Nat.add_zero, nI_addneg, k_ush, true_or, or_true, false_or, or_false, true_and, and_true, false_and, and_false, not_true_eq_false, not_false_eq_true, if_true, if_false, if_pos, if_neg, Option.bind_some, hP3]
    exact ⟨_, rfl, h2, h3, h4⟩
theorem q_flush (xv xw xp xs xf xu xt xb : Int32) (vs : Nat → Int32) (ps : Nat → Int64) (m1 m2 m3 m4 m5 m6 m7 m8 m9 m10 m11 : Int32) (n1 n2 n3 : Nat → Int32) {f h0 : Nat} {ph : Int32} {ptl : Nat → Int64} {P : Nat} {tp : Nat → Option Int32} (hD : PD a ph ptl P tp) (ha0 : a 0 = nI h0) (ha1 : a 1 = nI f) (hh : h0 ≤ 20) (hf : f < 20) (h : COL a v1 bk hd tl fc C) :
    ∃ z w P' tp', pX10_flush v1 xv xw xp xs xf xu xt xb a vs ps = some z ∧ pX9_flush 16 128 v1 xc ph ptl m1 m2 m3 m4 m5 m6 m7 m8 m9 m10 m11 n1 n2 n3 bk hd tl fc = some w ∧ w.1 = z.1 ∧ PD z.2.2.2.2.2.2.2.2.2.1 w.2.2.1 ptl P' tp' ∧ MX (fun i => 3 ≤ i ∧ i < 36) a v1 w.2.1 z.2.2.2.2.2.2.2.2.2.1 w.2.2.2.2.2.2.2.2.2.2.2.2.2.2.2.2.2.1 w.2.2.2.2.2.2.2.2.2.2.2.2.2.2.2.2.2.2.1 w.2.2.2.2.2.2.2.2.2.2.2.2.2.2.2.2.2.2.2.1 w.2.2.2.2.2.2.2.2.2.2.2.2.2.2.2.2.2.2.2.2 := by
  have h' := h
  have hD' := hD
  obtain ⟨⟨rfl, rfl, hT, hP, hF⟩, ho, hr⟩ := h
  have hn := ho.1
  have hl := ho.2.1
  have hH : ∀ k, k < HL C → tl k = enc (TV C k) := hT
  obtain ⟨hP16, rfl, hpt, h33, hRp⟩ := hD
  have c3 : ∀ (α : Type) (x : Option α), ck 3 22955 x = x := fun α x => ckN (n := 3) (by omega) (by omega)
  unfold pX10_flush pX9_flush
  rcases col_cases v1 with ⟨c, hc, rfl⟩ | hv
  · have hR := hr c hc rfl
    rw [r_isCol hc, Option.bind_some, if_neg (show ¬ nI 1 = 0 by decide), c3, show (3 : Int32).toNatClampNeg = 3 from rfl, h33, k_col hc, Option.bind_some, if_pos rfl]
    by_cases hP0 : P = 0
    · have hz : nI P = (0 : Int32) := by rw [hP0]; rfl
      rw [if_pos hz, if_pos hz]
      exact ⟨_, _, P, tp, rfl, rfl, rfl, hD', MX_no h'⟩
    have hz : ¬ nI P = (0 : Int32) := fun q => hP0 ((nI_eq (b := 0) (by omega) (by omega)).mp q)
    rw [if_neg hz, c3, if_neg hz, show (1 : Int32) = nI 1 from rfl, r_room hc hR hn (by omega) (by omega) hl, k_room hn (by omega) (by omega) hl, Option.bind_some, Option.bind_some]
    by_cases hroom : HL C + P ≤ 128 ∧ NB C + 1 ≤ 24
    · rw [if_pos hroom, if_neg (show ¬ nI 1 = 0 by decide)]
      obtain ⟨a1, ek, hK⟩ := r_keep ha0 ha1 hh hf
      have hR1 := RC_now hc ho hK.2.2.1 hR
      have hD1 : PD a1 (nI P) ptl P tp := ⟨hP16, rfl, hpt, by rw [hK.2.2.1 3 (by omega) (by omega)]; exact h33, fun k hk => by rw [hK.2.2.1 _ (by omega) (by omega), hK.2.2.1 _ (by omega) (by omega)]; exact hRp k hk⟩
      obtain ⟨r, er, r1, r2, r3⟩ := r_flushN hc hR1 hD1 hl hroom.1
      have h15 : (P + 15) / 16 = 1 := by omega
      have hB := RB_fr hn (RC_BV.mp hR1).1 r1
      obtain ⟨a2, z, e1, e2, e3, e4, e5⟩ := r_add (C := reT C (apT (TV C) (HL C) tp)) (n := P) xv xw xp xs xf xu xt xb vs ps hc hB r3 (by rw [re_NB]; omega) hroom.1 hP16
      rw [re_NB] at e1 e3
      have hsl : slN (reT C (apT (TV C) (HL C) tp)) (HL C + P) ((P + 15) / 16) = abC (reT C (apT (TV C) (HL C) tp)) P := by
        rw [h15]
        show abC (reT C (apT (TV C) (HL C) tp)) (min 16 (HL C + P - HL (reT C (apT (TV C) (HL C) tp)))) = _
        rw [re_HL, show min 16 (HL C + P - HL C) = P by omega]
      have hOK := come_OK (S := tp) ho hroom.1 (by rw [h15]; exact hroom.2)
      rw [hsl] at hOK
      obtain ⟨a3, g1, g2, g3⟩ := r_clearP (a := z.2.2.2.2.2.2.2.2.1)
      have hR3 : RCa a3 c (abC (reT C (apT (TV C) (HL C) tp)) P) := RC_low hOK (fun i h1 h2 => g3 i (by omega)) hc e4
      obtain ⟨y, ey, hy⟩ := r_bitsOfBlock z.1 z.2.1 z.2.2.1 z.2.2.2.1 z.2.2.2.2.2.2.2.2.2.1 z.2.2.2.2.2.2.2.2.2.2 hc hR3 hOK (b := NB C) (by rw [ab_NB, re_NB]; omega)
      have hbl : pX10_blocks (nI c) r.2 = some (nI (NB C)) := r_blocksB hc hB.1
      have hr3 : r.2 3 = nI P := by rw [r2 3 (fun q => by unfold inC at q; omega)]; exact hD1.2.2.2.1
      obtain ⟨t2, et, ht2⟩ := k_appendFrom (T := TV C) (tl := tl) (N2 := 16) (H := HL C) (OH := P) (f := 0) (t := P) (ol := ptl) (S := tp) (by omega) hP16 hpt (by omega) (by omega) hT (by omega)
      rw [Nat.sub_zero] at et ht2
      have ht2' : ∀ k, k < HL C + P → t2 k = enc (apT (TV C) (HL C) tp k) := fun k hk => by
        rw [ht2 k hk]
        refine congrArg enc ?_
        unfold apT
        split
        · rfl
        · show tp (0 + (k - HL C)) = _
          rw [Nat.zero_add]
      obtain ⟨w, ew, w1, w2, hKC⟩ := k_come (C := C) (fc := fc) (S := tp) (t2 := t2) m1 m2 m3 m4 m5 m6 m7 m8 m9 m10 m11 n1 n2 n3 ho hP hF hroom.1 (by rw [h15]; exact hroom.2) ht2'
      rw [hsl, h15] at hKC
      rw [h15] at w2
      rw [ek, Option.bind_some, r_places hc hR1 hn, Option.bind_some, eHL, n_l0, er, Option.bind_some, hbl, Option.bind_some, c3, hr3, e1, Option.bind_some, e3, Option.bind_some, g1, Option.bind_some, ey, Option.bind_some, if_neg (show ¬ nI 1 = nI 0 by decide), et, Option.bind_some, ew, Option.bind_some, w2, pk_sub (by omega), Nat.add_sub_cancel, show (5 : Int32) = nI 5 from rfl, k_fact (show NB C < NB C + 1 by omega) (by omega) (by omega), Option.bind_some]
      refine ⟨_, _, 0, tp, rfl, rfl, ?_, ⟨by omega, rfl, fun k hk => absurd hk (Nat.not_lt_zero k), g2, fun k hk => absurd hk (Nat.not_lt_zero k)⟩, MX_yes hc ek (fun i h1 h2 => ?_) hKC hOK hR3⟩
      · show w.2.2.1 (NB C * 8 + 5) = y.1
        rw [hy]
        exact (hKC.2.2.2.2 (NB C) (by rw [ab_NB, re_NB]; omega)).2.2.2.2.1
      · show a3 i = a1 i
        rw [g3 i h2, e5 i h1, r2 i h1]
    · rw [if_neg hroom, if_pos (show nI 0 = 0 from rfl), if_pos (show nI 0 = 0 from rfl)]
      exact ⟨_, _, P, tp, rfl, rfl, rfl, hD', MX_no h'⟩
  · simp (disch := omega) only [n_l0, n_l1, n_l2, n_l3, n_l4, n_l5, n_l6, n_l7, n_l8, n_l9, n_l15, n_l16, n_l17, n_l20, n_l24, n_l31, n_l32, n_l33, n_l36, n_l48, n_l49, n_l97, n_l128, n_l129, n_l192, n_l225, n_l256, n_l353, n_l400, n_l512, n_l593, n_l621, n_l640, n_l857, n_l1093, n_l1095, n_l2048, n_l3225, n_l10000, n_l22955, n_l29988, n_l29989, n_l65536, n_l99999, n_l1000000000, n_l2147483647, nI_add, pk_mul, pk_sub, pk_div, nI_clamp, ckN, nI_leI, nI_ltI, nI_eq, nI_nm1, Nat.add_zero, nI_addneg, k_ush, true_or, or_true, false_or, or_false, true_and, and_true, false_and, and_false, not_true_eq_false, not_false_eq_true, if_true, if_false, if_pos, if_neg, Option.bind_some, r_isColO hv, k_colO hv, Bool.false_eq_true]
    exact ⟨_, _, P, tp, rfl, rfl, rfl, hD', MX_no h'⟩
/-! walk -/
def xN (x : Int32) : Int32 := (x * 857 + 593) - (x * 857 + 593) / 29989 * 29989
def xS (x : Int32) : Nat → Int32
  | 0 => x
  | k + 1 => xN (xS x k)
def wS (x from_ spread : Int32) : Nat → Int32
  | 0 => from_
  | k + 1 => wS x from_ spread k + ((xS x (k + 1) - xS x (k + 1) / (2 * spread + 1) * (2 * spread + 1)) - spread)
theorem r_walkN {n s : Nat} (hn : n ≤ 48) (hs : s ≤ 99999) (fr : Int32) (mg : Nat → Int32) : ∃ r, lp (pX10_walk_b62 (nI s) (nI n)) FU (fr, nI 0, a, mg) = some r ∧ r.2.2.1 2 = xS (a 2) n ∧ (∀ i, i ≠ 2 → r.2.2.1 i = a i) ∧ ∀ i, i < n → r.2.2.2 i = wS (a 2) fr (nI s) (i + 1) := by
  refine lpE (body := pX10_walk_b62 (nI s) (nI n)) (fun k t => t.1 = wS (a 2) fr (nI s) k ∧ t.2.1 = nI k ∧ t.2.2.1 2 = xS (a 2) k ∧ (∀ i, i ≠ 2 → t.2.2.1 i = a i) ∧ ∀ i, i < k → t.2.2.2 i = wS (a 2) fr (nI s) (i + 1)) _ n (fr, nI 0, a, mg) ⟨rfl, rfl, rfl, fun _ _ => rfl, fun i hi => absurd hi (Nat.not_lt_zero i)⟩ (fun k t hk hI => ?_)
  obtain ⟨t1, t2, t3, t4⟩ := t
  obtain ⟨h1, h2, h3, h4, h5⟩ := hI
  replace h1 : t1 = wS (a 2) fr (nI s) k := h1
  replace h2 : t2 = nI k := h2
  replace h3 : t3 2 = xS (a 2) k := h3
  replace h4 : ∀ i, i ≠ 2 → t3 i = a i := h4
  replace h5 : ∀ i, i < k → t4 i = wS (a 2) fr (nI s) (i + 1) := h5
  subst h1 h2
  unfold pX10_walk_b62
  rcases Nat.lt_or_ge k n with h9 | h9
  · refine Or.inl ?_
    have hd : pX10_drawn t3 = some (xS (a 2) (k + 1), upd t3 2 (xS (a 2) (k + 1))) := by
      unfold pX10_drawn
      have c2 : ∀ (α : Type) (x : Option α), ck 2 22955 x = x := fun α x => ckN (n := 2) (by omega) (by omega)
      rw [c2, c2, c2, show (2 : Int32).toNatClampNeg = 2 from rfl, h3, u_at]
      rfl
    have hnz : ∀ (α : Type) (x : Option α), nz (2 * nI s + 1) x = x := fun α x => by
      unfold nz
      rw [if_neg]
      rw [show (2 : Int32) * nI s = nI (2 * s) from pk_mul 2 s, show (1 : Int32) = nI 1 from rfl, nI_add]
      exact fun q => by have := (nI_eq (b := 0) (by omega) (by omega)).mp q; omega
    rw [if_neg (show ¬ nI n ≤ nI k by rw [nI_leI (by omega) (by omega)]; omega), hd, Option.bind_some, hnz, ckN (by omega) (by omega), nI_clamp (by omega)]
    refine ⟨_, rfl, h9, rfl, by show nI k + nI 1 = _; rw [nI_add], by show upd t3 2 (xS (a 2) (k + 1)) 2 = _; rw [u_at], fun i hi => ?_, fun i hi => ?_⟩
    · show upd t3 2 (xS (a 2) (k + 1)) i = _
      rw [u_ne hi]; exact h4 i hi
    · show upd t4 k _ i = _
      by_cases hik : i = k
      · subst hik; rw [u_at]; rfl
      · rw [u_ne hik]; exact h5 i (by omega)
  · obtain rfl : k = n := by omega
    refine Or.inr ?_
    rw [if_pos (Int32.le_refl _)]
    exact ⟨_, rfl, h3, h4, h5⟩
theorem k_walkN {n s H : Nat} {T : Nat → Option Int32} (hn : n ≤ 48) (hs : s ≤ 99999) (hT : ∀ k, k < H → tl k = enc (T k)) (hr : H + n ≤ 128) (fr x : Int32) : ∃ t2, pX7_walkInto 128 fr (nI s) (nI n) x (nI H) tl = some (xS x n, nI (H + n), t2) ∧ ∀ k, k < H + n → t2 k = enc (apT T H (fun i => some (wS x fr (nI s) (i + 1))) k) := by
  obtain ⟨r, e, r1, r2, r3⟩ := lpE (body := pX7_walkInto_b13 128 (nI s) (nI n) (2 * nI s + 1)) (fun k t => t.1 = wS x fr (nI s) k ∧ t.2.1 = nI k ∧ t.2.2.1 = xS x k ∧ t.2.2.2.1 = nI (H + k) ∧ ∀ j, j < H + k → t.2.2.2.2 j = enc (apT T H (fun i => some (wS x fr (nI s) (i + 1))) j)) (fun r => r.2.2.1 = xS x n ∧ r.2.2.2.1 = nI (H + n) ∧ ∀ j, j < H + n → r.2.2.2.2 j = enc (apT T H (fun i => some (wS x fr (nI s) (i + 1))) j)) n (fr, nI 0, x, nI H, tl) ⟨rfl, rfl, rfl, rfl, fun j hj => by rw [apT_lo (by omega)]; exact hT j (by omega)⟩ (fun k t hk hI => by
    obtain ⟨t1, t2, t3, t4, t5⟩ := t
    obtain ⟨h1, h2, h3, h4, h5⟩ := hI
    replace h1 : t1 = wS x fr (nI s) k := h1
    replace h2 : t2 = nI k := h2
    replace h3 : t3 = xS x k := h3
    replace h4 : t4 = nI (H + k) := h4
    replace h5 : ∀ j, j < H + k → t5 j = enc (apT T H (fun i => some (wS x fr (nI s) (i + 1))) j) := h5
    subst h1 h2 h3 h4
    unfold pX7_walkInto_b13 pX7_walkInto_b13j58
    rcases Nat.lt_or_ge k n with h9 | h9
    · refine Or.inl ?_
      have hpos : ¬ (2 * nI s + 1 : Int32) ≤ 0 := by
        rw [show (2 : Int32) * nI s = nI (2 * s) from pk_mul 2 s, show (1 : Int32) = nI 1 from rfl, nI_add]
        exact fun q => by have := (nI_leI (b := 0) (by omega) (by omega)).mp q; omega
      have hnz : ∀ (α : Type) (y : Option α), nz (2 * nI s + 1) y = y := fun α y => by
        unfold nz
        rw [if_neg (fun q => hpos (by rw [q]; exact Int32.le_refl _))]
      rw [if_neg (show ¬ nI n ≤ nI k by rw [nI_leI (by omega) (by omega)]; omega), if_neg hpos, hnz, k_append (by omega) (by omega), Option.bind_some]
      refine ⟨_, rfl, h9, rfl, by show nI k + nI 1 = _; rw [nI_add], rfl, rfl, fun j hj => ?_⟩
      show vp_updL t5 (H + k) _ j = _
      by_cases hjk : j = H + k
      · subst hjk; rw [ul_at, apT_hi]; rfl
      · rw [ul_ne hjk]; exact h5 j (by omega)
    · obtain rfl : k = n := by omega
      refine Or.inr ?_
      rw [if_pos (Int32.le_refl _)]
      exact ⟨_, rfl, rfl, rfl, h5⟩)
  unfold pX7_walkInto
  rw [n_l0, e, Option.bind_some, r1, r2]
  exact ⟨_, rfl, r3⟩
theorem q_walk (xv xw xp xs xf xu xt xb : Int32) (vs : Nat → Int32) (ps : Nat → Int64) (m1 m2 m3 m4 m5 m6 m7 m8 m9 m10 m11 : Int32) (n1 n2 n3 : Nat → Int32) {f h0 : Nat} {mg gp : Nat → Int32} {x : Int32} (hx : a 2 = x) (hg : ∀ i, i < 256 → gp i = 0) (ha0 : a 0 = nI h0) (ha1 : a 1 = nI f) (hh : h0 ≤ 20) (hf : f < 20) (h : COL a v1 bk hd tl fc C) :
    ∃ z w, pX10_walk v1 v2 v3 v4 xv xw xp xs xf xu xt xb a vs ps mg gp = some z ∧ pX9_walk 16 128 v1 v2 v3 v4 x xc m1 m2 m3 m4 m5 m6 m7 m8 m9 m10 m11 n1 n2 n3 bk hd tl fc = some w ∧ w.1 = z.1 ∧ (∀ i, i < 256 → z.2.2.2.2.2.2.2.2.2.2.2.2.2 i = 0) ∧ z.2.2.2.2.2.2.2.2.2.1 2 = w.2.2.1 ∧ MX (fun i => i = 2) a v1 w.2.1 z.2.2.2.2.2.2.2.2.2.1 w.2.2.2.2.2.2.2.2.2.2.2.2.2.2.2.2.2.1 w.2.2.2.2.2.2.2.2.2.2.2.2.2.2.2.2.2.2.1 w.2.2.2.2.2.2.2.2.2.2.2.2.2.2.2.2.2.2.2.1 w.2.2.2.2.2.2.2.2.2.2.2.2.2.2.2.2.2.2.2.2 := by
  have h' := h
  obtain ⟨⟨rfl, rfl, hT, hP, hF⟩, ho, hr⟩ := h
  have hn := ho.1
  have hl := ho.2.1
  have hH : ∀ k, k < HL C → tl k = enc (TV C k) := hT
  unfold pX10_walk pX9_walk
  rcases col_cases v1 with ⟨c, hc, rfl⟩ | hv
  · have hR := hr c hc rfl
    rw [r_isCol hc, Option.bind_some, if_neg (show ¬ nI 1 = 0 by decide), k_col hc, Option.bind_some, if_pos rfl]
    rcases ix_cases v3 (n := 100000) (by omega) with ⟨s, hs, rfl⟩ | hs
    · rw [show pX10_isIn (nI s) 0 99999 = some (nI 1) from r_isInT (l := 0) (j := 99999) (Nat.zero_le _) (by omega) (by omega), Option.bind_some, if_neg (show ¬ nI 1 = 0 by decide), if_neg (nI_pos (by omega)), if_neg (show ¬ (99999 : Int32) < nI s from fun q => by have := (nI_ltI (a := 99999) (by omega) (by omega)).mp q; omega)]
      rcases s_cases v4 (m := 48) (by omega) with ⟨n, h1, h2, rfl⟩ | h1 | h1
      · rw [show pX10_isIn (nI n) 1 48 = some (nI 1) from r_isInT (l := 1) (j := 48) h1 h2 (by omega), Option.bind_some, if_neg (show ¬ nI 1 = 0 by decide), if_neg (show ¬ nI n < (1 : Int32) from fun q => by have := (nI_ltI (b := 1) (by omega) (by omega)).mp q; omega), if_neg (show ¬ (48 : Int32) < nI n from fun q => by have := (nI_ltI (a := 48) (by omega) (by omega)).mp q; omega), blk16 (by omega), kblk16 (by omega), Option.bind_some, Option.bind_some, r_room hc hR hn (by omega) (by omega) hl, k_room hn (by omega) (by omega) hl, Option.bind_some, Option.bind_some]
        by_cases hroom : HL C + n ≤ 128 ∧ NB C + (n + 15) / 16 ≤ 24
        · rw [if_pos hroom, if_neg (show ¬ nI 1 = 0 by decide), if_neg (show ¬ nI 1 = 0 by decide)]
          obtain ⟨a1, ek, hK⟩ := r_keep ha0 ha1 hh hf
          have hR1 := RC_now hc ho hK.2.2.1 hR
          have hx1 : a1 2 = x := by rw [hK.2.2.1 2 (by omega) (by omega)]; exact hx
          obtain ⟨r, er, r1, r2, r3⟩ := r_walkN (a := a1) (n := n) (s := s) h2 (by omega) v2 mg
          rw [hx1] at r1 r3
          have hR2 : RCa r.2.2.1 c C := RC_low ho (fun i h1 h2 => r2 i (by omega)) hc hR1
          obtain ⟨z, ez, z1, z2, z3⟩ := r_comeAll (C := reT C (apT (TV C) (HL C) (fun i => some (wS x v2 (nI s) (i + 1))))) xv xw xp xs xf xu xt xb vs ps hc (n := n) (m := (n + 15) / 16) (mg := r.2.2.2) (gp := gp) (re_RC hR2) (re_OK (fun k hk => apT_lo hk) ho) hroom.1 rfl hroom.2 (fun i hi => by
            rw [re_HL, re_TV, apT_hi]
            refine ⟨hg i (by omega), fun v hv => ?_⟩
            rw [← Option.some.inj hv]
            exact r3 i hi) (fun i _ hi => hg i hi)
          rw [re_HL] at z1
          obtain ⟨t2, et, ht2⟩ := k_walkN (T := TV C) (tl := tl) (n := n) (s := s) (H := HL C) h2 (by omega) hT hroom.1 v2 x
          obtain ⟨w, ew, w1, w2, hKC⟩ := k_come (C := C) (fc := fc) (t2 := t2) m1 m2 m3 m4 m5 m6 m7 m8 m9 m10 m11 n1 n2 n3 ho hP hF hroom.1 hroom.2 ht2
          have hOK := come_OK (S := fun i => some (wS x v2 (nI s) (i + 1))) ho hroom.1 hroom.2
          rw [ek, Option.bind_some, n_l0, er, Option.bind_some, ez, Option.bind_some, et, Option.bind_some, ew, Option.bind_some]
          refine ⟨_, _, rfl, rfl, w1, z3, ?_, MX_yes hc ek (fun i h1 h2 => ?_) ?_ hOK z1⟩
          · show z.2.2.2.2.2.2.2.2.1 2 = xS x n
            rw [z2 2 (fun q => by unfold inC at q; omega), r1]
          · show z.2.2.2.2.2.2.2.2.1 i = _
            rw [z2 i h1, r2 i h2]
          · show KC w.2.1 _ _ _ _
            rw [w2]; exact hKC
        · rw [if_neg hroom, if_pos (show nI 0 = 0 from rfl), if_pos (show nI 0 = 0 from rfl)]
          exact ⟨_, _, rfl, rfl, rfl, hg, hx, MX_no h'⟩
      · rw [show pX10_isIn v4 1 48 = some (nI 0) from r_isIn_lo h1, Option.bind_some, if_pos (show nI 0 = 0 from rfl), if_pos (show v4 < 1 from h1)]
        exact ⟨_, _, rfl, rfl, rfl, hg, hx, MX_no h'⟩
      · rw [show pX10_isIn v4 1 48 = some (nI 0) from r_isIn_hi h1, Option.bind_some, if_pos (show nI 0 = 0 from rfl), if_pos (show 48 < v4 from h1)]
        split <;> exact ⟨_, _, rfl, rfl, rfl, hg, hx, MX_no h'⟩
    · rcases hs with hs | hs
      · rw [show pX10_isIn v3 0 99999 = some (nI 0) from r_isIn_lo hs, Option.bind_some, if_pos (show nI 0 = 0 from rfl), if_pos hs]
        exact ⟨_, _, rfl, rfl, rfl, hg, hx, MX_no h'⟩
      · have hs1 : (99999 : Int32) < v3 := by
          have := Int32.le_iff_toInt_le.mp hs
          refine Int32.lt_iff_toInt_lt.mpr ?_
          rw [nI_toInt (by omega)] at this
          have h4 : (99999 : Int32).toInt = 99999 := by decide
          omega
        rw [show pX10_isIn v3 0 99999 = some (nI 0) from r_isIn_hi hs1, Option.bind_some, if_pos (show nI 0 = 0 from rfl), if_pos hs1]
        split <;> exact ⟨_, _, rfl, rfl, rfl, hg, hx, MX_no h'⟩
  · simp (disch := omega) only [n_l0, n_l1, n_l2, n_l3, n_l4, n_l5, n_l6, n_l7, n_l8, n_l9, n_l15, n_l16, n_l17, n_l20, n_l24, n_l31, n_l32, n_l33, n_l36, n_l48, n_l49, n_l97, n_l128, n_l129, n_l192, n_l225, n_l256, n_l353, n_l400, n_l512, n_l593, n_l621, n_l640, n_l857, n_l1093, n_l1095, n_l2048, n_l3225, n_l10000, n_l22955, n_l29988, n_l29989, n_l65536, n_l99999, n_l1000000000, n_l2147483647, nI_add, pk_mul, pk_sub, pk_div, nI_clamp, ckN, nI_leI, nI_ltI, nI_eq, nI_nm1, Nat.add_zero, nI_addneg, k_ush, true_or, or_true, false_or, or_false, true_and, and_true, false_and, and_false, not_true_eq_false, not_false_eq_true, if_true, if_false, if_pos, if_neg, Option.bind_some, r_isColO hv, k_colO hv, Bool.false_eq_true]
    exact ⟨_, _, rfl, rfl, rfl, hg, hx, MX_no h'⟩
end Q
