/-! ===== all blocks told anew; shift; would; put, gap, forget ===== -/
def tlA (C : AC) : Nat → AC
  | 0 => C
  | k + 1 => tlC (tlA C k) k
theorem tlA_s (C : AC) (k : Nat) : tlA C (k + 1) = tlC (tlA C k) k := rfl
theorem tlA_NB (C : AC) : ∀ k, NB (tlA C k) = NB C := by
  intro k
  induction k with
  | zero => rfl
  | succ n ih => rw [tlA_s, tl_NB, ih]
theorem tlA_PL (C : AC) : ∀ k, PL (tlA C k) = PL C := by
  intro k
  induction k with
  | zero => rfl
  | succ n ih => rw [tlA_s, tl_PL, ih]
theorem tlA_TV (C : AC) : ∀ k, TV (tlA C k) = TV C := by
  intro k
  induction k with
  | zero => rfl
  | succ n ih => rw [tlA_s, tl_TV, ih]
theorem tlA_HL (C : AC) : ∀ k, HL (tlA C k) = HL C := by
  intro k
  induction k with
  | zero => rfl
  | succ n ih => rw [tlA_s, tl_HL, ih]
theorem tlA_ok {C : AC} (hp : ∀ b, b < NB C → 1 ≤ PL C b ∧ PL C b ≤ 16) : ∀ k, k ≤ NB C → ∀ j, j < k → okb (tlA C k) j := by
  intro k
  induction k with
  | zero => intro _ j hj; exact absurd hj (Nat.not_lt_zero j)
  | succ n ih =>
    intro hn j hj
    rw [tlA_s]
    by_cases hjn : j = n
    · subst hjn
      exact tl_okb (by rw [tlA_PL]; exact (hp j (by omega)).1) (by rw [tlA_PL]; exact (hp j (by omega)).2)
    · exact tl_okbn hjn (ih (by omega) j (by omega))
theorem tlA_OK {C : AC} (hn : NB C ≤ 24) (hl : HL C ≤ 128) (hp : ∀ b, b < NB C → 1 ≤ PL C b ∧ PL C b ≤ 16) : OKC (tlA C (NB C)) := ⟨by rw [tlA_NB]; exact hn, by rw [tlA_HL]; exact hl, fun j hj => tlA_ok hp (NB C) (Nat.le_refl _) j (by rw [tlA_NB] at hj; exact hj)⟩
section All
variable {c : Nat} {a : Nat → Int32} {tl : Nat → Int64} {fc : Nat → Int32} {C : AC}
theorem r_tellAll (xv xw xp xs xf xu xt xb : Int32) (vs : Nat → Int32) (ps : Nat → Int64) (hc : c < 3) (h : RCa a c C) (hn : NB C ≤ 24) (hl : HL C ≤ 128) (hp : ∀ b, b < NB C → PL C b ≤ 16) : ∃ z, pX10_tellAll (nI c) xv xw xp xs xf xu xt xb a vs ps = some z ∧ RCa z.2.2.2.2.2.2.2.2.1 c (tlA C (NB C)) ∧ FR c a z.2.2.2.2.2.2.2.2.1 := by
  obtain ⟨r, e, r1, r2⟩ := lpE (body := pX10_tellAll_b2 (nI c)) (fun k s => s.1 = nI k ∧ RCa s.2.2.2.2.2.2.2.2.2.1 c (tlA C k) ∧ FR c a s.2.2.2.2.2.2.2.2.2.1) (fun r => RCa r.2.2.2.2.2.2.2.2.2.1 c (tlA C (NB C)) ∧ FR c a r.2.2.2.2.2.2.2.2.2.1) (NB C) (nI 0, xv, xw, xp, xs, xf, xu, xt, xb, a, vs, ps) ⟨rfl, h, FR_rf c a⟩ (fun k s hk hI => by
    obtain ⟨s1, s2, s3, s4, s5, s6, s7, s8, s9, s10, s11, s12⟩ := s
    obtain ⟨rfl, h1, h2⟩ := hI
    replace h1 : RCa s10 c (tlA C k) := h1
    replace h2 : FR c a s10 := h2
    have hbl := r_blocks hc h1
    rw [tlA_NB] at hbl
    unfold pX10_tellAll_b2
    rcases Nat.lt_or_ge k (NB C) with h9 | h9
    · refine Or.inl ?_
      obtain ⟨z, ez, z1, z2⟩ := r_tell (C := tlA C k) s2 s3 s4 s5 s6 s7 s8 s9 s11 s12 hc h1 (by rw [tlA_NB]; exact hn) (by rw [tlA_HL]; exact hl) (b := k) (by rw [tlA_NB]; exact h9) (by rw [tlA_PL]; exact hp k h9)
      rw [hbl, Option.bind_some, if_neg (show ¬ nI (NB C) ≤ nI k by rw [nI_leI (by omega) (by omega)]; omega), ez, Option.bind_some]
      exact ⟨_, rfl, h9, by show nI k + nI 1 = _; rw [nI_add], z1, FR_tr h2 z2⟩
    · obtain rfl : k = NB C := by omega
      refine Or.inr ?_
      rw [hbl, Option.bind_some, if_pos (Int32.le_refl _)]
      exact ⟨_, rfl, h1, h2⟩)
  unfold pX10_tellAll
  rw [n_l0, e]
  exact ⟨_, rfl, r1, r2⟩
theorem k_retellAll (m1 m2 m3 m4 m5 m6 m7 m8 m9 m10 m11 : Int32) (n1 n2 n3 : Nat → Int32) (hn : NB C ≤ 24) (hl : HL C ≤ 128) (hT : KT tl C) (hP : KP fc C) (hp : ∀ b, b < NB C → PL C b ≤ 16) : ∃ z, pX0_retellAll 128 (nI (NB C)) (nI (HL C)) tl fc m1 m2 m3 m4 m5 m6 m7 m8 m9 m10 m11 n1 n2 n3 = some z ∧ KC (nI (NB C)) (nI (HL C)) tl z.1 (tlA C (NB C)) := by
  obtain ⟨r, e, r1, r2⟩ := lpE (body := pX0_retellAll_b2 128 (nI (NB C)) (nI (HL C)) tl) (fun k s => s.1 = nI k ∧ KP s.2.1 (tlA C k) ∧ ∀ j, j < k → KF s.2.1 (tlA C k) j) (fun r => KP r.2.1 (tlA C (NB C)) ∧ ∀ j, j < NB C → KF r.2.1 (tlA C (NB C)) j) (NB C) (nI 0, fc, m1, m2, m3, m4, m5, m6, m7, m8, m9, m10, m11, n1, n2, n3) ⟨rfl, hP, fun j hj => absurd hj (Nat.not_lt_zero j)⟩ (fun k s hk hI => by
    obtain ⟨s1, s2, t1, t2, t3, t4, t5, t6, t7, t8, t9, t10, t11, t12, t13, t14⟩ := s
    obtain ⟨rfl, h1, h2⟩ := hI
    replace h1 : KP s2 (tlA C k) := h1
    replace h2 : ∀ j, j < k → KF s2 (tlA C k) j := h2
    unfold pX0_retellAll_b2
    rcases Nat.lt_or_ge k (NB C) with h9 | h9
    · refine Or.inl ?_
      obtain ⟨z, ez, z1, z2, z3, _⟩ := k_retellN (C := tlA C k) (fc := s2) (tl := tl) t1 t2 t3 t4 t5 t6 t7 t8 t9 t10 t11 t12 t13 t14 (n := NB C) (H := HL C) (tlA_NB C k) hn (by rw [tlA_HL]; exact Nat.le_refl _) hl (by rw [tlA_TV]; exact hT) h1 h9 (by rw [tlA_PL]; exact hp k h9)
      rw [if_neg (show ¬ nI (NB C) ≤ nI k by rw [nI_leI (by omega) (by omega)]; omega), ez, Option.bind_some]
      refine ⟨_, rfl, h9, by show nI k + nI 1 = _; rw [nI_add], z1, fun j hj => ?_⟩
      by_cases hjk : j = k
      · subst hjk; exact z2
      · exact z3 j hjk (by omega) (h2 j (by omega))
    · obtain rfl : k = NB C := by omega
      refine Or.inr ?_
      rw [if_pos (Int32.le_refl _)]
      exact ⟨_, rfl, h1, h2⟩)
  unfold pX0_retellAll
  rw [n_l0, e]
  refine ⟨_, rfl, by rw [tlA_NB], by rw [tlA_HL], fun k hk => ?_, r1, fun j hj => r2 j (by rw [tlA_NB] at hj; exact hj)⟩
  rw [tlA_TV]; exact hT k (by rw [tlA_HL] at hk; exact hk)
end All
def shC (C : AC) (by_ : Int32) : AC := (NB C, PL C, fun k => (TV C k).map (fun v => v + by_), FM C, WD C, ST C)
section Q
variable {c : Nat} {a : Nat → Int32} {v1 v2 v3 bk hd : Int32} {tl : Nat → Int64} {fc : Nat → Int32} {C : AC} {xc : Nat → Option Nat}
theorem r_shiftN (hc : c < 3) (hR : RCa a c C) (hn : NB C ≤ 24) (hl : HL C ≤ 128) (w : Int32) : ∃ r, lp (pX10_shift_b22 (nI c) w (nI (HL C))) FU (nI 0, a) = some r ∧ RCa r.2 c (shC C w) ∧ FR c a r.2 := by
  obtain ⟨r, e, r1, r2, r3⟩ := lpE (body := pX10_shift_b22 (nI c) w (nI (HL C))) (fun k s => s.1 = nI k ∧ (∀ i, i < 97 → s.2 (36 + 353 * c + i) = a (36 + 353 * c + i)) ∧ FR c a s.2 ∧ ∀ j, j < HL C → s.2 (36 + 353 * c + 97 + j) = vv (if j < k then TV (shC C w) j else TV C j) ∧ s.2 (36 + 353 * c + 225 + j) = ee (if j < k then TV (shC C w) j else TV C j)) (fun r => (∀ i, i < 97 → r.2 (36 + 353 * c + i) = a (36 + 353 * c + i)) ∧ FR c a r.2 ∧ RV r.2 c (HL C) (TV (shC C w))) (HL C) (nI 0, a) ⟨rfl, fun _ _ => rfl, FR_rf c a, fun j hj => by rw [if_neg (Nat.not_lt_zero j)]; exact (RC_BV.mp hR).2 j hj⟩ (fun k s hk hI => by
    obtain ⟨s1, s2⟩ := s
    obtain ⟨h0, h1, h2, h3⟩ := hI
    replace h0 : s1 = nI k := h0
    replace h3 : ∀ j, j < HL C → s2 (36 + 353 * c + 97 + j) = vv (if j < k then TV (shC C w) j else TV C j) ∧ s2 (36 + 353 * c + 225 + j) = ee (if j < k then TV (shC C w) j else TV C j) := h3
    subst h0
    unfold pX10_shift_b22
    rcases Nat.lt_or_ge k (HL C) with h9 | h9
    · refine Or.inl ?_
      obtain ⟨e1, e2⟩ := h3 k h9
      rw [if_neg (Nat.lt_irrefl k)] at e1 e2
      have hput : pX10_putPlace (nI c) (nI k) (vv (TV C k) + w) (ee (TV C k)) s2 = some (pP s2 c k (TV (shC C w) k)) := by
        show _ = some (pP s2 c k ((TV C k).map (fun v => v + w)))
        cases hx : TV C k with
        | none => exact r_putN hc (by omega) _
        | some v => exact r_putS hc (by omega) _
      rw [if_neg (show ¬ nI (HL C) ≤ nI k by rw [nI_leI (by omega) (by omega)]; omega), r_valueV hc (show k < 128 by omega) e1, Option.bind_some, r_emptyV hc (show k < 128 by omega) e2, Option.bind_some, hput, Option.bind_some]
      refine ⟨_, rfl, h9, by show nI k + nI 1 = _; rw [nI_add], fun i hi => ?_, FR_tr h2 (pP_fr (by omega) _), fun j hj => ?_⟩
      · show pP s2 c k _ _ = _
        rw [pP_lo _ hi]; exact h1 i hi
      · show pP s2 c k _ _ = _ ∧ pP s2 c k _ _ = _
        rw [pP_v (by omega) (by omega), pP_e (by omega) (by omega)]
        by_cases hjk : j = k
        · subst hjk
          rw [if_pos rfl, if_pos rfl, if_pos (Nat.lt_succ_self j)]; exact ⟨rfl, rfl⟩
        · rw [if_neg hjk, if_neg hjk]
          have := h3 j hj
          by_cases hlt : j < k
          · rw [if_pos hlt] at this; rw [if_pos (by omega)]; exact this
          · rw [if_neg hlt] at this; rw [if_neg (by omega)]; exact this
    · obtain rfl : k = HL C := by omega
      refine Or.inr ?_
      rw [if_pos (Int32.le_refl _)]
      refine ⟨_, rfl, h1, h2, fun j hj => ?_⟩
      have := h3 j hj
      rw [if_pos hj] at this; exact this)
  exact ⟨r, e, RC_BV.mpr ⟨RB_fr hn (RC_BV.mp hR).1 r1, r3⟩, r2⟩
theorem k_raise (hl : HL C ≤ 128) (hT : KT tl C) (w : Int32) : ∃ t2, pX5_raise 128 w (nI (HL C)) tl = some t2 ∧ ∀ k, k < HL C → t2 k = enc (TV (shC C w) k) := by
  obtain ⟨r, e, hr⟩ := lpE (body := pX5_raise_b2 128 w (nI (HL C))) (fun k s => s.1 = nI k ∧ ∀ j, j < HL C → s.2 j = enc (if j < k then TV (shC C w) j else TV C j)) (fun r => ∀ j, j < HL C → r.2 j = enc (TV (shC C w) j)) (HL C) (nI 0, tl) ⟨rfl, fun j hj => by rw [if_neg (Nat.not_lt_zero j)]; exact hT j hj⟩ (fun k s hk hI => by
    obtain ⟨s1, s2⟩ := s
    obtain ⟨h0, h3⟩ := hI
    replace h0 : s1 = nI k := h0
    replace h3 : ∀ j, j < HL C → s2 j = enc (if j < k then TV (shC C w) j else TV C j) := h3
    subst h0
    unfold pX5_raise_b2 pX5_raise_b2j40
    rcases Nat.lt_or_ge k (HL C) with h9 | h9
    · refine Or.inl ?_
      have e1 := h3 k h9
      rw [if_neg (Nat.lt_irrefl k)] at e1
      have step : ∀ j, j < HL C → j ≠ k → s2 j = enc (if j < k + 1 then TV (shC C w) j else TV C j) := fun j hj hjk => by
        rw [h3 j hj]
        by_cases hlt : j < k
        · rw [if_pos hlt, if_pos (by omega)]
        · rw [if_neg hlt, if_neg (by omega)]
      cases hx : TV C k with
      | none =>
        rw [hx] at e1
        simp (disch := omega) only [n_l0, n_l1, n_l2, n_l3, n_l4, n_l5, n_l6, n_l7, n_l8, n_l9, n_l15, n_l16, n_l17, n_l20, n_l24, n_l31, n_l32, n_l33, n_l36, n_l48, n_l49, n_l97, n_l128, n_l129, n_l192, n_l225, n_l256, n_l353, n_l400, n_l512, n_l593, n_l621, n_l640, n_l857, n_l1093, n_l1095, n_l2048, n_l3225, n_l10000, n_l22955, n_l29988, n_l29989, n_l65536, n_l99999, n_l1000000000, n_l2147483647, nI_add, pk_mul, pk_sub, pk_div, nI_clamp, ckN, nI_leI, nI_ltI, nI_eq, nI_nm1, Nat.add_zero, nI_addneg, k_ush, true_or, or_true, false_or, or_false, true_and, and_true, false_and, and_false, not_true_eq_false, not_false_eq_true, if_true, if_false, if_pos, if_neg, Option.bind_some, e1, e_none, e_some, l64_ne, l64_inj, l64_lt, l64_le, vv_some, vv_none, ee_some, ee_none, lc_eq, lc_lt, lc_le, lc_gt, lc_ge, reduceCtorEq, Option.isSome_none, Option.isSome_some, Bool.false_eq_true]
        refine ⟨_, rfl, h9, rfl, fun j hj => ?_⟩
        by_cases hjk : j = k
        · subst hjk
          show s2 j = _
          rw [e1, if_pos (Nat.lt_succ_self j)]
          show enc none = enc ((TV C j).map _)
          rw [hx]; rfl
        · exact step j hj hjk
      | some v =>
        rw [hx] at e1
        simp (disch := omega) only [n_l0, n_l1, n_l2, n_l3, n_l4, n_l5, n_l6, n_l7, n_l8, n_l9, n_l15, n_l16, n_l17, n_l20, n_l24, n_l31, n_l32, n_l33, n_l36, n_l48, n_l49, n_l97, n_l128, n_l129, n_l192, n_l225, n_l256, n_l353, n_l400, n_l512, n_l593, n_l621, n_l640, n_l857, n_l1093, n_l1095, n_l2048, n_l3225, n_l10000, n_l22955, n_l29988, n_l29989, n_l65536, n_l99999, n_l1000000000, n_l2147483647, nI_add, pk_mul, pk_sub, pk_div, nI_clamp, ckN, nI_leI, nI_ltI, nI_eq, nI_nm1, Nat.add_zero, nI_addneg, k_ush, true_or, or_true, false_or, or_false, true_and, and_true, false_and, and_false, not_true_eq_false, not_false_eq_true, if_true, if_false, if_pos, if_neg, Option.bind_some, e1, e_none, e_some, l64_ne, l64_inj, l64_lt, l64_le, vv_some, vv_none, ee_some, ee_none, lc_eq, lc_lt, lc_le, lc_gt, lc_ge, reduceCtorEq, Option.isSome_none, Option.isSome_some, Bool.false_eq_true]
        refine ⟨_, rfl, h9, rfl, fun j hj => ?_⟩
        show vp_updL s2 k _ j = _
        by_cases hjk : j = k
        · subst hjk
          rw [ul_at, if_pos (Nat.lt_succ_self j)]
          show _ = enc ((TV C j).map _)
          rw [hx]
          show _ = (v + w).toInt64
          rw [show (v.toInt64 + w.toInt64).toInt32 = v + w from by rw [Int64.toInt32_add, l64_i, l64_i]]
        · rw [ul_ne hjk]; exact step j hj hjk
    · obtain rfl : k = HL C := by omega
      refine Or.inr ?_
      rw [if_pos (Int32.le_refl _)]
      refine ⟨_, rfl, fun j hj => ?_⟩
      have := h3 j hj
      rw [if_pos hj] at this; exact this)
  unfold pX5_raise
  rw [n_l0, e]
  exact ⟨_, rfl, hr⟩
theorem shC_NB (w : Int32) : NB (shC C w) = NB C := rfl
theorem shC_PL (w : Int32) : PL (shC C w) = PL C := rfl
theorem shC_HL (w : Int32) : HL (shC C w) = HL C := rfl
theorem q_shift (xv xw xp xs xf xu xt xb : Int32) (vs : Nat → Int32) (ps : Nat → Int64) (m1 m2 m3 m4 m5 m6 m7 m8 m9 m10 m11 : Int32) (n1 n2 n3 : Nat → Int32) {f h0 : Nat} (ha0 : a 0 = nI h0) (ha1 : a 1 = nI f) (hh : h0 ≤ 20) (hf : f < 20) (h : COL a v1 bk hd tl fc C) :
    ∃ z w, pX10_shift v1 v2 xv xw xp xs xf xu xt xb a vs ps = some z ∧ pX9_shift 16 128 v1 v2 xc m1 m2 m3 m4 m5 m6 m7 m8 m9 m10 m11 n1 n2 n3 bk hd tl fc = some w ∧ w.1 = z.1 ∧ MU a v1 w.2.1 z.2.2.2.2.2.2.2.2.2.1 bk hd w.2.2.2.2.2.2.2.2.2.2.2.2.2.2.2.2.1 w.2.2.2.2.2.2.2.2.2.2.2.2.2.2.2.2.2 := by
  have h' := h
  obtain ⟨⟨rfl, rfl, hT, hP, hF⟩, ho, hr⟩ := h
  have hn := ho.1
  have hl := ho.2.1
  have hH : ∀ k, k < HL C → tl k = enc (TV C k) := hT
  unfold pX10_shift pX9_shift
  rcases col_cases v1 with ⟨c, hc, rfl⟩ | hv
  · have hR := hr c hc rfl
    obtain ⟨a1, ek, hK⟩ := r_keep ha0 ha1 hh hf
    have hR1 := RC_now hc ho hK.2.2.1 hR
    obtain ⟨r, er, r1, r2⟩ := r_shiftN hc hR1 hn hl v2
    have hp : ∀ b, b < NB (shC C v2) → 1 ≤ PL (shC C v2) b ∧ PL (shC C v2) b ≤ 16 := fun b hb => by rw [shC_PL]; exact ⟨(ho.2.2 b hb).1, (ho.2.2 b hb).2.1⟩
    obtain ⟨z, ez, z1, z2⟩ := r_tellAll xv xw xp xs xf xu xt xb vs ps hc r1 (by rw [shC_NB]; exact hn) (by rw [shC_HL]; exact hl) (fun b hb => (hp b hb).2)
    have hOK := tlA_OK (C := shC C v2) (by rw [shC_NB]; exact hn) (by rw [shC_HL]; exact hl) hp
    obtain ⟨y, ey, hy⟩ := r_bitsOfColumn z.1 z.2.1 z.2.2.1 z.2.2.2.1 z.2.2.2.2.2.2.2.2.2.1 z.2.2.2.2.2.2.2.2.2.2 hc z1 hOK
    obtain ⟨t2, et, ht⟩ := k_raise hl hT v2
    obtain ⟨w, ew, hKC⟩ := k_retellAll (C := shC C v2) (tl := t2) (fc := fc) m1 m2 m3 m4 m5 m6 m7 m8 m9 m10 m11 n1 n2 n3 (by rw [shC_NB]; exact hn) (by rw [shC_HL]; exact hl) (fun k hk => ht k (by rw [shC_HL] at hk; exact hk)) hP (fun b hb => (hp b hb).2)
    rw [shC_NB, shC_HL] at ew hKC
    rw [shC_NB] at hOK hy z1
    have hall := k_allBitsN (n := NB C) (by rw [tlA_NB, shC_NB]) hOK hKC.2.2.2.2
    rw [r_isCol hc, Option.bind_some, if_neg (show ¬ nI 1 = 0 by decide), ek, Option.bind_some, r_places hc hR1 hn, Option.bind_some, eHL, n_l0, er, Option.bind_some, ez, Option.bind_some, ey, Option.bind_some, k_col hc, Option.bind_some, if_pos rfl, et, Option.bind_some, ew, Option.bind_some, show (5 : Int32) = nI 5 from rfl, hall, Option.bind_some]
    exact ⟨_, _, rfl, rfl, hy.symm, MU_yes hc ek (FR_tr r2 z2) hKC hOK z1⟩
  · simp (disch := omega) only [n_l0, n_l1, n_l2, n_l3, n_l4, n_l5, n_l6, n_l7, n_l8, n_l9, n_l15, n_l16, n_l17, n_l20, n_l24, n_l31, n_l32, n_l33, n_l36, n_l48, n_l49, n_l97, n_l128, n_l129, n_l192, n_l225, n_l256, n_l353, n_l400, n_l512, n_l593, n_l621, n_l640, n_l857, n_l1093, n_l1095, n_l2048, n_l3225, n_l10000, n_l22955, n_l29988, n_l29989, n_l65536, n_l99999, n_l1000000000, n_l2147483647, nI_add, pk_mul, pk_sub, pk_div, nI_clamp, ckN, nI_leI, nI_ltI, nI_eq, nI_nm1, Nat.add_zero, nI_addneg, k_ush, true_or, or_true, false_or, or_false, true_and, and_true, false_and, and_false, not_true_eq_false, not_false_eq_true, if_true, if_false, if_pos, if_neg, Option.bind_some, r_isColO hv, k_colO hv, Bool.false_eq_true]
    exact ⟨_, _, rfl, rfl, rfl, MU_no h'⟩
/-! would -/
theorem sm_swap {p q : Nat → Nat} {b : Nat} : ∀ n, b < n → (∀ j, j ≠ b → j < n → q j = p j) → sm q n + p b = sm p n + q b := by
  intro n
  induction n with
  | zero => intro h; omega
  | succ k ih =>
    intro h h2
    show sm q k + q k + p b = sm p k + p k + q b
    rcases Nat.lt_or_ge b k with h1 | h1
    · have := ih h1 (fun j hj hk => h2 j hj (by omega))
      rw [h2 k (by omega) (by omega)]; omega
    · obtain rfl : k = b := by omega
      rw [sm_congr k (fun i hi => h2 i (by omega) (by omega))]; omega
theorem r_aside (s : Nat → Int32) : ∃ r, lp (pX10_putAside_b2 a) FU (nI 0, s) = some r ∧ ∀ j, j < 1093 → r.2 j = a (2 + j) := by
  refine lpE (body := pX10_putAside_b2 a) (fun k s => s.1 = nI k ∧ ∀ j, j < k → s.2 j = a (2 + j)) (fun r => ∀ j, j < 1093 → r.2 j = a (2 + j)) 1093 (nI 0, s) ⟨rfl, fun j hj => absurd hj (Nat.not_lt_zero j)⟩ (fun k s hk hI => ?_)
  obtain ⟨s1, s2⟩ := s
  obtain ⟨rfl, h⟩ := hI
  unfold pX10_putAside_b2
  rcases Nat.lt_or_ge k 1093 with h9 | h9
  · refine Or.inl ?_
    rw [if_neg (show ¬ (1093 : Int32) ≤ nI k from fun q => by have := (nI_leI (a := 1093) (by omega) (by omega)).mp q; omega), show (2 : Int32) = nI 2 from rfl, nI_add, ckN (by omega) (by omega), ckN (by omega) (by omega), nI_clamp (by omega), nI_clamp (by omega), show (1 : Int32) = nI 1 from rfl, nI_add]
    refine ⟨_, rfl, h9, rfl, fun j hj => ?_⟩
    show upd s2 k _ j = _
    by_cases hjk : j = k
    · subst hjk; rw [u_at]
    · rw [u_ne hjk]; exact h j (by omega)
  · obtain rfl : k = 1093 := by omega
    exact Or.inr ⟨_, if_pos (show (1093 : Int32) ≤ nI 1093 by decide), h⟩
theorem r_bring (s : Nat → Int32) : ∃ r, lp (pX10_bringBack_b2 s) FU (nI 0, a) = some r ∧ ∀ i, r.2 i = if 2 ≤ i ∧ i < 1095 then s (i - 2) else a i := by
  refine lpE (body := pX10_bringBack_b2 s) (fun k t => t.1 = nI k ∧ ∀ i, t.2 i = if 2 ≤ i ∧ i < 2 + k then s (i - 2) else a i) (fun r => ∀ i, r.2 i = if 2 ≤ i ∧ i < 1095 then s (i - 2) else a i) 1093 (nI 0, a) ⟨rfl, fun i => by rw [if_neg (by omega)]⟩ (fun k t hk hI => ?_)
  obtain ⟨s1, s2⟩ := t
  obtain ⟨rfl, h⟩ := hI
  replace h : ∀ i, s2 i = if 2 ≤ i ∧ i < 2 + k then s (i - 2) else a i := h
  unfold pX10_bringBack_b2
  rcases Nat.lt_or_ge k 1093 with h9 | h9
  · refine Or.inl ?_
    rw [if_neg (show ¬ (1093 : Int32) ≤ nI k from fun q => by have := (nI_leI (a := 1093) (by omega) (by omega)).mp q; omega), show (2 : Int32) = nI 2 from rfl, nI_add, ckN (by omega) (by omega), ckN (by omega) (by omega), nI_clamp (by omega), nI_clamp (by omega), show (1 : Int32) = nI 1 from rfl, nI_add]
    refine ⟨_, rfl, h9, rfl, fun i => ?_⟩
    show upd s2 (2 + k) _ i = _
    by_cases hik : i = 2 + k
    · subst hik; rw [u_at, if_pos (by omega), Nat.add_sub_cancel_left]
    · rw [u_ne hik, h]
      by_cases h2 : 2 ≤ i ∧ i < 2 + k
      · rw [if_pos h2, if_pos (by omega)]
      · rw [if_neg h2, if_neg (by omega)]
  · obtain rfl : k = 1093 := by omega
    exact Or.inr ⟨_, if_pos (show (1093 : Int32) ≤ nI 1093 by decide), h⟩
theorem q_would (xv xw xp xs xf xu xt xb : Int32) (vs : Nat → Int32) (ps : Nat → Int64) (m1 m2 m3 m4 m5 m6 m7 m8 m9 m10 m11 : Int32) (n1 n2 n3 : Nat → Int32) (as : Nat → Int32) (h : COL a v1 bk hd tl fc C) :
    ∃ z w, pX10_would v1 v2 v3 xv xw xp xs xf xu xt xb a vs ps as = some z ∧ pX9_would 128 v1 v2 v3 xc m1 m2 m3 m4 m5 m6 m7 m8 m9 m10 m11 n1 n2 n3 bk hd tl fc = some w ∧ w.1 = z.1 ∧ z.2.2.2.2.2.2.2.2.2.1 = a ∧ w.2.2.2.2.2.2.2.2.2.2.2.2.2.2.2 = tl := by
  obtain ⟨⟨rfl, rfl, hT, hP, hF⟩, ho, hr⟩ := h
  have hn := ho.1
  have hl := ho.2.1
  have hH : ∀ k, k < HL C → tl k = enc (TV C k) := hT
  unfold pX10_would pX9_would
  rcases col_cases v1 with ⟨c, hc, rfl⟩ | hv
  · have hR := hr c hc rfl
    rcases ix_cases v2 (n := HL C) (by omega) with ⟨k, hk, rfl⟩ | hk
    · obtain ⟨b, hb, h1, h2⟩ := blk_ex _ k hk
      obtain ⟨o1, o2, o3⟩ := ho.2.2 b hb
      have hfa := k_fact (fc := fc) hb hn (show 0 < 8 by omega)
      rw [Nat.add_zero, hP b hb] at hfa
      obtain ⟨r, er, hr1⟩ := r_aside (a := a) as
      obtain ⟨z, w, ez, ew, s1, s2, s3, s4, s5⟩ := s_change (tl := tl) (fc := fc) xv xw xp xs xf xu xt xb vs ps m1 m2 m3 m4 m5 m6 m7 m8 m9 m10 m11 n1 n2 n3 hc hR ho hT hP hF hk hb h1 h2 (some v3)
      have hR2 : RCa (pP a c k (some v3)) c (stT C k (some v3)) := RC_BV.mpr ⟨RB_fr hn (RC_BV.mp hR).1 (fun i hi => pP_lo _ hi), pP_RV (show k < 128 by omega) hl _ (fun j hj hjk => by
        show _ = vv (ud (TV C) k _ j) ∧ _ = ee (ud (TV C) k _ j)
        rw [ud_ne hjk]; exact (RC_BV.mp hR).2 j hj) (fun _ => ud_at _ _ _)⟩
      obtain ⟨y, ey, hy⟩ := r_bitsOfColumn z.1 z.2.1 z.2.2.1 z.2.2.2.1 z.2.2.2.2.2.2.2.2.2.1 z.2.2.2.2.2.2.2.2.2.2 hc s1 s3
      obtain ⟨q, eq, hq⟩ := r_bring (a := z.2.2.2.2.2.2.2.2.1) r.2
      -- the class: places loaded with the value, then put back
      have hT1 : ∀ j, j < HL C → vp_updL tl k (enc (some v3)) j = enc (TV (stT C k (some v3)) j) := s4.2.2.1
      have hs := sm_lt2 hb
      obtain ⟨g, eg, hg⟩ := k_loadH (C := stT C k (some v3)) hl hT1 m1 m2 n1 (f := sm (PL C) b) (n := PL C b) hs o2
      have hm := cm_le (stT C k (some v3)) b
      have hm2 : cm (stT C k (some v3)) b ≤ 16 := Nat.le_trans hm o2
      obtain ⟨x, ex, hx⟩ := k_choose (n := PL C b) (m := cm (stT C k (some v3)) b) o2 hm2 m3 m4 m5 m6 m7 m8 m9 m10 m11 g n2 n3
      rw [bst_congr (m := cm (stT C k (some v3)) b) hg] at hx
      have x4 : x.2.2.2.2.2.2.1 = nI (bt3 (stT C k (some v3)) b).2.2 := hx.2.2.2.1
      have hback : vp_updL (vp_updL tl k (enc (some v3))) k (enc (TV C k)) = tl := by
        funext j
        by_cases hjk : j = k
        · subst hjk; rw [ul_at]; exact (hT j hk).symm
        · rw [ul_ne hjk, ul_ne hjk]
      have hput : pX10_putPlace (nI c) (nI k) v3 0 a = some (pP a c k (some v3)) := r_putPP hc (show k < 128 by omega) (some v3)
      have hsum := sm_swap (p := ct C) (q := ct (tlC (stT C k (some v3)) b)) (b := b) (NB C) hb (fun j hjb hj => by
        obtain ⟨e5, e6⟩ := st_cm (t := some v3) h1 h2 hjb
        rw [tl_ctn hjb]
        exact (st_same (C := C) (C2 := stT C k (some v3)) (b := j) rfl rfl rfl rfl e5 e6).2.2.2.1)
      rw [tl_ct] at hsum
      have hle := sm_lt (p := ct C) hb
      have hpx := sm_mono (p := ct C) (show b ≤ NB C by omega)
      unfold pX10_putAside pX10_bringBack pX0_bitsWith
      rw [r_isPlace hc hR ho hk, Option.bind_some, if_neg (show ¬ nI 1 = 0 by decide), n_l0, er, Option.bind_some, Option.bind_some, show (nI 0 : Int32) = 0 from rfl, hput, Option.bind_some, r_blockWith (C := stT C k (some v3)) hc hR2 hn hl hb h1 h2, Option.bind_some, ez, Option.bind_some, ey, Option.bind_some, n_l0, eq, Option.bind_some, Option.bind_some]
      have hta := k_tellAt (N := 128) (by omega) hl (show k < 2 ^ 31 by omega) hH
      rw [if_pos hk] at hta
      rw [k_withPlace hc hk hl, Option.bind_some, if_pos rfl, k_holderOf hn hl hP hb h1 h2, Option.bind_some, hta, Option.bind_some, show v3.toInt64 = enc (some v3) from rfl, k_change5 hl hk, Option.bind_some, k_firstOf hn hP (Nat.le_of_lt hb), Option.bind_some, hfa, Option.bind_some, eg, Option.bind_some, k_change5 hl hk, Option.bind_some, hback]
      show ∃ z' w', _ = some z' ∧ ((((pX3_choose (nI (PL C b)) (nI (cm (stT C k (some v3)) b)) m3 m4 m5 m6 m7 m8 m9 m10 m11 g n2 n3).bind _)).bind _) = some w' ∧ _
      rw [ex, Option.bind_some, show (5 : Int32) = nI 5 from rfl, k_allBits ho hF, Option.bind_some, k_fact hb hn (by omega), Option.bind_some, Option.bind_some]
      refine ⟨_, _, rfl, rfl, ?_, ?_, rfl⟩
      · show nI (sm (ct C) (NB C)) - fc (b * 8 + 5) + x.2.2.2.2.2.2.1 = y.1
        rw [(hF b hb).2.2.2.2.1, x4, hy, tl_NB, pk_sub (by omega), nI_add]
        refine congrArg nI ?_
        show sm (ct C) (NB C) - ct C b + (bt3 (stT C k (some v3)) b).2.2 = sm (ct (tlC (stT C k (some v3)) b)) (NB C)
        omega
      · show q.2 = a
        funext i
        rw [hq]
        by_cases hi : 2 ≤ i ∧ i < 1095
        · rw [if_pos hi, hr1 _ (by omega)]; exact congrArg a (by omega)
        · rw [if_neg hi]
          exact s2 i (fun q => by unfold inC at q; omega)
    · simp (disch := omega) only [n_l0, n_l1, n_l2, n_l3, n_l4, n_l5, n_l6, n_l7, n_l8, n_l9, n_l15, n_l16, n_l17, n_l20, n_l24, n_l31, n_l32, n_l33, n_l36, n_l48, n_l49, n_l97, n_l128, n_l129, n_l192, n_l225, n_l256, n_l353, n_l400, n_l512, n_l593, n_l621, n_l640, n_l857, n_l1093, n_l1095, n_l2048, n_l3225, n_l10000, n_l22955, n_l29988, n_l29989, n_l65536, n_l99999, n_l1000000000, n_l2147483647, nI_add, pk_mul, pk_sub, pk_div, nI_clamp, ckN, nI_leI, nI_ltI, nI_eq, nI_nm1, Nat.add_zero, nI_addneg, k_ush, true_or, or_true, false_or, or_false, true_and, and_true, false_and, and_false, not_true_eq_false, not_false_eq_true, if_true, if_false, if_pos, if_neg, Option.bind_some, r_isCol hc, r_blocks hc hR, r_places hc hR hn, eHL, k_col hc, r_isPlaceO hc hR ho hk, k_withPlaceO hc hk, Bool.false_eq_true]
      exact ⟨_, _, rfl, rfl, rfl, rfl, rfl⟩
  · simp (disch := omega) only [n_l0, n_l1, n_l2, n_l3, n_l4, n_l5, n_l6, n_l7, n_l8, n_l9, n_l15, n_l16, n_l17, n_l20, n_l24, n_l31, n_l32, n_l33, n_l36, n_l48, n_l49, n_l97, n_l128, n_l129, n_l192, n_l225, n_l256, n_l353, n_l400, n_l512, n_l593, n_l621, n_l640, n_l857, n_l1093, n_l1095, n_l2048, n_l3225, n_l10000, n_l22955, n_l29988, n_l29989, n_l65536, n_l99999, n_l1000000000, n_l2147483647, nI_add, pk_mul, pk_sub, pk_div, nI_clamp, ckN, nI_leI, nI_ltI, nI_eq, nI_nm1, Nat.add_zero, nI_addneg, k_ush, true_or, or_true, false_or, or_false, true_and, and_true, false_and, and_false, not_true_eq_false, not_false_eq_true, if_true, if_false, if_pos, if_neg, Option.bind_some, r_isColO hv, k_colO hv, r_isPlaceC hv, k_withPlaceC hv, Bool.false_eq_true]
    exact ⟨_, _, rfl, rfl, rfl, rfl, rfl⟩
end Q
