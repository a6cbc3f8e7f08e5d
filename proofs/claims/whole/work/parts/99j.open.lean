/-! ===== open ===== -/
section QOpen
theorem r_rdZero (rd : Nat → Int32) : ∃ r, lp pX10_open_b12 FU (nI 0, rd) = some r ∧ ∀ j, j < 353 → r.2 j = 0 := by
  refine lpE (body := pX10_open_b12) (fun k s => s.1 = nI k ∧ ∀ j, j < k → s.2 j = 0) (fun r => ∀ j, j < 353 → r.2 j = 0) 353 (nI 0, rd) ⟨rfl, fun j hj => absurd hj (Nat.not_lt_zero j)⟩ (fun k s hk hI => ?_)
  obtain ⟨s1, s2⟩ := s
  obtain ⟨rfl, hI⟩ := hI
  replace hI : ∀ j, j < k → s2 j = 0 := hI
  unfold pX10_open_b12
  rcases Nat.lt_or_ge k 353 with h9 | h9
  · refine Or.inl ?_
    rw [if_neg (show ¬ (353 : Int32) ≤ nI k by rw [n_l353, nI_leI (by omega) (by omega)]; omega), ckN (by omega) (by omega), nI_clamp (by omega)]
    refine ⟨_, rfl, h9, by show nI k + nI 1 = _; rw [nI_add], fun j hj => ?_⟩
    show upd s2 k 0 j = 0
    by_cases hj2 : j = k
    · rw [hj2, u_at]
    · rw [u_ne hj2]; exact hI j (by omega)
  · obtain rfl : k = 353 := by omega
    exact Or.inr ⟨_, if_pos (show (353 : Int32) ≤ nI 353 by decide), hI⟩
theorem r_into {c : Nat} (hc : c < 3) (rd a : Nat → Int32) : ∃ r, lp (pX10_open_b97 (nI c) rd) FU (nI 0, a) = some r ∧ (∀ i, i < 353 → r.2 (36 + 353 * c + i) = rd i) ∧ FR c a r.2 := by
  have ac : pX10_at (nI c) = some (nI (36 + 353 * c)) := by unfold pX10_at; simp (disch := omega) only [n_l0, n_l1, n_l2, n_l3, n_l4, n_l5, n_l6, n_l7, n_l8, n_l9, n_l15, n_l16, n_l17, n_l20, n_l24, n_l31, n_l32, n_l33, n_l36, n_l48, n_l49, n_l97, n_l128, n_l129, n_l192, n_l225, n_l256, n_l353, n_l400, n_l512, n_l593, n_l621, n_l640, n_l857, n_l1093, n_l1095, n_l2048, n_l3225, n_l10000, n_l22955, n_l29988, n_l29989, n_l65536, n_l99999, n_l1000000000, n_l2147483647, nI_add, pk_mul, pk_sub, pk_div, nI_clamp, ckN, nI_leI, nI_ltI, nI_eq, nI_nm1, Nat.add_zero, nI_addneg, k_ush, true_or, or_true, false_or, or_false, true_and, and_true, false_and, and_false, not_true_eq_false, not_false_eq_true, if_true, if_false, if_pos, if_neg, Option.bind_some]
  refine lpE (body := pX10_open_b97 (nI c) rd) (fun k s => s.1 = nI k ∧ (∀ i, i < k → s.2 (36 + 353 * c + i) = rd i) ∧ FR c a s.2) (fun r => (∀ i, i < 353 → r.2 (36 + 353 * c + i) = rd i) ∧ FR c a r.2) 353 (nI 0, a) ⟨rfl, fun j hj => absurd hj (Nat.not_lt_zero j), FR_rf c a⟩ (fun k s hk hI => ?_)
  obtain ⟨s1, s2⟩ := s
  obtain ⟨rfl, hI, hF⟩ := hI
  replace hI : ∀ i, i < k → s2 (36 + 353 * c + i) = rd i := hI
  replace hF : FR c a s2 := hF
  unfold pX10_open_b97
  rcases Nat.lt_or_ge k 353 with h9 | h9
  · refine Or.inl ?_
    rw [if_neg (show ¬ (353 : Int32) ≤ nI k by rw [n_l353, nI_leI (by omega) (by omega)]; omega), ac, Option.bind_some]
    dsimp only
    rw [nI_add, ckN (by omega) (by omega), ckN (by omega) (by omega), nI_clamp (by omega), nI_clamp (by omega)]
    refine ⟨_, rfl, h9, by show nI k + nI 1 = _; rw [nI_add], fun i hi => ?_, FR_tr hF (FR_u (by unfold inC; omega) _ _)⟩
    show upd s2 (36 + 353 * c + k) (rd k) (36 + 353 * c + i) = _
    by_cases hj2 : i = k
    · rw [hj2, u_at]
    · rw [u_ne (by omega)]; exact hI i (by omega)
  · obtain rfl : k = 353 := by omega
    exact Or.inr ⟨_, if_pos (show (353 : Int32) ≤ nI 353 by decide), hI, hF⟩
theorem q_open {T f h0 : Nat} {v1 op_ bk hd sb sh : Int32} {xc : Nat → Option Nat} {a tw hw rd ks fc sf : Nat → Int32} {ps tl st_ : Nat → Int64} {C : AC} {x1 x2 x3 x4 x5 x6 x7 x8 x9 x10 x11 x12 x13 k1 k2 k3 k4 k5 k6 k7 k8 k9 k10 k11 k12 k13 k14 : Int32} (ha0 : a 0 = nI h0) (ha1 : a 1 = nI f) (hh : h0 ≤ 20) (hf : f < 20) (h : COL a v1 bk hd tl fc C) (hTT : T ≤ 400) (hw_ : TW T tw hw) :
    ∃ z w, pX10_open v1 x1 (nI T) x2 x3 x4 x5 x6 x7 x8 x9 x10 x11 x12 x13 a ps tw rd = some z ∧ pX9_open 16 128 128 v1 op_ xc (nI T) hw k1 k2 k3 k4 k5 k6 k7 k8 k9 k10 k11 k12 k13 k14 ks sb sh st_ sf bk hd tl fc = some w ∧ w.1 = z.1 ∧ MU a v1 w.2.1 z.2.2.2.2.2.2.2.2.2.2.2.2.2.2.2.1 w.2.2.2.2.2.2.2.2.2.2.2.2.2.2.2.2.2.2.2.2.2.2.2.1 w.2.2.2.2.2.2.2.2.2.2.2.2.2.2.2.2.2.2.2.2.2.2.2.2.1 w.2.2.2.2.2.2.2.2.2.2.2.2.2.2.2.2.2.2.2.2.2.2.2.2.2.1 w.2.2.2.2.2.2.2.2.2.2.2.2.2.2.2.2.2.2.2.2.2.2.2.2.2.2 ∧ ((z.2.2.1 = nI T ∧ z.2.2.2.2.2.1 = x4 ∧ z.2.2.2.2.2.2.1 = x5 ∧ w.2.2.1 = op_ ∧ w.2.2.2.1 = nI T ∧ w.2.2.2.2.1 = k1 ∧ w.2.2.2.2.2.1 = k2) ∨ (z.2.2.1 = 0 ∧ w.2.2.1 = 1 ∧ w.2.2.2.1 = 0 ∧ w.2.2.2.2.1 = z.2.2.2.2.2.1 ∧ w.2.2.2.2.2.1 = z.2.2.2.2.2.2.1)) := by
  have h' := h
  obtain ⟨⟨rfl, rfl, hT, hP, hF⟩, ho, hr⟩ := h
  have hn := ho.1
  have hl := ho.2.1
  have hH : ∀ k, k < HL C → tl k = enc (TV C k) := hT
  unfold pX10_open pX9_open
  rcases col_cases v1 with ⟨c, hc, rfl⟩ | hv
  · rw [r_isCol hc, Option.bind_some, if_neg (show ¬ nI 1 = 0 by decide), k_col hc, Option.bind_some, if_pos rfl]
    obtain ⟨r0, e0, q0⟩ := r_rdZero rd
    have e0' : lp pX10_open_b12 FU (0, rd) = some r0 := e0
    have hR0 : RCa (vR r0.2) 0 (mtC (fun _ => none)) := vR_RC.mpr ⟨q0 0 (by omega), fun b hb => absurd hb (Nat.not_lt_zero b), fun k hk => absurd hk (Nat.not_lt_zero k)⟩
    have hO0 : OKC (mtC (fun _ => none)) := ⟨Nat.zero_le _, Nat.zero_le _, fun b hb => absurd hb (Nat.not_lt_zero b)⟩
    have hK0 : KC 0 0 st_ sf (mtC (fun _ => none)) := ⟨rfl, rfl, fun k hk => absurd hk (Nat.not_lt_zero k), fun b hb => absurd hb (Nat.not_lt_zero b), fun b hb => absurd hb (Nat.not_lt_zero b)⟩
    obtain ⟨r, r2, er, er2, hr_⟩ := q_openLoop (T := T) (tw := tw) (hw := hw) (fp := -1) (wh := -1) (a2 := x1) (a7 := x6) (a8 := x7) (a9 := x8) (a10 := x9) (a11 := x10) (a12 := x11) (a13 := x12) (a14 := x13) (c5 := k4) (c6 := k5) (c7 := k6) (c8 := k7) (c9 := k8) (c10 := k9) (c11 := k10) (c12 := k11) (c13 := k12) (c14 := k13) (c15 := k14) (ps := ps) (tl := st_) (rd := r0.2) (ks := ks) (fc := sf) hTT hw_ hO0 rfl hR0 hK0
    unfold pX4_openAll pX0_empty
    rw [e0', Option.bind_some, er, Option.bind_some, Option.bind_some]
    dsimp only
    rw [er2, Option.bind_some]
    rcases hr_ with ⟨g1, g2⟩ | ⟨g1, g2, g3, g4, g5, C', p, o1, o2, o3, _, _, _, _, o8⟩
    · have hO : ¬ r2.2.1 = 0 := by rw [g2.2.1]; exact g2.1
      rw [if_pos g1, if_neg hO, Option.bind_some, if_pos rfl]
      exact ⟨_, _, rfl, rfl, rfl, MU_no h', Or.inr ⟨rfl, rfl, rfl, g2.2.1, g2.2.2⟩⟩
    · obtain ⟨o31, o32, o33⟩ := o3
      obtain ⟨a1, ek, hK⟩ := r_keep ha0 ha1 hh hf
      obtain ⟨rc, ec, c1, c2⟩ := r_into hc r.2.2.2.2.2.2.2.2.2.2.2.2.2.2.2 a1
      have ec' : lp (pX10_open_b97 (nI c) r.2.2.2.2.2.2.2.2.2.2.2.2.2.2.2) FU (0, a1) = some rc := ec
      obtain ⟨t', f', em, hm⟩ := k_mirror (C := C') (tl := r2.2.2.2.2.2.2.2.2.2.2.2.2.2.2.2.2.2.2.1) (fc := r2.2.2.2.2.2.2.2.2.2.2.2.2.2.2.2.2.2.2.2) (b0 := nI (NB C)) (h0 := nI (HL C)) (t0 := tl) (f0 := fc) o1 ⟨rfl, rfl, o33⟩
      have hRc : RCa rc.2 c C' := RC_move o1 (fun i hi => by rw [c1 i hi, vR_at]) o2
      rw [if_neg (show ¬ r.1 = 0 by rw [g1]; decide), if_pos g4, Option.bind_some, if_neg (show ¬ (1 : Int32) = 0 by decide), ek, Option.bind_some, ec', Option.bind_some]
      dsimp only
      rw [o31, o32, em, Option.bind_some]
      exact ⟨_, _, rfl, rfl, o8.symm, MU_yes hc ek c2 hm o1 hRc, Or.inr ⟨rfl, rfl, rfl, g4.trans g2.symm, g5.trans g3.symm⟩⟩
  · rw [r_isColO hv, Option.bind_some, if_pos (show nI 0 = 0 from rfl), k_colO hv, Option.bind_some, if_neg Bool.false_ne_true]
    exact ⟨_, _, rfl, rfl, rfl, MU_no h', Or.inl ⟨rfl, rfl, rfl, rfl, rfl, rfl, rfl⟩⟩
end QOpen
