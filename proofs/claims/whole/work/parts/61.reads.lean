/-! ===== the reading calls, fifth lot: difference, evenly, evenest, looks, unlike, alike; tape, tell ===== -/
section Reads
variable {c : Nat} {a : Nat → Int32} {v1 v2 v3 bk hd : Int32} {tl : Nat → Int64} {fc : Nat → Int32} {C : AC} {xc : Nat → Option Nat}
/-- the nearest value ahead -/
def pv (tv : Nat → Option Int32) : Nat → Option Nat
  | 0 => none
  | k + 1 => if (tv k).isSome then some k else pv tv k
theorem pv_s (tv : Nat → Option Int32) (k : Nat) : pv tv (k + 1) = if (tv k).isSome then some k else pv tv k := rfl
theorem pv_some {tv : Nat → Option Int32} : ∀ k j, pv tv k = some j → j < k ∧ (tv j).isSome := by
  intro k
  induction k with
  | zero => intro j h; cases h
  | succ n ih =>
    intro j h
    unfold pv at h
    split at h
    · cases h; exact ⟨by omega, by assumption⟩
    · obtain ⟨h1, h2⟩ := ih j h; exact ⟨by omega, h2⟩
def dn (k : Nat) : Int32 := if k = 0 then -nI 1 else nI (k - 1)
theorem dn_s (k : Nat) : dn (k + 1) = nI k := if_neg (by omega)
theorem dn_0 : dn 0 = -nI 1 := rfl
theorem dn_sub (k : Nat) : nI k + -nI 1 = dn k := by
  unfold dn
  split
  · rename_i h; subst h; rfl
  · exact nI_addneg (by omega)
theorem dn_sub2 (k : Nat) : nI k - nI 1 = dn k := by rw [← dn_sub, Int32.sub_eq_add_neg]
theorem r_prev (hc : c < 3) (hR : RCa a c C) (hl : HL C ≤ 128) {p : Nat} (hp : p ≤ HL C) : lp (pX10_difference_b17 (nI c) a) FU (nI p - nI 1) = some (match pv (TV C) p with | none => -nI 1 | some j => nI j) := by
  obtain ⟨r, e, hq⟩ := lpE (body := pX10_difference_b17 (nI c) a) (fun j s => s = dn (p - j) ∧ pv (TV C) (p - j) = pv (TV C) p) (fun r => r = (match pv (TV C) p with | none => -nI 1 | some j => nI j)) p (nI p - nI 1) ⟨dn_sub2 p, rfl⟩ (fun j s hj hI => by
    obtain ⟨rfl, hpv⟩ := hI
    unfold pX10_difference_b17
    rcases Nat.lt_or_ge j p with h | h
    · obtain ⟨m, hm⟩ : ∃ m, p - j = m + 1 := ⟨p - j - 1, by omega⟩
      rw [hm] at hpv ⊢
      have hm2 : p - (j + 1) = m := by omega
      rw [dn_s, hm2]
      cases hx : TV C m with
      | none =>
        refine Or.inl ?_
        simp (disch := omega) only [n_l0, n_l1, n_l2, n_l3, n_l4, n_l5, n_l6, n_l7, n_l8, n_l9, n_l15, n_l16, n_l17, n_l20, n_l24, n_l31, n_l32, n_l33, n_l36, n_l48, n_l49, n_l97, n_l128, n_l129, n_l192, n_l225, n_l256, n_l353, n_l400, n_l512, n_l593, n_l621, n_l640, n_l857, n_l1093, n_l1095, n_l2048, n_l3225, n_l10000, n_l22955, n_l29988, n_l29989, n_l65536, n_l99999, n_l1000000000, n_l2147483647, nI_add, pk_mul, pk_sub, pk_div, nI_clamp, ckN, nI_leI, nI_ltI, nI_eq, nI_nm1, Nat.add_zero, nI_addneg, k_ush, true_or, or_true, false_or, or_false, true_and, and_true, false_and, and_false, not_true_eq_false, not_false_eq_true, if_true, if_false, if_pos, if_neg, Option.bind_some, r_empty hc hR (show m < HL C by omega) hl, hx, e_none, e_some, l64_ne, l64_inj, l64_lt, l64_le, vv_some, vv_none, ee_some, ee_none, lc_eq, lc_lt, lc_le, lc_gt, lc_ge, reduceCtorEq, Option.isSome_none, Option.isSome_some, Bool.false_eq_true, dn_sub]
        refine ⟨_, rfl, h, rfl, ?_⟩
        rw [← hpv, pv_s, hx]; rfl
      | some v =>
        refine Or.inr ?_
        have : pv (TV C) p = some m := by rw [← hpv, pv_s, hx]; rfl
        simp (disch := omega) only [n_l0, n_l1, n_l2, n_l3, n_l4, n_l5, n_l6, n_l7, n_l8, n_l9, n_l15, n_l16, n_l17, n_l20, n_l24, n_l31, n_l32, n_l33, n_l36, n_l48, n_l49, n_l97, n_l128, n_l129, n_l192, n_l225, n_l256, n_l353, n_l400, n_l512, n_l593, n_l621, n_l640, n_l857, n_l1093, n_l1095, n_l2048, n_l3225, n_l10000, n_l22955, n_l29988, n_l29989, n_l65536, n_l99999, n_l1000000000, n_l2147483647, nI_add, pk_mul, pk_sub, pk_div, nI_clamp, ckN, nI_leI, nI_ltI, nI_eq, nI_nm1, Nat.add_zero, nI_addneg, k_ush, true_or, or_true, false_or, or_false, true_and, and_true, false_and, and_false, not_true_eq_false, not_false_eq_true, if_true, if_false, if_pos, if_neg, Option.bind_some, r_empty hc hR (show m < HL C by omega) hl, hx, e_none, e_some, l64_ne, l64_inj, l64_lt, l64_le, vv_some, vv_none, ee_some, ee_none, lc_eq, lc_lt, lc_le, lc_gt, lc_ge, reduceCtorEq, Option.isSome_none, Option.isSome_some, Bool.false_eq_true, this]
        exact ⟨_, rfl, rfl⟩
    · obtain rfl : j = p := by omega
      rw [Nat.sub_self] at hpv ⊢
      refine Or.inr ?_
      rw [dn_0, ← hpv]
      exact ⟨_, if_pos (by decide), rfl⟩)
  rw [e, hq]
theorem q_difference (h : COL a v1 bk hd tl fc C) : ∃ r, pX10_difference v1 v2 a = some r ∧ pX9_difference 128 v1 v2 xc hd tl = some r := by
  obtain ⟨⟨rfl, rfl, hT, hP, hF⟩, ho, hr⟩ := h
  have hn := ho.1
  have hl := ho.2.1
  have hH : ∀ k, k < HL C → tl k = enc (TV C k) := hT
  unfold pX10_difference pX9_difference pX5_differenceAt
  rcases col_cases v1 with ⟨c, hc, rfl⟩ | hv
  · have hR := hr c hc rfl
    rcases ix_cases v2 (n := HL C) (by omega) with ⟨p, hk, rfl⟩ | hk
    · have e1 := r_prev hc hR hl (Nat.le_of_lt hk)
      cases hx : TV C p with
      | none =>
        simp only [r_isPlace hc hR ho hk, Option.bind_some, show (1 : Int32) = nI 1 from rfl, e1, k_col hc, k_isFull (N := 128) (by omega) hl hk hT, hx, if_true, Option.isSome_none, show (nI 0 = (0 : Int32)) = True from eq_true rfl, k_tellAt (N := 128) (by omega) hl (show p < 2 ^ 31 by omega) hH, show (nI 1 = (0 : Int32)) = False from eq_false (by decide), if_false, Bool.false_eq_true, r_empty hc hR hk hl, ee_none, if_pos hk, e_none]
        refine ⟨_, ?_, rfl⟩
        split
        · rfl
        · exact if_neg (nI_pos (by rename_i hq; have := (pv_some p _ hq).1; omega))
      | some v =>
        -- the class's loop
        obtain ⟨r, e, hq⟩ := lpE (body := pX5_differenceAt_b18 128 (nI p) tl) (fun j s => s = dn (p - j) ∧ pv (TV C) (p - j) = pv (TV C) p) (fun r => match pv (TV C) p with
            | none => ∃ x, r = .inl x
            | some m => r = .inr (v - vv (TV C m)).toInt64) p (nI p - nI 1) ⟨dn_sub2 p, rfl⟩ (fun j s hj hI => by
          obtain ⟨rfl, hpv⟩ := hI
          unfold pX5_differenceAt_b18
          rcases Nat.lt_or_ge j p with h | h
          · obtain ⟨m, hm⟩ : ∃ m, p - j = m + 1 := ⟨p - j - 1, by omega⟩
            rw [hm] at hpv ⊢
            have hm2 : p - (j + 1) = m := by omega
            rw [dn_s, hm2]
            cases hy : TV C m with
            | none =>
              refine Or.inl ?_
              simp (disch := omega) only [n_l0, n_l1, n_l2, n_l3, n_l4, n_l5, n_l6, n_l7, n_l8, n_l9, n_l15, n_l16, n_l17, n_l20, n_l24, n_l31, n_l32, n_l33, n_l36, n_l48, n_l49, n_l97, n_l128, n_l129, n_l192, n_l225, n_l256, n_l353, n_l400, n_l512, n_l593, n_l621, n_l640, n_l857, n_l1093, n_l1095, n_l2048, n_l3225, n_l10000, n_l22955, n_l29988, n_l29989, n_l65536, n_l99999, n_l1000000000, n_l2147483647, nI_add, pk_mul, pk_sub, pk_div, nI_clamp, ckN, nI_leI, nI_ltI, nI_eq, nI_nm1, Nat.add_zero, nI_addneg, k_ush, true_or, or_true, false_or, or_false, true_and, and_true, false_and, and_false, not_true_eq_false, not_false_eq_true, if_true, if_false, if_pos, if_neg, Option.bind_some, hT m (by omega), hy, e_none, e_some, l64_ne, l64_inj, l64_lt, l64_le, vv_some, vv_none, ee_some, ee_none, lc_eq, lc_lt, lc_le, lc_gt, lc_ge, reduceCtorEq, Option.isSome_none, Option.isSome_some, Bool.false_eq_true, dn_sub]
              refine ⟨_, rfl, h, rfl, ?_⟩
              rw [← hpv, pv_s, hy]; rfl
            | some w =>
              refine Or.inr ?_
              have : pv (TV C) p = some m := by rw [← hpv, pv_s, hy]; rfl
              simp (disch := omega) only [n_l0, n_l1, n_l2, n_l3, n_l4, n_l5, n_l6, n_l7, n_l8, n_l9, n_l15, n_l16, n_l17, n_l20, n_l24, n_l31, n_l32, n_l33, n_l36, n_l48, n_l49, n_l97, n_l128, n_l129, n_l192, n_l225, n_l256, n_l353, n_l400, n_l512, n_l593, n_l621, n_l640, n_l857, n_l1093, n_l1095, n_l2048, n_l3225, n_l10000, n_l22955, n_l29988, n_l29989, n_l65536, n_l99999, n_l1000000000, n_l2147483647, nI_add, pk_mul, pk_sub, pk_div, nI_clamp, ckN, nI_leI, nI_ltI, nI_eq, nI_nm1, Nat.add_zero, nI_addneg, k_ush, true_or, or_true, false_or, or_false, true_and, and_true, false_and, and_false, not_true_eq_false, not_false_eq_true, if_true, if_false, if_pos, if_neg, Option.bind_some, hT m (by omega), hT p hk, hx, hy, e_none, e_some, l64_ne, l64_inj, l64_lt, l64_le, vv_some, vv_none, ee_some, ee_none, lc_eq, lc_lt, lc_le, lc_gt, lc_ge, reduceCtorEq, Option.isSome_none, Option.isSome_some, Bool.false_eq_true, this]
              refine ⟨_, rfl, ?_⟩
              rw [show (v.toInt64 - w.toInt64).toInt32 = v - w from by rw [Int64.toInt32_sub, l64_i, l64_i]]
          · obtain rfl : j = p := by omega
            rw [Nat.sub_self] at hpv ⊢
            refine Or.inr ?_
            rw [dn_0, ← hpv]
            exact ⟨_, if_pos (by decide), _, rfl⟩)
        simp only [r_isPlace hc hR ho hk, Option.bind_some, show (1 : Int32) = nI 1 from rfl, e1, k_col hc, k_isFull (N := 128) (by omega) hl hk hT, hx, if_true, Option.isSome_some, show (nI 1 = (0 : Int32)) = False from eq_false (by decide), if_false, r_empty hc hR hk hl, ee_some, show (nI 0 = (0 : Int32)) = True from eq_true rfl, e, r_value hc hR hk hl, vv_some]
        cases hpv : pv (TV C) p with
        | none =>
          rw [hpv] at hq
          obtain ⟨x, rfl⟩ := hq
          exact ⟨_, if_pos (by decide), rfl⟩
        | some m =>
          rw [hpv] at hq
          replace hq : r = .inr (v - vv (TV C m)).toInt64 := hq
          subst hq
          have hm := (pv_some p m hpv).1
          simp only [if_neg (nI_pos (show m < 2 ^ 31 by omega)), r_value hc hR (show m < HL C by omega) hl, Option.bind_some]
          exact ⟨_, rfl, rfl⟩
    · simp (disch := omega) only [n_l0, n_l1, n_l2, n_l3, n_l4, n_l5, n_l6, n_l7, n_l8, n_l9, n_l15, n_l16, n_l17, n_l20, n_l24, n_l31, n_l32, n_l33, n_l36, n_l48, n_l49, n_l97, n_l128, n_l129, n_l192, n_l225, n_l256, n_l353, n_l400, n_l512, n_l593, n_l621, n_l640, n_l857, n_l1093, n_l1095, n_l2048, n_l3225, n_l10000, n_l22955, n_l29988, n_l29989, n_l65536, n_l99999, n_l1000000000, n_l2147483647, nI_add, pk_mul, pk_sub, pk_div, nI_clamp, ckN, nI_leI, nI_ltI, nI_eq, nI_nm1, Nat.add_zero, nI_addneg, k_ush, true_or, or_true, false_or, or_false, true_and, and_true, false_and, and_false, not_true_eq_false, not_false_eq_true, if_true, if_false, if_pos, if_neg, Option.bind_some, r_isCol hc, r_blocks hc hR, r_places hc hR hn, eHL, k_col hc, r_isPlaceO hc hR ho hk, k_isFullO hk, k_tellAtO hk]
      exact ⟨_, rfl, rfl⟩
  · simp (disch := omega) only [n_l0, n_l1, n_l2, n_l3, n_l4, n_l5, n_l6, n_l7, n_l8, n_l9, n_l15, n_l16, n_l17, n_l20, n_l24, n_l31, n_l32, n_l33, n_l36, n_l48, n_l49, n_l97, n_l128, n_l129, n_l192, n_l225, n_l256, n_l353, n_l400, n_l512, n_l593, n_l621, n_l640, n_l857, n_l1093, n_l1095, n_l2048, n_l3225, n_l10000, n_l22955, n_l29988, n_l29989, n_l65536, n_l99999, n_l1000000000, n_l2147483647, nI_add, pk_mul, pk_sub, pk_div, nI_clamp, ckN, nI_leI, nI_ltI, nI_eq, nI_nm1, Nat.add_zero, nI_addneg, k_ush, true_or, or_true, false_or, or_false, true_and, and_true, false_and, and_false, not_true_eq_false, not_false_eq_true, if_true, if_false, if_pos, if_neg, Option.bind_some, r_isColO hv, k_colO hv, r_isPlaceC hv, Bool.false_eq_true]
    exact ⟨_, rfl, rfl⟩
/-! evenly -/
def eB (C : AC) (f n : Nat) : Nat := (bst n (cnt (TV C) f n) (val (TV C) f n)).2.2
def evN (C : AC) (n : Nat) : Nat := sm (fun j => eB C (j * n) (min n (HL C - j * n))) ((HL C + n - 1) / n)
theorem sm_le {p : Nat → Nat} {B : Nat} : ∀ n, (∀ i, i < n → p i ≤ B) → sm p n ≤ n * B := by
  intro n
  induction n with
  | zero => intro _; exact Nat.zero_le _
  | succ k ih =>
    intro h
    have h1 := ih (fun i hi => h i (by omega))
    have h2 := h k (by omega)
    show sm p k + p k ≤ (k + 1) * B
    rw [Nat.succ_mul]; omega
theorem eB_le (C : AC) {f n : Nat} (h : n ≤ 16) : eB C f n ≤ 2000 := Nat.le_of_lt (bst_lt h (Nat.le_trans (cnt_le _ _ _) h))
theorem ev_lt (hl : HL C ≤ 128) {n : Nat} (h1 : 1 ≤ n) (h2 : n ≤ 16) : evN C n < 2 ^ 20 := by
  unfold evN
  have h3 := sm_le (p := fun j => eB C (j * n) (min n (HL C - j * n))) (B := 2000) ((HL C + n - 1) / n) (fun i _ => eB_le C (by omega))
  have h4 : (HL C + n - 1) / n ≤ 143 := Nat.le_trans (Nat.div_le_self _ _) (by omega)
  have h5 := Nat.mul_le_mul_right 2000 h4
  omega
theorem ev_in {H n k : Nat} (h1 : 1 ≤ n) (hk : k < (H + n - 1) / n) : k * n < H := by
  have h2 := Nat.mul_le_mul_right n (show k + 1 ≤ (H + n - 1) / n from hk)
  have h3 := Nat.div_mul_le_self (H + n - 1) n
  rw [Nat.succ_mul] at h2
  omega
theorem ev_out {H n : Nat} (h1 : 1 ≤ n) : H ≤ (H + n - 1) / n * n := by
  have h2 := Nat.div_add_mod (H + n - 1) n
  have h3 := Nat.mod_lt (H + n - 1) (show n > 0 from h1)
  rw [Nat.mul_comm] at h2
  omega
theorem r_even (xv xw xp xs xf xu xt xb : Int32) (vs : Nat → Int32) (ps : Nat → Int64) (hc : c < 3) (hR : RCa a c C) (ho : OKC C) {n : Nat} (h1 : 1 ≤ n) (h2 : n ≤ 16) : ∃ z, pX10_evenBits (nI c) (nI n) xv xw xp xs xf xu xt xb a vs ps = some z ∧ z.1 = nI (evN C n) := by
  have hn := ho.1
  have hl := ho.2.1
  obtain ⟨r, e, hq⟩ := lpE (body := pX10_evenBits_b12 (nI c) (nI n) (nI (HL C)) a) (fun k s => s.1 = nI (sm (fun j => eB C (j * n) (min n (HL C - j * n))) k) ∧ s.2.1 = nI (k * n)) (fun r => r.1 = nI (evN C n)) ((HL C + n - 1) / n) (nI 0, nI 0, xv, xw, xp, xs, xf, xu, xt, xb, vs, ps) ⟨rfl, by rw [Nat.zero_mul]⟩ (fun k s hk hI => by
    obtain ⟨t1, t2, t3, t4, t5, t6, t7, t8, t9, t10, t11, t12⟩ := s
    obtain ⟨rfl, rfl⟩ := hI
    unfold pX10_evenBits_b12 pX10_evenBits_b12j42
    rcases Nat.lt_or_ge k ((HL C + n - 1) / n) with h9 | h9
    · refine Or.inl ?_
      have hin := ev_in h1 h9
      obtain ⟨y, ey, hy⟩ := r_bestOf t3 t4 t5 t6 t11 t12 t7 t8 t9 t10 hc hR hl (f := k * n) (n := min n (HL C - k * n)) (by omega) (by omega)
      by_cases h5 : n ≤ HL C - k * n
      · rw [Nat.min_eq_left h5] at ey hy
        simp (disch := omega) only [n_l0, n_l1, n_l2, n_l3, n_l4, n_l5, n_l6, n_l7, n_l8, n_l9, n_l15, n_l16, n_l17, n_l20, n_l24, n_l31, n_l32, n_l33, n_l36, n_l48, n_l49, n_l97, n_l128, n_l129, n_l192, n_l225, n_l256, n_l353, n_l400, n_l512, n_l593, n_l621, n_l640, n_l857, n_l1093, n_l1095, n_l2048, n_l3225, n_l10000, n_l22955, n_l29988, n_l29989, n_l65536, n_l99999, n_l1000000000, n_l2147483647, nI_add, pk_mul, pk_sub, pk_div, nI_clamp, ckN, nI_leI, nI_ltI, nI_eq, nI_nm1, Nat.add_zero, nI_addneg, k_ush, true_or, or_true, false_or, or_false, true_and, and_true, false_and, and_false, not_true_eq_false, not_false_eq_true, if_true, if_false, if_pos, if_neg, Option.bind_some, ey]
        refine ⟨_, rfl, h9, ?_, by show nI (k * n + n) = _; rw [Nat.succ_mul]⟩
        show _ + y.1 = _
        rw [hy, nI_add]
        show _ = nI (_ + eB C (k * n) (min n (HL C - k * n)))
        rw [Nat.min_eq_left h5]; rfl
      · rw [Nat.min_eq_right (by omega)] at ey hy
        simp (disch := omega) only [n_l0, n_l1, n_l2, n_l3, n_l4, n_l5, n_l6, n_l7, n_l8, n_l9, n_l15, n_l16, n_l17, n_l20, n_l24, n_l31, n_l32, n_l33, n_l36, n_l48, n_l49, n_l97, n_l128, n_l129, n_l192, n_l225, n_l256, n_l353, n_l400, n_l512, n_l593, n_l621, n_l640, n_l857, n_l1093, n_l1095, n_l2048, n_l3225, n_l10000, n_l22955, n_l29988, n_l29989, n_l65536, n_l99999, n_l1000000000, n_l2147483647, nI_add, pk_mul, pk_sub, pk_div, nI_clamp, ckN, nI_leI, nI_ltI, nI_eq, nI_nm1, Nat.add_zero, nI_addneg, k_ush, true_or, or_true, false_or, or_false, true_and, and_true, false_and, and_false, not_true_eq_false, not_false_eq_true, if_true, if_false, if_pos, if_neg, Option.bind_some, ey]
        refine ⟨_, rfl, h9, ?_, by show nI (k * n + n) = _; rw [Nat.succ_mul]⟩
        show _ + y.1 = _
        rw [hy, nI_add]
        show _ = nI (_ + eB C (k * n) (min n (HL C - k * n)))
        rw [Nat.min_eq_right (by omega)]; rfl
    · obtain rfl : k = (HL C + n - 1) / n := by omega
      have hout := ev_out (H := HL C) h1
      have hb : (HL C + n - 1) / n * n ≤ HL C + n - 1 := Nat.div_mul_le_self _ _
      refine Or.inr ?_
      simp (disch := omega) only [n_l0, n_l1, n_l2, n_l3, n_l4, n_l5, n_l6, n_l7, n_l8, n_l9, n_l15, n_l16, n_l17, n_l20, n_l24, n_l31, n_l32, n_l33, n_l36, n_l48, n_l49, n_l97, n_l128, n_l129, n_l192, n_l225, n_l256, n_l353, n_l400, n_l512, n_l593, n_l621, n_l640, n_l857, n_l1093, n_l1095, n_l2048, n_l3225, n_l10000, n_l22955, n_l29988, n_l29989, n_l65536, n_l99999, n_l1000000000, n_l2147483647, nI_add, pk_mul, pk_sub, pk_div, nI_clamp, ckN, nI_leI, nI_ltI, nI_eq, nI_nm1, Nat.add_zero, nI_addneg, k_ush, true_or, or_true, false_or, or_false, true_and, and_true, false_and, and_false, not_true_eq_false, not_false_eq_true, if_true, if_false, if_pos, if_neg, Option.bind_some]
      exact ⟨_, rfl, rfl⟩) (by have := Nat.div_le_self (HL C + n - 1) n; omega)
  unfold pX10_evenBits
  simp (disch := omega) only [n_l0, n_l1, n_l2, n_l3, n_l4, n_l5, n_l6, n_l7, n_l8, n_l9, n_l15, n_l16, n_l17, n_l20, n_l24, n_l31, n_l32, n_l33, n_l36, n_l48, n_l49, n_l97, n_l128, n_l129, n_l192, n_l225, n_l256, n_l353, n_l400, n_l512, n_l593, n_l621, n_l640, n_l857, n_l1093, n_l1095, n_l2048, n_l3225, n_l10000, n_l22955, n_l29988, n_l29989, n_l65536, n_l99999, n_l1000000000, n_l2147483647, nI_add, pk_mul, pk_sub, pk_div, nI_clamp, ckN, nI_leI, nI_ltI, nI_eq, nI_nm1, Nat.add_zero, nI_addneg, k_ush, true_or, or_true, false_or, or_false, true_and, and_true, false_and, and_false, not_true_eq_false, not_false_eq_true, if_true, if_false, if_pos, if_neg, Option.bind_some, r_places hc hR hn, eHL, e]
  exact ⟨_, rfl, hq⟩
theorem k_even (m1 m2 m3 m4 m5 m6 m7 m8 m9 m10 m11 : Int32) (n1 n2 n3 : Nat → Int32) (ho : OKC C) (hT : KT tl C) {n : Nat} (h1 : 1 ≤ n) (h2 : n ≤ 16) : ∃ z, pX3_bitsInBlocksOf 128 (nI n) m1 m2 m3 m4 m5 m6 m7 m8 m9 m10 m11 n1 n2 n3 (nI (HL C)) tl = some z ∧ z.1 = nI (evN C n) := by
  have hn := ho.1
  have hl := ho.2.1
  obtain ⟨r, e, hq⟩ := lpE (body := pX3_bitsInBlocksOf_b5 128 (nI n) (nI (HL C)) tl) (fun k s => s.1 = nI (sm (fun j => eB C (j * n) (min n (HL C - j * n))) k) ∧ s.2.1 = nI (k * n)) (fun r => r.1 = nI (evN C n)) ((HL C + n - 1) / n) (nI 0, nI 0, m1, m2, m3, m4, m5, m6, m7, m8, m9, m10, m11, n1, n2, n3) ⟨rfl, by rw [Nat.zero_mul]⟩ (fun k s hk hI => by
    obtain ⟨t1, t2, t3, t4, t5, t6, t7, t8, t9, t10, t11, t12, t13, t14, t15, t16⟩ := s
    obtain ⟨rfl, rfl⟩ := hI
    unfold pX3_bitsInBlocksOf_b5
    rcases Nat.lt_or_ge k ((HL C + n - 1) / n) with h9 | h9
    · refine Or.inl ?_
      have hin := ev_in h1 h9
      obtain ⟨g, eg, hg⟩ := k_load (N := 128) (H := HL C) (f := k * n) (n := n) (by omega) (by omega) (by omega) h2 hT t3 t4 t14
      have hcl := cnt_le (TV C) (k * n) (min n (HL C - k * n))
      obtain ⟨y, ey, hy⟩ := k_choose (n := min n (HL C - k * n)) (m := cnt (TV C) (k * n) (min n (HL C - k * n))) (by omega) (by omega) t5 t6 t7 t8 t9 t10 t11 t12 t13 g t15 t16
      rw [bst_congr hg] at hy
      simp only [nI_leI (show HL C < 2 ^ 31 by omega) (show k * n < 2 ^ 31 by omega), if_neg (show ¬ HL C ≤ k * n by omega), eg, Option.bind_some, ey, show (1 : Int32) = nI 1 from rfl, k_maxN (a := 1) (b := n) (by omega) (by omega), Nat.max_eq_right h1]
      refine ⟨_, rfl, h9, ?_, by show nI (k * n) + nI n = _; rw [nI_add, Nat.succ_mul]⟩
      show _ + y.2.2.2.2.2.2.1 = _
      rw [hy.2.2.2.1, nI_add]
      rfl
    · obtain rfl : k = (HL C + n - 1) / n := by omega
      have hout := ev_out (H := HL C) h1
      have hb : (HL C + n - 1) / n * n ≤ HL C + n - 1 := Nat.div_mul_le_self _ _
      refine Or.inr ?_
      simp (disch := omega) only [n_l0, n_l1, n_l2, n_l3, n_l4, n_l5, n_l6, n_l7, n_l8, n_l9, n_l15, n_l16, n_l17, n_l20, n_l24, n_l31, n_l32, n_l33, n_l36, n_l48, n_l49, n_l97, n_l128, n_l129, n_l192, n_l225, n_l256, n_l353, n_l400, n_l512, n_l593, n_l621, n_l640, n_l857, n_l1093, n_l1095, n_l2048, n_l3225, n_l10000, n_l22955, n_l29988, n_l29989, n_l65536, n_l99999, n_l1000000000, n_l2147483647, nI_add, pk_mul, pk_sub, pk_div, nI_clamp, ckN, nI_leI, nI_ltI, nI_eq, nI_nm1, Nat.add_zero, nI_addneg, k_ush, true_or, or_true, false_or, or_false, true_and, and_true, false_and, and_false, not_true_eq_false, not_false_eq_true, if_true, if_false, if_pos, if_neg, Option.bind_some]
      exact ⟨_, rfl, rfl⟩) (by have := Nat.div_le_self (HL C + n - 1) n; omega)
  unfold pX3_bitsInBlocksOf
  rw [n_l0, e]
  exact ⟨_, rfl, hq⟩
theorem s_cases (v : Int32) {m : Nat} (hm : m < 2 ^ 30) : (∃ k, 1 ≤ k ∧ k ≤ m ∧ v = nI k) ∨ v < nI 1 ∨ nI m < v := by
  rcases pk_ix v (n := m + 1) (by omega) with h | h | ⟨k, h1, h2⟩
  · refine Or.inr (Or.inl ?_)
    have := Int32.lt_iff_toInt_lt.mp h
    refine Int32.lt_iff_toInt_lt.mpr ?_
    have h3 : (nI 1).toInt = 1 := by decide
    have h4 : (0 : Int32).toInt = 0 := by decide
    omega
  · refine Or.inr (Or.inr ?_)
    have := Int32.le_iff_toInt_le.mp h
    refine Int32.lt_iff_toInt_lt.mpr ?_
    rw [nI_toInt (by omega)] at this ⊢
    omega
  · rcases Nat.eq_zero_or_pos k with h0 | h0
    · subst h0
      exact Or.inr (Or.inl (by rw [h2]; decide))
    · exact Or.inl ⟨k, h0, by omega, h2⟩
theorem q_evenly (xv xw xp xs xf xu xt xb : Int32) (vs : Nat → Int32) (ps : Nat → Int64) (m1 m2 m3 m4 m5 m6 m7 m8 m9 m10 m11 : Int32) (n1 n2 n3 : Nat → Int32) (h : COL a v1 bk hd tl fc C) : ∃ z w, pX10_evenly v1 v2 xv xw xp xs xf xu xt xb a vs ps = some z ∧ pX9_evenly 128 v1 v2 xc m1 m2 m3 m4 m5 m6 m7 m8 m9 m10 m11 n1 n2 n3 hd tl = some w ∧ w.1 = z.1 := by
  obtain ⟨⟨rfl, rfl, hT, hP, hF⟩, ho, hr⟩ := h
  have hn := ho.1
  have hl := ho.2.1
  have hH : ∀ k, k < HL C → tl k = enc (TV C k) := hT
  unfold pX10_evenly pX9_evenly
  rcases col_cases v1 with ⟨c, hc, rfl⟩ | hv
  · have hR := hr c hc rfl
    rcases s_cases v2 (m := 16) (by omega) with ⟨n, h1, h2, rfl⟩ | h1 | h1
    · obtain ⟨z, ez, hz⟩ := r_even xv xw xp xs xf xu xt xb vs ps hc hR ho h1 h2
      obtain ⟨y, ey, hy⟩ := k_even (tl := tl) m1 m2 m3 m4 m5 m6 m7 m8 m9 m10 m11 n1 n2 n3 ho hT h1 h2
      simp (disch := omega) only [n_l0, n_l1, n_l2, n_l3, n_l4, n_l5, n_l6, n_l7, n_l8, n_l9, n_l15, n_l16, n_l17, n_l20, n_l24, n_l31, n_l32, n_l33, n_l36, n_l48, n_l49, n_l97, n_l128, n_l129, n_l192, n_l225, n_l256, n_l353, n_l400, n_l512, n_l593, n_l621, n_l640, n_l857, n_l1093, n_l1095, n_l2048, n_l3225, n_l10000, n_l22955, n_l29988, n_l29989, n_l65536, n_l99999, n_l1000000000, n_l2147483647, nI_add, pk_mul, pk_sub, pk_div, nI_clamp, ckN, nI_leI, nI_ltI, nI_eq, nI_nm1, Nat.add_zero, nI_addneg, k_ush, true_or, or_true, false_or, or_false, true_and, and_true, false_and, and_false, not_true_eq_false, not_false_eq_true, if_true, if_false, if_pos, if_neg, Option.bind_some, r_isCol hc, r_blocks hc hR, r_places hc hR hn, eHL, k_col hc, r_isInT, ez, ey]
      exact ⟨_, _, rfl, rfl, by rw [hz]; exact hy⟩
    · simp (disch := omega) only [n_l0, n_l1, n_l2, n_l3, n_l4, n_l5, n_l6, n_l7, n_l8, n_l9, n_l15, n_l16, n_l17, n_l20, n_l24, n_l31, n_l32, n_l33, n_l36, n_l48, n_l49, n_l97, n_l128, n_l129, n_l192, n_l225, n_l256, n_l353, n_l400, n_l512, n_l593, n_l621, n_l640, n_l857, n_l1093, n_l1095, n_l2048, n_l3225, n_l10000, n_l22955, n_l29988, n_l29989, n_l65536, n_l99999, n_l1000000000, n_l2147483647, nI_add, pk_mul, pk_sub, pk_div, nI_clamp, ckN, nI_leI, nI_ltI, nI_eq, nI_nm1, Nat.add_zero, nI_addneg, k_ush, true_or, or_true, false_or, or_false, true_and, and_true, false_and, and_false, not_true_eq_false, not_false_eq_true, if_true, if_false, if_pos, if_neg, Option.bind_some, r_isCol hc, r_blocks hc hR, r_places hc hR hn, eHL, k_col hc, r_isIn_lo h1, h1]
      exact ⟨_, _, rfl, rfl, rfl⟩
    · have h2 := Int32.not_le.mpr h1
      simp (disch := omega) only [n_l0, n_l1, n_l2, n_l3, n_l4, n_l5, n_l6, n_l7, n_l8, n_l9, n_l15, n_l16, n_l17, n_l20, n_l24, n_l31, n_l32, n_l33, n_l36, n_l48, n_l49, n_l97, n_l128, n_l129, n_l192, n_l225, n_l256, n_l353, n_l400, n_l512, n_l593, n_l621, n_l640, n_l857, n_l1093, n_l1095, n_l2048, n_l3225, n_l10000, n_l22955, n_l29988, n_l29989, n_l65536, n_l99999, n_l1000000000, n_l2147483647, nI_add, pk_mul, pk_sub, pk_div, nI_clamp, ckN, nI_leI, nI_ltI, nI_eq, nI_nm1, Nat.add_zero, nI_addneg, k_ush, true_or, or_true, false_or, or_false, true_and, and_true, false_and, and_false, not_true_eq_false, not_false_eq_true, if_true, if_false, if_pos, if_neg, Option.bind_some, r_isCol hc, r_blocks hc hR, r_places hc hR hn, eHL, k_col hc, r_isIn_hi h1, h2]
      split <;> exact ⟨_, _, rfl, rfl, rfl⟩
  · simp (disch := omega) only [n_l0, n_l1, n_l2, n_l3, n_l4, n_l5, n_l6, n_l7, n_l8, n_l9, n_l15, n_l16, n_l17, n_l20, n_l24, n_l31, n_l32, n_l33, n_l36, n_l48, n_l49, n_l97, n_l128, n_l129, n_l192, n_l225, n_l256, n_l353, n_l400, n_l512, n_l593, n_l621, n_l640, n_l857, n_l1093, n_l1095, n_l2048, n_l3225, n_l10000, n_l22955, n_l29988, n_l29989, n_l65536, n_l99999, n_l1000000000, n_l2147483647, nI_add, pk_mul, pk_sub, pk_div, nI_clamp, ckN, nI_leI, nI_ltI, nI_eq, nI_nm1, Nat.add_zero, nI_addneg, k_ush, true_or, or_true, false_or, or_false, true_and, and_true, false_and, and_false, not_true_eq_false, not_false_eq_true, if_true, if_false, if_pos, if_neg, Option.bind_some, r_isColO hv, k_colO hv, Bool.false_eq_true]
    exact ⟨_, _, rfl, rfl, rfl⟩
def bE (C : AC) : Nat → Nat
  | 0 => 1
  | k + 1 => if evN C (bE C k) ≤ evN C (k + 2) then bE C k else k + 2
theorem bE_in (C : AC) : ∀ k, 1 ≤ bE C k ∧ bE C k ≤ k + 1 := by
  intro k
  induction k with
  | zero => exact ⟨Nat.le_refl _, Nat.le_refl _⟩
  | succ j ih => unfold bE; split <;> omega
theorem bE_s (C : AC) (k : Nat) : bE C (k + 1) = if evN C (bE C k) ≤ evN C (k + 2) then bE C k else k + 2 := rfl
theorem q_evenest (xv xw xp xs xf xu xt xb : Int32) (vs : Nat → Int32) (ps : Nat → Int64) (m1 m2 m3 m4 m5 m6 m7 m8 m9 m10 m11 : Int32) (n1 n2 n3 : Nat → Int32) (h : COL a v1 bk hd tl fc C) : ∃ z w, pX10_evenest v1 xv xw xp xs xf xu xt xb a vs ps = some z ∧ pX9_evenest 128 v1 xc m1 m2 m3 m4 m5 m6 m7 m8 m9 m10 m11 n1 n2 n3 bk hd tl = some w ∧ w.1 = z.1 := by
  obtain ⟨⟨rfl, rfl, hT, hP, hF⟩, ho, hr⟩ := h
  have hn := ho.1
  have hl := ho.2.1
  have hH : ∀ k, k < HL C → tl k = enc (TV C k) := hT
  unfold pX10_evenest pX9_evenest
  rcases col_cases v1 with ⟨c, hc, rfl⟩ | hv
  · have hR := hr c hc rfl
    by_cases h0 : NB C = 0
    · have e0 : pX9_withBlocks (nI c) xc (nI (NB C)) = some false := by rw [k_withBlocks hc hn, if_pos h0]
      simp (disch := omega) only [n_l0, n_l1, n_l2, n_l3, n_l4, n_l5, n_l6, n_l7, n_l8, n_l9, n_l15, n_l16, n_l17, n_l20, n_l24, n_l31, n_l32, n_l33, n_l36, n_l48, n_l49, n_l97, n_l128, n_l129, n_l192, n_l225, n_l256, n_l353, n_l400, n_l512, n_l593, n_l621, n_l640, n_l857, n_l1093, n_l1095, n_l2048, n_l3225, n_l10000, n_l22955, n_l29988, n_l29989, n_l65536, n_l99999, n_l1000000000, n_l2147483647, nI_add, pk_mul, pk_sub, pk_div, nI_clamp, ckN, nI_leI, nI_ltI, nI_eq, nI_nm1, Nat.add_zero, nI_addneg, k_ush, true_or, or_true, false_or, or_false, true_and, and_true, false_and, and_false, not_true_eq_false, not_false_eq_true, if_true, if_false, if_pos, if_neg, Option.bind_some, r_isCol hc, r_blocks hc hR, r_places hc hR hn, eHL, k_col hc, e0, Bool.false_eq_true]
      exact ⟨_, _, rfl, rfl, rfl⟩
    · have e0 : pX9_withBlocks (nI c) xc (nI (NB C)) = some true := by rw [k_withBlocks hc hn, if_neg h0]
      obtain ⟨r, er, hr1⟩ := lpE (body := pX10_evenest_b21 (nI c) a) (fun k s => s.1 = nI (bE C k) ∧ s.2.1 = nI (k + 2)) (fun r => r.1 = nI (bE C 15)) 15 (nI 1, nI 2, xv, xw, xp, xs, xf, xu, xt, xb, vs, ps) ⟨rfl, rfl⟩ (fun k s hk hI => by
        obtain ⟨t1, t2, t3, t4, t5, t6, t7, t8, t9, t10, t11, t12⟩ := s
        obtain ⟨rfl, rfl⟩ := hI
        unfold pX10_evenest_b21 pX10_evenest_b21j44
        rcases Nat.lt_or_ge k 15 with h9 | h9
        · refine Or.inl ?_
          obtain ⟨b1, b2⟩ := bE_in C k
          obtain ⟨z, ez, hz⟩ := r_even t3 t4 t5 t6 t7 t8 t9 t10 t11 t12 hc hR ho (n := k + 2) (by omega) (by omega)
          obtain ⟨y, ey, hy⟩ := r_even z.2.1 z.2.2.1 z.2.2.2.1 z.2.2.2.2.1 z.2.2.2.2.2.1 z.2.2.2.2.2.2.1 z.2.2.2.2.2.2.2.1 z.2.2.2.2.2.2.2.2.1 z.2.2.2.2.2.2.2.2.2.1 z.2.2.2.2.2.2.2.2.2.2 hc hR ho (n := bE C k) b1 (by omega)
          have l1 := ev_lt hl (n := k + 2) (by omega) (by omega)
          have l2 := ev_lt hl (n := bE C k) b1 (by omega)
          simp only [show (16 : Int32) = nI 16 from rfl, nI_ltI (show 16 < 2 ^ 31 by omega) (show k + 2 < 2 ^ 31 by omega), if_neg (show ¬ 16 < k + 2 by omega), ez, ey, Option.bind_some, hz, hy, nI_leI (show evN C (bE C k) < 2 ^ 31 by omega) (show evN C (k + 2) < 2 ^ 31 by omega)]
          by_cases hle : evN C (bE C k) ≤ evN C (k + 2)
          · rw [if_pos hle]
            exact ⟨_, rfl, h9, by rw [bE_s, if_pos hle], by show nI (k + 2) + nI 1 = _; rw [nI_add]⟩
          · rw [if_neg hle]
            exact ⟨_, rfl, h9, by rw [bE_s, if_neg hle], by show nI (k + 2) + nI 1 = _; rw [nI_add]⟩
        · obtain rfl : k = 15 := by omega
          refine Or.inr ?_
          simp (disch := omega) only [n_l0, n_l1, n_l2, n_l3, n_l4, n_l5, n_l6, n_l7, n_l8, n_l9, n_l15, n_l16, n_l17, n_l20, n_l24, n_l31, n_l32, n_l33, n_l36, n_l48, n_l49, n_l97, n_l128, n_l129, n_l192, n_l225, n_l256, n_l353, n_l400, n_l512, n_l593, n_l621, n_l640, n_l857, n_l1093, n_l1095, n_l2048, n_l3225, n_l10000, n_l22955, n_l29988, n_l29989, n_l65536, n_l99999, n_l1000000000, n_l2147483647, nI_add, pk_mul, pk_sub, pk_div, nI_clamp, ckN, nI_leI, nI_ltI, nI_eq, nI_nm1, Nat.add_zero, nI_addneg, k_ush, true_or, or_true, false_or, or_false, true_and, and_true, false_and, and_false, not_true_eq_false, not_false_eq_true, if_true, if_false, if_pos, if_neg, Option.bind_some]
          exact ⟨_, rfl, rfl⟩)
      obtain ⟨q, eq, hq1⟩ := lpE (body := pX9_evenest_b22 128 (nI (HL C)) tl) (fun k s => (match k with
          | 0 => s.1 = nI 1 ∧ s.2.1 = nI 2147483647
          | j + 1 => s.1 = nI (bE C j) ∧ s.2.1 = nI (evN C (bE C j))) ∧ s.2.2.1 = nI (k + 1)) (fun r => r.1 = nI (bE C 15)) 16 (nI 1, nI 2147483647, nI 1, m1, m2, m3, m4, m5, m6, m7, m8, m9, m10, m11, n1, n2, n3) ⟨⟨rfl, rfl⟩, rfl⟩ (fun k s hk hI => by
        obtain ⟨u1, u2, u3, t1, t2, t3, t4, t5, t6, t7, t8, t9, t10, t11, t12, t13, t14⟩ := s
        obtain ⟨hI, rfl⟩ := hI
        unfold pX9_evenest_b22 pX9_evenest_b22j58
        rcases Nat.lt_or_ge k 16 with h9 | h9
        · refine Or.inl ?_
          obtain ⟨y, ey, hy⟩ := k_even (tl := tl) t1 t2 t3 t4 t5 t6 t7 t8 t9 t10 t11 t12 t13 t14 ho hT (n := k + 1) (by omega) (by omega)
          have l1 := ev_lt hl (n := k + 1) (by omega) (by omega)
          cases k with
          | zero =>
            obtain ⟨hI1, hI2⟩ := hI
            replace hI1 : u1 = nI 1 := hI1
            replace hI2 : u2 = nI 2147483647 := hI2
            subst hI1 hI2
            simp only [show (16 : Int32) = nI 16 from rfl, nI_ltI (show 16 < 2 ^ 31 by omega) (show 0 + 1 < 2 ^ 31 by omega), if_neg (show ¬ 16 < 0 + 1 by omega), ey, Option.bind_some, hy, nI_leI (show 2147483647 < 2 ^ 31 by omega) (show evN C (0 + 1) < 2 ^ 31 by omega), if_neg (show ¬ 2147483647 ≤ evN C (0 + 1) by omega)]
            exact ⟨_, rfl, h9, ⟨rfl, rfl⟩, rfl⟩
          | succ j =>
            obtain ⟨hI1, hI2⟩ := hI
            replace hI1 : u1 = nI (bE C j) := hI1
            replace hI2 : u2 = nI (evN C (bE C j)) := hI2
            subst hI1 hI2
            obtain ⟨b1, b2⟩ := bE_in C j
            have l2 := ev_lt hl (n := bE C j) b1 (by omega)
            simp only [show (16 : Int32) = nI 16 from rfl, nI_ltI (show 16 < 2 ^ 31 by omega) (show j + 1 + 1 < 2 ^ 31 by omega), if_neg (show ¬ 16 < j + 1 + 1 by omega), ey, Option.bind_some, hy, nI_leI (show evN C (bE C j) < 2 ^ 31 by omega) (show evN C (j + 1 + 1) < 2 ^ 31 by omega)]
            by_cases hle : evN C (bE C j) ≤ evN C (j + 1 + 1)
            · rw [if_pos hle]
              exact ⟨_, rfl, h9, ⟨by rw [bE_s, if_pos hle], by rw [bE_s, if_pos hle]⟩, by show nI (j + 1 + 1) + nI 1 = _; rw [nI_add]⟩
            · rw [if_neg hle]
              exact ⟨_, rfl, h9, ⟨by rw [bE_s, if_neg hle], by rw [bE_s, if_neg hle]⟩, by show nI (j + 1 + 1) + nI 1 = _; rw [nI_add]⟩
        · obtain rfl : k = 16 := by omega
          refine Or.inr ?_
          simp (disch := omega) only [n_l0, n_l1, n_l2, n_l3, n_l4, n_l5, n_l6, n_l7, n_l8, n_l9, n_l15, n_l16, n_l17, n_l20, n_l24, n_l31, n_l32, n_l33, n_l36, n_l48, n_l49, n_l97, n_l128, n_l129, n_l192, n_l225, n_l256, n_l353, n_l400, n_l512, n_l593, n_l621, n_l640, n_l857, n_l1093, n_l1095, n_l2048, n_l3225, n_l10000, n_l22955, n_l29988, n_l29989, n_l65536, n_l99999, n_l1000000000, n_l2147483647, nI_add, pk_mul, pk_sub, pk_div, nI_clamp, ckN, nI_leI, nI_ltI, nI_eq, nI_nm1, Nat.add_zero, nI_addneg, k_ush, true_or, or_true, false_or, or_false, true_and, and_true, false_and, and_false, not_true_eq_false, not_false_eq_true, if_true, if_false, if_pos, if_neg, Option.bind_some]
          exact ⟨_, rfl, hI.1⟩)
      simp (disch := omega) only [n_l0, n_l1, n_l2, n_l3, n_l4, n_l5, n_l6, n_l7, n_l8, n_l9, n_l15, n_l16, n_l17, n_l20, n_l24, n_l31, n_l32, n_l33, n_l36, n_l48, n_l49, n_l97, n_l128, n_l129, n_l192, n_l225, n_l256, n_l353, n_l400, n_l512, n_l593, n_l621, n_l640, n_l857, n_l1093, n_l1095, n_l2048, n_l3225, n_l10000, n_l22955, n_l29988, n_l29989, n_l65536, n_l99999, n_l1000000000, n_l2147483647, nI_add, pk_mul, pk_sub, pk_div, nI_clamp, ckN, nI_leI, nI_ltI, nI_eq, nI_nm1, Nat.add_zero, nI_addneg, k_ush, true_or, or_true, false_or, or_false, true_and, and_true, false_and, and_false, not_true_eq_false, not_false_eq_true, if_true, if_false, if_pos, if_neg, Option.bind_some, r_isCol hc, r_blocks hc hR, r_places hc hR hn, eHL, k_col hc, e0, er, eq]
      exact ⟨_, _, rfl, rfl, by rw [hr1]; exact hq1⟩
  · simp (disch := omega) only [n_l0, n_l1, n_l2, n_l3, n_l4, n_l5, n_l6, n_l7, n_l8, n_l9, n_l15, n_l16, n_l17, n_l20, n_l24, n_l31, n_l32, n_l33, n_l36, n_l48, n_l49, n_l97, n_l128, n_l129, n_l192, n_l225, n_l256, n_l353, n_l400, n_l512, n_l593, n_l621, n_l640, n_l857, n_l1093, n_l1095, n_l2048, n_l3225, n_l10000, n_l22955, n_l29988, n_l29989, n_l65536, n_l99999, n_l1000000000, n_l2147483647, nI_add, pk_mul, pk_sub, pk_div, nI_clamp, ckN, nI_leI, nI_ltI, nI_eq, nI_nm1, Nat.add_zero, nI_addneg, k_ush, true_or, or_true, false_or, or_false, true_and, and_true, false_and, and_false, not_true_eq_false, not_false_eq_true, if_true, if_false, if_pos, if_neg, Option.bind_some, r_isColO hv, k_colO hv, k_withBlocksC hv, Bool.false_eq_true]
    exact ⟨_, _, rfl, rfl, rfl⟩
/-! looks -/
def bvn (C : AC) : Nat → Nat
  | 0 => 0
  | k + 1 => bvn C k + (if cm C k = 0 then 0 else 1)
theorem bvn_s (C : AC) (k : Nat) : bvn C (k + 1) = bvn C k + (if cm C k = 0 then 0 else 1) := rfl
theorem bvn_le (C : AC) : ∀ k, bvn C k ≤ k := by
  intro k
  induction k with
  | zero => exact Nat.le_refl _
  | succ j ih => rw [bvn_s]; split <;> omega
theorem bvn_mono (C : AC) {j k : Nat} (h : j ≤ k) : bvn C j ≤ bvn C k := by
  induction k with
  | zero => rw [show j = 0 by omega]; exact Nat.le_refl _
  | succ n ih =>
    rcases Nat.lt_or_ge j (n + 1) with h1 | h1
    · have := ih (by omega); rw [bvn_s]; omega
    · rw [show j = n + 1 by omega]; exact Nat.le_refl _
theorem bvn_ex (C : AC) : ∀ n i, i < bvn C n → ∃ b, b < n ∧ cm C b ≠ 0 ∧ bvn C b = i := by
  intro n
  induction n with
  | zero => intro i h; exact absurd h (Nat.not_lt_zero i)
  | succ k ih =>
    intro i h
    rw [bvn_s] at h
    rcases Nat.lt_or_ge i (bvn C k) with h1 | h1
    · obtain ⟨b, hb, h2⟩ := ih i h1; exact ⟨b, by omega, h2⟩
    · split at h
      · omega
      · exact ⟨k, by omega, by assumption, by omega⟩
theorem r_layBases (xv xw : Int32) (vs bs : Nat → Int32) (hc : c < 3) (hR : RCa a c C) (ho : OKC C) : ∃ z, pX10_layBases (nI c) xv xw a vs bs = some z ∧ z.1 = nI (bvn C (NB C)) ∧ ∀ b, b < NB C → cm C b ≠ 0 → z.2.2.2.2 (bvn C b) = cb C b := by
  have hn := ho.1
  obtain ⟨r, e, h1, h2⟩ := lpE (body := pX10_layBases_b4 (nI c) a) (fun k s => s.1 = nI (bvn C k) ∧ s.2.1 = nI k ∧ ∀ b, b < k → cm C b ≠ 0 → s.2.2.2.2.2 (bvn C b) = cb C b) (fun r => r.1 = nI (bvn C (NB C)) ∧ ∀ b, b < NB C → cm C b ≠ 0 → r.2.2.2.2.2 (bvn C b) = cb C b) (NB C) (nI 0, nI 0, xv, xw, vs, bs) ⟨rfl, rfl, fun b hb => absurd hb (Nat.not_lt_zero b)⟩ (fun k s hk hI => by
    obtain ⟨t1, t2, t3, t4, t5, t6⟩ := s
    obtain ⟨rfl, rfl, h3⟩ := hI
    unfold pX10_layBases_b4 pX10_layBases_b4j42
    rcases Nat.lt_or_ge k (NB C) with h9 | h9
    · refine Or.inl ?_
      obtain ⟨y, ey, y1, y2, _⟩ := r_baseOf t3 t4 t5 hc hR ho h9
      have hle := bvn_le C k
      have hm := cm_le C k
      have o2 := (ho.2.2 k h9).2.1
      by_cases c0 : cm C k = 0
      · simp (disch := omega) only [n_l0, n_l1, n_l2, n_l3, n_l4, n_l5, n_l6, n_l7, n_l8, n_l9, n_l15, n_l16, n_l17, n_l20, n_l24, n_l31, n_l32, n_l33, n_l36, n_l48, n_l49, n_l97, n_l128, n_l129, n_l192, n_l225, n_l256, n_l353, n_l400, n_l512, n_l593, n_l621, n_l640, n_l857, n_l1093, n_l1095, n_l2048, n_l3225, n_l10000, n_l22955, n_l29988, n_l29989, n_l65536, n_l99999, n_l1000000000, n_l2147483647, nI_add, pk_mul, pk_sub, pk_div, nI_clamp, ckN, nI_leI, nI_ltI, nI_eq, nI_nm1, Nat.add_zero, nI_addneg, k_ush, true_or, or_true, false_or, or_false, true_and, and_true, false_and, and_false, not_true_eq_false, not_false_eq_true, if_true, if_false, if_pos, if_neg, Option.bind_some, r_blocks hc hR, ey, y2, c0]
        refine ⟨_, rfl, h9, by rw [bvn_s, if_pos c0]; rfl, rfl, fun b hb hcm => ?_⟩
        rcases Nat.lt_or_ge b k with h5 | h5
        · exact h3 b h5 hcm
        · exact absurd (by rw [show b = k by omega]; exact c0) hcm
      · simp (disch := omega) only [n_l0, n_l1, n_l2, n_l3, n_l4, n_l5, n_l6, n_l7, n_l8, n_l9, n_l15, n_l16, n_l17, n_l20, n_l24, n_l31, n_l32, n_l33, n_l36, n_l48, n_l49, n_l97, n_l128, n_l129, n_l192, n_l225, n_l256, n_l353, n_l400, n_l512, n_l593, n_l621, n_l640, n_l857, n_l1093, n_l1095, n_l2048, n_l3225, n_l10000, n_l22955, n_l29988, n_l29989, n_l65536, n_l99999, n_l1000000000, n_l2147483647, nI_add, pk_mul, pk_sub, pk_div, nI_clamp, ckN, nI_leI, nI_ltI, nI_eq, nI_nm1, Nat.add_zero, nI_addneg, k_ush, true_or, or_true, false_or, or_false, true_and, and_true, false_and, and_false, not_true_eq_false, not_false_eq_true, if_true, if_false, if_pos, if_neg, Option.bind_some, r_blocks hc hR, ey, y2, y1]
        refine ⟨_, rfl, h9, by rw [bvn_s, if_neg c0], rfl, fun b hb hcm => ?_⟩
        show upd t6 (bvn C k) (cb C k) (bvn C b) = _
        unfold upd
        rcases Nat.lt_or_ge b k with h5 | h5
        · have h6 := bvn_mono C (show b + 1 ≤ k from h5)
          rw [bvn_s, if_neg hcm] at h6
          rw [if_neg (by omega)]
          exact h3 b h5 hcm
        · obtain rfl : b = k := by omega
          rw [if_pos rfl]
    · obtain rfl : k = NB C := by omega
      refine Or.inr ?_
      simp (disch := omega) only [n_l0, n_l1, n_l2, n_l3, n_l4, n_l5, n_l6, n_l7, n_l8, n_l9, n_l15, n_l16, n_l17, n_l20, n_l24, n_l31, n_l32, n_l33, n_l36, n_l48, n_l49, n_l97, n_l128, n_l129, n_l192, n_l225, n_l256, n_l353, n_l400, n_l512, n_l593, n_l621, n_l640, n_l857, n_l1093, n_l1095, n_l2048, n_l3225, n_l10000, n_l22955, n_l29988, n_l29989, n_l65536, n_l99999, n_l1000000000, n_l2147483647, nI_add, pk_mul, pk_sub, pk_div, nI_clamp, ckN, nI_leI, nI_ltI, nI_eq, nI_nm1, Nat.add_zero, nI_addneg, k_ush, true_or, or_true, false_or, or_false, true_and, and_true, false_and, and_false, not_true_eq_false, not_false_eq_true, if_true, if_false, if_pos, if_neg, Option.bind_some, r_blocks hc hR]
      exact ⟨_, rfl, rfl, h3⟩)
  unfold pX10_layBases
  simp (disch := omega) only [n_l0, n_l1, n_l2, n_l3, n_l4, n_l5, n_l6, n_l7, n_l8, n_l9, n_l15, n_l16, n_l17, n_l20, n_l24, n_l31, n_l32, n_l33, n_l36, n_l48, n_l49, n_l97, n_l128, n_l129, n_l192, n_l225, n_l256, n_l353, n_l400, n_l512, n_l593, n_l621, n_l640, n_l857, n_l1093, n_l1095, n_l2048, n_l3225, n_l10000, n_l22955, n_l29988, n_l29989, n_l65536, n_l99999, n_l1000000000, n_l2147483647, nI_add, pk_mul, pk_sub, pk_div, nI_clamp, ckN, nI_leI, nI_ltI, nI_eq, nI_nm1, Nat.add_zero, nI_addneg, k_ush, true_or, or_true, false_or, or_false, true_and, and_true, false_and, and_false, not_true_eq_false, not_false_eq_true, if_true, if_false, if_pos, if_neg, Option.bind_some, e]
  exact ⟨_, rfl, h1, h2⟩
theorem k_withVals (ho : OKC C) (hF : ∀ b, b < NB C → KF fc C b) : pX0_blocksWithValues (nI (NB C)) fc = some (nI (bvn C (NB C))) := by
  have hn := ho.1
  have e := lpF (body := pX0_blocksWithValues_b4 (nI (NB C)) fc) (r := (nI (bvn C (NB C)), nI (NB C))) (fun k => (nI (bvn C k), nI k)) (NB C) (nI 0, nI 0) rfl (fun k hk => by
      unfold pX0_blocksWithValues_b4 pX0_blocksWithValues_b4j24
      have hm := cm_le C k
      have o2 := (ho.2.2 k hk).2.1
      by_cases c0 : cm C k = 0
      · simp (disch := omega) only [n_l0, n_l1, n_l2, n_l3, n_l4, n_l5, n_l6, n_l7, n_l8, n_l9, n_l15, n_l16, n_l17, n_l20, n_l24, n_l31, n_l32, n_l33, n_l36, n_l48, n_l49, n_l97, n_l128, n_l129, n_l192, n_l225, n_l256, n_l353, n_l400, n_l512, n_l593, n_l621, n_l640, n_l857, n_l1093, n_l1095, n_l2048, n_l3225, n_l10000, n_l22955, n_l29988, n_l29989, n_l65536, n_l99999, n_l1000000000, n_l2147483647, nI_add, pk_mul, pk_sub, pk_div, nI_clamp, ckN, nI_leI, nI_ltI, nI_eq, nI_nm1, Nat.add_zero, nI_addneg, k_ush, true_or, or_true, false_or, or_false, true_and, and_true, false_and, and_false, not_true_eq_false, not_false_eq_true, if_true, if_false, if_pos, if_neg, Option.bind_some, k_fact (fc := fc) hk hn (show 1 < 8 by omega), (hF k hk).1, bvn_s, c0, Nat.le_refl]
      · simp (disch := omega) only [n_l0, n_l1, n_l2, n_l3, n_l4, n_l5, n_l6, n_l7, n_l8, n_l9, n_l15, n_l16, n_l17, n_l20, n_l24, n_l31, n_l32, n_l33, n_l36, n_l48, n_l49, n_l97, n_l128, n_l129, n_l192, n_l225, n_l256, n_l353, n_l400, n_l512, n_l593, n_l621, n_l640, n_l857, n_l1093, n_l1095, n_l2048, n_l3225, n_l10000, n_l22955, n_l29988, n_l29989, n_l65536, n_l99999, n_l1000000000, n_l2147483647, nI_add, pk_mul, pk_sub, pk_div, nI_clamp, ckN, nI_leI, nI_ltI, nI_eq, nI_nm1, Nat.add_zero, nI_addneg, k_ush, true_or, or_true, false_or, or_false, true_and, and_true, false_and, and_false, not_true_eq_false, not_false_eq_true, if_true, if_false, if_pos, if_neg, Option.bind_some, k_fact (fc := fc) hk hn (show 1 < 8 by omega), (hF k hk).1, bvn_s, c0]) (by
      unfold pX0_blocksWithValues_b4
      simp (disch := omega) only [n_l0, n_l1, n_l2, n_l3, n_l4, n_l5, n_l6, n_l7, n_l8, n_l9, n_l15, n_l16, n_l17, n_l20, n_l24, n_l31, n_l32, n_l33, n_l36, n_l48, n_l49, n_l97, n_l128, n_l129, n_l192, n_l225, n_l256, n_l353, n_l400, n_l512, n_l593, n_l621, n_l640, n_l857, n_l1093, n_l1095, n_l2048, n_l3225, n_l10000, n_l22955, n_l29988, n_l29989, n_l65536, n_l99999, n_l1000000000, n_l2147483647, nI_add, pk_mul, pk_sub, pk_div, nI_clamp, ckN, nI_leI, nI_ltI, nI_eq, nI_nm1, Nat.add_zero, nI_addneg, k_ush, true_or, or_true, false_or, or_false, true_and, and_true, false_and, and_false, not_true_eq_false, not_false_eq_true, if_true, if_false, if_pos, if_neg, Option.bind_some])
  unfold pX0_blocksWithValues
  simp (disch := omega) only [n_l0, n_l1, n_l2, n_l3, n_l4, n_l5, n_l6, n_l7, n_l8, n_l9, n_l15, n_l16, n_l17, n_l20, n_l24, n_l31, n_l32, n_l33, n_l36, n_l48, n_l49, n_l97, n_l128, n_l129, n_l192, n_l225, n_l256, n_l353, n_l400, n_l512, n_l593, n_l621, n_l640, n_l857, n_l1093, n_l1095, n_l2048, n_l3225, n_l10000, n_l22955, n_l29988, n_l29989, n_l65536, n_l99999, n_l1000000000, n_l2147483647, nI_add, pk_mul, pk_sub, pk_div, nI_clamp, ckN, nI_leI, nI_ltI, nI_eq, nI_nm1, Nat.add_zero, nI_addneg, k_ush, true_or, or_true, false_or, or_false, true_and, and_true, false_and, and_false, not_true_eq_false, not_false_eq_true, if_true, if_false, if_pos, if_neg, Option.bind_some, e]
theorem k_ithVal (ho : OKC C) (hF : ∀ b, b < NB C → KF fc C b) {b : Nat} (hb : b < NB C) (hcm : cm C b ≠ 0) : pX0_withValues (nI (bvn C b)) (nI (NB C)) fc = some (nI b) := by
  have hn := ho.1
  have hbl := bvn_le C b
  have e := lpF (body := pX0_withValues_b4 (nI (bvn C b)) (nI (NB C)) fc) (r := .inr (nI b)) (fun k => (nI (bvn C k), nI k)) b (nI 0, nI 0) rfl (fun k hk => by
      unfold pX0_withValues_b4 pX0_withValues_b4j31
      have hm := cm_le C k
      have hkl := bvn_le C k
      have o2 := (ho.2.2 k (by omega)).2.1
      by_cases c0 : cm C k = 0
      · simp (disch := omega) only [n_l0, n_l1, n_l2, n_l3, n_l4, n_l5, n_l6, n_l7, n_l8, n_l9, n_l15, n_l16, n_l17, n_l20, n_l24, n_l31, n_l32, n_l33, n_l36, n_l48, n_l49, n_l97, n_l128, n_l129, n_l192, n_l225, n_l256, n_l353, n_l400, n_l512, n_l593, n_l621, n_l640, n_l857, n_l1093, n_l1095, n_l2048, n_l3225, n_l10000, n_l22955, n_l29988, n_l29989, n_l65536, n_l99999, n_l1000000000, n_l2147483647, nI_add, pk_mul, pk_sub, pk_div, nI_clamp, ckN, nI_leI, nI_ltI, nI_eq, nI_nm1, Nat.add_zero, nI_addneg, k_ush, true_or, or_true, false_or, or_false, true_and, and_true, false_and, and_false, not_true_eq_false, not_false_eq_true, if_true, if_false, if_pos, if_neg, Option.bind_some, k_fact (fc := fc) (show k < NB C by omega) hn (show 1 < 8 by omega), (hF k (by omega)).1, bvn_s, c0, Nat.le_refl]
      · have h6 := bvn_mono C (show k + 1 ≤ b from hk)
        rw [bvn_s, if_neg c0] at h6
        simp (disch := omega) only [n_l0, n_l1, n_l2, n_l3, n_l4, n_l5, n_l6, n_l7, n_l8, n_l9, n_l15, n_l16, n_l17, n_l20, n_l24, n_l31, n_l32, n_l33, n_l36, n_l48, n_l49, n_l97, n_l128, n_l129, n_l192, n_l225, n_l256, n_l353, n_l400, n_l512, n_l593, n_l621, n_l640, n_l857, n_l1093, n_l1095, n_l2048, n_l3225, n_l10000, n_l22955, n_l29988, n_l29989, n_l65536, n_l99999, n_l1000000000, n_l2147483647, nI_add, pk_mul, pk_sub, pk_div, nI_clamp, ckN, nI_leI, nI_ltI, nI_eq, nI_nm1, Nat.add_zero, nI_addneg, k_ush, true_or, or_true, false_or, or_false, true_and, and_true, false_and, and_false, not_true_eq_false, not_false_eq_true, if_true, if_false, if_pos, if_neg, Option.bind_some, k_fact (fc := fc) (show k < NB C by omega) hn (show 1 < 8 by omega), (hF k (by omega)).1, bvn_s, c0]) (by
      unfold pX0_withValues_b4
      have hm := cm_le C b
      have o2 := (ho.2.2 b hb).2.1
      simp (disch := omega) only [n_l0, n_l1, n_l2, n_l3, n_l4, n_l5, n_l6, n_l7, n_l8, n_l9, n_l15, n_l16, n_l17, n_l20, n_l24, n_l31, n_l32, n_l33, n_l36, n_l48, n_l49, n_l97, n_l128, n_l129, n_l192, n_l225, n_l256, n_l353, n_l400, n_l512, n_l593, n_l621, n_l640, n_l857, n_l1093, n_l1095, n_l2048, n_l3225, n_l10000, n_l22955, n_l29988, n_l29989, n_l65536, n_l99999, n_l1000000000, n_l2147483647, nI_add, pk_mul, pk_sub, pk_div, nI_clamp, ckN, nI_leI, nI_ltI, nI_eq, nI_nm1, Nat.add_zero, nI_addneg, k_ush, true_or, or_true, false_or, or_false, true_and, and_true, false_and, and_false, not_true_eq_false, not_false_eq_true, if_true, if_false, if_pos, if_neg, Option.bind_some, k_fact (fc := fc) hb hn (show 1 < 8 by omega), (hF b hb).1])
  unfold pX0_withValues
  simp (disch := omega) only [n_l0, n_l1, n_l2, n_l3, n_l4, n_l5, n_l6, n_l7, n_l8, n_l9, n_l15, n_l16, n_l17, n_l20, n_l24, n_l31, n_l32, n_l33, n_l36, n_l48, n_l49, n_l97, n_l128, n_l129, n_l192, n_l225, n_l256, n_l353, n_l400, n_l512, n_l593, n_l621, n_l640, n_l857, n_l1093, n_l1095, n_l2048, n_l3225, n_l10000, n_l22955, n_l29988, n_l29989, n_l65536, n_l99999, n_l1000000000, n_l2147483647, nI_add, pk_mul, pk_sub, pk_div, nI_clamp, ckN, nI_leI, nI_ltI, nI_eq, nI_nm1, Nat.add_zero, nI_addneg, k_ush, true_or, or_true, false_or, or_false, true_and, and_true, false_and, and_false, not_true_eq_false, not_false_eq_true, if_true, if_false, if_pos, if_neg, Option.bind_some, e]
  rfl
theorem q_looks (xv xw : Int32) (vs bs : Nat → Int32) (h : COL a v1 bk hd tl fc C) : ∃ z, pX10_looks v1 v2 xv xw a vs bs = some z ∧ pX9_looks 128 v1 v2 xc bk hd tl fc = some z.1 := by
  obtain ⟨⟨rfl, rfl, hT, hP, hF⟩, ho, hr⟩ := h
  have hn := ho.1
  have hl := ho.2.1
  have hH : ∀ k, k < HL C → tl k = enc (TV C k) := hT
  unfold pX10_looks pX9_looks pX9_sortedColumn pX0_looksFor
  rcases col_cases v1 with ⟨c, hc, rfl⟩ | hv
  · have hR := hr c hc rfl
    obtain ⟨r, e1, e2, hr2⟩ := s_sorted hc hR hn hl hT
    obtain ⟨z, ez, z1, z2⟩ := r_layBases xv xw vs bs hc hR ho
    have hbn := bvn_le C (NB C)
    obtain ⟨r3, r4, e3, e4, hq⟩ := lp2S (body := pX10_looks_b23 v2 z.2.2.2.2) (body2 := pX0_looksFor_b10 v2 (nI (NB C)) fc) (fun k s s2 => ∃ lo hi, lo ≤ hi ∧ hi ≤ bvn C (NB C) ∧ hi + k ≤ bvn C (NB C) + lo ∧ s = (nI lo, nI hi, nI k) ∧ s2 = (nI lo, nI hi, nI k)) (fun r r2 => r.2.2 = r2.2.2) (bvn C (NB C)) (nI 0, nI (bvn C (NB C)), nI 0) (nI 0, nI (bvn C (NB C)), nI 0) ⟨0, bvn C (NB C), by omega, by omega, by omega, rfl, rfl⟩ (fun k s s2 hk hJ => by
      obtain ⟨lo, hi, h1, h2, h3, rfl, rfl⟩ := hJ
      unfold pX10_looks_b23 pX10_looks_b23j63 pX0_looksFor_b10 pX0_looksFor_b10j58
      rcases Nat.lt_or_ge lo hi with h9 | h9
      · refine Or.inl ?_
        obtain ⟨b, hb, hcm, hbv⟩ := bvn_ex C (NB C) ((lo + hi) / 2) (by omega)
        have g6 := (hF b hb).2.2.2.2.2.1
        have hz2 := z2 b hb hcm
        have hki := k_ithVal ho hF hb hcm
        rw [hbv] at hz2 hki
        by_cases hle : v2 ≤ cb C b
        · simp (disch := omega) only [n_l0, n_l1, n_l2, n_l3, n_l4, n_l5, n_l6, n_l7, n_l8, n_l9, n_l15, n_l16, n_l17, n_l20, n_l24, n_l31, n_l32, n_l33, n_l36, n_l48, n_l49, n_l97, n_l128, n_l129, n_l192, n_l225, n_l256, n_l353, n_l400, n_l512, n_l593, n_l621, n_l640, n_l857, n_l1093, n_l1095, n_l2048, n_l3225, n_l10000, n_l22955, n_l29988, n_l29989, n_l65536, n_l99999, n_l1000000000, n_l2147483647, nI_add, pk_mul, pk_sub, pk_div, nI_clamp, ckN, nI_leI, nI_ltI, nI_eq, nI_nm1, Nat.add_zero, nI_addneg, k_ush, true_or, or_true, false_or, or_false, true_and, and_true, false_and, and_false, not_true_eq_false, not_false_eq_true, if_true, if_false, if_pos, if_neg, Option.bind_some, hz2, hki, k_fact (fc := fc) hb hn (show 6 < 8 by omega), g6, hle]
          exact ⟨_, _, rfl, rfl, by omega, lo, (lo + hi) / 2, by omega, by omega, by omega, rfl, rfl⟩
        · simp (disch := omega) only [n_l0, n_l1, n_l2, n_l3, n_l4, n_l5, n_l6, n_l7, n_l8, n_l9, n_l15, n_l16, n_l17, n_l20, n_l24, n_l31, n_l32, n_l33, n_l36, n_l48, n_l49, n_l97, n_l128, n_l129, n_l192, n_l225, n_l256, n_l353, n_l400, n_l512, n_l593, n_l621, n_l640, n_l857, n_l1093, n_l1095, n_l2048, n_l3225, n_l10000, n_l22955, n_l29988, n_l29989, n_l65536, n_l99999, n_l1000000000, n_l2147483647, nI_add, pk_mul, pk_sub, pk_div, nI_clamp, ckN, nI_leI, nI_ltI, nI_eq, nI_nm1, Nat.add_zero, nI_addneg, k_ush, true_or, or_true, false_or, or_false, true_and, and_true, false_and, and_false, not_true_eq_false, not_false_eq_true, if_true, if_false, if_pos, if_neg, Option.bind_some, hz2, hki, k_fact (fc := fc) hb hn (show 6 < 8 by omega), g6, hle]
          exact ⟨_, _, rfl, rfl, by omega, (lo + hi) / 2 + 1, hi, by omega, by omega, by omega, rfl, rfl⟩
      · refine Or.inr ?_
        simp (disch := omega) only [n_l0, n_l1, n_l2, n_l3, n_l4, n_l5, n_l6, n_l7, n_l8, n_l9, n_l15, n_l16, n_l17, n_l20, n_l24, n_l31, n_l32, n_l33, n_l36, n_l48, n_l49, n_l97, n_l128, n_l129, n_l192, n_l225, n_l256, n_l353, n_l400, n_l512, n_l593, n_l621, n_l640, n_l857, n_l1093, n_l1095, n_l2048, n_l3225, n_l10000, n_l22955, n_l29988, n_l29989, n_l65536, n_l99999, n_l1000000000, n_l2147483647, nI_add, pk_mul, pk_sub, pk_div, nI_clamp, ckN, nI_leI, nI_ltI, nI_eq, nI_nm1, Nat.add_zero, nI_addneg, k_ush, true_or, or_true, false_or, or_false, true_and, and_true, false_and, and_false, not_true_eq_false, not_false_eq_true, if_true, if_false, if_pos, if_neg, Option.bind_some]
        exact ⟨_, _, rfl, rfl, rfl⟩)
    simp (disch := omega) only [n_l0, n_l1, n_l2, n_l3, n_l4, n_l5, n_l6, n_l7, n_l8, n_l9, n_l15, n_l16, n_l17, n_l20, n_l24, n_l31, n_l32, n_l33, n_l36, n_l48, n_l49, n_l97, n_l128, n_l129, n_l192, n_l225, n_l256, n_l353, n_l400, n_l512, n_l593, n_l621, n_l640, n_l857, n_l1093, n_l1095, n_l2048, n_l3225, n_l10000, n_l22955, n_l29988, n_l29989, n_l65536, n_l99999, n_l1000000000, n_l2147483647, nI_add, pk_mul, pk_sub, pk_div, nI_clamp, ckN, nI_leI, nI_ltI, nI_eq, nI_nm1, Nat.add_zero, nI_addneg, k_ush, true_or, or_true, false_or, or_false, true_and, and_true, false_and, and_false, not_true_eq_false, not_false_eq_true, if_true, if_false, if_pos, if_neg, Option.bind_some, r_isCol hc, r_blocks hc hR, r_places hc hR hn, eHL, k_col hc, e1, e2]
    rcases hr2 with rfl | rfl
    · simp (disch := omega) only [n_l0, n_l1, n_l2, n_l3, n_l4, n_l5, n_l6, n_l7, n_l8, n_l9, n_l15, n_l16, n_l17, n_l20, n_l24, n_l31, n_l32, n_l33, n_l36, n_l48, n_l49, n_l97, n_l128, n_l129, n_l192, n_l225, n_l256, n_l353, n_l400, n_l512, n_l593, n_l621, n_l640, n_l857, n_l1093, n_l1095, n_l2048, n_l3225, n_l10000, n_l22955, n_l29988, n_l29989, n_l65536, n_l99999, n_l1000000000, n_l2147483647, nI_add, pk_mul, pk_sub, pk_div, nI_clamp, ckN, nI_leI, nI_ltI, nI_eq, nI_nm1, Nat.add_zero, nI_addneg, k_ush, true_or, or_true, false_or, or_false, true_and, and_true, false_and, and_false, not_true_eq_false, not_false_eq_true, if_true, if_false, if_pos, if_neg, Option.bind_some, Bool.false_eq_true]
      exact ⟨_, rfl, rfl⟩
    · simp (disch := omega) only [n_l0, n_l1, n_l2, n_l3, n_l4, n_l5, n_l6, n_l7, n_l8, n_l9, n_l15, n_l16, n_l17, n_l20, n_l24, n_l31, n_l32, n_l33, n_l36, n_l48, n_l49, n_l97, n_l128, n_l129, n_l192, n_l225, n_l256, n_l353, n_l400, n_l512, n_l593, n_l621, n_l640, n_l857, n_l1093, n_l1095, n_l2048, n_l3225, n_l10000, n_l22955, n_l29988, n_l29989, n_l65536, n_l99999, n_l1000000000, n_l2147483647, nI_add, pk_mul, pk_sub, pk_div, nI_clamp, ckN, nI_leI, nI_ltI, nI_eq, nI_nm1, Nat.add_zero, nI_addneg, k_ush, true_or, or_true, false_or, or_false, true_and, and_true, false_and, and_false, not_true_eq_false, not_false_eq_true, if_true, if_false, if_pos, if_neg, Option.bind_some, ez, z1, k_withVals ho hF]
      rw [e3, e4]
      exact ⟨_, rfl, congrArg some hq.symm⟩
  · unfold pX10_sorted
    simp (disch := omega) only [n_l0, n_l1, n_l2, n_l3, n_l4, n_l5, n_l6, n_l7, n_l8, n_l9, n_l15, n_l16, n_l17, n_l20, n_l24, n_l31, n_l32, n_l33, n_l36, n_l48, n_l49, n_l97, n_l128, n_l129, n_l192, n_l225, n_l256, n_l353, n_l400, n_l512, n_l593, n_l621, n_l640, n_l857, n_l1093, n_l1095, n_l2048, n_l3225, n_l10000, n_l22955, n_l29988, n_l29989, n_l65536, n_l99999, n_l1000000000, n_l2147483647, nI_add, pk_mul, pk_sub, pk_div, nI_clamp, ckN, nI_leI, nI_ltI, nI_eq, nI_nm1, Nat.add_zero, nI_addneg, k_ush, true_or, or_true, false_or, or_false, true_and, and_true, false_and, and_false, not_true_eq_false, not_false_eq_true, if_true, if_false, if_pos, if_neg, Option.bind_some, r_isColO hv, k_colO hv, Bool.false_eq_true]
    exact ⟨_, rfl, rfl⟩
end Reads
