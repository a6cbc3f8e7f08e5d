/-! ===== put, gap, forget, flush; walk, copy ===== -/
theorem k_append {N H : Nat} (hN : N < 2 ^ 31) (h : H < N) (x : Int64) (tl : Nat → Int64) : pX5_append N x (nI H) tl = some (nI 1, nI (H + 1), vp_updL tl H x) := by
  unfold pX5_append
  rw [show Int32.ofNat N = nI N from rfl]
  simp (disch := omega) only [n_l0, n_l1, n_l2, n_l3, n_l4, n_l5, n_l6, n_l7, n_l8, n_l9, n_l15, n_l16, n_l17, n_l20, n_l24, n_l31, n_l32, n_l33, n_l36, n_l48, n_l49, n_l97, n_l128, n_l129, n_l192, n_l225, n_l256, n_l353, n_l400, n_l512, n_l593, n_l621, n_l640, n_l857, n_l1093, n_l1095, n_l2048, n_l3225, n_l10000, n_l22955, n_l29988, n_l29989, n_l65536, n_l99999, n_l1000000000, n_l2147483647, nI_add, pk_mul, pk_sub, pk_div, nI_clamp, ckN, nI_leI, nI_ltI, nI_eq, nI_nm1, Nat.add_zero, nI_addneg, k_ush, true_or, or_true, false_or, or_false, true_and, and_true, false_and, and_false, not_true_eq_false, not_false_eq_true, if_true, if_false, if_pos, if_neg, Option.bind_some]
theorem k_appendO {N : Nat} (hN : N < 2 ^ 31) (x : Int64) (tl : Nat → Int64) : pX5_append N x (nI N) tl = some (nI 0, nI N, tl) := by
  unfold pX5_append
  rw [show Int32.ofNat N = nI N from rfl]
  simp (disch := omega) only [n_l0, n_l1, n_l2, n_l3, n_l4, n_l5, n_l6, n_l7, n_l8, n_l9, n_l15, n_l16, n_l17, n_l20, n_l24, n_l31, n_l32, n_l33, n_l36, n_l48, n_l49, n_l97, n_l128, n_l129, n_l192, n_l225, n_l256, n_l353, n_l400, n_l512, n_l593, n_l621, n_l640, n_l857, n_l1093, n_l1095, n_l2048, n_l3225, n_l10000, n_l22955, n_l29988, n_l29989, n_l65536, n_l99999, n_l1000000000, n_l2147483647, nI_add, pk_mul, pk_sub, pk_div, nI_clamp, ckN, nI_leI, nI_ltI, nI_eq, nI_nm1, Nat.add_zero, nI_addneg, k_ush, true_or, or_true, false_or, or_false, true_and, and_true, false_and, and_false, not_true_eq_false, not_false_eq_true, if_true, if_false, if_pos, if_neg, Option.bind_some, Nat.lt_irrefl]
section Pend
variable {a : Nat → Int32} {ph : Int32} {ptl : Nat → Int64} {P : Nat} {tp : Nat → Option Int32} {v1 : Int32}
/-- one more comes behind what is pending -/
theorem q_pend (h : PD a ph ptl P tp) (t : Option Int32) : ∃ z w P' tp', pX10_pend (vv t) (ee t) a = some z ∧ pX9_comeBehindPending 16 (enc t) ph ptl = some w ∧ w.1 = z.1 ∧ PD z.2 w.2.1 w.2.2 P' tp' ∧ ∀ i, ¬ (3 ≤ i ∧ i < 36) → z.2 i = a i := by
  have h' := h
  obtain ⟨hP, rfl, ht, h3, hR⟩ := h
  have c3 : ∀ (α : Type) (x : Option α), ck 3 22955 x = x := fun α x => ckN (n := 3) (by omega) (by omega)
  unfold pX10_pend pX9_comeBehindPending pX10_pend_j49
  by_cases h16 : P = 16
  · subst h16
    rw [c3, show (3 : Int32).toNatClampNeg = 3 from rfl, h3, if_pos (show nI 16 = 16 from rfl), k_appendO (by omega), Option.bind_some]
    exact ⟨_, _, 16, tp, rfl, rfl, rfl, h', fun _ _ => rfl⟩
  · have hne : ¬ nI P = (16 : Int32) := fun q => h16 ((nI_eq (b := 16) (by omega) (by omega)).mp q)
    have step : ∀ (e : Int32), e = ee t → ∃ z w P' tp', (ck (20 + upd a (4 + P) (vv t) 3) 22955 (ck 3 22955 (ck 3 22955 (ck 3 22955 (some ((upd (upd (upd a (4 + P) (vv t)) (20 + upd a (4 + P) (vv t) 3).toNatClampNeg e) 3 (upd (upd a (4 + P) (vv t)) (20 + upd a (4 + P) (vv t) 3).toNatClampNeg e 3 + 1)) 3, upd (upd (upd a (4 + P) (vv t)) (20 + upd a (4 + P) (vv t) 3).toNatClampNeg e) 3 (upd (upd a (4 + P) (vv t)) (20 + upd a (4 + P) (vv t) 3).toNatClampNeg e 3 + 1))))))) = some z ∧ (some (nI (P + 1), nI (P + 1), vp_updL ptl P (enc t)) : Option (Int32 × Int32 × (Nat → Int64))) = some w ∧ w.1 = z.1 ∧ PD z.2 w.2.1 w.2.2 P' tp' ∧ ∀ i, ¬ (3 ≤ i ∧ i < 36) → z.2 i = a i := fun e he => by
      rw [c3, c3, c3, u_ne (show 3 ≠ 4 + P by omega), h3, show (20 : Int32) = nI 20 from rfl, nI_add, ckN (by omega) (by omega), nI_clamp (by omega), u_ne (show 3 ≠ 20 + P by omega), u_ne (show 3 ≠ 4 + P by omega), h3, show (1 : Int32) = nI 1 from rfl, nI_add, u_at]
      refine ⟨_, _, P + 1, ud tp P t, rfl, rfl, rfl, ⟨by omega, rfl, fun k hk => ?_, by show upd (upd (upd a (4 + P) (vv t)) (20 + P) e) 3 (nI (P + 1)) 3 = _; rw [u_at], fun k hk => ?_⟩, fun i hi => ?_⟩
      · show vp_updL ptl P (enc t) k = _
        by_cases hkP : k = P
        · subst hkP; rw [ul_at, ud_at]
        · rw [ul_ne hkP, ud_ne hkP]; exact ht k (by omega)
      · show upd _ _ _ _ = _ ∧ upd _ _ _ _ = _
        by_cases hkP : k = P
        · subst hkP
          rw [u_ne (by omega), u_ne (by omega), u_at, u_ne (by omega), u_at, ud_at]; exact ⟨rfl, he⟩
        · rw [u_ne (by omega), u_ne (by omega), u_ne (by omega), u_ne (by omega), u_ne (by omega), u_ne (by omega), ud_ne hkP]
          exact hR k (by omega)
      · show upd _ _ _ _ = _
        rw [u_ne (by omega), u_ne (by omega), u_ne (by omega)]
    rw [c3, show (3 : Int32).toNatClampNeg = 3 from rfl, h3, if_neg hne, c3, show (4 : Int32) = nI 4 from rfl, nI_add, ckN (by omega) (by omega), c3, nI_clamp (by omega), k_append (by omega) (by omega), Option.bind_some, if_neg (show ¬ nI 1 = 0 by decide)]
    cases t with
    | none =>
      rw [if_neg (show ¬ ee none = 0 by decide)]
      exact step 1 rfl
    | some v =>
      rw [if_pos (show ee (some v) = 0 from rfl)]
      exact step 0 rfl
theorem q_put (h : PD a ph ptl P tp) : ∃ z w P' tp', pX10_put v1 a = some z ∧ pX9_put 16 v1 ph ptl = some w ∧ w.1 = z.1 ∧ PD z.2 w.2.1 w.2.2 P' tp' ∧ ∀ i, ¬ (3 ≤ i ∧ i < 36) → z.2 i = a i := by
  obtain ⟨z, w, P', tp', e1, e2, h1, h2, h3⟩ := q_pend h (some v1)
  unfold pX10_put pX9_put
  rw [show pX10_pend v1 0 a = some z from e1, show pX9_comeBehindPending 16 v1.toInt64 ph ptl = some w from e2]
  exact ⟨_, _, P', tp', rfl, rfl, h1, h2, h3⟩
theorem q_gap (h : PD a ph ptl P tp) : ∃ z w P' tp', pX10_gap a = some z ∧ pX9_gap 16 ph ptl = some w ∧ w.1 = z.1 ∧ PD z.2 w.2.1 w.2.2 P' tp' ∧ ∀ i, ¬ (3 ≤ i ∧ i < 36) → z.2 i = a i := by
  obtain ⟨z, w, P', tp', e1, e2, h1, h2, h3⟩ := q_pend h none
  unfold pX10_gap pX9_gap
  rw [show pX10_pend 0 1 a = some z from e1, show pX9_comeBehindPending 16 4294967296 ph ptl = some w from e2]
  exact ⟨_, _, P', tp', rfl, rfl, h1, h2, h3⟩
theorem r_clearP : ∃ a', pX10_clearPending a = some a' ∧ a' 3 = nI 0 ∧ ∀ i, ¬ (3 ≤ i ∧ i < 36) → a' i = a i := by
  obtain ⟨r, e, hr⟩ := lpE (body := pX10_clearPending_b2) (fun k s => s.1 = nI k ∧ ∀ i, ¬ (3 ≤ i ∧ i < 36) → s.2 i = a i) (fun r => ∀ i, ¬ (3 ≤ i ∧ i < 36) → r.2 i = a i) 32 (nI 0, a) ⟨rfl, fun _ _ => rfl⟩ (fun k s hk hI => by
    obtain ⟨s1, s2⟩ := s
    obtain ⟨rfl, h⟩ := hI
    unfold pX10_clearPending_b2
    rcases Nat.lt_or_ge k 32 with h9 | h9
    · refine Or.inl ?_
      simp (disch := omega) only [n_l0, n_l1, n_l2, n_l3, n_l4, n_l5, n_l6, n_l7, n_l8, n_l9, n_l15, n_l16, n_l17, n_l20, n_l24, n_l31, n_l32, n_l33, n_l36, n_l48, n_l49, n_l97, n_l128, n_l129, n_l192, n_l225, n_l256, n_l353, n_l400, n_l512, n_l593, n_l621, n_l640, n_l857, n_l1093, n_l1095, n_l2048, n_l3225, n_l10000, n_l22955, n_l29988, n_l29989, n_l65536, n_l99999, n_l1000000000, n_l2147483647, nI_add, pk_mul, pk_sub, pk_div, nI_clamp, ckN, nI_leI, nI_ltI, nI_eq, nI_nm1, Nat.add_zero, nI_addneg, k_ush, true_or, or_true, false_or, or_false, true_and, and_true, false_and, and_false, not_true_eq_false, not_false_eq_true, if_true, if_false, if_pos, if_neg, Option.bind_some]
      refine ⟨_, rfl, h9, rfl, fun i hi => ?_⟩
      show upd s2 (4 + k) _ i = _
      rw [u_ne (by omega)]; exact h i hi
    · obtain rfl : k = 32 := by omega
      refine Or.inr ?_
      simp (disch := omega) only [n_l0, n_l1, n_l2, n_l3, n_l4, n_l5, n_l6, n_l7, n_l8, n_l9, n_l15, n_l16, n_l17, n_l20, n_l24, n_l31, n_l32, n_l33, n_l36, n_l48, n_l49, n_l97, n_l128, n_l129, n_l192, n_l225, n_l256, n_l353, n_l400, n_l512, n_l593, n_l621, n_l640, n_l857, n_l1093, n_l1095, n_l2048, n_l3225, n_l10000, n_l22955, n_l29988, n_l29989, n_l65536, n_l99999, n_l1000000000, n_l2147483647, nI_add, pk_mul, pk_sub, pk_div, nI_clamp, ckN, nI_leI, nI_ltI, nI_eq, nI_nm1, Nat.add_zero, nI_addneg, k_ush, true_or, or_true, false_or, or_false, true_and, and_true, false_and, and_false, not_true_eq_false, not_false_eq_true, if_true, if_false, if_pos, if_neg, Option.bind_some]
      exact ⟨_, rfl, h⟩)
  unfold pX10_clearPending
  rw [n_l0, e, Option.bind_some, show ∀ x : Option (Nat → Int32), ck 3 22955 x = x from fun x => ckN (n := 3) (by omega) (by omega)]
  exact ⟨_, rfl, u_at _ _ _, fun i hi => by rw [u_ne (show i ≠ (3 : Int32).toNatClampNeg from fun q => hi (by rw [q]; decide))]; exact hr i hi⟩
theorem q_forget (h : PD a ph ptl P tp) : ∃ z w, pX10_forget a = some z ∧ pX9_forget ph = some w ∧ w.1 = z.1 ∧ PD z.2 w.2 ptl 0 tp ∧ ∀ i, ¬ (3 ≤ i ∧ i < 36) → z.2 i = a i := by
  obtain ⟨hP, rfl, ht, h3, hR⟩ := h
  obtain ⟨a', e, h1, h2⟩ := r_clearP (a := a)
  unfold pX10_forget pX9_forget
  rw [show ∀ x : Option (Int32 × (Nat → Int32)), ck 3 22955 x = x from fun x => ckN (n := 3) (by omega) (by omega), e, Option.bind_some, show (3 : Int32).toNatClampNeg = 3 from rfl, h3]
  exact ⟨_, _, rfl, rfl, rfl, ⟨by omega, rfl, fun k hk => absurd hk (Nat.not_lt_zero k), h1, fun k hk => absurd hk (Nat.not_lt_zero k)⟩, h2⟩
end Pend
/-- a change of one column, and of what else is named -/
def MX (E : Nat → Prop) (a : Nat → Int32) (v1 : Int32) (kp : Bool) (a' : Nat → Int32) (bk hd : Int32) (tl : Nat → Int64) (fc : Nat → Int32) : Prop :=
  ∃ C', COL a' v1 bk hd tl fc C' ∧ ((kp = false ∧ a' = a) ∨ (kp = true ∧ ∃ c a1, c < 3 ∧ v1 = nI c ∧ pX10_keep a = some a1 ∧ ∀ i, ¬ inC c i → ¬ E i → a' i = a1 i))
theorem MX_no {E : Nat → Prop} {a : Nat → Int32} {v1 bk hd : Int32} {tl : Nat → Int64} {fc : Nat → Int32} {C : AC} (h : COL a v1 bk hd tl fc C) : MX E a v1 false a bk hd tl fc := ⟨C, h, Or.inl ⟨rfl, rfl⟩⟩
theorem MX_yes {E : Nat → Prop} {a a1 a' : Nat → Int32} {c : Nat} {bk hd : Int32} {tl : Nat → Int64} {fc : Nat → Int32} {C' : AC} (hc : c < 3) (hk : pX10_keep a = some a1) (hF : ∀ i, ¬ inC c i → ¬ E i → a' i = a1 i) (hK : KC bk hd tl fc C') (ho : OKC C') (hR : RCa a' c C') : MX E a (nI c) true a' bk hd tl fc :=
  ⟨C', ⟨hK, ho, fun c2 h2 e => by rw [← (nI_eq (show c < 2 ^ 31 by omega) (show c2 < 2 ^ 31 by omega)).mp e]; exact hR⟩, Or.inr ⟨rfl, c, a1, hc, rfl, hk, hF⟩⟩
section Come
variable {c : Nat} {a : Nat → Int32} {v1 v2 v3 v4 bk hd : Int32} {tl : Nat → Int64} {fc : Nat → Int32} {C : AC} {xc : Nat → Option Nat}
/-- rows from a row -/
theorem k_appendFrom {N2 H OH f t : Nat} {T S : Nat → Option Int32} {ol : Nat → Int64} (hN : N2 < 2 ^ 31) (hO : OH ≤ N2) (hS : ∀ k, k < OH → ol k = enc (S k)) (hft : f ≤ t) (ht : t ≤ OH) (hT : ∀ k, k < H → tl k = enc (T k)) (hr : H + (t - f) ≤ 128) : ∃ t2, pX5_appendFrom 128 N2 (nI f) (nI t) (nI H) tl (nI OH) ol = some (nI (H + (t - f)), t2) ∧ ∀ k, k < H + (t - f) → t2 k = enc (apT T H (fun i => S (f + i)) k) := by
  obtain ⟨r, e, r1, r2⟩ := lpE (body := pX5_appendFrom_b3 128 N2 (nI t) (nI OH) ol) (fun k s => s.1 = nI (f + k) ∧ s.2.1 = nI (H + k) ∧ ∀ j, j < H + k → s.2.2 j = enc (apT T H (fun i => S (f + i)) j)) (fun r => r.2.1 = nI (H + (t - f)) ∧ ∀ j, j < H + (t - f) → r.2.2 j = enc (apT T H (fun i => S (f + i)) j)) (t - f) (nI f, nI H, tl) ⟨rfl, rfl, fun j hj => by rw [apT_lo (by omega)]; exact hT j (by omega)⟩ (fun k s hk hI => by
    obtain ⟨s1, s2, s3⟩ := s
    obtain ⟨h1, h2, h3⟩ := hI
    replace h1 : s1 = nI (f + k) := h1
    replace h2 : s2 = nI (H + k) := h2
    replace h3 : ∀ j, j < H + k → s3 j = enc (apT T H (fun i => S (f + i)) j) := h3
    subst h1 h2
    unfold pX5_appendFrom_b3 pX5_appendFrom_b3j30
    rcases Nat.lt_or_ge k (t - f) with h9 | h9
    · refine Or.inl ?_
      simp (disch := omega) only [n_l0, n_l1, n_l2, n_l3, n_l4, n_l5, n_l6, n_l7, n_l8, n_l9, n_l15, n_l16, n_l17, n_l20, n_l24, n_l31, n_l32, n_l33, n_l36, n_l48, n_l49, n_l97, n_l128, n_l129, n_l192, n_l225, n_l256, n_l353, n_l400, n_l512, n_l593, n_l621, n_l640, n_l857, n_l1093, n_l1095, n_l2048, n_l3225, n_l10000, n_l22955, n_l29988, n_l29989, n_l65536, n_l99999, n_l1000000000, n_l2147483647, nI_add, pk_mul, pk_sub, pk_div, nI_clamp, ckN, nI_leI, nI_ltI, nI_eq, nI_nm1, Nat.add_zero, nI_addneg, k_ush, true_or, or_true, false_or, or_false, true_and, and_true, false_and, and_false, not_true_eq_false, not_false_eq_true, if_true, if_false, if_pos, if_neg, Option.bind_some, k_has (i := f + k) (H := OH) (by omega) (by omega), k_append (N := 128) (H := H + k) (by omega) (by omega), hS (f + k) (by omega)]
      refine ⟨_, rfl, h9, rfl, rfl, fun j hj => ?_⟩
      show vp_updL s3 (H + k) _ j = _
      by_cases hjk : j = H + k
      · subst hjk; rw [ul_at, apT_hi]
      · rw [ul_ne hjk]; exact h3 j (by omega)
    · obtain rfl : k = t - f := by omega
      refine Or.inr ?_
      simp (disch := omega) only [n_l0, n_l1, n_l2, n_l3, n_l4, n_l5, n_l6, n_l7, n_l8, n_l9, n_l15, n_l16, n_l17, n_l20, n_l24, n_l31, n_l32, n_l33, n_l36, n_l48, n_l49, n_l97, n_l128, n_l129, n_l192, n_l225, n_l256, n_l353, n_l400, n_l512, n_l593, n_l621, n_l640, n_l857, n_l1093, n_l1095, n_l2048, n_l3225, n_l10000, n_l22955, n_l29988, n_l29989, n_l65536, n_l99999, n_l1000000000, n_l2147483647, nI_add, pk_mul, pk_sub, pk_div, nI_clamp, ckN, nI_leI, nI_ltI, nI_eq, nI_nm1, Nat.add_zero, nI_addneg, k_ush, true_or, or_true, false_or, or_false, true_and, and_true, false_and, and_false, not_true_eq_false, not_false_eq_true, if_true, if_false, if_pos, if_neg, Option.bind_some, show f + (t - f) = t by omega]
      exact ⟨_, rfl, rfl, h3⟩)
  unfold pX5_appendFrom
  rw [e, Option.bind_some, r1]
  exact ⟨_, rfl, r2⟩
theorem k_appendFromS {H f t : Nat} {T : Nat → Option Int32} (hft : f ≤ t) (ht : t ≤ H) (hT : ∀ k, k < H → tl k = enc (T k)) (hr : H + (t - f) ≤ 128) : ∃ t2, pX5_appendFrom_p1this 128 (nI f) (nI t) (nI H) tl = some (nI (H + (t - f)), t2) ∧ ∀ k, k < H + (t - f) → t2 k = enc (apT T H (fun i => T (f + i)) k) := by
  obtain ⟨r, e, r1, r2⟩ := lpE (body := pX5_appendFrom_p1this_b3 128 (nI t)) (fun k s => s.1 = nI (f + k) ∧ s.2.1 = nI (H + k) ∧ ∀ j, j < H + k → s.2.2 j = enc (apT T H (fun i => T (f + i)) j)) (fun r => r.2.1 = nI (H + (t - f)) ∧ ∀ j, j < H + (t - f) → r.2.2 j = enc (apT T H (fun i => T (f + i)) j)) (t - f) (nI f, nI H, tl) ⟨rfl, rfl, fun j hj => by rw [apT_lo (by omega)]; exact hT j (by omega)⟩ (fun k s hk hI => by
    obtain ⟨s1, s2, s3⟩ := s
    obtain ⟨h1, h2, h3⟩ := hI
    replace h1 : s1 = nI (f + k) := h1
    replace h2 : s2 = nI (H + k) := h2
    replace h3 : ∀ j, j < H + k → s3 j = enc (apT T H (fun i => T (f + i)) j) := h3
    subst h1 h2
    unfold pX5_appendFrom_p1this_b3 pX5_appendFrom_p1this_b3j30
    rcases Nat.lt_or_ge k (t - f) with h9 | h9
    · refine Or.inl ?_
      have hv : s3 (f + k) = enc (T (f + k)) := by rw [h3 _ (by omega), apT_lo (by omega)]
      simp (disch := omega) only [n_l0, n_l1, n_l2, n_l3, n_l4, n_l5, n_l6, n_l7, n_l8, n_l9, n_l15, n_l16, n_l17, n_l20, n_l24, n_l31, n_l32, n_l33, n_l36, n_l48, n_l49, n_l97, n_l128, n_l129, n_l192, n_l225, n_l256, n_l353, n_l400, n_l512, n_l593, n_l621, n_l640, n_l857, n_l1093, n_l1095, n_l2048, n_l3225, n_l10000, n_l22955, n_l29988, n_l29989, n_l65536, n_l99999, n_l1000000000, n_l2147483647, nI_add, pk_mul, pk_sub, pk_div, nI_clamp, ckN, nI_leI, nI_ltI, nI_eq, nI_nm1, Nat.add_zero, nI_addneg, k_ush, true_or, or_true, false_or, or_false, true_and, and_true, false_and, and_false, not_true_eq_false, not_false_eq_true, if_true, if_false, if_pos, if_neg, Option.bind_some, k_has (i := f + k) (H := H + k) (by omega) (by omega), k_append (N := 128) (H := H + k) (by omega) (by omega), hv]
      refine ⟨_, rfl, h9, rfl, rfl, fun j hj => ?_⟩
      show vp_updL s3 (H + k) _ j = _
      by_cases hjk : j = H + k
      · subst hjk; rw [ul_at, apT_hi]
      · rw [ul_ne hjk]; exact h3 j (by omega)
    · obtain rfl : k = t - f := by omega
      refine Or.inr ?_
      simp (disch := omega) only [n_l0, n_l1, n_l2, n_l3, n_l4, n_l5, n_l6, n_l7, n_l8, n_l9, n_l15, n_l16, n_l17, n_l20, n_l24, n_l31, n_l32, n_l33, n_l36, n_l48, n_l49, n_l97, n_l128, n_l129, n_l192, n_l225, n_l256, n_l353, n_l400, n_l512, n_l593, n_l621, n_l640, n_l857, n_l1093, n_l1095, n_l2048, n_l3225, n_l10000, n_l22955, n_l29988, n_l29989, n_l65536, n_l99999, n_l1000000000, n_l2147483647, nI_add, pk_mul, pk_sub, pk_div, nI_clamp, ckN, nI_leI, nI_ltI, nI_eq, nI_nm1, Nat.add_zero, nI_addneg, k_ush, true_or, or_true, false_or, or_false, true_and, and_true, false_and, and_false, not_true_eq_false, not_false_eq_true, if_true, if_false, if_pos, if_neg, Option.bind_some, show f + (t - f) = t by omega]
      exact ⟨_, rfl, rfl, h3⟩)
  unfold pX5_appendFrom_p1this
  rw [e, Option.bind_some, r1]
  exact ⟨_, rfl, r2⟩
/-- places of a row come into the reference's column -/
theorem r_comeN (hc : c < 3) {H n k0 : Nat} {T : Nat → Option Int32} {mg gp : Nat → Int32} (hV : RV a c H T) (hr : H + n ≤ 128) (hk : k0 + n ≤ 256) (hm : ∀ i, i < n → gp (k0 + i) = ee (T (H + i)) ∧ (∀ v, T (H + i) = some v → mg (k0 + i) = v)) : ∃ r, lp (pX10_comeAll_b35 (nI c) (nI k0) (nI H) (nI n) mg gp) FU (nI 0, a) = some r ∧ (∀ i, i < 97 → r.2 (36 + 353 * c + i) = a (36 + 353 * c + i)) ∧ FR c a r.2 ∧ RV r.2 c (H + n) T := by
  refine lpE (body := pX10_comeAll_b35 (nI c) (nI k0) (nI H) (nI n) mg gp) (fun k s => s.1 = nI k ∧ (∀ i, i < 97 → s.2 (36 + 353 * c + i) = a (36 + 353 * c + i)) ∧ FR c a s.2 ∧ RV s.2 c (H + k) T) (fun r => (∀ i, i < 97 → r.2 (36 + 353 * c + i) = a (36 + 353 * c + i)) ∧ FR c a r.2 ∧ RV r.2 c (H + n) T) n (nI 0, a) ⟨rfl, fun _ _ => rfl, FR_rf c a, hV⟩ (fun k s hk hI => ?_)
  obtain ⟨s1, s2⟩ := s
  obtain ⟨h1, h2, h3, h4⟩ := hI
  replace h1 : s1 = nI k := h1
  replace h4 : RV s2 c (H + k) T := h4
  subst h1
  unfold pX10_comeAll_b35
  rcases Nat.lt_or_ge k n with h9 | h9
  · refine Or.inl ?_
    obtain ⟨g1, g2⟩ := hm k h9
    have hput : pX10_putPlace (nI c) (nI (H + k)) (mg (k0 + k)) (gp (k0 + k)) s2 = some (pP s2 c (H + k) (T (H + k))) := by
      rw [g1]
      cases hx : T (H + k) with
      | none => exact r_putN hc (by omega) _
      | some v => rw [g2 v hx]; exact r_putS hc (by omega) v
    simp (disch := omega) only [n_l0, n_l1, n_l2, n_l3, n_l4, n_l5, n_l6, n_l7, n_l8, n_l9, n_l15, n_l16, n_l17, n_l20, n_l24, n_l31, n_l32, n_l33, n_l36, n_l48, n_l49, n_l97, n_l128, n_l129, n_l192, n_l225, n_l256, n_l353, n_l400, n_l512, n_l593, n_l621, n_l640, n_l857, n_l1093, n_l1095, n_l2048, n_l3225, n_l10000, n_l22955, n_l29988, n_l29989, n_l65536, n_l99999, n_l1000000000, n_l2147483647, nI_add, pk_mul, pk_sub, pk_div, nI_clamp, ckN, nI_leI, nI_ltI, nI_eq, nI_nm1, Nat.add_zero, nI_addneg, k_ush, true_or, or_true, false_or, or_false, true_and, and_true, false_and, and_false, not_true_eq_false, not_false_eq_true, if_true, if_false, if_pos, if_neg, Option.bind_some, hput]
    refine ⟨_, rfl, h9, rfl, fun i hi => ?_, FR_tr h3 (pP_fr (by omega) _), ?_⟩
    · show pP s2 c (H + k) _ _ = _
      rw [pP_lo _ hi]; exact h2 i hi
    · exact pP_RV (show H + k < 128 by omega) (by omega) _ (fun j hj hjk => h4 j (by omega)) (fun _ => rfl)
  · obtain rfl : k = n := by omega
    refine Or.inr ?_
    simp (disch := omega) only [n_l0, n_l1, n_l2, n_l3, n_l4, n_l5, n_l6, n_l7, n_l8, n_l9, n_l15, n_l16, n_l17, n_l20, n_l24, n_l31, n_l32, n_l33, n_l36, n_l48, n_l49, n_l97, n_l128, n_l129, n_l192, n_l225, n_l256, n_l353, n_l400, n_l512, n_l593, n_l621, n_l640, n_l857, n_l1093, n_l1095, n_l2048, n_l3225, n_l10000, n_l22955, n_l29988, n_l29989, n_l65536, n_l99999, n_l1000000000, n_l2147483647, nI_add, pk_mul, pk_sub, pk_div, nI_clamp, ckN, nI_leI, nI_ltI, nI_eq, nI_nm1, Nat.add_zero, nI_addneg, k_ush, true_or, or_true, false_or, or_false, true_and, and_true, false_and, and_false, not_true_eq_false, not_false_eq_true, if_true, if_false, if_pos, if_neg, Option.bind_some]
    exact ⟨_, rfl, h2, h3, h4⟩
theorem r_comeAll (xv xw xp xs xf xu xt xb : Int32) (vs : Nat → Int32) (ps : Nat → Int64) (hc : c < 3) {n m : Nat} {mg gp : Nat → Int32} (hR : RCa a c C) (ho : OKC C) (hr : HL C + n ≤ 128) (hmm : m = (n + 15) / 16) (hn : NB C + m ≤ 24) (hm : ∀ i, i < n → gp i = ee (TV C (HL C + i)) ∧ (∀ v, TV C (HL C + i) = some v → mg i = v)) (hg : ∀ i, n ≤ i → i < 256 → gp i = 0) :
    ∃ z, pX10_comeAll (nI c) (nI n) xv xw xp xs xf xu xt xb a vs ps mg gp = some z ∧ RCa z.2.2.2.2.2.2.2.2.1 c (slN C (HL C + n) m) ∧ FR c a z.2.2.2.2.2.2.2.2.1 ∧ ∀ i, i < 256 → z.2.2.2.2.2.2.2.2.2.2.2 i = 0 := by
  obtain ⟨r, e, r1, r2⟩ := lpE (body := pX10_comeAll_b2 (nI c) (nI n) mg gp) (fun k s => s.1 = nI (16 * k) ∧ RCa s.2.2.2.2.2.2.2.2.2.1 c (slN C (HL C + n) k) ∧ FR c a s.2.2.2.2.2.2.2.2.2.1) (fun r => RCa r.2.2.2.2.2.2.2.2.2.1 c (slN C (HL C + n) m) ∧ FR c a r.2.2.2.2.2.2.2.2.2.1) m (nI 0, xv, xw, xp, xs, xf, xu, xt, xb, a, vs, ps) ⟨rfl, hR, FR_rf c a⟩ (fun k s hk hI => by
    obtain ⟨s1, s2, s3, s4, s5, s6, s7, s8, s9, s10, s11, s12⟩ := s
    obtain ⟨h1, h2, h3⟩ := hI
    replace h1 : s1 = nI (16 * k) := h1
    replace h2 : RCa s10 c (slN C (HL C + n) k) := h2
    replace h3 : FR c a s10 := h3
    subst h1
    have i2 := sl_HL (C := C) (L := HL C + n) (by omega) k
    have i3 := sl_NB C (HL C + n) k
    unfold pX10_comeAll_b2
    rcases Nat.lt_or_ge k m with h9 | h9
    · refine Or.inl ?_
      have i4 : HL (slN C (HL C + n) k) = HL C + 16 * k := by omega
      have hpl := r_places hc h2 (by rw [i3]; omega)
      rw [eHL, i4] at hpl
      obtain ⟨b1, b2⟩ := RC_BV.mp h2
      rw [show sm (PL (slN C (HL C + n) k)) (NB (slN C (HL C + n) k)) = HL C + 16 * k from i4, sl_TV] at b2
      obtain ⟨y, ey, y1, y2, y3⟩ := r_comeN (H := HL C + 16 * k) (n := min 16 (n - 16 * k)) (k0 := 16 * k) (mg := mg) (gp := gp) hc b2 (by omega) (by omega) (fun i hi => by
        have := hm (16 * k + i) (by omega)
        rw [← Nat.add_assoc] at this; exact this)
      have hB : RB y.2 c (NB (slN C (HL C + n) k)) (PL (slN C (HL C + n) k)) (FM (slN C (HL C + n) k)) (WD (slN C (HL C + n) k)) (ST (slN C (HL C + n) k)) := RB_fr (by rw [i3]; omega) b1 y1
      obtain ⟨a2, z, e1, e2, e3, e4, e5⟩ := r_add (C := slN C (HL C + n) k) (n := min 16 (n - 16 * k)) s2 s3 s4 s5 s6 s7 s8 s9 s11 s12 hc hB (by rw [i4, sl_TV]; exact y3) (by rw [i3]; omega) (by rw [i4]; omega) (by omega)
      rw [i3] at e1 e2 e3
      have hbl : pX10_blocks (nI c) y.2 = some (nI (NB C + k)) := by rw [← i3]; exact r_blocksB hc hB.1
      have hbl2 : pX10_blocks (nI c) a2 = some (nI (NB C + k + 1)) := r_blocksB hc e2
      have fin : ∃ s', pX10_comeAll_b2j30 (nI c) (nI (16 * k)) (nI (HL C + 16 * k)) (nI (min 16 (n - 16 * k))) s2 s3 s4 s5 s6 s7 s8 s9 s10 s11 s12 mg gp = some (Sum.inl s') ∧ k < m ∧ s'.1 = nI (16 * (k + 1)) ∧ RCa s'.2.2.2.2.2.2.2.2.2.1 c (slN C (HL C + n) (k + 1)) ∧ FR c a s'.2.2.2.2.2.2.2.2.2.1 := by
        unfold pX10_comeAll_b2j30
        rw [n_l0, ey, Option.bind_some, hbl, Option.bind_some, e1, Option.bind_some, hbl2, Option.bind_some, show (1 : Int32) = nI 1 from rfl, pk_sub (by omega), Nat.add_sub_cancel, e3, Option.bind_some, show (16 : Int32) = nI 16 from rfl, nI_add]
        refine ⟨_, rfl, h9, congrArg nI (by omega), ?_, FR_tr h3 (FR_tr y2 e5)⟩
        rw [sl_s, i4, show HL C + n - (HL C + 16 * k) = n - 16 * k by omega]
        exact e4
      rw [if_neg (show ¬ nI n ≤ nI (16 * k) by rw [nI_leI (by omega) (by omega)]; omega), hpl, Option.bind_some, pk_sub (by omega)]
      by_cases h16 : 16 ≤ n - 16 * k
      · rw [if_pos (show (16 : Int32) ≤ nI (n - 16 * k) from nI_le (a := 16) h16 (by omega)), show (16 : Int32) = nI 16 from rfl]
        rw [Nat.min_eq_left h16] at fin
        exact fin
      · rw [if_neg (show ¬ (16 : Int32) ≤ nI (n - 16 * k) from fun q => h16 ((nI_leI (a := 16) (by omega) (by omega)).mp q))]
        rw [Nat.min_eq_right (by omega)] at fin
        exact fin
    · obtain rfl : k = m := by omega
      refine Or.inr ?_
      rw [if_pos (nI_le (show n ≤ 16 * k by omega) (by omega))]
      exact ⟨_, rfl, h2, h3⟩)
  obtain ⟨g, eg, hg2⟩ := lpE (body := pX10_comeAll_b108 (nI n)) (fun k s => s.1 = nI k ∧ ∀ i, i < 256 → (i < k ∨ n ≤ i) → s.2 i = 0) (fun g => ∀ i, i < 256 → g.2 i = 0) n (nI 0, gp) ⟨rfl, fun i hi h => hg i (by omega) hi⟩ (fun k s hk hI => by
    obtain ⟨s1, s2⟩ := s
    obtain ⟨h1, h2⟩ := hI
    replace h1 : s1 = nI k := h1
    replace h2 : ∀ i, i < 256 → (i < k ∨ n ≤ i) → s2 i = 0 := h2
    subst h1
    unfold pX10_comeAll_b108
    rcases Nat.lt_or_ge k n with h9 | h9
    · refine Or.inl ?_
      simp (disch := omega) only [n_l0, n_l1, n_l2, n_l3, n_l4, n_l5, n_l6, n_l7, n_l8, n_l9, n_l15, n_l16, n_l17, n_l20, n_l24, n_l31, n_l32, n_l33, n_l36, n_l48, n_l49, n_l97, n_l128, n_l129, n_l192, n_l225, n_l256, n_l353, n_l400, n_l512, n_l593, n_l621, n_l640, n_l857, n_l1093, n_l1095, n_l2048, n_l3225, n_l10000, n_l22955, n_l29988, n_l29989, n_l65536, n_l99999, n_l1000000000, n_l2147483647, nI_add, pk_mul, pk_sub, pk_div, nI_clamp, ckN, nI_leI, nI_ltI, nI_eq, nI_nm1, Nat.add_zero, nI_addneg, k_ush, true_or, or_true, false_or, or_false, true_and, and_true, false_and, and_false, not_true_eq_false, not_false_eq_true, if_true, if_false, if_pos, if_neg, Option.bind_some]
      refine ⟨_, rfl, h9, rfl, fun i hi h => ?_⟩
      show upd s2 k _ i = 0
      by_cases hik : i = k
      · subst hik; rw [u_at]; rfl
      · rw [u_ne hik]; exact h2 i hi (by omega)
    · obtain rfl : k = n := by omega
      refine Or.inr ?_
      simp (disch := omega) only [n_l0, n_l1, n_l2, n_l3, n_l4, n_l5, n_l6, n_l7, n_l8, n_l9, n_l15, n_l16, n_l17, n_l20, n_l24, n_l31, n_l32, n_l33, n_l36, n_l48, n_l49, n_l97, n_l128, n_l129, n_l192, n_l225, n_l256, n_l353, n_l400, n_l512, n_l593, n_l621, n_l640, n_l857, n_l1093, n_l1095, n_l2048, n_l3225, n_l10000, n_l22955, n_l29988, n_l29989, n_l65536, n_l99999, n_l1000000000, n_l2147483647, nI_add, pk_mul, pk_sub, pk_div, nI_clamp, ckN, nI_leI, nI_ltI, nI_eq, nI_nm1, Nat.add_zero, nI_addneg, k_ush, true_or, or_true, false_or, or_false, true_and, and_true, false_and, and_false, not_true_eq_false, not_false_eq_true, if_true, if_false, if_pos, if_neg, Option.bind_some]
      exact ⟨_, rfl, fun i hi => h2 i hi (by omega)⟩)
  unfold pX10_comeAll
  rw [n_l0, e, Option.bind_some, eg, Option.bind_some]
  exact ⟨_, rfl, r1, r2, hg2⟩
end Come
