/-! ===== merge ===== -/
theorem NC_mono {p q : Int32 → Bool} (h : ∀ v, p v = true → q v = true) (g : Nat → Int32) : ∀ n, NC p g n ≤ NC q g n := by
  intro n
  induction n with
  | zero => exact Nat.le_refl _
  | succ k ih =>
    show NC p g k + (if p (g k) then 1 else 0) ≤ NC q g k + (if q (g k) then 1 else 0)
    cases hp : p (g k) with
    | false =>
      have h0 : (if false = true then 1 else 0) = 0 := rfl
      rw [h0]; omega
    | true =>
      have h0 : (if true = true then 1 else 0) = 1 := rfl
      rw [h _ hp, h0]; omega
theorem srt_eq {g h : Nat → Int32} {n : Nat} (hg : SRT g n) (hh : SRT h n) (e : ∀ p, NC p g n = NC p h n) : ∀ k, k < n → g k = h k := fun k hk => by
  have key : ∀ g h : Nat → Int32, SRT g n → SRT h n → (∀ p, NC p g n = NC p h n) → h k ≤ g k := fun g h hg hh e => by
    refine Int32.not_lt.mp (fun q => ?_)
    have h1 := rank_hi hg hk
    have h2 := rank_lo hh hk
    rw [e] at h1
    have h3 := NC_mono (p := fun w => decide (w ≤ g k)) (q := fun w => decide (w < h k)) (fun v hv => decide_eq_true (Int32.lt_of_le_of_lt (of_decide_eq_true hv) q)) h n
    omega
  exact Int32.le_antisymm (key h g hh hg (fun p => (e p).symm)) (key g h hg hh e)
theorem TN_true (tv : Nat → Option Int32) : ∀ n, TN (fun _ => true) tv n = cnt tv 0 n := by
  intro n
  induction n with
  | zero => rfl
  | succ k ih =>
    rw [TN_s, cnt_s, ih, Nat.zero_add]
    cases tv k <;> rfl
theorem TN_none {tv : Nat → Option Int32} {p : Int32 → Bool} {f : Nat} : ∀ m, f ≤ m → (∀ q, f ≤ q → q < m → tv q = none) → TN p tv m = TN p tv f := by
  intro m
  induction m with
  | zero => intro h _; rw [show f = 0 by omega]
  | succ k ih =>
    intro h h2
    rcases Nat.lt_or_ge k f with h3 | h3
    · rw [show f = k + 1 by omega]
    · rw [TN_s, h2 k h3 (by omega), ih h3 (fun q h4 h5 => h2 q h4 (by omega))]; rfl
/-- values in order -/
def SV2 (tv : Nat → Option Int32) (H : Nat) : Prop := ∀ m m' v w, m < m' → m' < H → tv m = some v → tv m' = some w → v ≤ w
section Mg
variable {tl : Nat → Int64} {C : AC}
theorem k_sortedP (hl : HL C ≤ 128) (hT : KT tl C) : pX5_isSorted 128 (nI (HL C)) tl = some (nI 1) → SV2 (TV C) (HL C) := by
  obtain ⟨r, e, hq⟩ := lpE (body := pX5_isSorted_b6 128 (nI (HL C)) tl) (fun k s => s.2 = nI k ∧ SV2 (TV C) k ∧ (∀ m v, m < k → TV C m = some v → v.toInt64 ≤ s.1)) (fun r => (∃ x, r = .inl x ∧ SV2 (TV C) (HL C)) ∨ r = .inr (nI 0)) (HL C) (-4294967296, nI 0) ⟨rfl, fun m m' v w _ h => absurd h (Nat.not_lt_zero m'), fun m v h => absurd h (Nat.not_lt_zero m)⟩ (fun k s hk hI => by
    obtain ⟨s1, s2⟩ := s
    obtain ⟨h1, h2, h3⟩ := hI
    replace h1 : s2 = nI k := h1
    replace h3 : ∀ m v, m < k → TV C m = some v → v.toInt64 ≤ s1 := h3
    subst h1
    unfold pX5_isSorted_b6 pX5_isSorted_b6j47
    rcases Nat.lt_or_ge k (HL C) with h9 | h9
    · cases hx : TV C k with
      | none =>
        refine Or.inl ?_
        simp (disch := omega) only [n_l0, n_l1, n_l2, n_l3, n_l4, n_l5, n_l6, n_l7, n_l8, n_l9, n_l15, n_l16, n_l17, n_l20, n_l24, n_l31, n_l32, n_l33, n_l36, n_l48, n_l49, n_l97, n_l128, n_l129, n_l192, n_l225, n_l256, n_l353, n_l400, n_l512, n_l593, n_l621, n_l640, n_l857, n_l1093, n_l1095, n_l2048, n_l3225, n_l10000, n_l22955, n_l29988, n_l29989, n_l65536, n_l99999, n_l1000000000, n_l2147483647, nI_add, pk_mul, pk_sub, pk_div, nI_clamp, ckN, nI_leI, nI_ltI, nI_eq, nI_nm1, Nat.add_zero, nI_addneg, k_ush, true_or, or_true, false_or, or_false, true_and, and_true, false_and, and_false, not_true_eq_false, not_false_eq_true, if_true, if_false, if_pos, if_neg, Option.bind_some, hT k h9, hx, e_none, e_some, l64_ne, l64_inj, l64_lt, l64_le, vv_some, vv_none, ee_some, ee_none, lc_eq, lc_lt, lc_le, lc_gt, lc_ge, reduceCtorEq, Option.isSome_none, Option.isSome_some, Bool.false_eq_true]
        refine ⟨_, rfl, h9, rfl, fun m m' v w hm hm' hv hw => ?_, fun m v hm hv => ?_⟩
        · rcases Nat.lt_or_ge m' k with h5 | h5
          · exact h2 m m' v w hm h5 hv hw
          · rw [show m' = k by omega, hx] at hw; cases hw
        · rcases Nat.lt_or_ge m k with h5 | h5
          · exact h3 m v h5 hv
          · rw [show m = k by omega, hx] at hv; cases hv
      | some x =>
        by_cases hle : s1 ≤ x.toInt64
        · refine Or.inl ?_
          simp (disch := omega) only [n_l0, n_l1, n_l2, n_l3, n_l4, n_l5, n_l6, n_l7, n_l8, n_l9, n_l15, n_l16, n_l17, n_l20, n_l24, n_l31, n_l32, n_l33, n_l36, n_l48, n_l49, n_l97, n_l128, n_l129, n_l192, n_l225, n_l256, n_l353, n_l400, n_l512, n_l593, n_l621, n_l640, n_l857, n_l1093, n_l1095, n_l2048, n_l3225, n_l10000, n_l22955, n_l29988, n_l29989, n_l65536, n_l99999, n_l1000000000, n_l2147483647, nI_add, pk_mul, pk_sub, pk_div, nI_clamp, ckN, nI_leI, nI_ltI, nI_eq, nI_nm1, Nat.add_zero, nI_addneg, k_ush, true_or, or_true, false_or, or_false, true_and, and_true, false_and, and_false, not_true_eq_false, not_false_eq_true, if_true, if_false, if_pos, if_neg, Option.bind_some, hT k h9, hx, e_none, e_some, l64_ne, l64_inj, l64_lt, l64_le, vv_some, vv_none, ee_some, ee_none, lc_eq, lc_lt, lc_le, lc_gt, lc_ge, reduceCtorEq, Option.isSome_none, Option.isSome_some, Bool.false_eq_true, hle]
          refine ⟨_, rfl, h9, rfl, fun m m' v w hm hm' hv hw => ?_, fun m v hm hv => ?_⟩
          · rcases Nat.lt_or_ge m' k with h5 | h5
            · exact h2 m m' v w hm h5 hv hw
            · rw [show m' = k by omega, hx] at hw
              rw [← Option.some.inj hw]
              exact l64_le.mp (Int64.le_trans (h3 m v (by omega) hv) hle)
          · show v.toInt64 ≤ x.toInt64
            rcases Nat.lt_or_ge m k with h5 | h5
            · exact Int64.le_trans (h3 m v h5 hv) hle
            · rw [show m = k by omega, hx] at hv
              rw [Option.some.inj hv]; exact Int64.le_refl _
        · refine Or.inr ?_
          simp (disch := omega) only [n_l0, n_l1, n_l2, n_l3, n_l4, n_l5, n_l6, n_l7, n_l8, n_l9, n_l15, n_l16, n_l17, n_l20, n_l24, n_l31, n_l32, n_l33, n_l36, n_l48, n_l49, n_l97, n_l128, n_l129, n_l192, n_l225, n_l256, n_l353, n_l400, n_l512, n_l593, n_l621, n_l640, n_l857, n_l1093, n_l1095, n_l2048, n_l3225, n_l10000, n_l22955, n_l29988, n_l29989, n_l65536, n_l99999, n_l1000000000, n_l2147483647, nI_add, pk_mul, pk_sub, pk_div, nI_clamp, ckN, nI_leI, nI_ltI, nI_eq, nI_nm1, Nat.add_zero, nI_addneg, k_ush, true_or, or_true, false_or, or_false, true_and, and_true, false_and, and_false, not_true_eq_false, not_false_eq_true, if_true, if_false, if_pos, if_neg, Option.bind_some, hT k h9, hx, e_none, e_some, l64_ne, l64_inj, l64_lt, l64_le, vv_some, vv_none, ee_some, ee_none, lc_eq, lc_lt, lc_le, lc_gt, lc_ge, reduceCtorEq, Option.isSome_none, Option.isSome_some, Bool.false_eq_true, hle]
          exact ⟨_, rfl, Or.inr rfl⟩
    · obtain rfl : k = HL C := by omega
      refine Or.inr ?_
      simp (disch := omega) only [n_l0, n_l1, n_l2, n_l3, n_l4, n_l5, n_l6, n_l7, n_l8, n_l9, n_l15, n_l16, n_l17, n_l20, n_l24, n_l31, n_l32, n_l33, n_l36, n_l48, n_l49, n_l97, n_l128, n_l129, n_l192, n_l225, n_l256, n_l353, n_l400, n_l512, n_l593, n_l621, n_l640, n_l857, n_l1093, n_l1095, n_l2048, n_l3225, n_l10000, n_l22955, n_l29988, n_l29989, n_l65536, n_l99999, n_l1000000000, n_l2147483647, nI_add, pk_mul, pk_sub, pk_div, nI_clamp, ckN, nI_leI, nI_ltI, nI_eq, nI_nm1, Nat.add_zero, nI_addneg, k_ush, true_or, or_true, false_or, or_false, true_and, and_true, false_and, and_false, not_true_eq_false, not_false_eq_true, if_true, if_false, if_pos, if_neg, Option.bind_some]
      exact ⟨_, rfl, Or.inl ⟨_, rfl, h2⟩⟩)
  unfold pX5_isSorted
  rw [n_l0, e]
  intro h
  rcases hq with ⟨x, rfl, h2⟩ | rfl
  · exact h2
  · exact absurd (Option.some.inj (show (some (nI 0) : Option Int32) = some (nI 1) from h)) (by decide)
theorem k_nextFull (hl : HL C ≤ 128) (hT : KT tl C) {f : Nat} (hf : f ≤ HL C) : ∃ m, pX5_nextFull 128 (nI f) (nI (HL C)) tl = some (nI m) ∧ f ≤ m ∧ m ≤ HL C ∧ (∀ q, f ≤ q → q < m → TV C q = none) ∧ (m < HL C → ∃ v, TV C m = some v) := by
  obtain ⟨r, e, m, hm, h⟩ := lpE (body := pX5_nextFull_b2 128 (nI (HL C)) tl) (fun k s => s = nI (f + k) ∧ ∀ q, f ≤ q → q < f + k → TV C q = none) (fun r => ∃ m, r = nI m ∧ f ≤ m ∧ m ≤ HL C ∧ (∀ q, f ≤ q → q < m → TV C q = none) ∧ (m < HL C → ∃ v, TV C m = some v)) (HL C - f) (nI f) ⟨rfl, fun q h1 h2 => absurd h2 (by omega)⟩ (fun k s hk hI => by
    obtain ⟨h1, h2⟩ := hI
    subst h1
    unfold pX5_nextFull_b2
    rcases Nat.lt_or_ge k (HL C - f) with h9 | h9
    · cases hx : TV C (f + k) with
      | none =>
        refine Or.inl ?_
        simp (disch := omega) only [n_l0, n_l1, n_l2, n_l3, n_l4, n_l5, n_l6, n_l7, n_l8, n_l9, n_l15, n_l16, n_l17, n_l20, n_l24, n_l31, n_l32, n_l33, n_l36, n_l48, n_l49, n_l97, n_l128, n_l129, n_l192, n_l225, n_l256, n_l353, n_l400, n_l512, n_l593, n_l621, n_l640, n_l857, n_l1093, n_l1095, n_l2048, n_l3225, n_l10000, n_l22955, n_l29988, n_l29989, n_l65536, n_l99999, n_l1000000000, n_l2147483647, nI_add, pk_mul, pk_sub, pk_div, nI_clamp, ckN, nI_leI, nI_ltI, nI_eq, nI_nm1, Nat.add_zero, nI_addneg, k_ush, true_or, or_true, false_or, or_false, true_and, and_true, false_and, and_false, not_true_eq_false, not_false_eq_true, if_true, if_false, if_pos, if_neg, Option.bind_some, k_isFull (N := 128) (by omega) hl (show f + k < HL C by omega) hT, hx, e_none, e_some, l64_ne, l64_inj, l64_lt, l64_le, vv_some, vv_none, ee_some, ee_none, lc_eq, lc_lt, lc_le, lc_gt, lc_ge, reduceCtorEq, Option.isSome_none, Option.isSome_some, Bool.false_eq_true]
        refine ⟨_, rfl, h9, rfl, fun q h5 h6 => ?_⟩
        rcases Nat.lt_or_ge q (f + k) with h7 | h7
        · exact h2 q h5 h7
        · rw [show q = f + k by omega]; exact hx
      | some v =>
        refine Or.inr ?_
        simp (disch := omega) only [n_l0, n_l1, n_l2, n_l3, n_l4, n_l5, n_l6, n_l7, n_l8, n_l9, n_l15, n_l16, n_l17, n_l20, n_l24, n_l31, n_l32, n_l33, n_l36, n_l48, n_l49, n_l97, n_l128, n_l129, n_l192, n_l225, n_l256, n_l353, n_l400, n_l512, n_l593, n_l621, n_l640, n_l857, n_l1093, n_l1095, n_l2048, n_l3225, n_l10000, n_l22955, n_l29988, n_l29989, n_l65536, n_l99999, n_l1000000000, n_l2147483647, nI_add, pk_mul, pk_sub, pk_div, nI_clamp, ckN, nI_leI, nI_ltI, nI_eq, nI_nm1, Nat.add_zero, nI_addneg, k_ush, true_or, or_true, false_or, or_false, true_and, and_true, false_and, and_false, not_true_eq_false, not_false_eq_true, if_true, if_false, if_pos, if_neg, Option.bind_some, k_isFull (N := 128) (by omega) hl (show f + k < HL C by omega) hT, hx, e_none, e_some, l64_ne, l64_inj, l64_lt, l64_le, vv_some, vv_none, ee_some, ee_none, lc_eq, lc_lt, lc_le, lc_gt, lc_ge, reduceCtorEq, Option.isSome_none, Option.isSome_some, Bool.false_eq_true]
        exact ⟨_, rfl, f + k, rfl, by omega, by omega, h2, fun _ => ⟨v, hx⟩⟩
    · obtain rfl : k = HL C - f := by omega
      refine Or.inr ?_
      simp (disch := omega) only [n_l0, n_l1, n_l2, n_l3, n_l4, n_l5, n_l6, n_l7, n_l8, n_l9, n_l15, n_l16, n_l17, n_l20, n_l24, n_l31, n_l32, n_l33, n_l36, n_l48, n_l49, n_l97, n_l128, n_l129, n_l192, n_l225, n_l256, n_l353, n_l400, n_l512, n_l593, n_l621, n_l640, n_l857, n_l1093, n_l1095, n_l2048, n_l3225, n_l10000, n_l22955, n_l29988, n_l29989, n_l65536, n_l99999, n_l1000000000, n_l2147483647, nI_add, pk_mul, pk_sub, pk_div, nI_clamp, ckN, nI_leI, nI_ltI, nI_eq, nI_nm1, Nat.add_zero, nI_addneg, k_ush, true_or, or_true, false_or, or_false, true_and, and_true, false_and, and_false, not_true_eq_false, not_false_eq_true, if_true, if_false, if_pos, if_neg, Option.bind_some, show f + (HL C - f) = HL C by omega]
      exact ⟨_, rfl, HL C, rfl, by omega, by omega, fun q h5 h6 => h2 q h5 (by omega), fun h => absurd h (Nat.lt_irrefl _)⟩)
  refine ⟨m, ?_, h⟩
  unfold pX5_nextFull
  rw [e, hm]; rfl
variable {tl2 : Nat → Int64} {C2 : AC}
/-- two rows so far: what has come, what is left -/
def MS (C C2 : AC) (i j t : Nat) (g : Nat → Int32) : Prop :=
  i ≤ HL C ∧ j ≤ HL C2 ∧ t = TN (fun _ => true) (TV C) i + TN (fun _ => true) (TV C2) j ∧ SRT g t ∧ (∀ p, NC p g t = TN p (TV C) i + TN p (TV C2) j) ∧
  (∀ k m v, k < t → i ≤ m → m < HL C → TV C m = some v → g k ≤ v) ∧ (∀ k m v, k < t → j ≤ m → m < HL C2 → TV C2 m = some v → g k ≤ v) ∧ (i < HL C → ∃ v, TV C i = some v) ∧ (j < HL C2 → ∃ v, TV C2 j = some v)
theorem NC_ud {g : Nat → Int32} {t : Nat} {v : Int32} (p : Int32 → Bool) : NC p (ud g t v) (t + 1) = NC p g t + (if p v then 1 else 0) := by
  show NC p (ud g t v) t + (if p (ud g t v t) then 1 else 0) = _
  rw [ud_at, NC_congr p (fun i hi => (ud_ne (by omega) : ud g t v i = g i))]
theorem SRT_ud {g : Nat → Int32} {t : Nat} {v : Int32} (hs : SRT g t) (h : ∀ k, k < t → g k ≤ v) : SRT (ud g t v) (t + 1) := fun i j hij hj => by
  rcases Nat.lt_or_ge j t with h1 | h1
  · rw [ud_ne (by omega), ud_ne (by omega)]; exact hs i j hij h1
  · obtain rfl : j = t := by omega
    rw [ud_at, ud_ne (by omega)]; exact h i hij
theorem MS_one {i j t i' : Nat} {g : Nat → Int32} {v : Int32} (h : MS C C2 i j t g) (hs : SV2 (TV C) (HL C)) (hs2 : SV2 (TV C2) (HL C2)) (hi : i < HL C) (hv : TV C i = some v) (hle : ∀ w, j < HL C2 → TV C2 j = some w → v ≤ w) (h1 : i + 1 ≤ i') (h2 : i' ≤ HL C) (h3 : ∀ q, i + 1 ≤ q → q < i' → TV C q = none) (h4 : i' < HL C → ∃ v, TV C i' = some v) : MS C C2 i' j (t + 1) (ud g t v) := by
  obtain ⟨a1, a2, a3, a4, a5, a6, a7, a8, a9⟩ := h
  have hTN : ∀ p, TN p (TV C) i' = TN p (TV C) i + (if p v then 1 else 0) := fun p => by
    rw [TN_none i' h1 h3, TN_s, hv]
  have hv2 : ∀ m w, j ≤ m → m < HL C2 → TV C2 m = some w → v ≤ w := fun m w q1 q2 q3 => by
    obtain ⟨x, hx⟩ := a9 (by omega)
    have h5 := hle x (by omega) hx
    rcases Nat.lt_or_ge j m with h6 | h6
    · exact Int32.le_trans h5 (hs2 j m x w h6 q2 hx q3)
    · rw [show m = j by omega, hx] at q3
      rw [← Option.some.inj q3]; exact h5
  refine ⟨h2, a2, ?_, SRT_ud a4 (fun k hk => a6 k i v hk (Nat.le_refl _) hi hv), fun p => ?_, fun k m w hk hm hm2 hw => ?_, fun k m w hk hm hm2 hw => ?_, h4, a9⟩
  · rw [hTN, a3]; show _ + _ + 1 = _ + 1 + _; omega
  · rw [NC_ud, a5, hTN]; omega
  · rcases Nat.lt_or_ge k t with h5 | h5
    · rw [ud_ne (by omega)]; exact a6 k m w h5 (by omega) hm2 hw
    · rw [show k = t by omega, ud_at]; exact hs i m v w (by omega) hm2 hv hw
  · rcases Nat.lt_or_ge k t with h5 | h5
    · rw [ud_ne (by omega)]; exact a7 k m w h5 hm hm2 hw
    · rw [show k = t by omega, ud_at]; exact hv2 m w hm hm2 hw
theorem MS_sym {i j t : Nat} {g : Nat → Int32} (h : MS C C2 i j t g) : MS C2 C j i t g := by
  obtain ⟨a1, a2, a3, a4, a5, a6, a7, a8, a9⟩ := h
  exact ⟨a2, a1, by rw [a3]; omega, a4, fun p => by rw [a5]; omega, a7, a6, a9, a8⟩
theorem TN_top {i H : Nat} {tv : Nat → Option Int32} (p : Int32 → Bool) (h : i ≤ H) : TN p tv i ≤ TN p tv H := sm_mono h
theorem k_bySize (hl : HL C ≤ 128) (hT : KT tl C) (hs : SV2 (TV C) (HL C)) (hl2 : HL C2 ≤ 128) (hT2 : KT tl2 C2) (hs2 : SV2 (TV C2) (HL C2)) (hr : cnt (TV C) 0 (HL C) + cnt (TV C2) 0 (HL C2) ≤ 128) (t0 : Nat → Int64) :
    ∃ t2 g, pX5_appendBySize 128 128 128 (nI 0) t0 (nI (HL C)) tl (nI (HL C2)) tl2 = some (nI (cnt (TV C) 0 (HL C) + cnt (TV C2) 0 (HL C2)), t2) ∧ (∀ k, k < cnt (TV C) 0 (HL C) + cnt (TV C2) 0 (HL C2) → t2 k = enc (some (g k))) ∧ SRT g (cnt (TV C) 0 (HL C) + cnt (TV C2) 0 (HL C2)) ∧ ∀ p, NC p g (cnt (TV C) 0 (HL C) + cnt (TV C2) 0 (HL C2)) = TN p (TV C) (HL C) + TN p (TV C2) (HL C2) := by
  rw [← TN_true, ← TN_true] at *
  obtain ⟨i0, ei0, i1, i2, i3, i4⟩ := k_nextFull hl hT (f := 0) (Nat.zero_le _)
  obtain ⟨j0, ej0, j1, j2, j3, j4⟩ := k_nextFull hl2 hT2 (f := 0) (Nat.zero_le _)
  have hM0 : MS C C2 i0 j0 0 (fun _ => 0) := by
    refine ⟨i2, j2, ?_, fun i j _ h => absurd h (Nat.not_lt_zero j), fun p => ?_, fun k m v h => absurd h (Nat.not_lt_zero k), fun k m v h => absurd h (Nat.not_lt_zero k), i4, j4⟩
    · rw [TN_none i0 i1 i3, TN_none j0 j1 j3]; rfl
    · rw [TN_none i0 i1 i3, TN_none j0 j1 j3]; rfl
  obtain ⟨r, er, g, r1, r2, r3⟩ := lpE (body := pX5_appendBySize_b16 128 128 128 (nI (HL C)) tl (nI (HL C2)) tl2) (fun t s => ∃ i j g, MS C C2 i j t g ∧ s.1 = nI i ∧ s.2.1 = nI j ∧ s.2.2.1 = nI t ∧ s.2.2.2.1 = nI t ∧ ∀ k, k < t → s.2.2.2.2 k = enc (some (g k)))
    (fun r => ∃ g, r.2.2.2.1 = nI (TN (fun _ => true) (TV C) (HL C) + TN (fun _ => true) (TV C2) (HL C2)) ∧ MS C C2 (HL C) (HL C2) (TN (fun _ => true) (TV C) (HL C) + TN (fun _ => true) (TV C2) (HL C2)) g ∧ ∀ k, k < TN (fun _ => true) (TV C) (HL C) + TN (fun _ => true) (TV C2) (HL C2) → r.2.2.2.2 k = enc (some (g k))) (TN (fun _ => true) (TV C) (HL C) + TN (fun _ => true) (TV C2) (HL C2)) (nI i0, nI j0, nI 0, nI 0, t0) ⟨i0, j0, fun _ => 0, hM0, rfl, rfl, rfl, rfl, fun k hk => absurd hk (Nat.not_lt_zero k)⟩ (fun t s ht hI => by
    obtain ⟨s1, s2, s3, s4, s5⟩ := s
    obtain ⟨i, j, g, hM, h1, h2, h3, h4, h5⟩ := hI
    replace h1 : s1 = nI i := h1
    replace h2 : s2 = nI j := h2
    replace h3 : s3 = nI t := h3
    replace h4 : s4 = nI t := h4
    replace h5 : ∀ k, k < t → s5 k = enc (some (g k)) := h5
    subst h1 h2 h3 h4
    have hM' := hM
    obtain ⟨a1, a2, a3, a4, a5, a6, a7, a8, a9⟩ := hM
    have u1 := TN_top (tv := TV C) (fun _ => true) a1
    have u2 := TN_top (tv := TV C2) (fun _ => true) a2
    have one : ∀ v, i < HL C → TV C i = some v → (∀ w, j < HL C2 → TV C2 j = some w → v ≤ w) → ∃ s', pX5_appendBySize_b16j75 128 128 128 (nI i) (nI j) (nI t) (nI t) s5 (nI (HL C)) tl = some (Sum.inl s') ∧ t < TN (fun _ => true) (TV C) (HL C) + TN (fun _ => true) (TV C2) (HL C2) ∧ ∃ i j g, MS C C2 i j (t + 1) g ∧ s'.1 = nI i ∧ s'.2.1 = nI j ∧ s'.2.2.1 = nI (t + 1) ∧ s'.2.2.2.1 = nI (t + 1) ∧ ∀ k, k < t + 1 → s'.2.2.2.2 k = enc (some (g k)) := fun v hi hv hle => by
      obtain ⟨i', e', b1, b2, b3, b4⟩ := k_nextFull hl hT (f := i + 1) (by omega)
      have hM2 := MS_one hM' hs hs2 hi hv hle b1 b2 b3 b4
      have w1 := TN_top (tv := TV C) (fun _ => true) b2
      have w2 := hM2.2.2.1
      unfold pX5_appendBySize_b16j75 pX5_appendBySize_b16j119
      simp (disch := omega) only [n_l0, n_l1, n_l2, n_l3, n_l4, n_l5, n_l6, n_l7, n_l8, n_l9, n_l15, n_l16, n_l17, n_l20, n_l24, n_l31, n_l32, n_l33, n_l36, n_l48, n_l49, n_l97, n_l128, n_l129, n_l192, n_l225, n_l256, n_l353, n_l400, n_l512, n_l593, n_l621, n_l640, n_l857, n_l1093, n_l1095, n_l2048, n_l3225, n_l10000, n_l22955, n_l29988, n_l29989, n_l65536, n_l99999, n_l1000000000, n_l2147483647, nI_add, pk_mul, pk_sub, pk_div, nI_clamp, ckN, nI_leI, nI_ltI, nI_eq, nI_nm1, Nat.add_zero, nI_addneg, k_ush, true_or, or_true, false_or, or_false, true_and, and_true, false_and, and_false, not_true_eq_false, not_false_eq_true, if_true, if_false, if_pos, if_neg, Option.bind_some, k_append (N := 128) (H := t) (by omega) (by omega), hT i hi, hv, e']
      refine ⟨_, rfl, by omega, i', j, ud g t v, hM2, rfl, rfl, rfl, rfl, fun k hk => ?_⟩
      show vp_updL s5 t _ k = _
      by_cases hkt : k = t
      · subst hkt; rw [ul_at, ud_at]
      · rw [ul_ne hkt, ud_ne hkt]; exact h5 k (by omega)
    have two : ∀ v, j < HL C2 → TV C2 j = some v → (∀ w, i < HL C → TV C i = some w → v ≤ w) → ∃ s', pX5_appendBySize_b16j97 128 128 128 (nI i) (nI j) (nI t) (nI t) s5 (nI (HL C2)) tl2 = some (Sum.inl s') ∧ t < TN (fun _ => true) (TV C) (HL C) + TN (fun _ => true) (TV C2) (HL C2) ∧ ∃ i j g, MS C C2 i j (t + 1) g ∧ s'.1 = nI i ∧ s'.2.1 = nI j ∧ s'.2.2.1 = nI (t + 1) ∧ s'.2.2.2.1 = nI (t + 1) ∧ ∀ k, k < t + 1 → s'.2.2.2.2 k = enc (some (g k)) := fun v hj hv hle => by
      obtain ⟨j', e', b1, b2, b3, b4⟩ := k_nextFull hl2 hT2 (f := j + 1) (by omega)
      have hM2 := MS_sym (MS_one (MS_sym hM') hs2 hs hj hv hle b1 b2 b3 b4)
      have w1 := TN_top (tv := TV C2) (fun _ => true) b2
      have w2 := hM2.2.2.1
      unfold pX5_appendBySize_b16j97 pX5_appendBySize_b16j119
      simp (disch := omega) only [n_l0, n_l1, n_l2, n_l3, n_l4, n_l5, n_l6, n_l7, n_l8, n_l9, n_l15, n_l16, n_l17, n_l20, n_l24, n_l31, n_l32, n_l33, n_l36, n_l48, n_l49, n_l97, n_l128, n_l129, n_l192, n_l225, n_l256, n_l353, n_l400, n_l512, n_l593, n_l621, n_l640, n_l857, n_l1093, n_l1095, n_l2048, n_l3225, n_l10000, n_l22955, n_l29988, n_l29989, n_l65536, n_l99999, n_l1000000000, n_l2147483647, nI_add, pk_mul, pk_sub, pk_div, nI_clamp, ckN, nI_leI, nI_ltI, nI_eq, nI_nm1, Nat.add_zero, nI_addneg, k_ush, true_or, or_true, false_or, or_false, true_and, and_true, false_and, and_false, not_true_eq_false, not_false_eq_true, if_true, if_false, if_pos, if_neg, Option.bind_some, k_append (N := 128) (H := t) (by omega) (by omega), hT2 j hj, hv, e']
      refine ⟨_, rfl, by omega, i, j', ud g t v, hM2, rfl, rfl, rfl, rfl, fun k hk => ?_⟩
      show vp_updL s5 t _ k = _
      by_cases hkt : k = t
      · subst hkt; rw [ul_at, ud_at]
      · rw [ul_ne hkt, ud_ne hkt]; exact h5 k (by omega)
    unfold pX5_appendBySize_b16 pX5_appendBySize_b16j41
    have h256 : ¬ (256 : Int32) ≤ nI t := fun q => by have := (nI_leI (a := 256) (by omega) (by omega)).mp q; omega
    have hh1 := k_has (i := i) (H := HL C) (by omega) (by omega)
    have hh2 := k_has (i := j) (H := HL C2) (by omega) (by omega)
    by_cases hi : i < HL C
    · obtain ⟨v, hv⟩ := a8 hi
      refine Or.inl ?_
      rw [if_pos hi] at hh1
      by_cases hj : j < HL C2
      · obtain ⟨w, hw⟩ := a9 hj
        rw [if_pos hj] at hh2
        by_cases hvw : w < v
        · have hle : ∀ x, i < HL C → TV C i = some x → w ≤ x := fun x _ hx => by rw [hv] at hx; rw [← Option.some.inj hx]; exact Int32.le_of_lt hvw
          simp (disch := omega) only [n_l0, n_l1, n_l2, n_l3, n_l4, n_l5, n_l6, n_l7, n_l8, n_l9, n_l15, n_l16, n_l17, n_l20, n_l24, n_l31, n_l32, n_l33, n_l36, n_l48, n_l49, n_l97, n_l128, n_l129, n_l192, n_l225, n_l256, n_l353, n_l400, n_l512, n_l593, n_l621, n_l640, n_l857, n_l1093, n_l1095, n_l2048, n_l3225, n_l10000, n_l22955, n_l29988, n_l29989, n_l65536, n_l99999, n_l1000000000, n_l2147483647, nI_add, pk_mul, pk_sub, pk_div, nI_clamp, ckN, nI_leI, nI_ltI, nI_eq, nI_nm1, Nat.add_zero, nI_addneg, k_ush, true_or, or_true, false_or, or_false, true_and, and_true, false_and, and_false, not_true_eq_false, not_false_eq_true, if_true, if_false, if_pos, if_neg, Option.bind_some, h256, hh1, hh2, hT i hi, hT2 j hj, hv, hw, e_none, e_some, l64_ne, l64_inj, l64_lt, l64_le, vv_some, vv_none, ee_some, ee_none, lc_eq, lc_lt, lc_le, lc_gt, lc_ge, reduceCtorEq, Option.isSome_none, Option.isSome_some, Bool.false_eq_true, hvw]
          exact two w hj hw hle
        · have hle : ∀ x, j < HL C2 → TV C2 j = some x → v ≤ x := fun x _ hx => by rw [hw] at hx; rw [← Option.some.inj hx]; exact Int32.not_lt.mp hvw
          simp (disch := omega) only [n_l0, n_l1, n_l2, n_l3, n_l4, n_l5, n_l6, n_l7, n_l8, n_l9, n_l15, n_l16, n_l17, n_l20, n_l24, n_l31, n_l32, n_l33, n_l36, n_l48, n_l49, n_l97, n_l128, n_l129, n_l192, n_l225, n_l256, n_l353, n_l400, n_l512, n_l593, n_l621, n_l640, n_l857, n_l1093, n_l1095, n_l2048, n_l3225, n_l10000, n_l22955, n_l29988, n_l29989, n_l65536, n_l99999, n_l1000000000, n_l2147483647, nI_add, pk_mul, pk_sub, pk_div, nI_clamp, ckN, nI_leI, nI_ltI, nI_eq, nI_nm1, Nat.add_zero, nI_addneg, k_ush, true_or, or_true, false_or, or_false, true_and, and_true, false_and, and_false, not_true_eq_false, not_false_eq_true, if_true, if_false, if_pos, if_neg, Option.bind_some, h256, hh1, hh2, hT i hi, hT2 j hj, hv, hw, e_none, e_some, l64_ne, l64_inj, l64_lt, l64_le, vv_some, vv_none, ee_some, ee_none, lc_eq, lc_lt, lc_le, lc_gt, lc_ge, reduceCtorEq, Option.isSome_none, Option.isSome_some, Bool.false_eq_true, hvw]
          exact one v hi hv hle
      · rw [if_neg hj] at hh2
        simp (disch := omega) only [n_l0, n_l1, n_l2, n_l3, n_l4, n_l5, n_l6, n_l7, n_l8, n_l9, n_l15, n_l16, n_l17, n_l20, n_l24, n_l31, n_l32, n_l33, n_l36, n_l48, n_l49, n_l97, n_l128, n_l129, n_l192, n_l225, n_l256, n_l353, n_l400, n_l512, n_l593, n_l621, n_l640, n_l857, n_l1093, n_l1095, n_l2048, n_l3225, n_l10000, n_l22955, n_l29988, n_l29989, n_l65536, n_l99999, n_l1000000000, n_l2147483647, nI_add, pk_mul, pk_sub, pk_div, nI_clamp, ckN, nI_leI, nI_ltI, nI_eq, nI_nm1, Nat.add_zero, nI_addneg, k_ush, true_or, or_true, false_or, or_false, true_and, and_true, false_and, and_false, not_true_eq_false, not_false_eq_true, if_true, if_false, if_pos, if_neg, Option.bind_some, h256, hh1, hh2]
        exact one v hi hv (fun x q => absurd q hj)
    · rw [if_neg hi] at hh1
      by_cases hj : j < HL C2
      · obtain ⟨w, hw⟩ := a9 hj
        rw [if_pos hj] at hh2
        refine Or.inl ?_
        simp (disch := omega) only [n_l0, n_l1, n_l2, n_l3, n_l4, n_l5, n_l6, n_l7, n_l8, n_l9, n_l15, n_l16, n_l17, n_l20, n_l24, n_l31, n_l32, n_l33, n_l36, n_l48, n_l49, n_l97, n_l128, n_l129, n_l192, n_l225, n_l256, n_l353, n_l400, n_l512, n_l593, n_l621, n_l640, n_l857, n_l1093, n_l1095, n_l2048, n_l3225, n_l10000, n_l22955, n_l29988, n_l29989, n_l65536, n_l99999, n_l1000000000, n_l2147483647, nI_add, pk_mul, pk_sub, pk_div, nI_clamp, ckN, nI_leI, nI_ltI, nI_eq, nI_nm1, Nat.add_zero, nI_addneg, k_ush, true_or, or_true, false_or, or_false, true_and, and_true, false_and, and_false, not_true_eq_false, not_false_eq_true, if_true, if_false, if_pos, if_neg, Option.bind_some, h256, hh1, hh2]
        exact two w hj hw (fun x q => absurd q hi)
      · rw [if_neg hj] at hh2
        refine Or.inr ?_
        have e1 : i = HL C := by omega
        have e2 : j = HL C2 := by omega
        subst e1 e2
        rw [← a3]
        simp (disch := omega) only [n_l0, n_l1, n_l2, n_l3, n_l4, n_l5, n_l6, n_l7, n_l8, n_l9, n_l15, n_l16, n_l17, n_l20, n_l24, n_l31, n_l32, n_l33, n_l36, n_l48, n_l49, n_l97, n_l128, n_l129, n_l192, n_l225, n_l256, n_l353, n_l400, n_l512, n_l593, n_l621, n_l640, n_l857, n_l1093, n_l1095, n_l2048, n_l3225, n_l10000, n_l22955, n_l29988, n_l29989, n_l65536, n_l99999, n_l1000000000, n_l2147483647, nI_add, pk_mul, pk_sub, pk_div, nI_clamp, ckN, nI_leI, nI_ltI, nI_eq, nI_nm1, Nat.add_zero, nI_addneg, k_ush, true_or, or_true, false_or, or_false, true_and, and_true, false_and, and_false, not_true_eq_false, not_false_eq_true, if_true, if_false, if_pos, if_neg, Option.bind_some, h256, hh1, hh2]
        exact ⟨_, rfl, g, rfl, hM', h5⟩) (by omega)
  unfold pX5_appendBySize
  rw [n_l0, ei0, Option.bind_some, ej0, Option.bind_some, er, Option.bind_some, r1]
  exact ⟨_, g, rfl, r3, r2.2.2.2.1, r2.2.2.2.2.1⟩
/-- a column mirrored -/
theorem k_mirror {fc : Nat → Int32} {b0 h0 : Int32} {t0 : Nat → Int64} {f0 : Nat → Int32} (ho : OKC C) (hK : KC (nI (NB C)) (nI (HL C)) tl fc C) : ∃ t' f', pX0_mirror 128 128 b0 h0 t0 f0 (nI (NB C)) (nI (HL C)) tl fc = some (nI (NB C), nI (HL C), t', f') ∧ KC (nI (NB C)) (nI (HL C)) t' f' C := by
  have hn := ho.1
  have hl := ho.2.1
  obtain ⟨_, _, hT, hP, hF⟩ := hK
  unfold pX0_mirror pX5_mirror
  rw [show Int32.ofNat 128 = nI 128 from rfl, k_minN (by omega) (by omega), Option.bind_some, Nat.min_eq_left hl, n_l0, cpkN (by omega) (by omega) (by omega) (by omega), Option.bind_some, show (8 : Int32) = nI 8 from rfl, pk_mul, cpkN (by omega) (by omega) (by omega) (by omega), nI_clamp (by omega), nI_clamp (by omega), nI_clamp (by omega)]
  have hf : ∀ b w, b < NB C → w < 8 → va_cpy fc f0 0 0 (NB C * 8) (b * 8 + w) = fc (b * 8 + w) := fun b w hb hw => by
    show (if 0 ≤ b * 8 + w ∧ b * 8 + w < 0 + NB C * 8 then fc (0 + (b * 8 + w - 0)) else _) = _
    rw [if_pos (by omega)]; exact congrArg fc (by omega)
  refine ⟨_, _, rfl, rfl, rfl, fun k hk => ?_, fun b hb => ?_, fun b hb => ?_⟩
  · show (if 0 ≤ k ∧ k < 0 + HL C then tl (0 + (k - 0)) else _) = _
    rw [if_pos (by omega), Nat.sub_zero, Nat.zero_add]; exact hT k hk
  · have := hf b 0 hb (by omega)
    rw [Nat.add_zero (b * 8)] at this
    rw [this]; exact hP b hb
  · obtain ⟨g1, g2, g3, g4, g5, g6, g7⟩ := hF b hb
    unfold KF
    rw [hf b 1 hb (by omega), hf b 2 hb (by omega), hf b 3 hb (by omega), hf b 4 hb (by omega), hf b 5 hb (by omega), hf b 6 hb (by omega), hf b 7 hb (by omega)]
    exact ⟨g1, g2, g3, g4, g5, g6, g7⟩
end Mg
/-- a column without blocks, some row being there -/
def mtC (T : Nat → Option Int32) : AC := (0, fun _ => 0, T, fun _ => 0, fun _ => 0, fun _ => 0)
theorem mt_NB (T : Nat → Option Int32) : NB (mtC T) = 0 := rfl
theorem mt_HL (T : Nat → Option Int32) : HL (mtC T) = 0 := rfl
theorem mt_TV (T : Nat → Option Int32) : TV (mtC T) = T := rfl
theorem mt_OK (T : Nat → Option Int32) : OKC (mtC T) := ⟨by rw [mt_NB]; omega, by rw [mt_HL]; omega, fun b hb => absurd hb (Nat.not_lt_zero b)⟩
theorem r_clearC {c : Nat} {a : Nat → Int32} (hc : c < 3) : ∃ a', pX10_clearColumn (nI c) a = some a' ∧ a' (36 + 353 * c) = nI 0 ∧ FR c a a' := by
  obtain ⟨r, e, h1, h2⟩ := lpE (body := pX10_clearColumn_b2 (nI c)) (fun k s => s.1 = nI k ∧ (0 < k → s.2 (36 + 353 * c) = nI 0) ∧ FR c a s.2) (fun r => r.2 (36 + 353 * c) = nI 0 ∧ FR c a r.2) 353 (nI 0, a) ⟨rfl, fun h => absurd h (Nat.lt_irrefl 0), FR_rf c a⟩ (fun k s hk hI => by
    obtain ⟨s1, s2⟩ := s
    obtain ⟨h0, h1, h2⟩ := hI
    replace h0 : s1 = nI k := h0
    replace h1 : 0 < k → s2 (36 + 353 * c) = nI 0 := h1
    replace h2 : FR c a s2 := h2
    subst h0
    unfold pX10_clearColumn_b2 pX10_at
    rcases Nat.lt_or_ge k 353 with h9 | h9
    · refine Or.inl ?_
      simp (disch := omega) only [n_l0, n_l1, n_l2, n_l3, n_l4, n_l5, n_l6, n_l7, n_l8, n_l9, n_l15, n_l16, n_l17, n_l20, n_l24, n_l31, n_l32, n_l33, n_l36, n_l48, n_l49, n_l97, n_l128, n_l129, n_l192, n_l225, n_l256, n_l353, n_l400, n_l512, n_l593, n_l621, n_l640, n_l857, n_l1093, n_l1095, n_l2048, n_l3225, n_l10000, n_l22955, n_l29988, n_l29989, n_l65536, n_l99999, n_l1000000000, n_l2147483647, nI_add, pk_mul, pk_sub, pk_div, nI_clamp, ckN, nI_leI, nI_ltI, nI_eq, nI_nm1, Nat.add_zero, nI_addneg, k_ush, true_or, or_true, false_or, or_false, true_and, and_true, false_and, and_false, not_true_eq_false, not_false_eq_true, if_true, if_false, if_pos, if_neg, Option.bind_some]
      refine ⟨_, rfl, h9, rfl, fun _ => ?_, FR_tr h2 (FR_u (by unfold inC; omega) _ _)⟩
      show upd s2 (36 + 353 * c + k) (nI 0) (36 + 353 * c) = _
      by_cases hk0 : k = 0
      · subst hk0; exact u_at _ _ _
      · rw [u_ne (by omega)]; exact h1 (by omega)
    · obtain rfl : k = 353 := by omega
      refine Or.inr ?_
      simp (disch := omega) only [n_l0, n_l1, n_l2, n_l3, n_l4, n_l5, n_l6, n_l7, n_l8, n_l9, n_l15, n_l16, n_l17, n_l20, n_l24, n_l31, n_l32, n_l33, n_l36, n_l48, n_l49, n_l97, n_l128, n_l129, n_l192, n_l225, n_l256, n_l353, n_l400, n_l512, n_l593, n_l621, n_l640, n_l857, n_l1093, n_l1095, n_l2048, n_l3225, n_l10000, n_l22955, n_l29988, n_l29989, n_l65536, n_l99999, n_l1000000000, n_l2147483647, nI_add, pk_mul, pk_sub, pk_div, nI_clamp, ckN, nI_leI, nI_ltI, nI_eq, nI_nm1, Nat.add_zero, nI_addneg, k_ush, true_or, or_true, false_or, or_false, true_and, and_true, false_and, and_false, not_true_eq_false, not_false_eq_true, if_true, if_false, if_pos, if_neg, Option.bind_some]
      exact ⟨_, rfl, h1 (by omega), h2⟩)
  unfold pX10_clearColumn
  rw [n_l0, e]
  exact ⟨_, rfl, h1, h2⟩
section Q
variable {c c2 c3 : Nat} {a : Nat → Int32} {v1 v2 v3 bk hd bk2 hd2 bk3 hd3 : Int32} {tl tl2 tl3 : Nat → Int64} {fc fc2 fc3 : Nat → Int32} {C C2 C3 : AC} {xc : Nat → Option Nat}
/-- values come into an empty column, in the class: by the spare, mirrored -/
theorem k_fresh (m1 m2 m3 m4 m5 m6 m7 m8 m9 m10 m11 : Int32) (n1 n2 n3 : Nat → Int32) {n : Nat} {T : Nat → Option Int32} {t2 : Nat → Int64} {sf : Nat → Int32} (hn : n ≤ 128) (ht2 : ∀ k, k < n → t2 k = enc (T k)) (b0 h0 : Int32) (tt : Nat → Int64) (ff : Nat → Int32) :
    ∃ z t' f', pX0_seal 128 (nI 0) (nI n) t2 sf m1 m2 m3 m4 m5 m6 m7 m8 m9 m10 m11 n1 n2 n3 = some z ∧ pX0_mirror 128 128 b0 h0 tt ff z.2.1 (nI n) t2 z.2.2.1 = some (nI ((n + 15) / 16), nI n, t', f') ∧ KC (nI ((n + 15) / 16)) (nI n) t' f' (slN (mtC T) n ((n + 15) / 16)) ∧ OKC (slN (mtC T) n ((n + 15) / 16)) := by
  obtain ⟨z, ez, z1, z2, z3, z4⟩ := k_seal (C := mtC T) (tl := t2) (fc := sf) m1 m2 m3 m4 m5 m6 m7 m8 m9 m10 m11 n1 n2 n3 (L := n) (m := (n + 15) / 16) (by rw [mt_HL]; omega) hn (by rw [mt_HL, Nat.sub_zero]) (by rw [mt_NB]; omega) (by rw [mt_TV]; exact ht2) (fun b hb => absurd hb (Nat.not_lt_zero b)) (fun b hb => absurd hb (Nat.not_lt_zero b))
  rw [mt_NB] at ez z2 z4
  have i2 := sl_HL (C := mtC T) (L := n) (by rw [mt_HL]; omega) ((n + 15) / 16)
  have i3 := sl_NB (mtC T) n ((n + 15) / 16)
  rw [mt_HL] at i2
  rw [mt_NB, Nat.zero_add] at i3
  have i2' : HL (slN (mtC T) n ((n + 15) / 16)) = n := by omega
  rw [Nat.zero_add] at z2 z4
  have hOK : OKC (slN (mtC T) n ((n + 15) / 16)) := sl_OK (by rw [mt_HL]; omega) hn (mt_OK T) _ (by rw [mt_NB]; omega) (by rw [mt_HL]; omega)
  have hK : KC (nI (NB (slN (mtC T) n ((n + 15) / 16)))) (nI (HL (slN (mtC T) n ((n + 15) / 16)))) t2 z.2.2.1 (slN (mtC T) n ((n + 15) / 16)) := ⟨rfl, rfl, fun k hk => by rw [sl_TV, mt_TV]; exact ht2 k (by rw [i2'] at hk; exact hk), z3, fun j hj => z4 j (by rw [i3] at hj; exact hj)⟩
  obtain ⟨t', f', e', hK'⟩ := k_mirror (b0 := b0) (h0 := h0) (t0 := tt) (f0 := ff) hOK hK
  rw [i3, i2'] at e' hK'
  exact ⟨z, t', f', ez, by rw [z2]; exact e', hK', hOK⟩
theorem q_merge (xv xw xp xs xf xu xt xb : Int32) (vs : Nat → Int32) (ps : Nat → Int64) (m1 m2 m3 m4 m5 m6 m7 m8 m9 m10 m11 : Int32) (n1 n2 n3 : Nat → Int32) {f0 h0 : Nat} {mg gp : Nat → Int32} {sb sh : Int32} {st : Nat → Int64} {sf : Nat → Int32} (hg : ∀ i, i < 256 → gp i = 0) (ha0 : a 0 = nI h0) (ha1 : a 1 = nI f0) (hh : h0 ≤ 20) (hf0 : f0 < 20) (h : COL a v1 bk hd tl fc C) (h2 : COL a v2 bk2 hd2 tl2 fc2 C2) (h3 : COL a v3 bk3 hd3 tl3 fc3 C3) :
    ∃ z w, pX10_merge v1 v2 v3 xv xw xp xs xf xu xt xb a vs ps mg gp = some z ∧ pX9_merge 16 128 128 128 128 v1 v2 v3 xc m1 m2 m3 m4 m5 m6 m7 m8 m9 m10 m11 n1 n2 n3 sb sh st sf bk hd tl fc bk2 hd2 tl2 fc2 bk3 hd3 tl3 fc3 = some w ∧ w.1 = z.1 ∧ (∀ i, i < 256 → z.2.2.2.2.2.2.2.2.2.2.2.2.2 i = 0) ∧ MU a v3 w.2.1 z.2.2.2.2.2.2.2.2.2.1 w.2.2.2.2.2.2.2.2.2.2.2.2.2.2.2.2.2.2.2.2.1 w.2.2.2.2.2.2.2.2.2.2.2.2.2.2.2.2.2.2.2.2.2.1 w.2.2.2.2.2.2.2.2.2.2.2.2.2.2.2.2.2.2.2.2.2.2.1 w.2.2.2.2.2.2.2.2.2.2.2.2.2.2.2.2.2.2.2.2.2.2.2 := by
  have h3' := h3
  obtain ⟨⟨rfl, rfl, hT, hP, hF⟩, ho, hr⟩ := h
  obtain ⟨⟨rfl, rfl, hT2, hP2, hF2⟩, ho2, hr2⟩ := h2
  obtain ⟨⟨rfl, rfl, hT3, hP3, hF3⟩, ho3, hr3⟩ := h3
  have hn := ho.1
  have hl := ho.2.1
  have hn2 := ho2.1
  have hl2 := ho2.2.1
  unfold pX10_merge pX9_merge
  have srtO : ∀ v : Int32, (v < 0 ∨ nI 3 ≤ v) → pX10_sorted v a = some (nI 0) := fun v hv => by
    unfold pX10_sorted
    simp (disch := omega) only [n_l0, n_l1, n_l2, n_l3, n_l4, n_l5, n_l6, n_l7, n_l8, n_l9, n_l15, n_l16, n_l17, n_l20, n_l24, n_l31, n_l32, n_l33, n_l36, n_l48, n_l49, n_l97, n_l128, n_l129, n_l192, n_l225, n_l256, n_l353, n_l400, n_l512, n_l593, n_l621, n_l640, n_l857, n_l1093, n_l1095, n_l2048, n_l3225, n_l10000, n_l22955, n_l29988, n_l29989, n_l65536, n_l99999, n_l1000000000, n_l2147483647, nI_add, pk_mul, pk_sub, pk_div, nI_clamp, ckN, nI_leI, nI_ltI, nI_eq, nI_nm1, Nat.add_zero, nI_addneg, k_ush, true_or, or_true, false_or, or_false, true_and, and_true, false_and, and_false, not_true_eq_false, not_false_eq_true, if_true, if_false, if_pos, if_neg, Option.bind_some, r_isColO hv]
  rcases col_cases v1 with ⟨c, hc, rfl⟩ | hv
  · have hR := hr c hc rfl
    obtain ⟨s1, es1, ks1, hs1⟩ := s_sorted hc hR hn hl hT
    rcases col_cases v2 with ⟨c2, hc2, rfl⟩ | hv2
    · have hR2 := hr2 c2 hc2 rfl
      obtain ⟨s2, es2, ks2, hs2⟩ := s_sorted hc2 hR2 hn2 hl2 hT2
      rcases col_cases v3 with ⟨c3, hc3, rfl⟩ | hv3
      · have hR3 := hr3 c3 hc3 rfl
        rw [k_col hc, Option.bind_some, if_pos rfl, k_col hc2, Option.bind_some, if_pos rfl, k_col hc3, Option.bind_some, if_pos rfl, es1, ks1, Option.bind_some, Option.bind_some]
        rcases hs1 with rfl | rfl
        · rw [if_pos (show nI 0 = 0 from rfl), if_pos (show nI 0 = 0 from rfl)]
          exact ⟨_, _, rfl, rfl, rfl, hg, MU_no h3'⟩
        rw [if_neg (show ¬ nI 1 = 0 by decide), if_neg (show ¬ nI 1 = 0 by decide), es2, ks2, Option.bind_some, Option.bind_some]
        rcases hs2 with rfl | rfl
        · rw [if_pos (show nI 0 = 0 from rfl), if_pos (show nI 0 = 0 from rfl)]
          exact ⟨_, _, rfl, rfl, rfl, hg, MU_no h3'⟩
        have hS1 := k_sortedP hl hT ks1
        have hS2 := k_sortedP hl2 hT2 ks2
        have hvo := r_valuesOf hc hR ho
        have hvo2 := r_valuesOf hc2 hR2 ho2
        have hka := k_allValues ho hF
        have hka2 := k_allValues ho2 hF2
        rw [← cm_sum ho _ (Nat.le_refl _), eHL] at hvo hka
        rw [← cm_sum ho2 _ (Nat.le_refl _), eHL] at hvo2 hka2
        have hcl := cnt_le (TV C) 0 (HL C)
        have hcl2 := cnt_le (TV C2) 0 (HL C2)
        rw [if_neg (show ¬ nI 1 = 0 by decide), if_neg (show ¬ nI 1 = 0 by decide), r_isCol hc3, Option.bind_some, if_neg (show ¬ nI 1 = 0 by decide), hvo, Option.bind_some, hvo2, Option.bind_some, show (1 : Int32) = nI 1 from rfl, hka, Option.bind_some, hka2, Option.bind_some, nI_add]
        by_cases h128 : cnt (TV C) 0 (HL C) + cnt (TV C2) 0 (HL C2) ≤ 128
        · obtain ⟨a1, ek, hK⟩ := r_keep ha0 ha1 hh hf0
          have hR1 := RC_now hc ho hK.2.2.1 hR
          have hR21 := RC_now hc2 ho2 hK.2.2.1 hR2
          obtain ⟨g1, e1, m1', m2', _⟩ := r_mergedBy hc hR1 ho (n0 := 0) (by omega) (g0 := mg) (fun i j _ hj => absurd hj (Nat.not_lt_zero j))
          rw [Nat.zero_add] at e1 m1' m2'
          obtain ⟨g2, e2, w1', w2', _⟩ := r_mergedBy hc2 hR21 ho2 (n0 := cnt (TV C) 0 (HL C)) (by omega) m1'
          obtain ⟨t2, g, et, ht2, hsg, hng⟩ := k_bySize hl hT hS1 hl2 hT2 hS2 h128 st
          have heq : ∀ k, k < cnt (TV C) 0 (HL C) + cnt (TV C2) 0 (HL C2) → g k = g2 k := srt_eq hsg w1' (fun p => by
            rw [hng, w2', m2']
            have : NC p mg 0 = 0 := rfl
            rw [this]; omega)
          generalize hN : cnt (TV C) 0 (HL C) + cnt (TV C2) 0 (HL C2) = N at *
          obtain ⟨a2, ec, c1', c2'⟩ := r_clearC (a := a1) hc3
          have hR0 : RCa a2 c3 (mtC (fun k => some (g k))) := RC_BV.mpr ⟨⟨c1', fun b hb => absurd hb (Nat.not_lt_zero b)⟩, fun k hk => absurd hk (Nat.not_lt_zero k)⟩
          obtain ⟨z, ez, z1, z2, z3⟩ := r_comeAll (C := mtC (fun k => some (g k))) xv xw xp xs xf xu xt xb vs ps hc3 (n := N) (m := (N + 15) / 16) (mg := g2) (gp := gp) hR0 (mt_OK _) (by rw [mt_HL]; omega) rfl (by rw [mt_NB]; omega) (fun i hi => by
            rw [mt_HL, mt_TV, Nat.zero_add]
            exact ⟨hg i (by omega), fun v hv => by rw [← Option.some.inj hv]; exact (heq i hi).symm⟩) (fun i _ hi => hg i hi)
          rw [mt_HL, Nat.zero_add] at z1
          obtain ⟨w, t', f', ew, em, hKC, hOK⟩ := k_fresh (T := fun k => some (g k)) (t2 := t2) (sf := sf) m1 m2 m3 m4 m5 m6 m7 m8 m9 m10 m11 n1 n2 n3 h128 ht2 (nI (NB C3)) (nI (HL C3)) tl3 fc3
          unfold pX0_empty
          rw [if_pos (show nI N ≤ 128 from nI_le (b := 128) h128 (by omega)), if_pos (show nI N ≤ 128 from nI_le (b := 128) h128 (by omega)), ek, Option.bind_some, n_l0, e1, Option.bind_some, e2, Option.bind_some, ec, Option.bind_some, ez, Option.bind_some, Option.bind_some, et, Option.bind_some, ew, Option.bind_some, em, Option.bind_some]
          exact ⟨_, _, rfl, rfl, rfl, z3, MU_yes hc3 ek (FR_tr c2' z2) hKC hOK z1⟩
        · rw [if_neg (show ¬ nI (cnt (TV C) 0 (HL C) + cnt (TV C2) 0 (HL C2)) ≤ 128 from fun q => h128 ((nI_leI (b := 128) (by omega) (by omega)).mp q)), if_neg (show ¬ nI (cnt (TV C) 0 (HL C) + cnt (TV C2) 0 (HL C2)) ≤ 128 from fun q => h128 ((nI_leI (b := 128) (by omega) (by omega)).mp q))]
          exact ⟨_, _, rfl, rfl, rfl, hg, MU_no h3'⟩
      · rw [k_col hc, Option.bind_some, if_pos rfl, k_col hc2, Option.bind_some, if_pos rfl, k_colO hv3, Option.bind_some, if_neg (by decide), es1, es2, r_isColO hv3]
        rcases hs1 with rfl | rfl <;> rcases hs2 with rfl | rfl <;> exact ⟨_, _, rfl, rfl, rfl, hg, MU_no h3'⟩
    · rw [k_col hc, Option.bind_some, if_pos rfl, k_colO hv2, Option.bind_some, if_neg (by decide), es1, srtO v2 hv2]
      rcases col_cases v3 with ⟨c3, hc3, rfl⟩ | hv3
      · rw [k_col hc3]
        rcases hs1 with rfl | rfl <;> exact ⟨_, _, rfl, rfl, rfl, hg, MU_no h3'⟩
      · rw [k_colO hv3]
        rcases hs1 with rfl | rfl <;> exact ⟨_, _, rfl, rfl, rfl, hg, MU_no h3'⟩
  · rw [k_colO hv, Option.bind_some, if_neg (by decide), srtO v1 hv]
    rcases col_cases v2 with ⟨c2, hc2, rfl⟩ | hv2
    · rcases col_cases v3 with ⟨c3, hc3, rfl⟩ | hv3
      · rw [k_col hc2, k_col hc3]; exact ⟨_, _, rfl, rfl, rfl, hg, MU_no h3'⟩
      · rw [k_col hc2, k_colO hv3]; exact ⟨_, _, rfl, rfl, rfl, hg, MU_no h3'⟩
    · rcases col_cases v3 with ⟨c3, hc3, rfl⟩ | hv3
      · rw [k_colO hv2, k_col hc3]; exact ⟨_, _, rfl, rfl, rfl, hg, MU_no h3'⟩
      · rw [k_colO hv2, k_colO hv3]; exact ⟨_, _, rfl, rfl, rfl, hg, MU_no h3'⟩
end Q
