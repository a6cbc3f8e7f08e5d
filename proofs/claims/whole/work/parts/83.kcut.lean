/-! ===== cut anew: the class ===== -/
def eK : Option Nat → Int32
  | none => nI 1000000000
  | some v => nI v
section KCut
variable {T : Nat → Option Int32} {H : Nat} {tl : Nat → Int64}
theorem k_addOne {f j : Nat} (hj : j < 16) (g : Nat → Int32) (hg : ∀ i, i < cnt T f j → g i = val T f j i) : ∃ g', pX3_add (enc (T (f + j))) (nI j) (nI (cnt T f j)) g = some (nI (j + 1), nI (cnt T f (j + 1)), g') ∧ ∀ i, i < cnt T f (j + 1) → g' i = val T f (j + 1) i := by
  have hle := cnt_le T f j
  unfold pX3_add
  have e1 : ¬ lg_cmp (enc (T (f + j))) (-4294967296) = 0 := fun q => enc_no _ ((lg_cmp_eq _ _).mp q)
  rw [if_neg e1]
  cases hv : T (f + j) with
  | none =>
    obtain ⟨c1, c2⟩ := cnt_none hv
    rw [c1, c2, if_pos (show lg_cmp (enc none) 4294967296 = 0 from (lg_cmp_eq _ _).mpr rfl)]
    simp (disch := omega) only [n_l0, n_l1, n_l2, n_l3, n_l4, n_l5, n_l6, n_l7, n_l8, n_l9, n_l15, n_l16, n_l17, n_l20, n_l24, n_l31, n_l32, n_l33, n_l36, n_l48, n_l49, n_l97, n_l128, n_l129, n_l192, n_l225, n_l256, n_l353, n_l400, n_l512, n_l593, n_l621, n_l640, n_l857, n_l1093, n_l1095, n_l2048, n_l3225, n_l10000, n_l22955, n_l29988, n_l29989, n_l65536, n_l99999, n_l1000000000, n_l2147483647, nI_add, pk_mul, pk_sub, pk_div, nI_clamp, ckN, nI_leI, nI_ltI, nI_eq, nI_nm1, Nat.add_zero, nI_addneg, k_ush, true_or, or_true, false_or, or_false, true_and, and_true, false_and, and_false, not_true_eq_false, not_false_eq_true, if_true, if_false, if_pos, if_neg, Option.bind_some]
    exact ⟨_, rfl, hg⟩
  | some v =>
    obtain ⟨c1, c2⟩ := cnt_some hv
    rw [c1, c2, if_neg (show ¬ lg_cmp (enc (some v)) 4294967296 = 0 from fun q => by have := (enc_eq _).mp ((lg_cmp_eq _ _).mp q); cases this)]
    simp (disch := omega) only [n_l0, n_l1, n_l2, n_l3, n_l4, n_l5, n_l6, n_l7, n_l8, n_l9, n_l15, n_l16, n_l17, n_l20, n_l24, n_l31, n_l32, n_l33, n_l36, n_l48, n_l49, n_l97, n_l128, n_l129, n_l192, n_l225, n_l256, n_l353, n_l400, n_l512, n_l593, n_l621, n_l640, n_l857, n_l1093, n_l1095, n_l2048, n_l3225, n_l10000, n_l22955, n_l29988, n_l29989, n_l65536, n_l99999, n_l1000000000, n_l2147483647, nI_add, pk_mul, pk_sub, pk_div, nI_clamp, ckN, nI_leI, nI_ltI, nI_eq, nI_nm1, Nat.add_zero, nI_addneg, k_ush, true_or, or_true, false_or, or_false, true_and, and_true, false_and, and_false, not_true_eq_false, not_false_eq_true, if_true, if_false, if_pos, if_neg, Option.bind_some]
    refine ⟨_, rfl, fun i hi => ?_⟩
    unfold upd
    split
    · exact l64_i v
    · exact hg i (by omega)
theorem k_costRow (m1 m2 m3 m4 m5 m6 m7 m8 m9 m10 m11 : Int32) (n1 n2 n3 : Nat → Int32) (hH : H ≤ 128) (hT : ∀ k, k < H → tl k = enc (T k)) {f : Nat} (hf : f < H) (cs : Nat → Int32) : ∃ r, lp (pX1_measureAll_b30 128 (nI f) (nI (min 16 (H - f))) (nI H) tl) FU (nI 1, cs, nI 0, nI 0, m3, m4, m5, m6, m7, m8, m9, m10, m11, n1, n2, n3) = some r ∧ (∀ n, 1 ≤ n → n ≤ min 16 (H - f) → r.2.1 (16 * f + n - 1) = nI (cst T f n)) ∧ ∀ i, ¬ (16 * f ≤ i ∧ i < 16 * f + 16) → r.2.1 i = cs i := by
  refine lpE (body := pX1_measureAll_b30 128 (nI f) (nI (min 16 (H - f))) (nI H) tl) (fun j s => s.1 = nI (j + 1) ∧ (∀ n, 1 ≤ n → n ≤ j → s.2.1 (16 * f + n - 1) = nI (cst T f n)) ∧ (∀ i, ¬ (16 * f ≤ i ∧ i < 16 * f + 16) → s.2.1 i = cs i) ∧ s.2.2.1 = nI j ∧ s.2.2.2.1 = nI (cnt T f j) ∧ ∀ i, i < cnt T f j → s.2.2.2.2.2.2.2.2.2.2.2.2.2.1 i = val T f j i) _ (min 16 (H - f)) (nI 1, cs, nI 0, nI 0, m3, m4, m5, m6, m7, m8, m9, m10, m11, n1, n2, n3) ⟨rfl, fun n h1 h2 => absurd h2 (by omega), fun _ _ => rfl, rfl, rfl, fun i hi => absurd hi (Nat.not_lt_zero i)⟩ (fun j s hj hI => ?_)
  obtain ⟨s1, s2, s3, s4, t3, t4, t5, t6, t7, t8, t9, t10, t11, s14, s15, s16⟩ := s
  obtain ⟨g1, g2, g3, g4, g5, g6⟩ := hI
  replace g1 : s1 = nI (j + 1) := g1
  replace g2 : ∀ n, 1 ≤ n → n ≤ j → s2 (16 * f + n - 1) = nI (cst T f n) := g2
  replace g3 : ∀ i, ¬ (16 * f ≤ i ∧ i < 16 * f + 16) → s2 i = cs i := g3
  replace g4 : s3 = nI j := g4
  replace g5 : s4 = nI (cnt T f j) := g5
  replace g6 : ∀ i, i < cnt T f j → s14 i = val T f j i := g6
  subst g1 g4 g5
  unfold pX1_measureAll_b30
  rcases Nat.lt_or_ge j (min 16 (H - f)) with h9 | h9
  · refine Or.inl ?_
    obtain ⟨g', eg, hg⟩ := k_addOne (T := T) (f := f) (show j < 16 by omega) s14 g6
    have hcl := cnt_le T f (j + 1)
    obtain ⟨y, ey, hy⟩ := k_choose (n := j + 1) (m := cnt T f (j + 1)) (by omega) (by omega) t3 t4 t5 t6 t7 t8 t9 t10 t11 g' s15 s16
    rw [bst_congr hg] at hy
    have y4 : y.2.2.2.2.2.2.1 = nI (cst T f (j + 1)) := hy.2.2.2.1
    have hta := k_tellAt (N := 128) (by omega) hH (show f + j < 2 ^ 31 by omega) hT
    rw [if_pos (show f + j < H by omega)] at hta
    rw [if_neg (show ¬ nI (min 16 (H - f)) < nI (j + 1) by rw [nI_ltI (by omega) (by omega)]; omega), show nI f + nI (j + 1) - 1 = nI (f + j) from by rw [nI_add, show (1 : Int32) = nI 1 from rfl, pk_sub (by omega)]; exact congrArg nI (by omega), hta, Option.bind_some, eg, Option.bind_some]
    dsimp only
    rw [ey, Option.bind_some, show nI f * 16 + nI (j + 1) - 1 = nI (16 * f + j) from by rw [show (16 : Int32) = nI 16 from rfl, pk_mul, nI_add, show (1 : Int32) = nI 1 from rfl, pk_sub (by omega)]; exact congrArg nI (by omega), ckN (by omega) (by omega), nI_clamp (by omega), y4]
    refine ⟨_, rfl, h9, by show nI (j + 1) + nI 1 = _; rw [nI_add], fun n h1 h2 => ?_, fun i hi => ?_, rfl, rfl, hg⟩
    · show upd s2 (16 * f + j) _ (16 * f + n - 1) = _
      by_cases hn : n = j + 1
      · subst hn; rw [show 16 * f + (j + 1) - 1 = 16 * f + j by omega, u_at]
      · rw [u_ne (by omega)]; exact g2 n h1 (by omega)
    · show upd s2 (16 * f + j) _ i = _
      rw [u_ne (by omega)]; exact g3 i hi
  · obtain rfl : j = min 16 (H - f) := by omega
    refine Or.inr ?_
    rw [if_pos (nI_lt (show min 16 (H - f) < min 16 (H - f) + 1 by omega) (by omega))]
    exact ⟨_, rfl, g2, g3⟩
theorem k_measureAll (m1 m2 m3 m4 m5 m6 m7 m8 m9 m10 m11 : Int32) (n1 n2 n3 : Nat → Int32) (hH : H ≤ 128) (hT : ∀ k, k < H → tl k = enc (T k)) (cs : Nat → Int32) : ∃ z, pX1_measureAll 128 cs (nI H) tl m1 m2 m3 m4 m5 m6 m7 m8 m9 m10 m11 n1 n2 n3 = some z ∧ ∀ k n, 1 ≤ n → n ≤ 16 → k + n ≤ H → z.1 (16 * k + n - 1) = nI (cst T k n) := by
  obtain ⟨r, e, h1⟩ := lpE (body := pX1_measureAll_b2 128 (nI H) tl) (fun j s => s.1 = nI j ∧ ∀ k n, k < j → 1 ≤ n → n ≤ 16 → k + n ≤ H → s.2.1 (16 * k + n - 1) = nI (cst T k n)) (fun r => ∀ k n, 1 ≤ n → n ≤ 16 → k + n ≤ H → r.2.1 (16 * k + n - 1) = nI (cst T k n)) H (nI 0, cs, m1, m2, m3, m4, m5, m6, m7, m8, m9, m10, m11, n1, n2, n3) ⟨rfl, fun k n h => absurd h (Nat.not_lt_zero k)⟩ (fun j s hj hI => by
    obtain ⟨s1, s2, t1, t2, t3, t4, t5, t6, t7, t8, t9, t10, t11, t12, t13, t14⟩ := s
    obtain ⟨g1, g2⟩ := hI
    replace g1 : s1 = nI j := g1
    replace g2 : ∀ k n, k < j → 1 ≤ n → n ≤ 16 → k + n ≤ H → s2 (16 * k + n - 1) = nI (cst T k n) := g2
    subst g1
    unfold pX1_measureAll_b2 pX3_begin
    rcases Nat.lt_or_ge j H with h9 | h9
    · refine Or.inl ?_
      obtain ⟨y, ey, y1, y2⟩ := k_costRow (T := T) t1 t2 t3 t4 t5 t6 t7 t8 t9 t10 t11 t12 t13 t14 hH hT h9 s2
      rw [if_neg (show ¬ nI H ≤ nI j by rw [nI_leI (by omega) (by omega)]; omega), Option.bind_some, pk_sub (by omega), show (16 : Int32) = nI 16 from rfl, k_minN (by omega) (by omega), Option.bind_some, show (1 : Int32) = nI 1 from rfl, show (0 : Int32) = nI 0 from rfl, ey, Option.bind_some, nI_add]
      refine ⟨_, rfl, h9, rfl, fun k n q1 q2 q3 q4 => ?_⟩
      by_cases hkj : k = j
      · subst hkj; exact y1 n q2 (by omega)
      · show y.2.1 (16 * k + n - 1) = _
        rw [y2 _ (by omega)]; exact g2 k n (by omega) q2 q3 q4
    · obtain rfl : j = H := by omega
      refine Or.inr ?_
      rw [if_pos (Int32.le_refl _)]
      exact ⟨_, rfl, fun k n q1 q2 q3 => g2 k n (by omega) q1 q2 q3⟩)
  unfold pX1_measureAll
  rw [n_l0, e]
  exact ⟨_, rfl, h1⟩
variable {cs : Nat → Int32}
theorem k_bitsOfC (hH : H ≤ 128) (hcs : ∀ k n, 1 ≤ n → n ≤ 16 → k + n ≤ H → cs (16 * k + n - 1) = nI (cst T k n)) {m k n : Nat} (hm : m + 1 ≤ 24) (h1 : 1 ≤ n) (h2 : n ≤ 16) (h3 : k + n ≤ H) {re : Nat → Int32} (hf : ∀ k', k' ≤ H → re (129 * m + k') = eK (fw T H m k')) : pX1_bitsOf (nI (m + 1)) (nI k) (nI n) cs re = some (eK (fwn T H m k n)) := by
  have hfe := hf (k + n) h3
  rw [← Nat.add_assoc] at hfe
  have hc1 := hcs k n h1 h2 h3
  have hcl := cst_le T (f := k) h2
  have hi1 : (nI (m + 1) - 1) * 129 + nI k + nI n = nI (129 * m + k + n) := by
    rw [show (1 : Int32) = nI 1 from rfl, pk_sub (by omega), Nat.add_sub_cancel, show (129 : Int32) = nI 129 from rfl, pk_mul, nI_add, nI_add, Nat.mul_comm]
  have hi2 : nI k * 16 + nI n - 1 = nI (16 * k + n - 1) := by
    rw [show (16 : Int32) = nI 16 from rfl, pk_mul, nI_add, show (1 : Int32) = nI 1 from rfl, pk_sub (by omega), Nat.mul_comm]
  unfold pX1_bitsOf
  rw [hi1, hi2, ckN (by omega) (by omega), nI_clamp (by omega), hfe]
  cases hx : fw T H m (k + n) with
  | none =>
    rw [if_pos (show eK none = 1000000000 from rfl)]
    unfold fwn; rw [hx]; rfl
  | some v =>
    have hv := fw_lt (show m ≤ 24 by omega) hx
    rw [if_neg (show ¬ eK (some v) = 1000000000 from fun q => by have := (nI_eq (a := v) (b := 1000000000) (by omega) (by omega)).mp q; omega), ckN (by omega) (by omega), nI_clamp (by omega), hc1]
    unfold fwn; rw [hx]
    show some (nI v + nI (cst T k n)) = some (nI (v + cst T k n))
    rw [nI_add]
theorem omn_eK {x y : Option Nat} (hx : ∀ v, x = some v → v < 2 ^ 20) (hy : ∀ v, y = some v → v < 2 ^ 20) : pJ9_min_7cf53 (eK x) (eK y) = some (eK (omn x y)) := by
  cases x with
  | none =>
    cases y with
    | none => exact k_minN (a := 1000000000) (b := 1000000000) (by omega) (by omega)
    | some b =>
      have := hy b rfl
      rw [show eK none = nI 1000000000 from rfl, show eK (some b) = nI b from rfl, k_minN (by omega) (by omega), Nat.min_eq_right (by omega)]; rfl
  | some a =>
    have ha := hx a rfl
    cases y with
    | none => rw [show eK none = nI 1000000000 from rfl, show eK (some a) = nI a from rfl, k_minN (by omega) (by omega), Nat.min_eq_left (by omega)]; rfl
    | some b =>
      have hb := hy b rfl
      rw [show eK (some a) = nI a from rfl, show eK (some b) = nI b from rfl, k_minN (by omega) (by omega)]
      show some (nI (min a b)) = some (nI (if a ≤ b then a else b))
      by_cases h : a ≤ b
      · rw [if_pos h, Nat.min_eq_left h]
      · rw [if_neg h, Nat.min_eq_right (by omega)]
theorem fwn_lt {m k n v : Nat} (hm : m + 1 ≤ 24) (hn : n ≤ 16) (h : fwn T H m k n = some v) : v < 2 ^ 20 := by
  obtain ⟨w, h4, h5⟩ := fwn_some h
  have := fw_range _ _ _ h4
  have := cst_le T (f := k) hn
  omega
theorem k_fewestFrom (hH : H ≤ 128) (hcs : ∀ k n, 1 ≤ n → n ≤ 16 → k + n ≤ H → cs (16 * k + n - 1) = nI (cst T k n)) {m k : Nat} (hm : m + 1 ≤ 24) (hk : k ≤ H) {re : Nat → Int32} (hf : ∀ k', k' ≤ H → re (129 * m + k') = eK (fw T H m k')) : pX1_fewestFrom (nI (m + 1)) (nI k) (nI H) cs re = some (eK (fw T H (m + 1) k)) := by
  have e := lpF (body := pX1_fewestFrom_b17 (nI (m + 1)) (nI k) (nI (min 16 (H - k))) cs re) (r := (eK (fw T H (m + 1) k), nI (min 16 (H - k) + 1))) (fun j => (eK (mnO (fwn T H m k) j), nI (j + 1))) (min 16 (H - k)) (nI 1000000000, nI 1) rfl (fun j hj => by
    unfold pX1_fewestFrom_b17
    have hb := k_bitsOfC hH hcs hm (show 1 ≤ j + 1 by omega) (show j + 1 ≤ 16 by omega) (show k + (j + 1) ≤ H by omega) hf
    rw [if_neg (show ¬ nI (min 16 (H - k)) < nI (j + 1) by rw [nI_ltI (by omega) (by omega)]; omega), hb, Option.bind_some, omn_eK (fun v hv => mn_lt hm (by omega) hv) (fun v hv => fwn_lt hm (by omega) hv), Option.bind_some, show (1 : Int32) = nI 1 from rfl, nI_add]
    rfl) (by
    unfold pX1_fewestFrom_b17
    rw [if_pos (nI_lt (show min 16 (H - k) < min 16 (H - k) + 1 by omega) (by omega)), fw_s])
  unfold pX1_fewestFrom
  rw [pk_sub hk, show (16 : Int32) = nI 16 from rfl, k_minN (by omega) (by omega), Option.bind_some]
  show (lp (pX1_fewestFrom_b17 (nI (m + 1)) (nI k) (nI (min 16 (H - k))) cs re) FU (nI 1000000000, nI 1)).bind _ = _
  rw [e]; rfl
theorem k_max0 {a b : Nat} (ha : a < 2 ^ 30) (hb : b < 2 ^ 30) : pJ9_max_7cf53 (nI 0) (nI a - nI b) = some (nI (a - b)) := by
  rcases Nat.lt_or_ge a b with h | h
  · unfold pJ9_max_7cf53
    have hlt : nI a - nI b < nI 0 := by
      rw [Int32.lt_iff_toInt_lt, pk_sub_toInt ha hb, nI_toInt (by omega)]
      omega
    rw [Nat.sub_eq_zero_of_le (by omega)]
    first
      | rw [if_pos (Int32.le_of_lt hlt)]
      | rw [if_neg (Int32.not_lt.mpr (Int32.le_of_lt hlt))]
      | rw [if_neg (Int32.not_le.mpr hlt)]
  · rw [pk_sub h, k_maxN (by omega) (by omega), Nat.max_eq_right (Nat.zero_le _)]
theorem k_restRow (hH : H ≤ 128) (hcs : ∀ k n, 1 ≤ n → n ≤ 16 → k + n ≤ H → cs (16 * k + n - 1) = nI (cst T k n)) {m : Nat} (hm : m + 1 ≤ 24) {re : Nat → Int32} (hf : ∀ m' k', m' < m + 1 → k' ≤ H → re (129 * m' + k') = eK (fw T H m' k')) (hz : ∀ i, 129 * (m + 1) ≤ i → i < 3225 → re i = nI 1000000000) : ∃ r, lp (pX1_plan_b73 128 128 (nI (m + 1)) cs (nI H)) FU (nI (H - 16 * (m + 1)), re) = some r ∧ (∀ m' k', m' < m + 2 → k' ≤ H → r.2 (129 * m' + k') = eK (fw T H m' k')) ∧ ∀ i, 129 * (m + 2) ≤ i → i < 3225 → r.2 i = nI 1000000000 := by
  obtain ⟨r, e, h1, h2⟩ := lpE (body := pX1_plan_b73 128 128 (nI (m + 1)) cs (nI H)) (fun j s => s.1 = nI (H - 16 * (m + 1) + j) ∧ (∀ m' k', m' < m + 1 → k' ≤ H → s.2 (129 * m' + k') = eK (fw T H m' k')) ∧ (∀ k', k' ≤ H → s.2 (129 * (m + 1) + k') = if H - 16 * (m + 1) ≤ k' ∧ k' < H - 16 * (m + 1) + j then eK (fw T H (m + 1) k') else nI 1000000000) ∧ ∀ i, 129 * (m + 2) ≤ i → i < 3225 → s.2 i = nI 1000000000)
    (fun r => (∀ m' k', m' < m + 2 → k' ≤ H → r.2 (129 * m' + k') = eK (fw T H m' k')) ∧ ∀ i, 129 * (m + 2) ≤ i → i < 3225 → r.2 i = nI 1000000000) (H + 1 - (m + 1) - (H - 16 * (m + 1))) (nI (H - 16 * (m + 1)), re) ⟨rfl, hf, fun k' hk' => by rw [if_neg (by omega)]; exact hz _ (by omega) (by omega), fun i q1 q2 => hz i (by omega) q2⟩ (fun j s hj hI => by
    obtain ⟨s1, s2⟩ := s
    obtain ⟨g1, g2, g3, g4⟩ := hI
    replace g1 : s1 = nI (H - 16 * (m + 1) + j) := g1
    replace g2 : ∀ m' k', m' < m + 1 → k' ≤ H → s2 (129 * m' + k') = eK (fw T H m' k') := g2
    replace g3 : ∀ k', k' ≤ H → s2 (129 * (m + 1) + k') = if H - 16 * (m + 1) ≤ k' ∧ k' < H - 16 * (m + 1) + j then eK (fw T H (m + 1) k') else nI 1000000000 := g3
    replace g4 : ∀ i, 129 * (m + 2) ≤ i → i < 3225 → s2 i = nI 1000000000 := g4
    subst g1
    unfold pX1_plan_b73
    rcases Nat.lt_or_ge j (H + 1 - (m + 1) - (H - 16 * (m + 1))) with h9 | h9
    · refine Or.inl ?_
      have hff := k_fewestFrom hH hcs hm (show H - 16 * (m + 1) + j ≤ H by omega) (fun k' hk' => g2 m k' (by omega) hk')
      rw [pk_sub (show m + 1 ≤ H by omega), if_neg (show ¬ nI (H - (m + 1)) < nI (H - 16 * (m + 1) + j) by rw [nI_ltI (by omega) (by omega)]; omega), hff, Option.bind_some, show nI (m + 1) * 129 + nI (H - 16 * (m + 1) + j) = nI (129 * (m + 1) + (H - 16 * (m + 1) + j)) from by rw [show (129 : Int32) = nI 129 from rfl, pk_mul, nI_add, Nat.mul_comm], ckN (by omega) (by omega), nI_clamp (by omega), show (1 : Int32) = nI 1 from rfl, nI_add]
      refine ⟨_, rfl, h9, rfl, fun m' k' q1 q2 => ?_, fun k' q1 => ?_, fun i q1 q2 => ?_⟩
      · show upd s2 _ _ (129 * m' + k') = _
        rw [u_ne (by omega)]; exact g2 m' k' q1 q2
      · show upd s2 (129 * (m + 1) + (H - 16 * (m + 1) + j)) _ (129 * (m + 1) + k') = _
        by_cases hk : k' = H - 16 * (m + 1) + j
        · subst hk; rw [u_at, if_pos (by omega)]
        · rw [u_ne (by omega), g3 k' q1]
          by_cases hin : H - 16 * (m + 1) ≤ k' ∧ k' < H - 16 * (m + 1) + j
          · rw [if_pos hin, if_pos (by omega)]
          · rw [if_neg hin, if_neg (by omega)]
      · show upd s2 _ _ i = _
        rw [u_ne (by omega)]; exact g4 i q1 q2
    · obtain rfl : j = H + 1 - (m + 1) - (H - 16 * (m + 1)) := by omega
      refine Or.inr ?_
      have hout : nI H - nI (m + 1) < nI (H - 16 * (m + 1) + (H + 1 - (m + 1) - (H - 16 * (m + 1)))) := by
        rw [Int32.lt_iff_toInt_lt, pk_sub_toInt (by omega) (by omega), nI_toInt (by omega)]
        omega
      rw [if_pos hout]
      refine ⟨_, rfl, fun m' k' q1 q2 => ?_, g4⟩
      rcases Nat.lt_or_ge m' (m + 1) with h5 | h5
      · exact g2 m' k' h5 q2
      · rw [show m' = m + 1 by omega]
        show s2 (129 * (m + 1) + k') = _
        rw [g3 k' q2]
        by_cases hin : H - 16 * (m + 1) ≤ k' ∧ k' < H - 16 * (m + 1) + (H + 1 - (m + 1) - (H - 16 * (m + 1)))
        · rw [if_pos hin]
        · rw [if_neg hin]
          cases hx : fw T H (m + 1) k' with
          | none => rfl
          | some v =>
            have := fw_range _ _ _ hx
            exfalso; omega)
  exact ⟨r, e, h1, h2⟩
theorem k_restAll (hH : H ≤ 128) (hcs : ∀ k n, 1 ≤ n → n ≤ 16 → k + n ≤ H → cs (16 * k + n - 1) = nI (cst T k n)) {re : Nat → Int32} (hre : ∀ i, i < 3225 → re i = nI 1000000000) : ∃ r, lp (pX1_plan_b48 128 128 cs (nI H)) FU (nI 1, upd re H (nI 0)) = some r ∧ ∀ m k, m ≤ 24 → k ≤ H → r.2 (129 * m + k) = eK (fw T H m k) := by
  refine lpE (body := pX1_plan_b48 128 128 cs (nI H)) (fun j s => s.1 = nI (j + 1) ∧ (∀ m k, m < j + 1 → k ≤ H → s.2 (129 * m + k) = eK (fw T H m k)) ∧ ∀ i, 129 * (j + 1) ≤ i → i < 3225 → s.2 i = nI 1000000000) _ 24 (nI 1, upd re H (nI 0)) ⟨rfl, fun m k h1 h2 => ?_, fun i h1 h2 => ?_⟩ (fun j s hj hI => ?_)
  · obtain rfl : m = 0 := by omega
    show upd re H (nI 0) (129 * 0 + k) = _
    rw [Nat.mul_zero, Nat.zero_add]
    unfold fw
    by_cases hk : k = H
    · subst hk; rw [u_at, if_pos rfl]; rfl
    · rw [u_ne hk, if_neg hk, hre k (by omega)]; rfl
  · show upd re H (nI 0) i = _
    rw [u_ne (by omega)]; exact hre i h2
  · obtain ⟨s1, s2⟩ := s
    obtain ⟨g1, g2, g3⟩ := hI
    replace g1 : s1 = nI (j + 1) := g1
    replace g2 : ∀ m k, m < j + 1 → k ≤ H → s2 (129 * m + k) = eK (fw T H m k) := g2
    replace g3 : ∀ i, 129 * (j + 1) ≤ i → i < 3225 → s2 i = nI 1000000000 := g3
    subst g1
    unfold pX1_plan_b48
    rcases Nat.lt_or_ge j 24 with h9 | h9
    · refine Or.inl ?_
      obtain ⟨y, ey, y1, y2⟩ := k_restRow hH hcs (show j + 1 ≤ 24 by omega) g2 g3
      rw [if_neg (show ¬ (24 : Int32) < nI (j + 1) from fun q => by have := (nI_ltI (a := 24) (by omega) (by omega)).mp q; omega), show (16 : Int32) = nI 16 from rfl, pk_mul, show (0 : Int32) = nI 0 from rfl, k_max0 (by omega) (by omega), Option.bind_some, Nat.mul_comm (j + 1) 16, ey, Option.bind_some]
      exact ⟨_, rfl, h9, by show nI (j + 1) + nI 1 = _; rw [nI_add], y1, y2⟩
    · obtain rfl : j = 24 := by omega
      refine Or.inr ?_
      rw [if_pos (show (24 : Int32) < nI (24 + 1) by decide)]
      exact ⟨_, rfl, fun m k q1 q2 => g2 m k (by omega) q2⟩
theorem k_chooseB {re : Nat → Int32} (hf : ∀ m k, m ≤ 24 → k ≤ H → re (129 * m + k) = eK (fw T H m k)) (b0 f0 : Int32) : ∃ z, pX1_chooseBlocks b0 f0 re = some z ∧ (match bC T H 24 with | none => True | some x => z.1 = nI x.1 ∧ z.2 = nI x.2) := by
  obtain ⟨r, e, hr⟩ := lpE (body := pX1_chooseBlocks_b13 re) (fun j s => s.1 = nI (j + 1) ∧ (match bC T H j with | none => s.2.2 = nI 1000000000 | some x => s.2.1 = nI x.1 ∧ s.2.2 = nI x.2)) (fun r => match bC T H 24 with | none => r.2.2 = nI 1000000000 | some x => r.2.1 = nI x.1 ∧ r.2.2 = nI x.2) 24 (nI 1, nI 0, nI 1000000000) ⟨rfl, rfl⟩ (fun j s hj hI => by
    obtain ⟨s1, s2, s3⟩ := s
    obtain ⟨g1, g2⟩ := hI
    replace g1 : s1 = nI (j + 1) := g1
    subst g1
    unfold pX1_chooseBlocks_b13 pX1_chooseBlocks_b13j55
    rcases Nat.lt_or_ge j 24 with h9 | h9
    · refine Or.inl ?_
      have hfe := hf (j + 1) 0 (by omega) (Nat.zero_le _)
      rw [Nat.add_zero, Nat.mul_comm] at hfe
      rw [bC_s]
      cases hx : fw T H (j + 1) 0 with
      | none =>
        rw [hx] at hfe
        replace hfe : re ((j + 1) * 129) = nI 1000000000 := hfe
        cases hy : bC T H j with
        | none =>
          rw [hy] at g2
          replace g2 : s3 = nI 1000000000 := g2
          subst g2
          simp (disch := omega) only [n_l0, n_l1, n_l2, n_l3, n_l4, n_l5, n_l6, n_l7, n_l8, n_l9, n_l15, n_l16, n_l17, n_l20, n_l24, n_l31, n_l32, n_l33, n_l36, n_l48, n_l49, n_l97, n_l128, n_l129, n_l192, n_l225, n_l256, n_l353, n_l400, n_l512, n_l593, n_l621, n_l640, n_l857, n_l1093, n_l1095, n_l2048, n_l3225, n_l10000, n_l22955, n_l29988, n_l29989, n_l65536, n_l99999, n_l1000000000, n_l2147483647, nI_add, pk_mul, pk_sub, pk_div, nI_clamp, ckN, nI_leI, nI_ltI, nI_eq, nI_nm1, Nat.add_zero, nI_addneg, k_ush, true_or, or_true, false_or, or_false, true_and, and_true, false_and, and_false, not_true_eq_false, not_false_eq_true, if_true, if_false, if_pos, if_neg, Option.bind_some, hfe, Nat.le_refl]
          exact ⟨_, rfl, h9, rfl, rfl⟩
        | some x =>
          rw [hy] at g2
          obtain ⟨q1, q2⟩ := g2
          replace q1 : s2 = nI x.1 := q1
          replace q2 : s3 = nI x.2 := q2
          subst q1 q2
          obtain ⟨b1, b2, b3⟩ := bC_ok j x hy
          have hx2 := fw_lt (show x.1 ≤ 24 by omega) b3
          simp (disch := omega) only [n_l0, n_l1, n_l2, n_l3, n_l4, n_l5, n_l6, n_l7, n_l8, n_l9, n_l15, n_l16, n_l17, n_l20, n_l24, n_l31, n_l32, n_l33, n_l36, n_l48, n_l49, n_l97, n_l128, n_l129, n_l192, n_l225, n_l256, n_l353, n_l400, n_l512, n_l593, n_l621, n_l640, n_l857, n_l1093, n_l1095, n_l2048, n_l3225, n_l10000, n_l22955, n_l29988, n_l29989, n_l65536, n_l99999, n_l1000000000, n_l2147483647, nI_add, pk_mul, pk_sub, pk_div, nI_clamp, ckN, nI_leI, nI_ltI, nI_eq, nI_nm1, Nat.add_zero, nI_addneg, k_ush, true_or, or_true, false_or, or_false, true_and, and_true, false_and, and_false, not_true_eq_false, not_false_eq_true, if_true, if_false, if_pos, if_neg, Option.bind_some, hfe]
          exact ⟨_, rfl, h9, rfl, rfl, rfl⟩
      | some v =>
        have hv := fw_lt (show j + 1 ≤ 24 by omega) hx
        rw [hx] at hfe
        replace hfe : re ((j + 1) * 129) = nI v := hfe
        cases hy : bC T H j with
        | none =>
          rw [hy] at g2
          replace g2 : s3 = nI 1000000000 := g2
          subst g2
          simp (disch := omega) only [n_l0, n_l1, n_l2, n_l3, n_l4, n_l5, n_l6, n_l7, n_l8, n_l9, n_l15, n_l16, n_l17, n_l20, n_l24, n_l31, n_l32, n_l33, n_l36, n_l48, n_l49, n_l97, n_l128, n_l129, n_l192, n_l225, n_l256, n_l353, n_l400, n_l512, n_l593, n_l621, n_l640, n_l857, n_l1093, n_l1095, n_l2048, n_l3225, n_l10000, n_l22955, n_l29988, n_l29989, n_l65536, n_l99999, n_l1000000000, n_l2147483647, nI_add, pk_mul, pk_sub, pk_div, nI_clamp, ckN, nI_leI, nI_ltI, nI_eq, nI_nm1, Nat.add_zero, nI_addneg, k_ush, true_or, or_true, false_or, or_false, true_and, and_true, false_and, and_false, not_true_eq_false, not_false_eq_true, if_true, if_false, if_pos, if_neg, Option.bind_some, hfe]
          exact ⟨_, rfl, h9, rfl, rfl, rfl⟩
        | some x =>
          rw [hy] at g2
          obtain ⟨q1, q2⟩ := g2
          replace q1 : s2 = nI x.1 := q1
          replace q2 : s3 = nI x.2 := q2
          subst q1 q2
          obtain ⟨b1, b2, b3⟩ := bC_ok j x hy
          have hx2 := fw_lt (show x.1 ≤ 24 by omega) b3
          by_cases hlt : v < x.2
          · simp (disch := omega) only [n_l0, n_l1, n_l2, n_l3, n_l4, n_l5, n_l6, n_l7, n_l8, n_l9, n_l15, n_l16, n_l17, n_l20, n_l24, n_l31, n_l32, n_l33, n_l36, n_l48, n_l49, n_l97, n_l128, n_l129, n_l192, n_l225, n_l256, n_l353, n_l400, n_l512, n_l593, n_l621, n_l640, n_l857, n_l1093, n_l1095, n_l2048, n_l3225, n_l10000, n_l22955, n_l29988, n_l29989, n_l65536, n_l99999, n_l1000000000, n_l2147483647, nI_add, pk_mul, pk_sub, pk_div, nI_clamp, ckN, nI_leI, nI_ltI, nI_eq, nI_nm1, Nat.add_zero, nI_addneg, k_ush, true_or, or_true, false_or, or_false, true_and, and_true, false_and, and_false, not_true_eq_false, not_false_eq_true, if_true, if_false, if_pos, if_neg, Option.bind_some, hfe, hlt]
            exact ⟨_, rfl, h9, rfl, rfl, rfl⟩
          · simp (disch := omega) only [n_l0, n_l1, n_l2, n_l3, n_l4, n_l5, n_l6, n_l7, n_l8, n_l9, n_l15, n_l16, n_l17, n_l20, n_l24, n_l31, n_l32, n_l33, n_l36, n_l48, n_l49, n_l97, n_l128, n_l129, n_l192, n_l225, n_l256, n_l353, n_l400, n_l512, n_l593, n_l621, n_l640, n_l857, n_l1093, n_l1095, n_l2048, n_l3225, n_l10000, n_l22955, n_l29988, n_l29989, n_l65536, n_l99999, n_l1000000000, n_l2147483647, nI_add, pk_mul, pk_sub, pk_div, nI_clamp, ckN, nI_leI, nI_ltI, nI_eq, nI_nm1, Nat.add_zero, nI_addneg, k_ush, true_or, or_true, false_or, or_false, true_and, and_true, false_and, and_false, not_true_eq_false, not_false_eq_true, if_true, if_false, if_pos, if_neg, Option.bind_some, hfe, hlt]
            exact ⟨_, rfl, h9, rfl, rfl, rfl⟩
    · obtain rfl : j = 24 := by omega
      refine Or.inr ?_
      rw [if_pos (show (24 : Int32) < nI (24 + 1) by decide)]
      exact ⟨_, rfl, g2⟩)
  unfold pX1_chooseBlocks
  show ∃ z, (lp (pX1_chooseBlocks_b13 re) FU (nI 1, nI 0, nI 1000000000)).bind _ = some z ∧ _
  rw [e]
  refine ⟨_, rfl, ?_⟩
  cases hb : bC T H 24 with
  | none => trivial
  | some x => rw [hb] at hr; exact hr
theorem k_lst (hH : H ≤ 128) (hcs : ∀ k n, 1 ≤ n → n ≤ 16 → k + n ≤ H → cs (16 * k + n - 1) = nI (cst T k n)) {re : Nat → Int32} (hf : ∀ m k, m ≤ 24 → k ≤ H → re (129 * m + k) = eK (fw T H m k)) {left k w : Nat} (hl : left + 1 ≤ 24) (hw : fw T H (left + 1) k = some w) : lp (pX1_follow_b33 (nI k) (nI (left + 1)) (nI (min 16 (H - k))) cs re) FU (nI 1) = some (nI (lst T H (left + 1) k)) := by
  obtain ⟨o1, o2, o3, o4⟩ := lst_ok (by omega) hw
  rw [Nat.add_sub_cancel] at o3 o4
  have hr := fw_range _ _ _ hw
  have hwl := fw_lt hl hw
  have hfk : re (129 * (left + 1) + k) = nI w := by rw [hf (left + 1) k hl (by omega), hw]; rfl
  have hix : nI (left + 1) * 129 + nI k = nI (129 * (left + 1) + k) := by rw [show (129 : Int32) = nI 129 from rfl, pk_mul, nI_add, Nat.mul_comm]
  obtain ⟨n, hn⟩ : ∃ n, lst T H (left + 1) k = n + 1 := ⟨lst T H (left + 1) k - 1, by omega⟩
  rw [hn] at o2 o3 o4 ⊢
  refine lpF (fun j => nI (j + 1)) n _ rfl (fun j hj => ?_) ?_
  · unfold pX1_follow_b33
    have hb := k_bitsOfC hH hcs hl (show 1 ≤ j + 1 by omega) (show j + 1 ≤ 16 by omega) (show k + (j + 1) ≤ H by omega) (fun k' hk' => hf left k' (by omega) hk')
    have hne : ¬ eK (fwn T H left k (j + 1)) = nI w := fun q => by
      cases hx : fwn T H left k (j + 1) with
      | none =>
        rw [hx] at q
        have := (nI_eq (a := 1000000000) (b := w) (by omega) (by omega)).mp q
        omega
      | some v =>
        have hv := fwn_lt hl (show j + 1 ≤ 16 by omega) hx
        rw [hx] at q
        have e := (nI_eq (a := v) (b := w) (by omega) (by omega)).mp q
        exact o4 (j + 1) (by omega) (by omega) (by rw [hx, e])
    rw [if_neg (show ¬ nI (min 16 (H - k)) ≤ nI (j + 1) by rw [nI_leI (by omega) (by omega)]; omega), hb, Option.bind_some, hix, ckN (by omega) (by omega), nI_clamp (by omega), hfk, if_neg hne, show (1 : Int32) = nI 1 from rfl, nI_add]
  · unfold pX1_follow_b33
    by_cases hmost : min 16 (H - k) ≤ n + 1
    · rw [if_pos (nI_le hmost (by omega))]
    · have hb := k_bitsOfC hH hcs hl (show 1 ≤ n + 1 by omega) (show n + 1 ≤ 16 by omega) (show k + (n + 1) ≤ H by omega) (fun k' hk' => hf left k' (by omega) hk')
      rw [if_neg (show ¬ nI (min 16 (H - k)) ≤ nI (n + 1) by rw [nI_leI (by omega) (by omega)]; exact hmost), hb, Option.bind_some, hix, ckN (by omega) (by omega), nI_clamp (by omega), hfk, o3, if_pos (show eK (some w) = nI w from rfl)]
theorem k_follow (hH : H ≤ 128) (hcs : ∀ k n, 1 ≤ n → n ≤ 16 → k + n ≤ H → cs (16 * k + n - 1) = nI (cst T k n)) {re : Nat → Int32} (hf : ∀ m k, m ≤ 24 → k ≤ H → re (129 * m + k) = eK (fw T H m k)) {m w : Nat} (hm : m ≤ 24) (hw : fw T H m 0 = some w) (ct0 : Nat → Int32) : ∃ s, pX1_follow (nI H) (nI m) ct0 cs re = some s ∧ ∀ i, i < m → s i = nI (sz T H m i) := by
  obtain ⟨r, e, hr⟩ := lpE (body := pX1_follow_b4 (nI H) (nI m) cs re) (fun j s => s.1 = nI (kS T H m j) ∧ s.2.1 = nI j ∧ ∀ i, i < j → s.2.2 i = nI (sz T H m i)) (fun r => ∀ i, i < m → r.2.2 i = nI (sz T H m i)) m (nI 0, nI 0, ct0) ⟨rfl, rfl, fun i hi => absurd hi (Nat.not_lt_zero i)⟩ (fun j s hj hI => by
    obtain ⟨s1, s2, s3⟩ := s
    obtain ⟨g1, g2, g3⟩ := hI
    replace g1 : s1 = nI (kS T H m j) := g1
    replace g2 : s2 = nI j := g2
    replace g3 : ∀ i, i < j → s3 i = nI (sz T H m i) := g3
    subst g1 g2
    unfold pX1_follow_b4
    rcases Nat.lt_or_ge j m with h9 | h9
    · refine Or.inl ?_
      obtain ⟨v, hv⟩ := kS_ok hw j (by omega)
      have hrg := fw_range _ _ _ hv
      obtain ⟨l, hl⟩ : ∃ l, m - j = l + 1 := ⟨m - j - 1, by omega⟩
      have hsz : sz T H m j = lst T H (m - j) (kS T H m j) := rfl
      rw [hl] at hv hsz
      have el := k_lst hH hcs hf (show l + 1 ≤ 24 by omega) hv
      rw [if_neg (show ¬ nI m ≤ nI j by rw [nI_leI (by omega) (by omega)]; omega), pk_sub (show kS T H m j ≤ H by omega), show (16 : Int32) = nI 16 from rfl, k_minN (by omega) (by omega), Option.bind_some, pk_sub (show j ≤ m by omega), hl, show (1 : Int32) = nI 1 from rfl, el, Option.bind_some, ckN (by omega) (by omega), nI_clamp (by omega), nI_add, nI_add]
      refine ⟨_, rfl, h9, ?_, rfl, fun i hi => ?_⟩
      · rw [kS_s, hsz]
      · show upd s3 j _ i = _
        by_cases hij : i = j
        · subst hij; rw [u_at, hsz]
        · rw [u_ne hij]; exact g3 i (by omega)
    · obtain rfl : j = m := by omega
      refine Or.inr ?_
      rw [if_pos (Int32.le_refl _)]
      exact ⟨_, rfl, g3⟩)
  unfold pX1_follow
  rw [n_l0, e]
  exact ⟨_, rfl, hr⟩
end KCut
/-- what the cutter keeps is the plan of the places that it keeps -/
def PLN (cb_ cf : Int32) (cz : Nat → Int32) (ph : Int32) (pt : Nat → Int64) : Prop := ∃ H : Nat, ph = nI H ∧ H ≤ 128 ∧ (∃ T : Nat → Option Int32, ∀ k, k < H → pt k = enc (T k)) ∧ ∀ T : Nat → Option Int32, (∀ k, k < H → pt k = enc (T k)) → H = 0 ∨ PF T H cb_ cf cz
theorem enc_inj {x y : Option Int32} (h : enc x = enc y) : x = y := by
  cases x with
  | none => exact ((enc_eq y).mp h.symm).symm
  | some v =>
    cases y with
    | none => exact (enc_eq (some v)).mp h
    | some w => exact congrArg some (l64_inj.mp h)
theorem fu_all {f g : Nat → Int64} : ∀ n, fu f g n = none → ∀ k, k < n → f k = g k := by
  intro n
  induction n with
  | zero => intro _ k hk; exact absurd hk (Nat.not_lt_zero k)
  | succ m ih =>
    intro h k hk
    rw [fu_s] at h
    cases hm : fu f g m with
    | some j => rw [hm] at h; cases h
    | none =>
      rw [hm] at h
      replace h : (if f m = g m then none else some m) = none := h
      rcases Nat.lt_or_ge k m with h1 | h1
      · exact ih hm k h1
      · rw [show k = m by omega]
        by_cases heq : f m = g m
        · exact heq
        · rw [if_neg heq] at h; cases h
/-- a row alone, as a picture -/
def rwC (T : Nat → Option Int32) (H : Nat) : AC := (1, fun _ => H, T, fun _ => 0, fun _ => 0, fun _ => 0)
theorem rw_HL (T : Nat → Option Int32) (H : Nat) : HL (rwC T H) = H := Nat.zero_add H
section Plan
variable {C : AC} {tl : Nat → Int64}
theorem k_plan (m1 m2 m3 m4 m5 m6 m7 m8 m9 m10 m11 : Int32) (n1 n2 n3 : Nat → Int32) {cb_ cf ph : Int32} {cz cs re : Nat → Int32} {pt : Nat → Int64} (ho : OKC C) (hT : KT tl C) (h1 : 1 ≤ HL C) (hP : PLN cb_ cf cz ph pt) :
    ∃ z, pX1_plan 128 128 cb_ cf cz ph pt cs re (nI (HL C)) tl m1 m2 m3 m4 m5 m6 m7 m8 m9 m10 m11 n1 n2 n3 = some z ∧ PF (TV C) (HL C) z.1 z.2.1 z.2.2.1 ∧ PLN z.1 z.2.1 z.2.2.1 z.2.2.2.1 z.2.2.2.2.1 := by
  have hl := ho.2.1
  obtain ⟨H, rfl, hH, ⟨T0, hT0⟩, hpl⟩ := hP
  have hKT0 : KT pt (rwC T0 H) := fun k hk => hT0 k (by rw [rw_HL] at hk; exact hk)
  have hfu := k_unl (C := rwC T0 H) (C2 := C) (tl := pt) (tl2 := tl) (by rw [rw_HL]; exact hH) hKT0 hl hT
  rw [rw_HL] at hfu
  unfold pX1_plan
  rw [hfu, Option.bind_some]
  cases hx : fu (tvl (rwC T0 H)) (tvl C) 128 with
  | none =>
    have hall := fu_all _ hx
    have hHH : H = HL C := by
      rcases Nat.lt_or_ge H (HL C) with h2 | h2
      · have := hall H (by omega)
        unfold tvl at this
        rw [rw_HL, if_neg (by omega), if_pos h2] at this
        exact absurd this.symm (enc_no _)
      · rcases Nat.lt_or_ge (HL C) H with h3 | h3
        · have := hall (HL C) (by omega)
          unfold tvl at this
          rw [rw_HL, if_pos h3, if_neg (by omega)] at this
          exact absurd this (enc_no _)
        · omega
    have hTT : ∀ k, k < H → pt k = enc (TV C k) := fun k hk => by
      have := hall k (by omega)
      unfold tvl at this
      rw [rw_HL, if_pos hk, if_pos (by omega)] at this
      rw [hT0 k hk]; exact this
    rw [if_pos (show fuI none = -1 from rfl)]
    refine ⟨_, rfl, ?_, H, rfl, hH, ⟨T0, hT0⟩, hpl⟩
    rcases hpl (TV C) hTT with h0 | h0
    · omega
    · rw [← hHH]; exact h0
  | some j =>
    have hne : ¬ fuI (some j) = (-1 : Int32) := by
      have hj : j < 2 ^ 31 := by
        have : ∀ n, ∀ i, fu (tvl (rwC T0 H)) (tvl C) n = some i → i < n := by
          intro n
          induction n with
          | zero => intro i h; cases h
          | succ m ih =>
            intro i h
            rw [fu_s] at h
            cases hm : fu (tvl (rwC T0 H)) (tvl C) m with
            | some q => rw [hm] at h; have := ih i (by rw [hm]; exact h); omega
            | none =>
              rw [hm] at h
              replace h : (if tvl (rwC T0 H) m = tvl C m then none else some m) = some i := h
              split at h
              · cases h
              · have := Option.some.inj h; omega
        have := this 128 j hx
        omega
      show ¬ nI j = -nI 1
      rw [nI_nm1 hj]; exact id
    obtain ⟨y, ey, hy⟩ := k_measureAll (T := TV C) m1 m2 m3 m4 m5 m6 m7 m8 m9 m10 m11 n1 n2 n3 hl hT cs
    obtain ⟨g, eg, hg⟩ := k_fill (N := 3225) (by omega) (nI 1000000000) re
    obtain ⟨r, er, hr⟩ := k_restAll hl hy hg
    obtain ⟨q, eq, hq⟩ := k_chooseB hr cb_ cf
    obtain ⟨x, hx2⟩ := bC_ex (T := TV C) h1 hl
    rw [hx2] at hq
    obtain ⟨b1, b2, b3⟩ := bC_ok 24 x hx2
    obtain ⟨s, es, hs⟩ := k_follow hl hy hr b2 b3 cz
    unfold pX5_mirror
    rw [if_neg hne, show Int32.ofNat 128 = nI 128 from rfl, k_minN (by omega) (by omega), Option.bind_some, Nat.min_eq_left hl, show (0 : Int32) = nI 0 from rfl, cpkN (by omega) (by omega) (by omega) (by omega), Option.bind_some, ey, Option.bind_some, show (1000000000 : Int32) = nI 1000000000 from rfl, eg, Option.bind_some, ckN (by omega) (by omega), nI_clamp (by omega), show (1 : Int32) = nI 1 from rfl, er, Option.bind_some, eq, Option.bind_some, hq.1, es, Option.bind_some, nI_clamp (by omega)]
    have hpt : ∀ k, k < HL C → va_cpy tl pt 0 0 (HL C) k = tl k := fun k hk => by
      show (if 0 ≤ k ∧ k < 0 + HL C then tl (0 + (k - 0)) else _) = _
      rw [if_pos (by omega), Nat.sub_zero, Nat.zero_add]
    refine ⟨_, rfl, ⟨x.1, x.2, hx2, rfl, hq.2, hs⟩, HL C, rfl, hl, ⟨TV C, fun k hk => (hpt k hk).trans (hT k hk)⟩, fun T hT' => Or.inr ?_⟩
    -- the same plan for a row that is alike
    have hagree : ∀ k, k < HL C → T k = TV C k := fun k hk => enc_inj ((hT' k hk).symm.trans ((hpt k hk).trans (hT k hk)))
    obtain ⟨y', ey', hy'⟩ := k_measureAll (T := T) (tl := tl) m1 m2 m3 m4 m5 m6 m7 m8 m9 m10 m11 n1 n2 n3 hl (fun k hk => by rw [hT k hk, hagree k hk]) cs
    rw [ey] at ey'
    cases ey'
    obtain ⟨r', er', hr'⟩ := k_restAll hl hy' hg
    rw [er] at er'
    cases er'
    obtain ⟨q', eq', hq'⟩ := k_chooseB hr' cb_ cf
    rw [eq] at eq'
    cases eq'
    obtain ⟨x', hx2'⟩ := bC_ex (T := T) h1 hl
    rw [hx2'] at hq'
    obtain ⟨b1', b2', b3'⟩ := bC_ok 24 x' hx2'
    obtain ⟨s', es', hs'⟩ := k_follow hl hy' hr' b2' b3' cz
    have hxx : x'.1 = x.1 := (nI_eq (by omega) (by omega)).mp (by rw [← hq'.1, hq.1])
    rw [hxx, es] at es'
    cases es'
    exact ⟨x'.1, x'.2, hx2', by rw [hxx], hq'.2, hs'⟩
end Plan
