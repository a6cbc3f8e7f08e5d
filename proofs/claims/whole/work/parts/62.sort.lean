/-! ===== by size: ranked, distinct ===== -/
theorem i_irr (x : Int32) : ¬ x < x := fun h => Int32.lt_irrefl h
theorem sm_ins {b b' : Nat → Nat} {i : Nat} (h1 : ∀ j, j < i → b' j = b j) : ∀ n, i ≤ n → (∀ j, i ≤ j → j < n → b' (j + 1) = b j) → sm b' (n + 1) = sm b n + b' i := by
  intro n
  induction n with
  | zero =>
    intro hi _
    obtain rfl : i = 0 := by omega
    show 0 + b' 0 = 0 + b' 0
    rfl
  | succ k ih =>
    intro hi h2
    rcases Nat.lt_or_ge k i with h3 | h3
    · obtain rfl : i = k + 1 := by omega
      show sm b' (k + 1) + b' (k + 1) = sm b (k + 1) + b' (k + 1)
      rw [sm_congr (k + 1) h1]
    · have h4 := ih h3 (fun j hj hk => h2 j hj (by omega))
      show sm b' (k + 1) + b' (k + 1) = sm b k + b k + b' i
      rw [h4, h2 k h3 (by omega)]; omega
/-- how many of a row are such -/
def NC (p : Int32 → Bool) (g : Nat → Int32) (n : Nat) : Nat := sm (fun j => if p (g j) then 1 else 0) n
/-- how many places have such a value -/
def TN (p : Int32 → Bool) (tv : Nat → Option Int32) (n : Nat) : Nat := sm (fun j => match tv j with | none => 0 | some v => if p v then 1 else 0) n
theorem TN_s (p : Int32 → Bool) (tv : Nat → Option Int32) (n : Nat) : TN p tv (n + 1) = TN p tv n + (match tv n with | none => 0 | some v => if p v then 1 else 0) := rfl
/-- unlike ones one behind the other -/
def ND (g : Nat → Int32) (n : Nat) : Nat := sm (fun j => if j = 0 then 1 else if g j = g (j - 1) then 0 else 1) n
def SRT (g : Nat → Int32) (n : Nat) : Prop := ∀ i j, i < j → j < n → g i ≤ g j
def insA (g : Nat → Int32) (i : Nat) (v : Int32) (j : Nat) : Int32 := if j < i then g j else if j = i then v else g (j - 1)
theorem insA_lo {g : Nat → Int32} {i j : Nat} {v : Int32} (h : j < i) : insA g i v j = g j := if_pos h
theorem insA_at {g : Nat → Int32} {i : Nat} {v : Int32} : insA g i v i = v := by unfold insA; rw [if_neg (Nat.lt_irrefl i), if_pos rfl]
theorem insA_hi {g : Nat → Int32} {i j : Nat} {v : Int32} (h : i ≤ j) : insA g i v (j + 1) = g j := by unfold insA; rw [if_neg (by omega), if_neg (by omega)]; rfl
theorem NC_ins {g : Nat → Int32} {n i : Nat} {v : Int32} (hi : i ≤ n) (p : Int32 → Bool) : NC p (insA g i v) (n + 1) = NC p g n + (if p v then 1 else 0) := by
  unfold NC
  rw [sm_ins (b := fun j => if p (g j) then 1 else 0) (i := i) (fun j hj => by show (if p (insA g i v j) then 1 else 0) = _; rw [insA_lo hj]) n hi (fun j hj _ => by show (if p (insA g i v (j + 1)) then 1 else 0) = _; rw [insA_hi hj])]
  show _ + (if p (insA g i v i) then 1 else 0) = _
  rw [insA_at]
theorem SRT_ins {g : Nat → Int32} {n i : Nat} {v : Int32} (hs : SRT g n) (hi : i ≤ n) (h1 : ∀ j, j < i → g j ≤ v) (h2 : ∀ j, i ≤ j → j < n → v < g j) : SRT (insA g i v) (n + 1) := by
  intro j k hjk hk
  rcases Nat.lt_or_ge k i with h3 | h3
  · rw [insA_lo h3, insA_lo (by omega)]; exact hs j k hjk (by omega)
  · rcases Nat.lt_or_ge i k with h4 | h4
    · obtain ⟨m, rfl⟩ : ∃ m, k = m + 1 := ⟨k - 1, by omega⟩
      rw [insA_hi (show i ≤ m by omega)]
      rcases Nat.lt_or_ge j i with h5 | h5
      · rw [insA_lo h5]; exact hs j m (by omega) (by omega)
      · rcases Nat.lt_or_ge i j with h6 | h6
        · obtain ⟨q, rfl⟩ : ∃ q, j = q + 1 := ⟨j - 1, by omega⟩
          rw [insA_hi (show i ≤ q by omega)]; exact hs q m (by omega) (by omega)
        · obtain rfl : j = i := by omega
          rw [insA_at]; exact Int32.le_of_lt (h2 m (by omega) (by omega))
    · obtain rfl : k = i := by omega
      rw [insA_at, insA_lo hjk]; exact h1 j hjk
theorem ND_ins {g : Nat → Int32} {n i : Nat} {v : Int32} (hi : i ≤ n) (h1 : ∀ j, j < i → g j ≤ v) (h2 : ∀ j, i ≤ j → j < n → v < g j) : ND (insA g i v) (n + 1) = ND g n + (if i = 0 then 1 else if v = g (i - 1) then 0 else 1) := by
  unfold ND
  rw [sm_ins (b := fun j => if j = 0 then 1 else if g j = g (j - 1) then 0 else 1) (i := i) (fun j hj => by
    show (if j = 0 then 1 else if insA g i v j = insA g i v (j - 1) then 0 else 1) = _
    rw [insA_lo hj, insA_lo (show j - 1 < i by omega)]) n hi (fun j hj hn => by
    show (if j + 1 = 0 then 1 else if insA g i v (j + 1) = insA g i v (j + 1 - 1) then 0 else 1) = if j = 0 then 1 else if g j = g (j - 1) then 0 else 1
    rw [if_neg (by omega), insA_hi hj, Nat.add_sub_cancel]
    rcases Nat.lt_or_ge i j with h3 | h3
    · obtain ⟨q, rfl⟩ : ∃ q, j = q + 1 := ⟨j - 1, by omega⟩
      rw [insA_hi (show i ≤ q by omega), if_neg (show ¬ q + 1 = 0 by omega)]; rfl
    · obtain rfl : j = i := by omega
      have h4 := h2 j (Nat.le_refl _) hn
      rw [insA_at, if_neg (fun q => by rw [q] at h4; exact i_irr v h4)]
      split
      · rfl
      · rw [if_neg (fun q => by
          have h5 := h1 (j - 1) (by omega)
          rw [← q] at h5
          exact i_irr v (Int32.lt_of_lt_of_le h4 h5))])]
  show _ + (if i = 0 then 1 else if insA g i v i = insA g i v (i - 1) then 0 else 1) = _
  rw [insA_at]
  split
  · rfl
  · rw [insA_lo (show i - 1 < i by omega)]
theorem SRT_congr {g h : Nat → Int32} {n : Nat} (e : ∀ i, i < n → g i = h i) (hs : SRT g n) : SRT h n := fun i j hij hj => by
  rw [← e i (by omega), ← e j hj]; exact hs i j hij hj
theorem NC_congr {g h : Nat → Int32} {n : Nat} (p : Int32 → Bool) (e : ∀ i, i < n → g i = h i) : NC p g n = NC p h n := sm_congr n (fun i hi => by rw [e i hi])
theorem ND_congr {g h : Nat → Int32} {n : Nat} (e : ∀ i, i < n → g i = h i) : ND g n = ND h n := sm_congr n (fun i hi => by rw [e i hi, e (i - 1) (by omega)])
/-- what a row has, is there -/
theorem sm_pos {b : Nat → Nat} : ∀ n, 0 < sm b n → ∃ i, i < n ∧ 0 < b i := by
  intro n
  induction n with
  | zero => intro h; exact absurd h (Nat.lt_irrefl 0)
  | succ k ih =>
    intro h
    rcases Nat.eq_zero_or_pos (b k) with h0 | h0
    · obtain ⟨i, hi, h2⟩ := ih (by show 0 < sm b k; have : sm b (k + 1) = sm b k + b k := rfl; omega)
      exact ⟨i, by omega, h2⟩
    · exact ⟨k, by omega, h0⟩
theorem sm_pos2 {b : Nat → Nat} {n i : Nat} (hi : i < n) (h : 0 < b i) : 0 < sm b n := by
  have := sm_lt (p := b) hi; omega
theorem NC_pos {p : Int32 → Bool} {g : Nat → Int32} {n : Nat} : 0 < NC p g n ↔ ∃ i, i < n ∧ p (g i) = true := by
  constructor
  · intro h
    obtain ⟨i, hi, h2⟩ := sm_pos n h
    refine ⟨i, hi, ?_⟩
    cases hp : p (g i) with
    | true => rfl
    | false => rw [hp] at h2; exact absurd h2 (by decide)
  · intro ⟨i, hi, h2⟩
    exact sm_pos2 hi (by show 0 < if p (g i) then 1 else 0; rw [h2]; decide)
theorem TN_pos {p : Int32 → Bool} {tv : Nat → Option Int32} {n : Nat} : 0 < TN p tv n ↔ ∃ i v, i < n ∧ tv i = some v ∧ p v = true := by
  constructor
  · intro h
    obtain ⟨i, hi, h2⟩ := sm_pos n h
    cases hx : tv i with
    | none => rw [hx] at h2; exact absurd (show 0 < 0 from h2) (Nat.lt_irrefl 0)
    | some v =>
      rw [hx] at h2
      replace h2 : 0 < (if p v then 1 else 0) := h2
      refine ⟨i, v, hi, hx, ?_⟩
      cases hp : p v with
      | true => rfl
      | false => rw [hp] at h2; exact absurd h2 (by decide)
  · intro ⟨i, v, hi, hx, h2⟩
    exact sm_pos2 hi (by show 0 < (match tv i with | none => 0 | some v => if p v then 1 else 0); rw [hx]; show 0 < (if p v then 1 else 0); rw [h2]; decide)
/-- how many unlike values -/
def DN (tv : Nat → Option Int32) (n : Nat) : Nat := sm (fun j => match tv j with | none => 0 | some v => if TN (fun w => decide (w = v)) tv j = 0 then 1 else 0) n
/-- what has come by size so far: from a row g0 of n0 -/
def MG (g0 : Nat → Int32) (n0 : Nat) (tv : Nat → Option Int32) (k : Nat) (g : Nat → Int32) : Prop :=
  SRT g (n0 + cnt tv 0 k) ∧ (∀ p, NC p g (n0 + cnt tv 0 k) = NC p g0 n0 + TN p tv k) ∧ (n0 = 0 → ND g (cnt tv 0 k) = DN tv k)
theorem MG_none {g0 : Nat → Int32} {n0 : Nat} {tv : Nat → Option Int32} {k : Nat} {g : Nat → Int32} (h : MG g0 n0 tv k g) (hx : tv k = none) : MG g0 n0 tv (k + 1) g := by
  have e := (cnt_none (tv := tv) (f := 0) (k := k) (by rw [Nat.zero_add]; exact hx)).1
  obtain ⟨h1, h2, h3⟩ := h
  unfold MG
  rw [e]
  refine ⟨h1, fun p => by rw [h2 p, TN_s, hx]; rfl, fun h0 => ?_⟩
  rw [h3 h0]
  show DN tv k = DN tv k + (match tv k with | none => 0 | some v => if TN (fun w => decide (w = v)) tv k = 0 then 1 else 0)
  rw [hx]; rfl
theorem MG_some {g0 : Nat → Int32} {n0 : Nat} {tv : Nat → Option Int32} {k i : Nat} {g g' : Nat → Int32} {v : Int32} (h : MG g0 n0 tv k g) (hx : tv k = some v) (hi : i ≤ n0 + cnt tv 0 k) (h1 : ∀ j, j < i → g j ≤ v) (h2 : ∀ j, i ≤ j → j < n0 + cnt tv 0 k → v < g j)
    (e : ∀ j, j < n0 + cnt tv 0 k + 1 → g' j = insA g i v j) : MG g0 n0 tv (k + 1) g' := by
  have ec := (cnt_some (tv := tv) (f := 0) (k := k) (by rw [Nat.zero_add]; exact hx)).1
  obtain ⟨m1, m2, m3⟩ := h
  unfold MG
  rw [ec, ← Nat.add_assoc]
  refine ⟨SRT_congr (fun j hj => (e j hj).symm) (SRT_ins m1 hi h1 h2), fun p => ?_, fun h0 => ?_⟩
  · rw [NC_congr p e, NC_ins hi, m2 p, TN_s, hx, Nat.add_assoc]
  · subst h0
    rw [Nat.zero_add] at *
    rw [ND_congr e, ND_ins hi h1 h2, m3 rfl]
    show _ = DN tv k + (match tv k with | none => 0 | some v => if TN (fun w => decide (w = v)) tv k = 0 then 1 else 0)
    rw [hx]
    show _ = DN tv k + (if TN (fun w => decide (w = v)) tv k = 0 then 1 else 0)
    have hN := m2 (fun w => decide (w = v))
    have hN0 : NC (fun w => decide (w = v)) g0 0 = 0 := rfl
    rw [hN0, Nat.zero_add] at hN
    rw [← hN]
    congr 1
    by_cases hi0 : i = 0
    · rw [if_pos hi0, if_pos]
      refine Nat.eq_zero_of_not_pos (fun q => ?_)
      obtain ⟨j, hj, hp⟩ := NC_pos.mp q
      have := h2 j (by omega) hj
      rw [of_decide_eq_true hp] at this
      exact i_irr v this
    · rw [if_neg hi0]
      by_cases hv : v = g (i - 1)
      · rw [if_pos hv, if_neg]
        have : 0 < NC (fun w => decide (w = v)) g (cnt tv 0 k) := NC_pos.mpr ⟨i - 1, by omega, decide_eq_true hv.symm⟩
        omega
      · rw [if_neg hv, if_pos]
        refine Nat.eq_zero_of_not_pos (fun q => ?_)
        obtain ⟨j, hj, hp⟩ := NC_pos.mp q
        have hgj := of_decide_eq_true hp
        rcases Nat.lt_or_ge j i with h5 | h5
        · have h6 := h1 (i - 1) (by omega)
          rcases Nat.lt_or_ge j (i - 1) with h7 | h7
          · have h8 := m1 j (i - 1) h7 (by omega)
            rw [hgj] at h8
            exact hv (Int32.le_antisymm h8 h6)
          · rw [show j = i - 1 by omega] at hgj
            exact hv hgj.symm
        · have := h2 j h5 hj
          rw [hgj] at this
          exact i_irr v this
section Mrg
variable {c : Nat} {a : Nat → Int32} {v1 v2 v3 bk hd : Int32} {tl : Nat → Int64} {fc : Nat → Int32} {C : AC} {xc : Nat → Option Nat}
theorem i_le_tot {x y : Int32} (h : ¬ x ≤ y) : y < x := Int32.not_le.mp h
theorem r_insert (hc : c < 3) (hR : RCa a c C) (hl : HL C ≤ 128) {k n : Nat} {v : Int32} (hk : k < HL C) (hx : TV C k = some v) (hn : n ≤ 255) {g : Nat → Int32} (hs : SRT g n) : ∃ i g', lp (pX10_mergedBy_b31 (nI c) (nI k) a) FU (nI n, g) = some (nI i, g') ∧ i ≤ n ∧ (∀ j, j < i → g j ≤ v) ∧ (∀ j, i ≤ j → j < n → v < g j) ∧ ∀ j, j < n + 1 → upd g' i v j = insA g i v j := by
  obtain ⟨r, e, i, g', rfl, h⟩ := lpE (body := pX10_mergedBy_b31 (nI c) (nI k) a) (fun t s => s.1 = nI (n - t) ∧ (∀ j, n - t ≤ j → j < n → v < g j) ∧ (∀ j, j < n - t → s.2 j = g j) ∧ ∀ j, n - t ≤ j → j < n → s.2 (j + 1) = g j)
    (fun r => ∃ i g', r = (nI i, g') ∧ i ≤ n ∧ (∀ j, j < i → g j ≤ v) ∧ (∀ j, i ≤ j → j < n → v < g j) ∧ ∀ j, j < n + 1 → upd g' i v j = insA g i v j) n (nI n, g) ⟨rfl, fun j h1 h2 => absurd h2 (by omega), fun j _ => rfl, fun j h1 h2 => absurd h2 (by omega)⟩ (fun t s ht hI => by
    obtain ⟨s1, s2⟩ := s
    obtain ⟨rfl, h1, h2, h3⟩ := hI
    replace h2 : ∀ j, j < n - t → s2 j = g j := h2
    replace h3 : ∀ j, n - t ≤ j → j < n → s2 (j + 1) = g j := h3
    have fin : (∀ j, j < n - t → g j ≤ v) → ∀ j, j < n + 1 → upd s2 (n - t) v j = insA g (n - t) v j := fun _ j hj => by
      unfold upd
      rcases Nat.lt_or_ge j (n - t) with h5 | h5
      · rw [if_neg (by omega), insA_lo h5, h2 j h5]
      · rcases Nat.lt_or_ge (n - t) j with h6 | h6
        · obtain ⟨q, rfl⟩ : ∃ q, j = q + 1 := ⟨j - 1, by omega⟩
          rw [if_neg (by omega), insA_hi (show n - t ≤ q by omega), h3 q (by omega) (by omega)]
        · obtain rfl : j = n - t := by omega
          rw [if_pos rfl, insA_at]
    unfold pX10_mergedBy_b31
    rcases Nat.lt_or_ge t n with h9 | h9
    · have hv : pX10_valueAt (nI c) (nI k) a = some v := by rw [r_value hc hR hk hl, hx]; rfl
      have hgm : s2 (n - t - 1) = g (n - t - 1) := h2 _ (by omega)
      by_cases hle : g (n - t - 1) ≤ v
      · refine Or.inr ?_
        simp (disch := omega) only [n_l0, n_l1, n_l2, n_l3, n_l4, n_l5, n_l6, n_l7, n_l8, n_l9, n_l15, n_l16, n_l17, n_l20, n_l24, n_l31, n_l32, n_l33, n_l36, n_l48, n_l49, n_l97, n_l128, n_l129, n_l192, n_l225, n_l256, n_l353, n_l400, n_l512, n_l593, n_l621, n_l640, n_l857, n_l1093, n_l1095, n_l2048, n_l3225, n_l10000, n_l22955, n_l29988, n_l29989, n_l65536, n_l99999, n_l1000000000, n_l2147483647, nI_add, pk_mul, pk_sub, pk_div, nI_clamp, ckN, nI_leI, nI_ltI, nI_eq, nI_nm1, Nat.add_zero, nI_addneg, k_ush, true_or, or_true, false_or, or_false, true_and, and_true, false_and, and_false, not_true_eq_false, not_false_eq_true, if_true, if_false, if_pos, if_neg, Option.bind_some, hv, hgm, hle]
        have hall : ∀ j, j < n - t → g j ≤ v := fun j hj => by
          rcases Nat.lt_or_ge j (n - t - 1) with h5 | h5
          · exact Int32.le_trans (hs j (n - t - 1) h5 (by omega)) hle
          · rw [show j = n - t - 1 by omega]; exact hle
        exact ⟨_, rfl, n - t, s2, rfl, by omega, hall, h1, fin hall⟩
      · refine Or.inl ?_
        simp (disch := omega) only [n_l0, n_l1, n_l2, n_l3, n_l4, n_l5, n_l6, n_l7, n_l8, n_l9, n_l15, n_l16, n_l17, n_l20, n_l24, n_l31, n_l32, n_l33, n_l36, n_l48, n_l49, n_l97, n_l128, n_l129, n_l192, n_l225, n_l256, n_l353, n_l400, n_l512, n_l593, n_l621, n_l640, n_l857, n_l1093, n_l1095, n_l2048, n_l3225, n_l10000, n_l22955, n_l29988, n_l29989, n_l65536, n_l99999, n_l1000000000, n_l2147483647, nI_add, pk_mul, pk_sub, pk_div, nI_clamp, ckN, nI_leI, nI_ltI, nI_eq, nI_nm1, Nat.add_zero, nI_addneg, k_ush, true_or, or_true, false_or, or_false, true_and, and_true, false_and, and_false, not_true_eq_false, not_false_eq_true, if_true, if_false, if_pos, if_neg, Option.bind_some, hv, hgm, hle]
        have e9 : n - t - 1 = n - (t + 1) := by omega
        refine ⟨_, rfl, h9, by rw [e9], fun j h5 h6 => ?_, fun j hj => ?_, fun j h5 h6 => ?_⟩
        · rcases Nat.lt_or_ge j (n - t) with h7 | h7
          · rw [show j = n - t - 1 by omega]; exact i_le_tot hle
          · exact h1 j h7 h6
        · show upd s2 (n - t) _ j = _
          unfold upd
          rw [if_neg (by omega)]; exact h2 j (by omega)
        · show upd s2 (n - t) _ (j + 1) = _
          unfold upd
          rcases Nat.lt_or_ge j (n - t) with h7 | h7
          · rw [if_pos (by omega), show n - t - 1 = j by omega]
          · rw [if_neg (by omega)]; exact h3 j h7 h6
    · obtain rfl : t = n := by omega
      refine Or.inr ?_
      rw [Nat.sub_self] at *
      have hall : ∀ j, j < 0 → g j ≤ v := fun j hj => absurd hj (Nat.not_lt_zero j)
      exact ⟨_, if_pos (show nI 0 ≤ 0 by decide), 0, s2, rfl, by omega, hall, h1, fin hall⟩)
  exact ⟨i, g', e, h⟩
theorem r_mergedBy (hc : c < 3) (hR : RCa a c C) (ho : OKC C) {n0 : Nat} (h0 : n0 ≤ 128) {g0 : Nat → Int32} (hs : SRT g0 n0) : ∃ g, pX10_mergedBy (nI c) (nI n0) a g0 = some (nI (n0 + cnt (TV C) 0 (HL C)), g) ∧ MG g0 n0 (TV C) (HL C) g := by
  have hn := ho.1
  have hl := ho.2.1
  obtain ⟨r, e, h1, h2⟩ := lpE (body := pX10_mergedBy_b5 (nI c) a) (fun k s => s.1 = nI (n0 + cnt (TV C) 0 k) ∧ s.2.1 = nI k ∧ MG g0 n0 (TV C) k s.2.2) (fun r => r.1 = nI (n0 + cnt (TV C) 0 (HL C)) ∧ MG g0 n0 (TV C) (HL C) r.2.2) (HL C) (nI n0, nI 0, g0) ⟨rfl, rfl, hs, fun p => rfl, fun _ => rfl⟩ (fun k s hk hI => by
    obtain ⟨s1, s2, s3⟩ := s
    obtain ⟨rfl, rfl, h3⟩ := hI
    have hcl := cnt_le (TV C) 0 k
    unfold pX10_mergedBy_b5 pX10_mergedBy_b5j94
    rcases Nat.lt_or_ge k (HL C) with h9 | h9
    · refine Or.inl ?_
      cases hx : TV C k with
      | none =>
        have ec := (cnt_none (tv := TV C) (f := 0) (k := k) (by rw [Nat.zero_add]; exact hx)).1
        simp (disch := omega) only [n_l0, n_l1, n_l2, n_l3, n_l4, n_l5, n_l6, n_l7, n_l8, n_l9, n_l15, n_l16, n_l17, n_l20, n_l24, n_l31, n_l32, n_l33, n_l36, n_l48, n_l49, n_l97, n_l128, n_l129, n_l192, n_l225, n_l256, n_l353, n_l400, n_l512, n_l593, n_l621, n_l640, n_l857, n_l1093, n_l1095, n_l2048, n_l3225, n_l10000, n_l22955, n_l29988, n_l29989, n_l65536, n_l99999, n_l1000000000, n_l2147483647, nI_add, pk_mul, pk_sub, pk_div, nI_clamp, ckN, nI_leI, nI_ltI, nI_eq, nI_nm1, Nat.add_zero, nI_addneg, k_ush, true_or, or_true, false_or, or_false, true_and, and_true, false_and, and_false, not_true_eq_false, not_false_eq_true, if_true, if_false, if_pos, if_neg, Option.bind_some, r_places hc hR hn, eHL, r_empty hc hR h9 hl, hx, e_none, e_some, l64_ne, l64_inj, l64_lt, l64_le, vv_some, vv_none, ee_some, ee_none, lc_eq, lc_lt, lc_le, lc_gt, lc_ge, reduceCtorEq, Option.isSome_none, Option.isSome_some, Bool.false_eq_true]
        exact ⟨_, rfl, h9, by rw [ec], rfl, MG_none h3 hx⟩
      | some v =>
        have ec := (cnt_some (tv := TV C) (f := 0) (k := k) (by rw [Nat.zero_add]; exact hx)).1
        obtain ⟨i, g', el, hi, m1, m2, m3⟩ := r_insert hc hR hl h9 hx (n := n0 + cnt (TV C) 0 k) (by omega) h3.1
        simp (disch := omega) only [n_l0, n_l1, n_l2, n_l3, n_l4, n_l5, n_l6, n_l7, n_l8, n_l9, n_l15, n_l16, n_l17, n_l20, n_l24, n_l31, n_l32, n_l33, n_l36, n_l48, n_l49, n_l97, n_l128, n_l129, n_l192, n_l225, n_l256, n_l353, n_l400, n_l512, n_l593, n_l621, n_l640, n_l857, n_l1093, n_l1095, n_l2048, n_l3225, n_l10000, n_l22955, n_l29988, n_l29989, n_l65536, n_l99999, n_l1000000000, n_l2147483647, nI_add, pk_mul, pk_sub, pk_div, nI_clamp, ckN, nI_leI, nI_ltI, nI_eq, nI_nm1, Nat.add_zero, nI_addneg, k_ush, true_or, or_true, false_or, or_false, true_and, and_true, false_and, and_false, not_true_eq_false, not_false_eq_true, if_true, if_false, if_pos, if_neg, Option.bind_some, r_places hc hR hn, eHL, r_empty hc hR h9 hl, r_value hc hR h9 hl, hx, e_none, e_some, l64_ne, l64_inj, l64_lt, l64_le, vv_some, vv_none, ee_some, ee_none, lc_eq, lc_lt, lc_le, lc_gt, lc_ge, reduceCtorEq, Option.isSome_none, Option.isSome_some, Bool.false_eq_true, el]
        exact ⟨_, rfl, h9, by rw [ec]; rfl, rfl, MG_some h3 hx hi m1 m2 m3⟩
    · obtain rfl : k = HL C := by omega
      refine Or.inr ?_
      simp (disch := omega) only [n_l0, n_l1, n_l2, n_l3, n_l4, n_l5, n_l6, n_l7, n_l8, n_l9, n_l15, n_l16, n_l17, n_l20, n_l24, n_l31, n_l32, n_l33, n_l36, n_l48, n_l49, n_l97, n_l128, n_l129, n_l192, n_l225, n_l256, n_l353, n_l400, n_l512, n_l593, n_l621, n_l640, n_l857, n_l1093, n_l1095, n_l2048, n_l3225, n_l10000, n_l22955, n_l29988, n_l29989, n_l65536, n_l99999, n_l1000000000, n_l2147483647, nI_add, pk_mul, pk_sub, pk_div, nI_clamp, ckN, nI_leI, nI_ltI, nI_eq, nI_nm1, Nat.add_zero, nI_addneg, k_ush, true_or, or_true, false_or, or_false, true_and, and_true, false_and, and_false, not_true_eq_false, not_false_eq_true, if_true, if_false, if_pos, if_neg, Option.bind_some, r_places hc hR hn, eHL]
      exact ⟨_, rfl, rfl, h3⟩)
  unfold pX10_mergedBy
  refine ⟨r.2.2, ?_, h2⟩
  simp (disch := omega) only [n_l0, n_l1, n_l2, n_l3, n_l4, n_l5, n_l6, n_l7, n_l8, n_l9, n_l15, n_l16, n_l17, n_l20, n_l24, n_l31, n_l32, n_l33, n_l36, n_l48, n_l49, n_l97, n_l128, n_l129, n_l192, n_l225, n_l256, n_l353, n_l400, n_l512, n_l593, n_l621, n_l640, n_l857, n_l1093, n_l1095, n_l2048, n_l3225, n_l10000, n_l22955, n_l29988, n_l29989, n_l65536, n_l99999, n_l1000000000, n_l2147483647, nI_add, pk_mul, pk_sub, pk_div, nI_clamp, ckN, nI_leI, nI_ltI, nI_eq, nI_nm1, Nat.add_zero, nI_addneg, k_ush, true_or, or_true, false_or, or_false, true_and, and_true, false_and, and_false, not_true_eq_false, not_false_eq_true, if_true, if_false, if_pos, if_neg, Option.bind_some, e, h1]
theorem sm_ones {b : Nat → Nat} : ∀ n, (∀ i, i < n → b i = 1) → sm b n = n := by
  intro n
  induction n with
  | zero => intro _; rfl
  | succ k ih => intro h; show sm b k + b k = _; rw [ih (fun i hi => h i (by omega)), h k (by omega)]
theorem sm_zero {b : Nat → Nat} {k : Nat} : ∀ n, k ≤ n → (∀ i, k ≤ i → i < n → b i = 0) → sm b n = sm b k := by
  intro n
  induction n with
  | zero => intro h _; rw [show k = 0 by omega]
  | succ m ih =>
    intro h h2
    rcases Nat.lt_or_ge m k with h3 | h3
    · rw [show k = m + 1 by omega]
    · show sm b m + b m = _
      rw [ih h3 (fun i h4 h5 => h2 i h4 (by omega)), h2 m h3 (by omega)]; rfl
/-- the k-th by size -/
theorem rank_lo {g : Nat → Int32} {n k : Nat} (hs : SRT g n) (hk : k < n) : NC (fun w => decide (w < g k)) g n ≤ k := by
  unfold NC
  rw [sm_zero (k := k) n (by omega) (fun i h1 h2 => by
    show (if decide (g i < g k) then 1 else 0) = 0
    rw [decide_eq_false]; rfl
    intro q
    rcases Nat.lt_or_ge k i with h3 | h3
    · exact i_irr _ (Int32.lt_of_lt_of_le q (hs k i h3 h2))
    · rw [show i = k by omega] at q; exact i_irr _ q)]
  have := sm_le (p := fun j => if decide (g j < g k) then 1 else 0) (B := 1) k (fun i _ => by show (if _ then 1 else 0) ≤ 1; split <;> omega)
  rw [Nat.mul_one] at this
  exact this
theorem rank_hi {g : Nat → Int32} {n k : Nat} (hs : SRT g n) (hk : k < n) : k < NC (fun w => decide (w ≤ g k)) g n := by
  unfold NC
  have h1 := sm_mono (p := fun j => if decide (g j ≤ g k) then 1 else 0) (show k + 1 ≤ n from hk)
  rw [sm_ones (b := fun j => if decide (g j ≤ g k) then 1 else 0) (k + 1) (fun i hi => by
    show (if decide (g i ≤ g k) then 1 else 0) = 1
    rw [decide_eq_true]; rfl
    rcases Nat.lt_or_ge i k with h3 | h3
    · exact hs i k h3 hk
    · rw [show i = k by omega]; exact Int32.le_refl _)] at h1
  exact h1
theorem TN_mono {p q : Int32 → Bool} (h : ∀ v, p v = true → q v = true) (tv : Nat → Option Int32) : ∀ n, TN p tv n ≤ TN q tv n := by
  intro n
  induction n with
  | zero => exact Nat.le_refl _
  | succ k ih =>
    rw [TN_s, TN_s]
    cases hx : tv k with
    | none => exact ih
    | some v =>
      show TN p tv k + (if p v then 1 else 0) ≤ TN q tv k + (if q v then 1 else 0)
      cases hp : p v with
      | false =>
        have h0 : (if false = true then 1 else 0) = 0 := rfl
        rw [h0]; omega
      | true =>
        have h0 : (if true = true then 1 else 0) = 1 := rfl
        rw [h v hp, h0]; omega
theorem TN_add (tv : Nat → Option Int32) (x : Int32) : ∀ n, TN (fun w => decide (w ≤ x)) tv n = TN (fun w => decide (w < x)) tv n + TN (fun w => decide (w = x)) tv n := by
  intro n
  induction n with
  | zero => rfl
  | succ k ih =>
    rw [TN_s, TN_s, TN_s, ih]
    cases hx : tv k with
    | none => rfl
    | some v =>
      show _ + (if decide (v ≤ x) then 1 else 0) = _ + (if decide (v < x) then 1 else 0) + (_ + (if decide (v = x) then 1 else 0))
      by_cases h1 : v < x
      · rw [decide_eq_true h1, decide_eq_true (Int32.le_of_lt h1), decide_eq_false (fun q => by rw [q] at h1; exact i_irr _ h1)]
        have h0 : (if true = true then 1 else 0) = 1 := rfl
        have h00 : (if false = true then 1 else 0) = 0 := rfl
        rw [h0, h00]; omega
      · by_cases h2 : v = x
        · subst h2
          rw [decide_eq_true rfl, decide_eq_true (Int32.le_refl v), decide_eq_false h1]
          have h0 : (if true = true then 1 else 0) = 1 := rfl
          have h00 : (if false = true then 1 else 0) = 0 := rfl
          rw [h0, h00]; omega
        · rw [decide_eq_false h1, decide_eq_false h2, decide_eq_false (fun q => h2 (Int32.le_antisymm q (Int32.not_lt.mp h1)))]
          have h00 : (if false = true then 1 else 0) = 0 := rfl
          rw [h00]; omega
theorem TN_le (p : Int32 → Bool) (tv : Nat → Option Int32) : ∀ n, TN p tv n ≤ n := by
  intro n
  induction n with
  | zero => exact Nat.le_refl _
  | succ k ih =>
    rw [TN_s]
    cases tv k with
    | none => show TN p tv k + 0 ≤ _; omega
    | some v => show TN p tv k + (if p v then 1 else 0) ≤ _; split <;> omega
theorem k_ranksAs (hl : HL C ≤ 128) (hT : KT tl C) {x : Int32} {k : Nat} (hk : k < 2 ^ 31) : pX5_ranksAs 128 x.toInt64 (nI k) (nI (HL C)) tl = some (if TN (fun w => decide (w < x)) (TV C) (HL C) ≤ k ∧ k < TN (fun w => decide (w ≤ x)) (TV C) (HL C) then nI 1 else nI 0) := by
  have e := lpF (body := pX5_ranksAs_b9 128 x.toInt64 (nI (HL C)) tl) (r := (nI (TN (fun w => decide (w < x)) (TV C) (HL C)), nI (TN (fun w => decide (w = x)) (TV C) (HL C)), nI (HL C))) (fun j => (nI (TN (fun w => decide (w < x)) (TV C) j), nI (TN (fun w => decide (w = x)) (TV C) j), nI j)) (HL C) (nI 0, nI 0, nI 0) rfl (fun j hj => by
      unfold pX5_ranksAs_b9 pX5_ranksAs_b9j51
      rw [TN_s, TN_s]
      cases hx : TV C j with
      | none =>
        have h1 : x.toInt64 ≤ 4294967296 := Int64.le_of_lt (by rw [l64_top2]; trivial)
        have h2 : ¬ (4294967296 : Int64) = x.toInt64 := fun q => by have := l64_ne x; rw [← q] at this; exact absurd rfl (by rw [this]; exact id)
        simp (disch := omega) only [n_l0, n_l1, n_l2, n_l3, n_l4, n_l5, n_l6, n_l7, n_l8, n_l9, n_l15, n_l16, n_l17, n_l20, n_l24, n_l31, n_l32, n_l33, n_l36, n_l48, n_l49, n_l97, n_l128, n_l129, n_l192, n_l225, n_l256, n_l353, n_l400, n_l512, n_l593, n_l621, n_l640, n_l857, n_l1093, n_l1095, n_l2048, n_l3225, n_l10000, n_l22955, n_l29988, n_l29989, n_l65536, n_l99999, n_l1000000000, n_l2147483647, nI_add, pk_mul, pk_sub, pk_div, nI_clamp, ckN, nI_leI, nI_ltI, nI_eq, nI_nm1, Nat.add_zero, nI_addneg, k_ush, true_or, or_true, false_or, or_false, true_and, and_true, false_and, and_false, not_true_eq_false, not_false_eq_true, if_true, if_false, if_pos, if_neg, Option.bind_some, hT j hj, hx, e_none, e_some, l64_ne, l64_inj, l64_lt, l64_le, vv_some, vv_none, ee_some, ee_none, lc_eq, lc_lt, lc_le, lc_gt, lc_ge, reduceCtorEq, Option.isSome_none, Option.isSome_some, Bool.false_eq_true, h1, h2]
      | some v =>
        by_cases h1 : v < x
        · have h2 : ¬ x ≤ v := Int32.not_le.mpr h1
          have h3 : ¬ v = x := fun q => by rw [q] at h1; exact i_irr _ h1
          simp (disch := omega) only [n_l0, n_l1, n_l2, n_l3, n_l4, n_l5, n_l6, n_l7, n_l8, n_l9, n_l15, n_l16, n_l17, n_l20, n_l24, n_l31, n_l32, n_l33, n_l36, n_l48, n_l49, n_l97, n_l128, n_l129, n_l192, n_l225, n_l256, n_l353, n_l400, n_l512, n_l593, n_l621, n_l640, n_l857, n_l1093, n_l1095, n_l2048, n_l3225, n_l10000, n_l22955, n_l29988, n_l29989, n_l65536, n_l99999, n_l1000000000, n_l2147483647, nI_add, pk_mul, pk_sub, pk_div, nI_clamp, ckN, nI_leI, nI_ltI, nI_eq, nI_nm1, Nat.add_zero, nI_addneg, k_ush, true_or, or_true, false_or, or_false, true_and, and_true, false_and, and_false, not_true_eq_false, not_false_eq_true, if_true, if_false, if_pos, if_neg, Option.bind_some, hT j hj, hx, e_none, e_some, l64_ne, l64_inj, l64_lt, l64_le, vv_some, vv_none, ee_some, ee_none, lc_eq, lc_lt, lc_le, lc_gt, lc_ge, reduceCtorEq, Option.isSome_none, Option.isSome_some, Bool.false_eq_true, h1, h2, h3, decide_true, decide_false]
        · have h2 : x ≤ v := Int32.not_lt.mp h1
          by_cases h3 : v = x
          · simp (disch := omega) only [n_l0, n_l1, n_l2, n_l3, n_l4, n_l5, n_l6, n_l7, n_l8, n_l9, n_l15, n_l16, n_l17, n_l20, n_l24, n_l31, n_l32, n_l33, n_l36, n_l48, n_l49, n_l97, n_l128, n_l129, n_l192, n_l225, n_l256, n_l353, n_l400, n_l512, n_l593, n_l621, n_l640, n_l857, n_l1093, n_l1095, n_l2048, n_l3225, n_l10000, n_l22955, n_l29988, n_l29989, n_l65536, n_l99999, n_l1000000000, n_l2147483647, nI_add, pk_mul, pk_sub, pk_div, nI_clamp, ckN, nI_leI, nI_ltI, nI_eq, nI_nm1, Nat.add_zero, nI_addneg, k_ush, true_or, or_true, false_or, or_false, true_and, and_true, false_and, and_false, not_true_eq_false, not_false_eq_true, if_true, if_false, if_pos, if_neg, Option.bind_some, hT j hj, hx, e_none, e_some, l64_ne, l64_inj, l64_lt, l64_le, vv_some, vv_none, ee_some, ee_none, lc_eq, lc_lt, lc_le, lc_gt, lc_ge, reduceCtorEq, Option.isSome_none, Option.isSome_some, Bool.false_eq_true, h1, h2, h3, decide_true, decide_false, i_irr, Int32.le_refl]
          · simp (disch := omega) only [n_l0, n_l1, n_l2, n_l3, n_l4, n_l5, n_l6, n_l7, n_l8, n_l9, n_l15, n_l16, n_l17, n_l20, n_l24, n_l31, n_l32, n_l33, n_l36, n_l48, n_l49, n_l97, n_l128, n_l129, n_l192, n_l225, n_l256, n_l353, n_l400, n_l512, n_l593, n_l621, n_l640, n_l857, n_l1093, n_l1095, n_l2048, n_l3225, n_l10000, n_l22955, n_l29988, n_l29989, n_l65536, n_l99999, n_l1000000000, n_l2147483647, nI_add, pk_mul, pk_sub, pk_div, nI_clamp, ckN, nI_leI, nI_ltI, nI_eq, nI_nm1, Nat.add_zero, nI_addneg, k_ush, true_or, or_true, false_or, or_false, true_and, and_true, false_and, and_false, not_true_eq_false, not_false_eq_true, if_true, if_false, if_pos, if_neg, Option.bind_some, hT j hj, hx, e_none, e_some, l64_ne, l64_inj, l64_lt, l64_le, vv_some, vv_none, ee_some, ee_none, lc_eq, lc_lt, lc_le, lc_gt, lc_ge, reduceCtorEq, Option.isSome_none, Option.isSome_some, Bool.false_eq_true, h1, h2, h3, decide_true, decide_false]) (by
      unfold pX5_ranksAs_b9
      simp (disch := omega) only [n_l0, n_l1, n_l2, n_l3, n_l4, n_l5, n_l6, n_l7, n_l8, n_l9, n_l15, n_l16, n_l17, n_l20, n_l24, n_l31, n_l32, n_l33, n_l36, n_l48, n_l49, n_l97, n_l128, n_l129, n_l192, n_l225, n_l256, n_l353, n_l400, n_l512, n_l593, n_l621, n_l640, n_l857, n_l1093, n_l1095, n_l2048, n_l3225, n_l10000, n_l22955, n_l29988, n_l29989, n_l65536, n_l99999, n_l1000000000, n_l2147483647, nI_add, pk_mul, pk_sub, pk_div, nI_clamp, ckN, nI_leI, nI_ltI, nI_eq, nI_nm1, Nat.add_zero, nI_addneg, k_ush, true_or, or_true, false_or, or_false, true_and, and_true, false_and, and_false, not_true_eq_false, not_false_eq_true, if_true, if_false, if_pos, if_neg, Option.bind_some])
  have h1 := TN_le (fun w => decide (w < x)) (TV C) (HL C)
  have h2 := TN_le (fun w => decide (w = x)) (TV C) (HL C)
  rw [TN_add]
  unfold pX5_ranksAs
  generalize TN (fun w => decide (w < x)) (TV C) (HL C) = A at *
  generalize TN (fun w => decide (w = x)) (TV C) (HL C) = B at *
  by_cases h3 : A ≤ k
  · by_cases h4 : k < A + B
    · simp (disch := omega) only [n_l0, n_l1, n_l2, n_l3, n_l4, n_l5, n_l6, n_l7, n_l8, n_l9, n_l15, n_l16, n_l17, n_l20, n_l24, n_l31, n_l32, n_l33, n_l36, n_l48, n_l49, n_l97, n_l128, n_l129, n_l192, n_l225, n_l256, n_l353, n_l400, n_l512, n_l593, n_l621, n_l640, n_l857, n_l1093, n_l1095, n_l2048, n_l3225, n_l10000, n_l22955, n_l29988, n_l29989, n_l65536, n_l99999, n_l1000000000, n_l2147483647, nI_add, pk_mul, pk_sub, pk_div, nI_clamp, ckN, nI_leI, nI_ltI, nI_eq, nI_nm1, Nat.add_zero, nI_addneg, k_ush, true_or, or_true, false_or, or_false, true_and, and_true, false_and, and_false, not_true_eq_false, not_false_eq_true, if_true, if_false, if_pos, if_neg, Option.bind_some, e, h3, h4]
    · simp (disch := omega) only [n_l0, n_l1, n_l2, n_l3, n_l4, n_l5, n_l6, n_l7, n_l8, n_l9, n_l15, n_l16, n_l17, n_l20, n_l24, n_l31, n_l32, n_l33, n_l36, n_l48, n_l49, n_l97, n_l128, n_l129, n_l192, n_l225, n_l256, n_l353, n_l400, n_l512, n_l593, n_l621, n_l640, n_l857, n_l1093, n_l1095, n_l2048, n_l3225, n_l10000, n_l22955, n_l29988, n_l29989, n_l65536, n_l99999, n_l1000000000, n_l2147483647, nI_add, pk_mul, pk_sub, pk_div, nI_clamp, ckN, nI_leI, nI_ltI, nI_eq, nI_nm1, Nat.add_zero, nI_addneg, k_ush, true_or, or_true, false_or, or_false, true_and, and_true, false_and, and_false, not_true_eq_false, not_false_eq_true, if_true, if_false, if_pos, if_neg, Option.bind_some, e, h3, h4]
  · simp (disch := omega) only [n_l0, n_l1, n_l2, n_l3, n_l4, n_l5, n_l6, n_l7, n_l8, n_l9, n_l15, n_l16, n_l17, n_l20, n_l24, n_l31, n_l32, n_l33, n_l36, n_l48, n_l49, n_l97, n_l128, n_l129, n_l192, n_l225, n_l256, n_l353, n_l400, n_l512, n_l593, n_l621, n_l640, n_l857, n_l1093, n_l1095, n_l2048, n_l3225, n_l10000, n_l22955, n_l29988, n_l29989, n_l65536, n_l99999, n_l1000000000, n_l2147483647, nI_add, pk_mul, pk_sub, pk_div, nI_clamp, ckN, nI_leI, nI_ltI, nI_eq, nI_nm1, Nat.add_zero, nI_addneg, k_ush, true_or, or_true, false_or, or_false, true_and, and_true, false_and, and_false, not_true_eq_false, not_false_eq_true, if_true, if_false, if_pos, if_neg, Option.bind_some, e, h3]
/-- two that rank alike are one -/
theorem rank_one {tv : Nat → Option Int32} {n k : Nat} {x y : Int32} (h1 : TN (fun w => decide (w < x)) tv n ≤ k) (h2 : k < TN (fun w => decide (w ≤ x)) tv n) (h3 : TN (fun w => decide (w < y)) tv n ≤ k) (h4 : k < TN (fun w => decide (w ≤ y)) tv n) : x = y := by
  have key : ∀ x y : Int32, k < TN (fun w => decide (w ≤ x)) tv n → TN (fun w => decide (w < y)) tv n ≤ k → y ≤ x := fun x y h5 h6 => by
    refine Int32.not_lt.mp (fun q => ?_)
    have := TN_mono (p := fun w => decide (w ≤ x)) (q := fun w => decide (w < y)) (fun v hv => decide_eq_true (Int32.lt_of_le_of_lt (of_decide_eq_true hv) q)) tv n
    omega
  exact Int32.le_antisymm (key y x h4 h1) (key x y h2 h3)
theorem q_ranked (mg : Nat → Int32) (h : COL a v1 bk hd tl fc C) : ∃ z, pX10_ranked v1 v2 a mg = some z ∧ pX9_ranked 128 v1 v2 xc hd tl = some z.1 := by
  obtain ⟨⟨rfl, rfl, hT, hP, hF⟩, ho, hr⟩ := h
  have hn := ho.1
  have hl := ho.2.1
  have hH : ∀ k, k < HL C → tl k = enc (TV C k) := hT
  unfold pX10_ranked pX9_ranked
  rcases col_cases v1 with ⟨c, hc, rfl⟩ | hv
  · have hR := hr c hc rfl
    have hvo := r_valuesOf hc hR ho
    rw [← cm_sum ho _ (Nat.le_refl _), eHL] at hvo
    have hcl := cnt_le (TV C) 0 (HL C)
    rcases ix_cases v2 (n := cnt (TV C) 0 (HL C)) (by omega) with ⟨k, hk, rfl⟩ | hk
    · obtain ⟨g, eg, g1, g2, _⟩ := r_mergedBy hc hR ho (n0 := 0) (by omega) (g0 := mg) (fun i j _ hj => absurd hj (Nat.not_lt_zero j))
      rw [Nat.zero_add] at eg g1 g2
      have g3 : ∀ p, NC p g (cnt (TV C) 0 (HL C)) = TN p (TV C) (HL C) := fun p => by rw [g2 p]; exact Nat.zero_add _
      have l1 := rank_lo g1 hk
      have l2 := rank_hi g1 hk
      rw [g3] at l1 l2
      obtain ⟨r, e, hq⟩ := lpE (body := pX5_bySize_b2 128 (nI k) (nI (HL C)) tl) (fun j s => s = nI j ∧ ∀ i, i < j → ¬ TV C i = some (g k)) (fun r => r = .inr (g k).toInt64) (HL C) (nI 0) ⟨rfl, fun i hi => absurd hi (Nat.not_lt_zero i)⟩ (fun j s hj hI => by
        obtain ⟨rfl, hI⟩ := hI
        unfold pX5_bySize_b2 pX5_bySize_b2j48
        rcases Nat.lt_or_ge j (HL C) with h9 | h9
        · cases hx : TV C j with
          | none =>
            refine Or.inl ?_
            simp (disch := omega) only [n_l0, n_l1, n_l2, n_l3, n_l4, n_l5, n_l6, n_l7, n_l8, n_l9, n_l15, n_l16, n_l17, n_l20, n_l24, n_l31, n_l32, n_l33, n_l36, n_l48, n_l49, n_l97, n_l128, n_l129, n_l192, n_l225, n_l256, n_l353, n_l400, n_l512, n_l593, n_l621, n_l640, n_l857, n_l1093, n_l1095, n_l2048, n_l3225, n_l10000, n_l22955, n_l29988, n_l29989, n_l65536, n_l99999, n_l1000000000, n_l2147483647, nI_add, pk_mul, pk_sub, pk_div, nI_clamp, ckN, nI_leI, nI_ltI, nI_eq, nI_nm1, Nat.add_zero, nI_addneg, k_ush, true_or, or_true, false_or, or_false, true_and, and_true, false_and, and_false, not_true_eq_false, not_false_eq_true, if_true, if_false, if_pos, if_neg, Option.bind_some, hT j h9, hx, e_none, e_some, l64_ne, l64_inj, l64_lt, l64_le, vv_some, vv_none, ee_some, ee_none, lc_eq, lc_lt, lc_le, lc_gt, lc_ge, reduceCtorEq, Option.isSome_none, Option.isSome_some, Bool.false_eq_true, nI_pos]
            refine ⟨_, rfl, h9, rfl, fun i hi => ?_⟩
            rcases Nat.lt_or_ge i j with h5 | h5
            · exact hI i h5
            · rw [show i = j by omega, hx]; exact fun q => by cases q
          | some x =>
            by_cases hrk : TN (fun w => decide (w < x)) (TV C) (HL C) ≤ k ∧ k < TN (fun w => decide (w ≤ x)) (TV C) (HL C)
            · refine Or.inr ?_
              have : x = g k := rank_one hrk.1 hrk.2 l1 l2
              simp (disch := omega) only [n_l0, n_l1, n_l2, n_l3, n_l4, n_l5, n_l6, n_l7, n_l8, n_l9, n_l15, n_l16, n_l17, n_l20, n_l24, n_l31, n_l32, n_l33, n_l36, n_l48, n_l49, n_l97, n_l128, n_l129, n_l192, n_l225, n_l256, n_l353, n_l400, n_l512, n_l593, n_l621, n_l640, n_l857, n_l1093, n_l1095, n_l2048, n_l3225, n_l10000, n_l22955, n_l29988, n_l29989, n_l65536, n_l99999, n_l1000000000, n_l2147483647, nI_add, pk_mul, pk_sub, pk_div, nI_clamp, ckN, nI_leI, nI_ltI, nI_eq, nI_nm1, Nat.add_zero, nI_addneg, k_ush, true_or, or_true, false_or, or_false, true_and, and_true, false_and, and_false, not_true_eq_false, not_false_eq_true, if_true, if_false, if_pos, if_neg, Option.bind_some, hT j h9, hx, e_none, e_some, l64_ne, l64_inj, l64_lt, l64_le, vv_some, vv_none, ee_some, ee_none, lc_eq, lc_lt, lc_le, lc_gt, lc_ge, reduceCtorEq, Option.isSome_none, Option.isSome_some, Bool.false_eq_true, k_ranksAs hl hT (show k < 2 ^ 31 by omega), hrk, nI_pos]
              exact ⟨_, rfl, by rw [this]⟩
            · refine Or.inl ?_
              simp (disch := omega) only [n_l0, n_l1, n_l2, n_l3, n_l4, n_l5, n_l6, n_l7, n_l8, n_l9, n_l15, n_l16, n_l17, n_l20, n_l24, n_l31, n_l32, n_l33, n_l36, n_l48, n_l49, n_l97, n_l128, n_l129, n_l192, n_l225, n_l256, n_l353, n_l400, n_l512, n_l593, n_l621, n_l640, n_l857, n_l1093, n_l1095, n_l2048, n_l3225, n_l10000, n_l22955, n_l29988, n_l29989, n_l65536, n_l99999, n_l1000000000, n_l2147483647, nI_add, pk_mul, pk_sub, pk_div, nI_clamp, ckN, nI_leI, nI_ltI, nI_eq, nI_nm1, Nat.add_zero, nI_addneg, k_ush, true_or, or_true, false_or, or_false, true_and, and_true, false_and, and_false, not_true_eq_false, not_false_eq_true, if_true, if_false, if_pos, if_neg, Option.bind_some, hT j h9, hx, e_none, e_some, l64_ne, l64_inj, l64_lt, l64_le, vv_some, vv_none, ee_some, ee_none, lc_eq, lc_lt, lc_le, lc_gt, lc_ge, reduceCtorEq, Option.isSome_none, Option.isSome_some, Bool.false_eq_true, k_ranksAs hl hT (show k < 2 ^ 31 by omega), hrk, nI_pos]
              refine ⟨_, rfl, h9, rfl, fun i hi => ?_⟩
              rcases Nat.lt_or_ge i j with h5 | h5
              · exact hI i h5
              · rw [show i = j by omega, hx]; exact fun q => by cases q; exact hrk ⟨l1, l2⟩
        · obtain rfl : j = HL C := by omega
          have hp : 0 < NC (fun w => decide (w = g k)) g (cnt (TV C) 0 (HL C)) := NC_pos.mpr ⟨k, hk, decide_eq_true rfl⟩
          rw [g3] at hp
          obtain ⟨i, v, hi, hx, hv⟩ := TN_pos.mp hp
          exact absurd (by rw [hx, of_decide_eq_true hv]) (hI i hi))
      unfold pX5_bySize
      simp (disch := omega) only [n_l0, n_l1, n_l2, n_l3, n_l4, n_l5, n_l6, n_l7, n_l8, n_l9, n_l15, n_l16, n_l17, n_l20, n_l24, n_l31, n_l32, n_l33, n_l36, n_l48, n_l49, n_l97, n_l128, n_l129, n_l192, n_l225, n_l256, n_l353, n_l400, n_l512, n_l593, n_l621, n_l640, n_l857, n_l1093, n_l1095, n_l2048, n_l3225, n_l10000, n_l22955, n_l29988, n_l29989, n_l65536, n_l99999, n_l1000000000, n_l2147483647, nI_add, pk_mul, pk_sub, pk_div, nI_clamp, ckN, nI_leI, nI_ltI, nI_eq, nI_nm1, Nat.add_zero, nI_addneg, k_ush, true_or, or_true, false_or, or_false, true_and, and_true, false_and, and_false, not_true_eq_false, not_false_eq_true, if_true, if_false, if_pos, if_neg, Option.bind_some, r_isCol hc, r_blocks hc hR, r_places hc hR hn, eHL, k_col hc, hvo, r_isInT, eg, e, hq]
      exact ⟨_, rfl, rfl⟩
    · have e : pX5_bySize 128 v2 (nI (HL C)) tl = some (-4294967296) := by
        obtain ⟨r, e, x, rfl⟩ := lpE (body := pX5_bySize_b2 128 v2 (nI (HL C)) tl) (fun j s => s = nI j) (fun r => ∃ x, r = .inl x) (HL C) (nI 0) rfl (fun j s hj hI => by
          subst hI
          unfold pX5_bySize_b2 pX5_bySize_b2j48
          rcases Nat.lt_or_ge j (HL C) with h9 | h9
          · by_cases hneg : v2 < nI 0
            · refine Or.inr ?_
              simp (disch := omega) only [n_l0, n_l1, n_l2, n_l3, n_l4, n_l5, n_l6, n_l7, n_l8, n_l9, n_l15, n_l16, n_l17, n_l20, n_l24, n_l31, n_l32, n_l33, n_l36, n_l48, n_l49, n_l97, n_l128, n_l129, n_l192, n_l225, n_l256, n_l353, n_l400, n_l512, n_l593, n_l621, n_l640, n_l857, n_l1093, n_l1095, n_l2048, n_l3225, n_l10000, n_l22955, n_l29988, n_l29989, n_l65536, n_l99999, n_l1000000000, n_l2147483647, nI_add, pk_mul, pk_sub, pk_div, nI_clamp, ckN, nI_leI, nI_ltI, nI_eq, nI_nm1, Nat.add_zero, nI_addneg, k_ush, true_or, or_true, false_or, or_false, true_and, and_true, false_and, and_false, not_true_eq_false, not_false_eq_true, if_true, if_false, if_pos, if_neg, Option.bind_some, hneg]
              exact ⟨_, rfl, _, rfl⟩
            · refine Or.inl ?_
              cases hx : TV C j with
              | none =>
                simp (disch := omega) only [n_l0, n_l1, n_l2, n_l3, n_l4, n_l5, n_l6, n_l7, n_l8, n_l9, n_l15, n_l16, n_l17, n_l20, n_l24, n_l31, n_l32, n_l33, n_l36, n_l48, n_l49, n_l97, n_l128, n_l129, n_l192, n_l225, n_l256, n_l353, n_l400, n_l512, n_l593, n_l621, n_l640, n_l857, n_l1093, n_l1095, n_l2048, n_l3225, n_l10000, n_l22955, n_l29988, n_l29989, n_l65536, n_l99999, n_l1000000000, n_l2147483647, nI_add, pk_mul, pk_sub, pk_div, nI_clamp, ckN, nI_leI, nI_ltI, nI_eq, nI_nm1, Nat.add_zero, nI_addneg, k_ush, true_or, or_true, false_or, or_false, true_and, and_true, false_and, and_false, not_true_eq_false, not_false_eq_true, if_true, if_false, if_pos, if_neg, Option.bind_some, hT j h9, hx, e_none, e_some, l64_ne, l64_inj, l64_lt, l64_le, vv_some, vv_none, ee_some, ee_none, lc_eq, lc_lt, lc_le, lc_gt, lc_ge, reduceCtorEq, Option.isSome_none, Option.isSome_some, Bool.false_eq_true, hneg]
                exact ⟨_, rfl, h9, rfl⟩
              | some x =>
                rcases hk with hk | hk
                · exact absurd hk hneg
                · obtain ⟨K, hK, rfl⟩ := nI_of hneg
                  rw [nI_leI (by omega) hK] at hk
                  have hrk : pX5_ranksAs 128 x.toInt64 (nI K) (nI (HL C)) tl = some (nI 0) := by
                    have ht : TN (fun w => decide (w ≤ x)) (TV C) (HL C) ≤ cnt (TV C) 0 (HL C) := by
                      obtain ⟨g, eg, g1, g2, _⟩ := r_mergedBy hc hR ho (n0 := 0) (by omega) (g0 := mg) (fun i j _ hj => absurd hj (Nat.not_lt_zero j))
                      rw [Nat.zero_add] at g1 g2
                      have g3 := g2 (fun w => decide (w ≤ x))
                      have g4 : NC (fun w => decide (w ≤ x)) mg 0 = 0 := rfl
                      rw [g4, Nat.zero_add] at g3
                      rw [← g3]
                      have := sm_le (p := fun j => if decide (g j ≤ x) then 1 else 0) (B := 1) (cnt (TV C) 0 (HL C)) (fun i _ => by show (if _ then 1 else 0) ≤ 1; split <;> omega)
                      rw [Nat.mul_one] at this
                      exact this
                    have h1 := TN_le (fun w => decide (w < x)) (TV C) (HL C)
                    have h2 := TN_add (TV C) x (HL C)
                    rw [k_ranksAs hl hT hK, if_neg (by omega)]
                  simp (disch := omega) only [n_l0, n_l1, n_l2, n_l3, n_l4, n_l5, n_l6, n_l7, n_l8, n_l9, n_l15, n_l16, n_l17, n_l20, n_l24, n_l31, n_l32, n_l33, n_l36, n_l48, n_l49, n_l97, n_l128, n_l129, n_l192, n_l225, n_l256, n_l353, n_l400, n_l512, n_l593, n_l621, n_l640, n_l857, n_l1093, n_l1095, n_l2048, n_l3225, n_l10000, n_l22955, n_l29988, n_l29989, n_l65536, n_l99999, n_l1000000000, n_l2147483647, nI_add, pk_mul, pk_sub, pk_div, nI_clamp, ckN, nI_leI, nI_ltI, nI_eq, nI_nm1, Nat.add_zero, nI_addneg, k_ush, true_or, or_true, false_or, or_false, true_and, and_true, false_and, and_false, not_true_eq_false, not_false_eq_true, if_true, if_false, if_pos, if_neg, Option.bind_some, hT j h9, hx, e_none, e_some, l64_ne, l64_inj, l64_lt, l64_le, vv_some, vv_none, ee_some, ee_none, lc_eq, lc_lt, lc_le, lc_gt, lc_ge, reduceCtorEq, Option.isSome_none, Option.isSome_some, Bool.false_eq_true, hneg, hrk]
                  exact ⟨_, rfl, h9, rfl⟩
          · obtain rfl : j = HL C := by omega
            refine Or.inr ?_
            simp (disch := omega) only [n_l0, n_l1, n_l2, n_l3, n_l4, n_l5, n_l6, n_l7, n_l8, n_l9, n_l15, n_l16, n_l17, n_l20, n_l24, n_l31, n_l32, n_l33, n_l36, n_l48, n_l49, n_l97, n_l128, n_l129, n_l192, n_l225, n_l256, n_l353, n_l400, n_l512, n_l593, n_l621, n_l640, n_l857, n_l1093, n_l1095, n_l2048, n_l3225, n_l10000, n_l22955, n_l29988, n_l29989, n_l65536, n_l99999, n_l1000000000, n_l2147483647, nI_add, pk_mul, pk_sub, pk_div, nI_clamp, ckN, nI_leI, nI_ltI, nI_eq, nI_nm1, Nat.add_zero, nI_addneg, k_ush, true_or, or_true, false_or, or_false, true_and, and_true, false_and, and_false, not_true_eq_false, not_false_eq_true, if_true, if_false, if_pos, if_neg, Option.bind_some]
            exact ⟨_, rfl, _, rfl⟩)
        unfold pX5_bySize
        simp (disch := omega) only [n_l0, n_l1, n_l2, n_l3, n_l4, n_l5, n_l6, n_l7, n_l8, n_l9, n_l15, n_l16, n_l17, n_l20, n_l24, n_l31, n_l32, n_l33, n_l36, n_l48, n_l49, n_l97, n_l128, n_l129, n_l192, n_l225, n_l256, n_l353, n_l400, n_l512, n_l593, n_l621, n_l640, n_l857, n_l1093, n_l1095, n_l2048, n_l3225, n_l10000, n_l22955, n_l29988, n_l29989, n_l65536, n_l99999, n_l1000000000, n_l2147483647, nI_add, pk_mul, pk_sub, pk_div, nI_clamp, ckN, nI_leI, nI_ltI, nI_eq, nI_nm1, Nat.add_zero, nI_addneg, k_ush, true_or, or_true, false_or, or_false, true_and, and_true, false_and, and_false, not_true_eq_false, not_false_eq_true, if_true, if_false, if_pos, if_neg, Option.bind_some, e]
        rfl
      simp (disch := omega) only [n_l0, n_l1, n_l2, n_l3, n_l4, n_l5, n_l6, n_l7, n_l8, n_l9, n_l15, n_l16, n_l17, n_l20, n_l24, n_l31, n_l32, n_l33, n_l36, n_l48, n_l49, n_l97, n_l128, n_l129, n_l192, n_l225, n_l256, n_l353, n_l400, n_l512, n_l593, n_l621, n_l640, n_l857, n_l1093, n_l1095, n_l2048, n_l3225, n_l10000, n_l22955, n_l29988, n_l29989, n_l65536, n_l99999, n_l1000000000, n_l2147483647, nI_add, pk_mul, pk_sub, pk_div, nI_clamp, ckN, nI_leI, nI_ltI, nI_eq, nI_nm1, Nat.add_zero, nI_addneg, k_ush, true_or, or_true, false_or, or_false, true_and, and_true, false_and, and_false, not_true_eq_false, not_false_eq_true, if_true, if_false, if_pos, if_neg, Option.bind_some, r_isCol hc, r_blocks hc hR, r_places hc hR hn, eHL, k_col hc, hvo, e]
      rw [show pX10_isIn v2 (nI 0) (nI (cnt (TV C) 0 (HL C)) - nI 1) = some (nI 0) from r_below (by omega) hk]
      exact ⟨_, rfl, rfl⟩
  · simp (disch := omega) only [n_l0, n_l1, n_l2, n_l3, n_l4, n_l5, n_l6, n_l7, n_l8, n_l9, n_l15, n_l16, n_l17, n_l20, n_l24, n_l31, n_l32, n_l33, n_l36, n_l48, n_l49, n_l97, n_l128, n_l129, n_l192, n_l225, n_l256, n_l353, n_l400, n_l512, n_l593, n_l621, n_l640, n_l857, n_l1093, n_l1095, n_l2048, n_l3225, n_l10000, n_l22955, n_l29988, n_l29989, n_l65536, n_l99999, n_l1000000000, n_l2147483647, nI_add, pk_mul, pk_sub, pk_div, nI_clamp, ckN, nI_leI, nI_ltI, nI_eq, nI_nm1, Nat.add_zero, nI_addneg, k_ush, true_or, or_true, false_or, or_false, true_and, and_true, false_and, and_false, not_true_eq_false, not_false_eq_true, if_true, if_false, if_pos, if_neg, Option.bind_some, r_isColO hv, k_colO hv, Bool.false_eq_true]
    exact ⟨_, rfl, rfl⟩
end Mrg
