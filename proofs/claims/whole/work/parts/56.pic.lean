/-! ===== the picture of a column ===== -/
def NB (C : AC) : Nat := C.1
def PL (C : AC) : Nat → Nat := C.2.1
def TV (C : AC) : Nat → Option Int32 := C.2.2.1
def FM (C : AC) : Nat → Nat := C.2.2.2.1
def WD (C : AC) : Nat → Nat := C.2.2.2.2.1
def ST (C : AC) : Nat → Int32 := C.2.2.2.2.2
def HL (C : AC) : Nat := sm (PL C) (NB C)
def cm (C : AC) (b : Nat) : Nat := cnt (TV C) (sm (PL C) b) (PL C b)
def cg (C : AC) (b : Nat) : Nat → Int32 := val (TV C) (sm (PL C) b) (PL C b)
def cq (C : AC) (b : Nat) : Nat → Nat := qs (FM C b) (ST C b) (cg C b) (cm C b)
def cp (C : AC) (b : Nat) : Nat := pcn (FM C b) (cm C b)
def ce (C : AC) (b : Nat) : Nat := exc (WD C b) (cq C b) (cp C b)
def ct (C : AC) (b : Nat) : Nat := tot (PL C b) (cm C b) (FM C b) (WD C b) (cp C b) (ce C b)
def cb (C : AC) (b : Nat) : Int32 := bse (FM C b) (cg C b) (cm C b)
def okb (C : AC) (b : Nat) : Prop := 1 ≤ PL C b ∧ PL C b ≤ 16 ∧ FM C b ≤ 2 ∧ WD C b ≤ 32 ∧ (FM C b = 0 ∨ 2 ≤ cm C b) ∧ ce C b ≤ 15 ∧ (FM C b ≠ 2 → ST C b = 0)
def OKC (C : AC) : Prop := NB C ≤ 24 ∧ HL C ≤ 128 ∧ ∀ b, b < NB C → okb C b
abbrev RCa (a : Nat → Int32) (c : Nat) (C : AC) : Prop := RC a c (NB C) (PL C) (TV C) (FM C) (WD C) (ST C)
def KF (fc : Nat → Int32) (C : AC) (b : Nat) : Prop := fc (b * 8 + 1) = nI (cm C b) ∧ fc (b * 8 + 2) = nI (FM C b) ∧ fc (b * 8 + 3) = nI (WD C b) ∧ fc (b * 8 + 4) = nI (ce C b) ∧ fc (b * 8 + 5) = nI (ct C b) ∧ fc (b * 8 + 6) = cb C b ∧ fc (b * 8 + 7) = ST C b
def KP (fc : Nat → Int32) (C : AC) : Prop := ∀ b, b < NB C → fc (b * 8) = nI (PL C b)
def KT (tl : Nat → Int64) (C : AC) : Prop := ∀ k, k < HL C → tl k = enc (TV C k)
def KC (bk hd : Int32) (tl : Nat → Int64) (fc : Nat → Int32) (C : AC) : Prop := bk = nI (NB C) ∧ hd = nI (HL C) ∧ KT tl C ∧ KP fc C ∧ ∀ b, b < NB C → KF fc C b
def COL (a : Nat → Int32) (v1 bk hd : Int32) (tl : Nat → Int64) (fc : Nat → Int32) (C : AC) : Prop := KC bk hd tl fc C ∧ OKC C ∧ ∀ c, c < 3 → v1 = nI c → RCa a c C
theorem cm_le (C : AC) (b : Nat) : cm C b ≤ PL C b := cnt_le _ _ _
theorem cp_le (C : AC) (b : Nat) : cp C b ≤ cm C b := pcn_le _ _
theorem ct_lt {C : AC} {b : Nat} (h : okb C b) : ct C b < 2000 := by
  obtain ⟨_, h2, _, h4, _, h6, _⟩ := h
  have := cm_le C b
  have := cp_le C b
  exact tot_lt h2 h4 (by omega) (by omega)
theorem sm_lt2 {C : AC} {b : Nat} (h : b < NB C) : sm (PL C) b + PL C b ≤ HL C := sm_lt h
/-- columns by number -/
theorem col_cases (v : Int32) : (∃ c, c < 3 ∧ v = nI c) ∨ (v < 0 ∨ nI 3 ≤ v) := by
  rcases pk_ix v (n := 3) (by decide) with h | h | h
  · exact Or.inr (Or.inl h)
  · exact Or.inr (Or.inr h)
  · exact Or.inl h
theorem i_lt_le {x y z : Int32} (h1 : x ≤ y) (h2 : y < z) : x < z := by
  rw [Int32.lt_iff_toInt_lt] at *; rw [Int32.le_iff_toInt_le] at *; omega
theorem r_isIn_in {v lo hi : Int32} (h1 : lo ≤ v) (h2 : v ≤ hi) : pX10_isIn v lo hi = some (nI 1) := by
  unfold pX10_isIn
  rw [if_neg (Int32.not_lt.mpr h1), if_neg (Int32.not_lt.mpr h2)]; rfl
theorem r_isIn_lo {v lo hi : Int32} (h1 : v < lo) : pX10_isIn v lo hi = some (nI 0) := by
  unfold pX10_isIn
  rw [if_pos h1]; rfl
theorem r_isIn_hi {v lo hi : Int32} (h1 : hi < v) : pX10_isIn v lo hi = some (nI 0) := by
  unfold pX10_isIn
  rw [if_pos h1]
  split <;> rfl
theorem r_isInT {k l j : Nat} (h1 : l ≤ k) (h2 : k ≤ j) (h3 : j < 2 ^ 31) : pX10_isIn (nI k) (nI l) (nI j) = some (nI 1) := r_isIn_in (nI_le h1 (by omega)) (nI_le h2 h3)
theorem r_isCol {c : Nat} (hc : c < 3) : pX10_isColumn (nI c) = some (nI 1) := by
  unfold pX10_isColumn pX10_isIn
  simp (disch := omega) only [n_l0, n_l1, n_l2, n_l3, n_l4, n_l5, n_l6, n_l7, n_l8, n_l9, n_l15, n_l16, n_l17, n_l20, n_l24, n_l31, n_l32, n_l33, n_l36, n_l48, n_l49, n_l97, n_l128, n_l129, n_l192, n_l225, n_l256, n_l353, n_l400, n_l512, n_l593, n_l621, n_l640, n_l857, n_l1093, n_l1095, n_l2048, n_l3225, n_l10000, n_l22955, n_l29988, n_l29989, n_l65536, n_l99999, n_l1000000000, n_l2147483647, nI_add, pk_mul, pk_sub, pk_div, nI_clamp, ckN, nI_leI, nI_ltI, nI_eq, nI_nm1, Nat.add_zero, nI_addneg, k_ush, true_or, or_true, false_or, or_false, true_and, and_true, false_and, and_false, not_true_eq_false, not_false_eq_true, if_true, if_false, if_pos, if_neg, Option.bind_some]
theorem r_isColO {v : Int32} (h : v < 0 ∨ nI 3 ≤ v) : pX10_isColumn v = some (nI 0) := by
  unfold pX10_isColumn
  rcases h with h | h
  · rw [r_isIn_lo h]; rfl
  · have h2 : (2 : Int32) < v := by
      rw [Int32.lt_iff_toInt_lt]
      have := Int32.le_iff_toInt_le.mp h
      have h3 : (nI 3).toInt = 3 := by decide
      have h4 : (2 : Int32).toInt = 2 := by decide
      omega
    rw [r_isIn_hi h2]; rfl
theorem k_col {c : Nat} (hc : c < 3) (xc : Nat → Option Nat) : pX9_columnAt (nI c) xc = some true := by
  unfold pX9_columnAt
  simp (disch := omega) only [n_l0, n_l1, n_l2, n_l3, n_l4, n_l5, n_l6, n_l7, n_l8, n_l9, n_l15, n_l16, n_l17, n_l20, n_l24, n_l31, n_l32, n_l33, n_l36, n_l48, n_l49, n_l97, n_l128, n_l129, n_l192, n_l225, n_l256, n_l353, n_l400, n_l512, n_l593, n_l621, n_l640, n_l857, n_l1093, n_l1095, n_l2048, n_l3225, n_l10000, n_l22955, n_l29988, n_l29989, n_l65536, n_l99999, n_l1000000000, n_l2147483647, nI_add, pk_mul, pk_sub, pk_div, nI_clamp, ckN, nI_leI, nI_ltI, nI_eq, nI_nm1, Nat.add_zero, nI_addneg, k_ush, true_or, or_true, false_or, or_false, true_and, and_true, false_and, and_false, not_true_eq_false, not_false_eq_true, if_true, if_false, if_pos, if_neg, Option.bind_some]
theorem k_colO {v : Int32} (h : v < 0 ∨ nI 3 ≤ v) (xc : Nat → Option Nat) : pX9_columnAt v xc = some false := by
  unfold pX9_columnAt
  rcases h with h | h
  · rw [if_pos h]
  · rw [if_pos (show (3 : Int32) ≤ v from h)]
    split <;> rfl
/-- a number within 0 .. n - 1, or not -/
def inO (v : Int32) (n : Nat) : Prop := v < 0 ∨ nI n ≤ v
theorem ix_cases (v : Int32) {n : Nat} (hn : n < 2 ^ 31) : (∃ k, k < n ∧ v = nI k) ∨ inO v n := by
  rcases pk_ix v hn with h | h | h
  · exact Or.inr (Or.inl h)
  · exact Or.inr (Or.inr h)
  · exact Or.inl h
theorem r_below {v : Int32} {n : Nat} (hn : n < 2 ^ 30) (h : inO v n) : pX10_isIn v (nI 0) (nI n - nI 1) = some (nI 0) := by
  rcases h with h | h
  · exact r_isIn_lo h
  · refine r_isIn_hi ?_
    rw [Int32.lt_iff_toInt_lt, pk_sub_toInt hn (by decide)]
    have := Int32.le_iff_toInt_le.mp h
    rw [nI_toInt (by omega)] at this
    omega
theorem r_within {k n : Nat} (hn : n < 2 ^ 30) (h : k < n) : pX10_isIn (nI k) (nI 0) (nI n - nI 1) = some (nI 1) := by
  have e : nI n - nI 1 = nI (n - 1) := pk_sub (by omega)
  rw [e]
  exact r_isIn_in (nI_le (Nat.zero_le _) (by omega)) (nI_le (by omega) (by omega))
theorem k_hasO {v : Int32} {n : Nat} (h : inO v n) : pX5_has v (nI n) = some (nI 0) := by
  unfold pX5_has
  rcases h with h | h
  · rw [if_pos h]; rfl
  · rw [if_pos h]
    split <;> rfl
theorem k_hasBlock {b n : Nat} (h : b < n) (hn : n < 2 ^ 31) : pX0_hasBlock (nI b) (nI n) = some (nI 1) := by
  unfold pX0_hasBlock
  simp (disch := omega) only [n_l0, n_l1, n_l2, n_l3, n_l4, n_l5, n_l6, n_l7, n_l8, n_l9, n_l15, n_l16, n_l17, n_l20, n_l24, n_l31, n_l32, n_l33, n_l36, n_l48, n_l49, n_l97, n_l128, n_l129, n_l192, n_l225, n_l256, n_l353, n_l400, n_l512, n_l593, n_l621, n_l640, n_l857, n_l1093, n_l1095, n_l2048, n_l3225, n_l10000, n_l22955, n_l29988, n_l29989, n_l65536, n_l99999, n_l1000000000, n_l2147483647, nI_add, pk_mul, pk_sub, pk_div, nI_clamp, ckN, nI_leI, nI_ltI, nI_eq, nI_nm1, Nat.add_zero, nI_addneg, k_ush, true_or, or_true, false_or, or_false, true_and, and_true, false_and, and_false, not_true_eq_false, not_false_eq_true, if_true, if_false, if_pos, if_neg, Option.bind_some]
theorem k_hasBlockO {v : Int32} {n : Nat} (h : inO v n) : pX0_hasBlock v (nI n) = some (nI 0) := by
  unfold pX0_hasBlock
  rcases h with h | h
  · rw [if_pos h]; rfl
  · rw [if_pos h]
    split <;> rfl
theorem k_hasPart {b n : Nat} (h : b < n) (hn : n < 2 ^ 31) : pX3_hasPart (nI b) (nI n) = some (nI 1) := by
  unfold pX3_hasPart
  simp (disch := omega) only [n_l0, n_l1, n_l2, n_l3, n_l4, n_l5, n_l6, n_l7, n_l8, n_l9, n_l15, n_l16, n_l17, n_l20, n_l24, n_l31, n_l32, n_l33, n_l36, n_l48, n_l49, n_l97, n_l128, n_l129, n_l192, n_l225, n_l256, n_l353, n_l400, n_l512, n_l593, n_l621, n_l640, n_l857, n_l1093, n_l1095, n_l2048, n_l3225, n_l10000, n_l22955, n_l29988, n_l29989, n_l65536, n_l99999, n_l1000000000, n_l2147483647, nI_add, pk_mul, pk_sub, pk_div, nI_clamp, ckN, nI_leI, nI_ltI, nI_eq, nI_nm1, Nat.add_zero, nI_addneg, k_ush, true_or, or_true, false_or, or_false, true_and, and_true, false_and, and_false, not_true_eq_false, not_false_eq_true, if_true, if_false, if_pos, if_neg, Option.bind_some]
theorem k_hasPartO {v : Int32} {n : Nat} (h : inO v n) : pX3_hasPart v (nI n) = some (nI 0) := by
  unfold pX3_hasPart
  rcases h with h | h
  · rw [if_pos h]; rfl
  · rw [if_pos h]
    split <;> rfl
/-- the block of a place -/
theorem blk_ex {p : Nat → Nat} : ∀ n k, k < sm p n → ∃ b, b < n ∧ sm p b ≤ k ∧ k < sm p (b + 1) := by
  intro n
  induction n with
  | zero => intro k hk; exact absurd hk (Nat.not_lt_zero k)
  | succ j ih =>
    intro k hk
    rcases Nat.lt_or_ge k (sm p j) with h | h
    · obtain ⟨b, hb, h2⟩ := ih k h
      exact ⟨b, by omega, h2⟩
    · exact ⟨j, by omega, h, hk⟩
theorem qs_congr {g h : Nat → Int32} (form : Nat) (s : Int32) (m : Nat) (e : ∀ i, i < m → g i = h i) (i : Nat) (hi : i < pcn form m) : qs form s g m i = qs form s h m i := by
  unfold qs; rw [pt_congr form s m e i hi]
theorem bse_congr {g h : Nat → Int32} {form m : Nat} (e : ∀ i, i < m → g i = h i) (hf : form = 0 ∨ 2 ≤ m) : bse form g m = bse form h m := by
  unfold bse
  split
  · exact lv_congr m e
  · exact e 0 (by omega)
section Ref
variable {a : Nat → Int32} {c : Nat} {C : AC}
theorem r_isPlace (hc : c < 3) (h : RCa a c C) (ho : OKC C) {k : Nat} (hk : k < HL C) : pX10_isPlace (nI c) (nI k) a = some (nI 1) := by
  unfold pX10_isPlace
  have hl := ho.2.1
  have e : sm (PL C) (NB C) = HL C := rfl
  simp (disch := omega) only [n_l0, n_l1, n_l2, n_l3, n_l4, n_l5, n_l6, n_l7, n_l8, n_l9, n_l15, n_l16, n_l17, n_l20, n_l24, n_l31, n_l32, n_l33, n_l36, n_l48, n_l49, n_l97, n_l128, n_l129, n_l192, n_l225, n_l256, n_l353, n_l400, n_l512, n_l593, n_l621, n_l640, n_l857, n_l1093, n_l1095, n_l2048, n_l3225, n_l10000, n_l22955, n_l29988, n_l29989, n_l65536, n_l99999, n_l1000000000, n_l2147483647, nI_add, pk_mul, pk_sub, pk_div, nI_clamp, ckN, nI_leI, nI_ltI, nI_eq, nI_nm1, Nat.add_zero, nI_addneg, k_ush, true_or, or_true, false_or, or_false, true_and, and_true, false_and, and_false, not_true_eq_false, not_false_eq_true, if_true, if_false, if_pos, if_neg, Option.bind_some, r_isCol hc, r_places hc h ho.1, e, r_isInT]
theorem r_isPlaceO (hc : c < 3) (h : RCa a c C) (ho : OKC C) {v : Int32} (hk : inO v (HL C)) : pX10_isPlace (nI c) v a = some (nI 0) := by
  unfold pX10_isPlace
  simp (disch := omega) only [n_l0, n_l1, n_l2, n_l3, n_l4, n_l5, n_l6, n_l7, n_l8, n_l9, n_l15, n_l16, n_l17, n_l20, n_l24, n_l31, n_l32, n_l33, n_l36, n_l48, n_l49, n_l97, n_l128, n_l129, n_l192, n_l225, n_l256, n_l353, n_l400, n_l512, n_l593, n_l621, n_l640, n_l857, n_l1093, n_l1095, n_l2048, n_l3225, n_l10000, n_l22955, n_l29988, n_l29989, n_l65536, n_l99999, n_l1000000000, n_l2147483647, nI_add, pk_mul, pk_sub, pk_div, nI_clamp, ckN, nI_leI, nI_ltI, nI_eq, nI_nm1, Nat.add_zero, nI_addneg, k_ush, true_or, or_true, false_or, or_false, true_and, and_true, false_and, and_false, not_true_eq_false, not_false_eq_true, if_true, if_false, if_pos, if_neg, Option.bind_some, r_isCol hc, r_places hc h ho.1]
  rw [show sm (PL C) (NB C) = HL C from rfl]
  simp (disch := omega) only [n_l0, n_l1, n_l2, n_l3, n_l4, n_l5, n_l6, n_l7, n_l8, n_l9, n_l15, n_l16, n_l17, n_l20, n_l24, n_l31, n_l32, n_l33, n_l36, n_l48, n_l49, n_l97, n_l128, n_l129, n_l192, n_l225, n_l256, n_l353, n_l400, n_l512, n_l593, n_l621, n_l640, n_l857, n_l1093, n_l1095, n_l2048, n_l3225, n_l10000, n_l22955, n_l29988, n_l29989, n_l65536, n_l99999, n_l1000000000, n_l2147483647, nI_add, pk_mul, pk_sub, pk_div, nI_clamp, ckN, nI_leI, nI_ltI, nI_eq, nI_nm1, Nat.add_zero, nI_addneg, k_ush, true_or, or_true, false_or, or_false, true_and, and_true, false_and, and_false, not_true_eq_false, not_false_eq_true, if_true, if_false, if_pos, if_neg, Option.bind_some, r_below (show HL C < 2 ^ 30 by have := ho.2.1; omega) hk]
theorem r_isBlock (hc : c < 3) (h : RCa a c C) (ho : OKC C) {b : Nat} (hb : b < NB C) : pX10_isBlock (nI c) (nI b) a = some (nI 1) := by
  unfold pX10_isBlock
  have hn := ho.1
  simp (disch := omega) only [n_l0, n_l1, n_l2, n_l3, n_l4, n_l5, n_l6, n_l7, n_l8, n_l9, n_l15, n_l16, n_l17, n_l20, n_l24, n_l31, n_l32, n_l33, n_l36, n_l48, n_l49, n_l97, n_l128, n_l129, n_l192, n_l225, n_l256, n_l353, n_l400, n_l512, n_l593, n_l621, n_l640, n_l857, n_l1093, n_l1095, n_l2048, n_l3225, n_l10000, n_l22955, n_l29988, n_l29989, n_l65536, n_l99999, n_l1000000000, n_l2147483647, nI_add, pk_mul, pk_sub, pk_div, nI_clamp, ckN, nI_leI, nI_ltI, nI_eq, nI_nm1, Nat.add_zero, nI_addneg, k_ush, true_or, or_true, false_or, or_false, true_and, and_true, false_and, and_false, not_true_eq_false, not_false_eq_true, if_true, if_false, if_pos, if_neg, Option.bind_some, r_isCol hc, r_blocks hc h, r_isInT]
theorem r_isBlockO (hc : c < 3) (h : RCa a c C) (ho : OKC C) {v : Int32} (hk : inO v (NB C)) : pX10_isBlock (nI c) v a = some (nI 0) := by
  unfold pX10_isBlock
  simp (disch := omega) only [n_l0, n_l1, n_l2, n_l3, n_l4, n_l5, n_l6, n_l7, n_l8, n_l9, n_l15, n_l16, n_l17, n_l20, n_l24, n_l31, n_l32, n_l33, n_l36, n_l48, n_l49, n_l97, n_l128, n_l129, n_l192, n_l225, n_l256, n_l353, n_l400, n_l512, n_l593, n_l621, n_l640, n_l857, n_l1093, n_l1095, n_l2048, n_l3225, n_l10000, n_l22955, n_l29988, n_l29989, n_l65536, n_l99999, n_l1000000000, n_l2147483647, nI_add, pk_mul, pk_sub, pk_div, nI_clamp, ckN, nI_leI, nI_ltI, nI_eq, nI_nm1, Nat.add_zero, nI_addneg, k_ush, true_or, or_true, false_or, or_false, true_and, and_true, false_and, and_false, not_true_eq_false, not_false_eq_true, if_true, if_false, if_pos, if_neg, Option.bind_some, r_isCol hc, r_blocks hc h, r_below (show NB C < 2 ^ 30 by have := ho.1; omega) hk]
theorem r_isPlaceC {v w : Int32} (h : v < 0 ∨ nI 3 ≤ v) : pX10_isPlace v w a = some (nI 0) := by
  unfold pX10_isPlace
  simp (disch := omega) only [n_l0, n_l1, n_l2, n_l3, n_l4, n_l5, n_l6, n_l7, n_l8, n_l9, n_l15, n_l16, n_l17, n_l20, n_l24, n_l31, n_l32, n_l33, n_l36, n_l48, n_l49, n_l97, n_l128, n_l129, n_l192, n_l225, n_l256, n_l353, n_l400, n_l512, n_l593, n_l621, n_l640, n_l857, n_l1093, n_l1095, n_l2048, n_l3225, n_l10000, n_l22955, n_l29988, n_l29989, n_l65536, n_l99999, n_l1000000000, n_l2147483647, nI_add, pk_mul, pk_sub, pk_div, nI_clamp, ckN, nI_leI, nI_ltI, nI_eq, nI_nm1, Nat.add_zero, nI_addneg, k_ush, true_or, or_true, false_or, or_false, true_and, and_true, false_and, and_false, not_true_eq_false, not_false_eq_true, if_true, if_false, if_pos, if_neg, Option.bind_some, r_isColO h]
theorem r_isBlockC {v w : Int32} (h : v < 0 ∨ nI 3 ≤ v) : pX10_isBlock v w a = some (nI 0) := by
  unfold pX10_isBlock
  simp (disch := omega) only [n_l0, n_l1, n_l2, n_l3, n_l4, n_l5, n_l6, n_l7, n_l8, n_l9, n_l15, n_l16, n_l17, n_l20, n_l24, n_l31, n_l32, n_l33, n_l36, n_l48, n_l49, n_l97, n_l128, n_l129, n_l192, n_l225, n_l256, n_l353, n_l400, n_l512, n_l593, n_l621, n_l640, n_l857, n_l1093, n_l1095, n_l2048, n_l3225, n_l10000, n_l22955, n_l29988, n_l29989, n_l65536, n_l99999, n_l1000000000, n_l2147483647, nI_add, pk_mul, pk_sub, pk_div, nI_clamp, ckN, nI_leI, nI_ltI, nI_eq, nI_nm1, Nat.add_zero, nI_addneg, k_ush, true_or, or_true, false_or, or_false, true_and, and_true, false_and, and_false, not_true_eq_false, not_false_eq_true, if_true, if_false, if_pos, if_neg, Option.bind_some, r_isColO h]
theorem r_blockWith (hc : c < 3) (h : RCa a c C) (hn : NB C ≤ 24) (hl : HL C ≤ 128) {b k : Nat} (hb : b < NB C) (h1 : sm (PL C) b ≤ k) (h2 : k < sm (PL C) (b + 1)) : pX10_blockWith (nI c) (nI k) a = some (nI b) := by
  have hm := sm_lt2 hb
  have hs : sm (PL C) (b + 1) = sm (PL C) b + PL C b := rfl
  have e := lpF (body := pX10_blockWith_b2 (nI c) (nI k) a) (r := nI b) (fun j => nI j) b (nI 0) rfl (fun j hj => by
      have h3 := sm_mono (p := PL C) (show j + 1 ≤ b by omega)
      unfold pX10_blockWith_b2
      simp (disch := omega) only [n_l0, n_l1, n_l2, n_l3, n_l4, n_l5, n_l6, n_l7, n_l8, n_l9, n_l15, n_l16, n_l17, n_l20, n_l24, n_l31, n_l32, n_l33, n_l36, n_l48, n_l49, n_l97, n_l128, n_l129, n_l192, n_l225, n_l256, n_l353, n_l400, n_l512, n_l593, n_l621, n_l640, n_l857, n_l1093, n_l1095, n_l2048, n_l3225, n_l10000, n_l22955, n_l29988, n_l29989, n_l65536, n_l99999, n_l1000000000, n_l2147483647, nI_add, pk_mul, pk_sub, pk_div, nI_clamp, ckN, nI_leI, nI_ltI, nI_eq, nI_nm1, Nat.add_zero, nI_addneg, k_ush, true_or, or_true, false_or, or_false, true_and, and_true, false_and, and_false, not_true_eq_false, not_false_eq_true, if_true, if_false, if_pos, if_neg, Option.bind_some, r_firstOf hc h (show j + 1 ≤ NB C by omega) hn]) (by
      unfold pX10_blockWith_b2
      simp (disch := omega) only [n_l0, n_l1, n_l2, n_l3, n_l4, n_l5, n_l6, n_l7, n_l8, n_l9, n_l15, n_l16, n_l17, n_l20, n_l24, n_l31, n_l32, n_l33, n_l36, n_l48, n_l49, n_l97, n_l128, n_l129, n_l192, n_l225, n_l256, n_l353, n_l400, n_l512, n_l593, n_l621, n_l640, n_l857, n_l1093, n_l1095, n_l2048, n_l3225, n_l10000, n_l22955, n_l29988, n_l29989, n_l65536, n_l99999, n_l1000000000, n_l2147483647, nI_add, pk_mul, pk_sub, pk_div, nI_clamp, ckN, nI_leI, nI_ltI, nI_eq, nI_nm1, Nat.add_zero, nI_addneg, k_ush, true_or, or_true, false_or, or_false, true_and, and_true, false_and, and_false, not_true_eq_false, not_false_eq_true, if_true, if_false, if_pos, if_neg, Option.bind_some, r_firstOf hc h (show b + 1 ≤ NB C by omega) hn])
  unfold pX10_blockWith
  simp (disch := omega) only [n_l0, n_l1, n_l2, n_l3, n_l4, n_l5, n_l6, n_l7, n_l8, n_l9, n_l15, n_l16, n_l17, n_l20, n_l24, n_l31, n_l32, n_l33, n_l36, n_l48, n_l49, n_l97, n_l128, n_l129, n_l192, n_l225, n_l256, n_l353, n_l400, n_l512, n_l593, n_l621, n_l640, n_l857, n_l1093, n_l1095, n_l2048, n_l3225, n_l10000, n_l22955, n_l29988, n_l29989, n_l65536, n_l99999, n_l1000000000, n_l2147483647, nI_add, pk_mul, pk_sub, pk_div, nI_clamp, ckN, nI_leI, nI_ltI, nI_eq, nI_nm1, Nat.add_zero, nI_addneg, k_ush, true_or, or_true, false_or, or_false, true_and, and_true, false_and, and_false, not_true_eq_false, not_false_eq_true, if_true, if_false, if_pos, if_neg, Option.bind_some, e]
variable (xv xw xp xs : Int32) (vs : Nat → Int32) (ps : Nat → Int64)
theorem r_tb (hc : c < 3) (h : RCa a c C) (ho : OKC C) {b : Nat} (hb : b < NB C) : ∃ g, pX10_takeBlock (nI c) (nI b) xv xw a vs = some (nI (cm C b), nI (PL C b), g) ∧ ∀ i, i < cm C b → g i = cg C b i :=
  r_takeBlock hc h ho.1 ho.2.1 hb (ho.2.2 b hb).2.1 xv xw vs
theorem r_layBlock (hc : c < 3) (h : RCa a c C) (ho : OKC C) {b : Nat} (hb : b < NB C) : ∃ z, pX10_layBlock (nI c) (nI b) xv xw xp xs a vs ps = some z ∧ z.1 = nI (cm C b) ∧ z.2.1 = nI (PL C b) ∧ z.2.2.1 = nI (cp C b) ∧ z.2.2.2.1 = ST C b ∧ (∀ i, i < cm C b → z.2.2.2.2.1 i = cg C b i) ∧ ∀ i, i < cp C b → z.2.2.2.2.2 i = lN (cq C b i) := by
  obtain ⟨g, e, hg⟩ := r_tb xv xw vs hc h ho hb
  obtain ⟨_, h2, h3, _, h5, _, _⟩ := ho.2.2 b hb
  have hm := cm_le C b
  obtain ⟨q, e2, hq⟩ := r_layParts (form := FM C b) (m := cm C b) h3 (by omega) xp (ST C b) g ps
  unfold pX10_layBlock
  simp (disch := omega) only [n_l0, n_l1, n_l2, n_l3, n_l4, n_l5, n_l6, n_l7, n_l8, n_l9, n_l15, n_l16, n_l17, n_l20, n_l24, n_l31, n_l32, n_l33, n_l36, n_l48, n_l49, n_l97, n_l128, n_l129, n_l192, n_l225, n_l256, n_l353, n_l400, n_l512, n_l593, n_l621, n_l640, n_l857, n_l1093, n_l1095, n_l2048, n_l3225, n_l10000, n_l22955, n_l29988, n_l29989, n_l65536, n_l99999, n_l1000000000, n_l2147483647, nI_add, pk_mul, pk_sub, pk_div, nI_clamp, ckN, nI_leI, nI_ltI, nI_eq, nI_nm1, Nat.add_zero, nI_addneg, k_ush, true_or, or_true, false_or, or_false, true_and, and_true, false_and, and_false, not_true_eq_false, not_false_eq_true, if_true, if_false, if_pos, if_neg, Option.bind_some, e, r_ofSt hc h hb ho.1, r_ofFm hc h hb ho.1, e2]
  refine ⟨_, rfl, rfl, rfl, rfl, rfl, hg, fun i hi => ?_⟩
  show q i = _
  rw [hq i hi, qs_congr _ _ _ hg i hi]
  rfl
theorem r_bitsOfBlock (hc : c < 3) (h : RCa a c C) (ho : OKC C) {b : Nat} (hb : b < NB C) : ∃ z, pX10_bitsOfBlock (nI c) (nI b) xv xw xp xs a vs ps = some z ∧ z.1 = nI (ct C b) := by
  obtain ⟨z, e, h1, h2, h3, _, _, h6⟩ := r_layBlock xv xw xp xs vs ps hc h ho hb
  obtain ⟨_, o2, o3, o4, o5, o6, _⟩ := ho.2.2 b hb
  have hm := cm_le C b
  have hp := cp_le C b
  have e2 := r_totalBy (form := FM C b) (w := WD C b) (n := PL C b) (m := cm C b) (pc := cp C b) (q := cq C b) o3 o4 o2 (by omega) (by omega) (fun i hi => ⟨qs_lt _ _ _ _ _, h6 i hi⟩)
  rw [if_pos (show exc (WD C b) (cq C b) (cp C b) ≤ 15 from o6)] at e2
  unfold pX10_bitsOfBlock
  simp (disch := omega) only [n_l0, n_l1, n_l2, n_l3, n_l4, n_l5, n_l6, n_l7, n_l8, n_l9, n_l15, n_l16, n_l17, n_l20, n_l24, n_l31, n_l32, n_l33, n_l36, n_l48, n_l49, n_l97, n_l128, n_l129, n_l192, n_l225, n_l256, n_l353, n_l400, n_l512, n_l593, n_l621, n_l640, n_l857, n_l1093, n_l1095, n_l2048, n_l3225, n_l10000, n_l22955, n_l29988, n_l29989, n_l65536, n_l99999, n_l1000000000, n_l2147483647, nI_add, pk_mul, pk_sub, pk_div, nI_clamp, ckN, nI_leI, nI_ltI, nI_eq, nI_nm1, Nat.add_zero, nI_addneg, k_ush, true_or, or_true, false_or, or_false, true_and, and_true, false_and, and_false, not_true_eq_false, not_false_eq_true, if_true, if_false, if_pos, if_neg, Option.bind_some, e, r_ofFm hc h hb ho.1, r_ofWd hc h hb ho.1, h1, h2, h3, e2]
  exact ⟨_, rfl, rfl⟩
theorem r_exceptionsOf (hc : c < 3) (h : RCa a c C) (ho : OKC C) {b : Nat} (hb : b < NB C) : ∃ z, pX10_exceptionsOf (nI c) (nI b) xv xw xp xs a vs ps = some z ∧ z.1 = nI (ce C b) := by
  obtain ⟨z, e, h1, h2, h3, _, _, h6⟩ := r_layBlock xv xw xp xs vs ps hc h ho hb
  obtain ⟨_, o2, o3, o4, o5, o6, _⟩ := ho.2.2 b hb
  have hm := cm_le C b
  have hp := cp_le C b
  unfold pX10_exceptionsOf
  simp (disch := omega) only [n_l0, n_l1, n_l2, n_l3, n_l4, n_l5, n_l6, n_l7, n_l8, n_l9, n_l15, n_l16, n_l17, n_l20, n_l24, n_l31, n_l32, n_l33, n_l36, n_l48, n_l49, n_l97, n_l128, n_l129, n_l192, n_l225, n_l256, n_l353, n_l400, n_l512, n_l593, n_l621, n_l640, n_l857, n_l1093, n_l1095, n_l2048, n_l3225, n_l10000, n_l22955, n_l29988, n_l29989, n_l65536, n_l99999, n_l1000000000, n_l2147483647, nI_add, pk_mul, pk_sub, pk_div, nI_clamp, ckN, nI_leI, nI_ltI, nI_eq, nI_nm1, Nat.add_zero, nI_addneg, k_ush, true_or, or_true, false_or, or_false, true_and, and_true, false_and, and_false, not_true_eq_false, not_false_eq_true, if_true, if_false, if_pos, if_neg, Option.bind_some, e, r_ofWd hc h hb ho.1, h3, r_exceptionsBy (q := cq C b) o4 (show cp C b ≤ 16 by omega) (fun i hi => ⟨qs_lt _ _ _ _ _, h6 i hi⟩)]
  exact ⟨_, rfl, rfl⟩
theorem r_baseOf (hc : c < 3) (h : RCa a c C) (ho : OKC C) {b : Nat} (hb : b < NB C) : ∃ z, pX10_baseOf (nI c) (nI b) xv xw a vs = some z ∧ z.1 = cb C b ∧ z.2.1 = nI (cm C b) ∧ z.2.2.1 = nI (PL C b) ∧ ∀ i, i < cm C b → z.2.2.2 i = cg C b i := by
  obtain ⟨g, e, hg⟩ := r_tb xv xw vs hc h ho hb
  obtain ⟨_, o2, o3, o4, o5, o6, _⟩ := ho.2.2 b hb
  have hm := cm_le C b
  have hbs := bse_congr (form := FM C b) hg o5
  unfold pX10_baseOf
  by_cases h0 : FM C b = 0
  · have h9 : bse (FM C b) g (cm C b) = lv g (cm C b) := if_pos h0
    simp (disch := omega) only [n_l0, n_l1, n_l2, n_l3, n_l4, n_l5, n_l6, n_l7, n_l8, n_l9, n_l15, n_l16, n_l17, n_l20, n_l24, n_l31, n_l32, n_l33, n_l36, n_l48, n_l49, n_l97, n_l128, n_l129, n_l192, n_l225, n_l256, n_l353, n_l400, n_l512, n_l593, n_l621, n_l640, n_l857, n_l1093, n_l1095, n_l2048, n_l3225, n_l10000, n_l22955, n_l29988, n_l29989, n_l65536, n_l99999, n_l1000000000, n_l2147483647, nI_add, pk_mul, pk_sub, pk_div, nI_clamp, ckN, nI_leI, nI_ltI, nI_eq, nI_nm1, Nat.add_zero, nI_addneg, k_ush, true_or, or_true, false_or, or_false, true_and, and_true, false_and, and_false, not_true_eq_false, not_false_eq_true, if_true, if_false, if_pos, if_neg, Option.bind_some, e, r_ofFm hc h hb ho.1, h0, r_leastValue (show cm C b ≤ 16 by omega)]
    exact ⟨_, rfl, by show lv g (cm C b) = _; rw [← h9, hbs]; rfl, rfl, rfl, hg⟩
  · have h9 : bse (FM C b) g (cm C b) = g 0 := if_neg h0
    simp (disch := omega) only [n_l0, n_l1, n_l2, n_l3, n_l4, n_l5, n_l6, n_l7, n_l8, n_l9, n_l15, n_l16, n_l17, n_l20, n_l24, n_l31, n_l32, n_l33, n_l36, n_l48, n_l49, n_l97, n_l128, n_l129, n_l192, n_l225, n_l256, n_l353, n_l400, n_l512, n_l593, n_l621, n_l640, n_l857, n_l1093, n_l1095, n_l2048, n_l3225, n_l10000, n_l22955, n_l29988, n_l29989, n_l65536, n_l99999, n_l1000000000, n_l2147483647, nI_add, pk_mul, pk_sub, pk_div, nI_clamp, ckN, nI_leI, nI_ltI, nI_eq, nI_nm1, Nat.add_zero, nI_addneg, k_ush, true_or, or_true, false_or, or_false, true_and, and_true, false_and, and_false, not_true_eq_false, not_false_eq_true, if_true, if_false, if_pos, if_neg, Option.bind_some, e, r_ofFm hc h hb ho.1]
    exact ⟨_, rfl, by show g 0 = _; rw [← h9, hbs]; rfl, rfl, rfl, hg⟩
theorem r_bitsOfColumn (hc : c < 3) (h : RCa a c C) (ho : OKC C) : ∃ z, pX10_bitsOfColumn (nI c) xv xw xp xs a vs ps = some z ∧ z.1 = nI (sm (ct C) (NB C)) := by
  obtain ⟨r, e, hr⟩ := lpE (body := pX10_bitsOfColumn_b4 (nI c) a) (fun k s => s.1 = nI (sm (ct C) k) ∧ s.2.1 = nI k) (fun r => r.1 = nI (sm (ct C) (NB C))) (NB C) (nI 0, nI 0, xv, xw, xp, xs, vs, ps) ⟨rfl, rfl⟩ (fun k s hk hI => by
    obtain ⟨s1, s2, s3, s4, s5, s6, s7, s8⟩ := s
    obtain ⟨rfl, rfl⟩ := hI
    have hn := ho.1
    unfold pX10_bitsOfColumn_b4
    rcases Nat.lt_or_ge k (NB C) with h3 | h3
    · refine Or.inl ?_
      obtain ⟨z, ez, hz⟩ := r_bitsOfBlock s3 s4 s5 s6 s7 s8 hc h ho h3
      simp (disch := omega) only [n_l0, n_l1, n_l2, n_l3, n_l4, n_l5, n_l6, n_l7, n_l8, n_l9, n_l15, n_l16, n_l17, n_l20, n_l24, n_l31, n_l32, n_l33, n_l36, n_l48, n_l49, n_l97, n_l128, n_l129, n_l192, n_l225, n_l256, n_l353, n_l400, n_l512, n_l593, n_l621, n_l640, n_l857, n_l1093, n_l1095, n_l2048, n_l3225, n_l10000, n_l22955, n_l29988, n_l29989, n_l65536, n_l99999, n_l1000000000, n_l2147483647, nI_add, pk_mul, pk_sub, pk_div, nI_clamp, ckN, nI_leI, nI_ltI, nI_eq, nI_nm1, Nat.add_zero, nI_addneg, k_ush, true_or, or_true, false_or, or_false, true_and, and_true, false_and, and_false, not_true_eq_false, not_false_eq_true, if_true, if_false, if_pos, if_neg, Option.bind_some, r_blocks hc h, ez, hz]
      exact ⟨_, rfl, h3, rfl, rfl⟩
    · obtain rfl : k = NB C := by omega
      refine Or.inr ?_
      simp (disch := omega) only [n_l0, n_l1, n_l2, n_l3, n_l4, n_l5, n_l6, n_l7, n_l8, n_l9, n_l15, n_l16, n_l17, n_l20, n_l24, n_l31, n_l32, n_l33, n_l36, n_l48, n_l49, n_l97, n_l128, n_l129, n_l192, n_l225, n_l256, n_l353, n_l400, n_l512, n_l593, n_l621, n_l640, n_l857, n_l1093, n_l1095, n_l2048, n_l3225, n_l10000, n_l22955, n_l29988, n_l29989, n_l65536, n_l99999, n_l1000000000, n_l2147483647, nI_add, pk_mul, pk_sub, pk_div, nI_clamp, ckN, nI_leI, nI_ltI, nI_eq, nI_nm1, Nat.add_zero, nI_addneg, k_ush, true_or, or_true, false_or, or_false, true_and, and_true, false_and, and_false, not_true_eq_false, not_false_eq_true, if_true, if_false, if_pos, if_neg, Option.bind_some, r_blocks hc h]
      exact ⟨_, rfl, rfl⟩) (by have := ho.1; omega)
  unfold pX10_bitsOfColumn
  simp (disch := omega) only [n_l0, n_l1, n_l2, n_l3, n_l4, n_l5, n_l6, n_l7, n_l8, n_l9, n_l15, n_l16, n_l17, n_l20, n_l24, n_l31, n_l32, n_l33, n_l36, n_l48, n_l49, n_l97, n_l128, n_l129, n_l192, n_l225, n_l256, n_l353, n_l400, n_l512, n_l593, n_l621, n_l640, n_l857, n_l1093, n_l1095, n_l2048, n_l3225, n_l10000, n_l22955, n_l29988, n_l29989, n_l65536, n_l99999, n_l1000000000, n_l2147483647, nI_add, pk_mul, pk_sub, pk_div, nI_clamp, ckN, nI_leI, nI_ltI, nI_eq, nI_nm1, Nat.add_zero, nI_addneg, k_ush, true_or, or_true, false_or, or_false, true_and, and_true, false_and, and_false, not_true_eq_false, not_false_eq_true, if_true, if_false, if_pos, if_neg, Option.bind_some, e]
  exact ⟨_, rfl, hr⟩
variable (xf xu xt xb : Int32)
theorem r_bestOf (hc : c < 3) (h : RCa a c C) (hl : HL C ≤ 128) {f n : Nat} (hf : f + n ≤ HL C) (hn : n ≤ 16) : ∃ z, pX10_bestOf (nI c) (nI f) (nI n) xv xw xp xs xf xu xt xb a vs ps = some z ∧ z.1 = nI (bst n (cnt (TV C) f n) (val (TV C) f n)).2.2 := by
  obtain ⟨g, e, hg⟩ := r_take hc h hl hf hn xv xw vs
  have hm := cnt_le (TV C) f n
  obtain ⟨z, e2, _, _, h3, _⟩ := r_findBest (n := n) (m := cnt (TV C) f n) hn (by omega) xp xs xf xu xt xb g ps
  rw [bst_congr hg] at h3
  unfold pX10_bestOf
  simp (disch := omega) only [n_l0, n_l1, n_l2, n_l3, n_l4, n_l5, n_l6, n_l7, n_l8, n_l9, n_l15, n_l16, n_l17, n_l20, n_l24, n_l31, n_l32, n_l33, n_l36, n_l48, n_l49, n_l97, n_l128, n_l129, n_l192, n_l225, n_l256, n_l353, n_l400, n_l512, n_l593, n_l621, n_l640, n_l857, n_l1093, n_l1095, n_l2048, n_l3225, n_l10000, n_l22955, n_l29988, n_l29989, n_l65536, n_l99999, n_l1000000000, n_l2147483647, nI_add, pk_mul, pk_sub, pk_div, nI_clamp, ckN, nI_leI, nI_ltI, nI_eq, nI_nm1, Nat.add_zero, nI_addneg, k_ush, true_or, or_true, false_or, or_false, true_and, and_true, false_and, and_false, not_true_eq_false, not_false_eq_true, if_true, if_false, if_pos, if_neg, Option.bind_some, e, e2]
  exact ⟨_, rfl, h3⟩
end Ref
/-! ===== the class's column ===== -/
section Cls
variable {tl : Nat → Int64} {fc : Nat → Int32} {C : AC}
theorem k_fact {b w n : Nat} (hb : b < n) (hn : n ≤ 24) (hw : w < 8) : pX0_fact (nI b) (nI w) (nI n) fc = some (fc (b * 8 + w)) := by
  unfold pX0_fact
  simp (disch := omega) only [n_l0, n_l1, n_l2, n_l3, n_l4, n_l5, n_l6, n_l7, n_l8, n_l9, n_l15, n_l16, n_l17, n_l20, n_l24, n_l31, n_l32, n_l33, n_l36, n_l48, n_l49, n_l97, n_l128, n_l129, n_l192, n_l225, n_l256, n_l353, n_l400, n_l512, n_l593, n_l621, n_l640, n_l857, n_l1093, n_l1095, n_l2048, n_l3225, n_l10000, n_l22955, n_l29988, n_l29989, n_l65536, n_l99999, n_l1000000000, n_l2147483647, nI_add, pk_mul, pk_sub, pk_div, nI_clamp, ckN, nI_leI, nI_ltI, nI_eq, nI_nm1, Nat.add_zero, nI_addneg, k_ush, true_or, or_true, false_or, or_false, true_and, and_true, false_and, and_false, not_true_eq_false, not_false_eq_true, if_true, if_false, if_pos, if_neg, Option.bind_some, k_hasBlock hb (show n < 2 ^ 31 by omega)]
theorem k_factO {v w : Int32} {n : Nat} (h : inO v n) : pX0_fact v w (nI n) fc = some (nI 0) := by
  unfold pX0_fact
  simp (disch := omega) only [n_l0, n_l1, n_l2, n_l3, n_l4, n_l5, n_l6, n_l7, n_l8, n_l9, n_l15, n_l16, n_l17, n_l20, n_l24, n_l31, n_l32, n_l33, n_l36, n_l48, n_l49, n_l97, n_l128, n_l129, n_l192, n_l225, n_l256, n_l353, n_l400, n_l512, n_l593, n_l621, n_l640, n_l857, n_l1093, n_l1095, n_l2048, n_l3225, n_l10000, n_l22955, n_l29988, n_l29989, n_l65536, n_l99999, n_l1000000000, n_l2147483647, nI_add, pk_mul, pk_sub, pk_div, nI_clamp, ckN, nI_leI, nI_ltI, nI_eq, nI_nm1, Nat.add_zero, nI_addneg, k_ush, true_or, or_true, false_or, or_false, true_and, and_true, false_and, and_false, not_true_eq_false, not_false_eq_true, if_true, if_false, if_pos, if_neg, Option.bind_some, k_hasBlockO h]
theorem k_all {w n : Nat} {f : Nat → Nat} (hn : n ≤ 24) (hw : w < 8) (h : ∀ b, b < n → fc (b * 8 + w) = nI (f b)) : pX0_all (nI w) (nI n) fc = some (nI (sm f n)) := by
  have e := lpF (body := pX0_all_b4 (nI w) (nI n) fc) (r := (nI (sm f n), nI n)) (fun k => (nI (sm f k), nI k)) n (nI 0, nI 0) rfl (fun k hk => by
      unfold pX0_all_b4
      simp (disch := omega) only [n_l0, n_l1, n_l2, n_l3, n_l4, n_l5, n_l6, n_l7, n_l8, n_l9, n_l15, n_l16, n_l17, n_l20, n_l24, n_l31, n_l32, n_l33, n_l36, n_l48, n_l49, n_l97, n_l128, n_l129, n_l192, n_l225, n_l256, n_l353, n_l400, n_l512, n_l593, n_l621, n_l640, n_l857, n_l1093, n_l1095, n_l2048, n_l3225, n_l10000, n_l22955, n_l29988, n_l29989, n_l65536, n_l99999, n_l1000000000, n_l2147483647, nI_add, pk_mul, pk_sub, pk_div, nI_clamp, ckN, nI_leI, nI_ltI, nI_eq, nI_nm1, Nat.add_zero, nI_addneg, k_ush, true_or, or_true, false_or, or_false, true_and, and_true, false_and, and_false, not_true_eq_false, not_false_eq_true, if_true, if_false, if_pos, if_neg, Option.bind_some, k_fact hk hn hw, h k hk, sm]) (by
      unfold pX0_all_b4
      simp (disch := omega) only [n_l0, n_l1, n_l2, n_l3, n_l4, n_l5, n_l6, n_l7, n_l8, n_l9, n_l15, n_l16, n_l17, n_l20, n_l24, n_l31, n_l32, n_l33, n_l36, n_l48, n_l49, n_l97, n_l128, n_l129, n_l192, n_l225, n_l256, n_l353, n_l400, n_l512, n_l593, n_l621, n_l640, n_l857, n_l1093, n_l1095, n_l2048, n_l3225, n_l10000, n_l22955, n_l29988, n_l29989, n_l65536, n_l99999, n_l1000000000, n_l2147483647, nI_add, pk_mul, pk_sub, pk_div, nI_clamp, ckN, nI_leI, nI_ltI, nI_eq, nI_nm1, Nat.add_zero, nI_addneg, k_ush, true_or, or_true, false_or, or_false, true_and, and_true, false_and, and_false, not_true_eq_false, not_false_eq_true, if_true, if_false, if_pos, if_neg, Option.bind_some])
  unfold pX0_all
  simp (disch := omega) only [n_l0, n_l1, n_l2, n_l3, n_l4, n_l5, n_l6, n_l7, n_l8, n_l9, n_l15, n_l16, n_l17, n_l20, n_l24, n_l31, n_l32, n_l33, n_l36, n_l48, n_l49, n_l97, n_l128, n_l129, n_l192, n_l225, n_l256, n_l353, n_l400, n_l512, n_l593, n_l621, n_l640, n_l857, n_l1093, n_l1095, n_l2048, n_l3225, n_l10000, n_l22955, n_l29988, n_l29989, n_l65536, n_l99999, n_l1000000000, n_l2147483647, nI_add, pk_mul, pk_sub, pk_div, nI_clamp, ckN, nI_leI, nI_ltI, nI_eq, nI_nm1, Nat.add_zero, nI_addneg, k_ush, true_or, or_true, false_or, or_false, true_and, and_true, false_and, and_false, not_true_eq_false, not_false_eq_true, if_true, if_false, if_pos, if_neg, Option.bind_some, e]
theorem k_firstOf (hn : NB C ≤ 24) (h : KP fc C) {b : Nat} (hb : b ≤ NB C) : pX0_firstOf (nI b) (nI (NB C)) fc = some (nI (sm (PL C) b)) := by
  have e := lpF (body := pX0_firstOf_b4 (nI b) (nI (NB C)) fc) (r := (nI (sm (PL C) b), nI b)) (fun k => (nI (sm (PL C) k), nI k)) b (nI 0, nI 0) rfl (fun k hk => by
      unfold pX0_firstOf_b4
      simp (disch := omega) only [n_l0, n_l1, n_l2, n_l3, n_l4, n_l5, n_l6, n_l7, n_l8, n_l9, n_l15, n_l16, n_l17, n_l20, n_l24, n_l31, n_l32, n_l33, n_l36, n_l48, n_l49, n_l97, n_l128, n_l129, n_l192, n_l225, n_l256, n_l353, n_l400, n_l512, n_l593, n_l621, n_l640, n_l857, n_l1093, n_l1095, n_l2048, n_l3225, n_l10000, n_l22955, n_l29988, n_l29989, n_l65536, n_l99999, n_l1000000000, n_l2147483647, nI_add, pk_mul, pk_sub, pk_div, nI_clamp, ckN, nI_leI, nI_ltI, nI_eq, nI_nm1, Nat.add_zero, nI_addneg, k_ush, true_or, or_true, false_or, or_false, true_and, and_true, false_and, and_false, not_true_eq_false, not_false_eq_true, if_true, if_false, if_pos, if_neg, Option.bind_some, k_fact (fc := fc) (show k < NB C by omega) hn (show 0 < 8 by omega), h k (by omega), sm]) (by
      unfold pX0_firstOf_b4
      simp (disch := omega) only [n_l0, n_l1, n_l2, n_l3, n_l4, n_l5, n_l6, n_l7, n_l8, n_l9, n_l15, n_l16, n_l17, n_l20, n_l24, n_l31, n_l32, n_l33, n_l36, n_l48, n_l49, n_l97, n_l128, n_l129, n_l192, n_l225, n_l256, n_l353, n_l400, n_l512, n_l593, n_l621, n_l640, n_l857, n_l1093, n_l1095, n_l2048, n_l3225, n_l10000, n_l22955, n_l29988, n_l29989, n_l65536, n_l99999, n_l1000000000, n_l2147483647, nI_add, pk_mul, pk_sub, pk_div, nI_clamp, ckN, nI_leI, nI_ltI, nI_eq, nI_nm1, Nat.add_zero, nI_addneg, k_ush, true_or, or_true, false_or, or_false, true_and, and_true, false_and, and_false, not_true_eq_false, not_false_eq_true, if_true, if_false, if_pos, if_neg, Option.bind_some])
  unfold pX0_firstOf
  simp (disch := omega) only [n_l0, n_l1, n_l2, n_l3, n_l4, n_l5, n_l6, n_l7, n_l8, n_l9, n_l15, n_l16, n_l17, n_l20, n_l24, n_l31, n_l32, n_l33, n_l36, n_l48, n_l49, n_l97, n_l128, n_l129, n_l192, n_l225, n_l256, n_l353, n_l400, n_l512, n_l593, n_l621, n_l640, n_l857, n_l1093, n_l1095, n_l2048, n_l3225, n_l10000, n_l22955, n_l29988, n_l29989, n_l65536, n_l99999, n_l1000000000, n_l2147483647, nI_add, pk_mul, pk_sub, pk_div, nI_clamp, ckN, nI_leI, nI_ltI, nI_eq, nI_nm1, Nat.add_zero, nI_addneg, k_ush, true_or, or_true, false_or, or_false, true_and, and_true, false_and, and_false, not_true_eq_false, not_false_eq_true, if_true, if_false, if_pos, if_neg, Option.bind_some, e]
theorem k_holderOf (hn : NB C ≤ 24) (hl : HL C ≤ 128) (h : KP fc C) {b k : Nat} (hb : b < NB C) (h1 : sm (PL C) b ≤ k) (h2 : k < sm (PL C) (b + 1)) : pX0_holderOf (nI k) (nI (NB C)) (nI (HL C)) fc = some (nI b) := by
  have hm := sm_lt2 hb
  have hs : sm (PL C) (b + 1) = sm (PL C) b + PL C b := rfl
  have e := lpF (body := pX0_holderOf_b17 (nI k) (nI (NB C)) fc) (r := .inr (nI b)) (fun j => (nI (sm (PL C) j), nI j)) b (nI 0, nI 0) rfl (fun j hj => by
      have h3 := sm_mono (p := PL C) (show j + 1 ≤ b by omega)
      have h4 : sm (PL C) (j + 1) = sm (PL C) j + PL C j := rfl
      unfold pX0_holderOf_b17
      simp (disch := omega) only [n_l0, n_l1, n_l2, n_l3, n_l4, n_l5, n_l6, n_l7, n_l8, n_l9, n_l15, n_l16, n_l17, n_l20, n_l24, n_l31, n_l32, n_l33, n_l36, n_l48, n_l49, n_l97, n_l128, n_l129, n_l192, n_l225, n_l256, n_l353, n_l400, n_l512, n_l593, n_l621, n_l640, n_l857, n_l1093, n_l1095, n_l2048, n_l3225, n_l10000, n_l22955, n_l29988, n_l29989, n_l65536, n_l99999, n_l1000000000, n_l2147483647, nI_add, pk_mul, pk_sub, pk_div, nI_clamp, ckN, nI_leI, nI_ltI, nI_eq, nI_nm1, Nat.add_zero, nI_addneg, k_ush, true_or, or_true, false_or, or_false, true_and, and_true, false_and, and_false, not_true_eq_false, not_false_eq_true, if_true, if_false, if_pos, if_neg, Option.bind_some, k_fact (fc := fc) (show j < NB C by omega) hn (show 0 < 8 by omega), h j (by omega), h4]) (by
      unfold pX0_holderOf_b17
      simp (disch := omega) only [n_l0, n_l1, n_l2, n_l3, n_l4, n_l5, n_l6, n_l7, n_l8, n_l9, n_l15, n_l16, n_l17, n_l20, n_l24, n_l31, n_l32, n_l33, n_l36, n_l48, n_l49, n_l97, n_l128, n_l129, n_l192, n_l225, n_l256, n_l353, n_l400, n_l512, n_l593, n_l621, n_l640, n_l857, n_l1093, n_l1095, n_l2048, n_l3225, n_l10000, n_l22955, n_l29988, n_l29989, n_l65536, n_l99999, n_l1000000000, n_l2147483647, nI_add, pk_mul, pk_sub, pk_div, nI_clamp, ckN, nI_leI, nI_ltI, nI_eq, nI_nm1, Nat.add_zero, nI_addneg, k_ush, true_or, or_true, false_or, or_false, true_and, and_true, false_and, and_false, not_true_eq_false, not_false_eq_true, if_true, if_false, if_pos, if_neg, Option.bind_some, k_fact (fc := fc) hb hn (show 0 < 8 by omega), h b hb])
  unfold pX0_holderOf
  simp (disch := omega) only [n_l0, n_l1, n_l2, n_l3, n_l4, n_l5, n_l6, n_l7, n_l8, n_l9, n_l15, n_l16, n_l17, n_l20, n_l24, n_l31, n_l32, n_l33, n_l36, n_l48, n_l49, n_l97, n_l128, n_l129, n_l192, n_l225, n_l256, n_l353, n_l400, n_l512, n_l593, n_l621, n_l640, n_l857, n_l1093, n_l1095, n_l2048, n_l3225, n_l10000, n_l22955, n_l29988, n_l29989, n_l65536, n_l99999, n_l1000000000, n_l2147483647, nI_add, pk_mul, pk_sub, pk_div, nI_clamp, ckN, nI_leI, nI_ltI, nI_eq, nI_nm1, Nat.add_zero, nI_addneg, k_ush, true_or, or_true, false_or, or_false, true_and, and_true, false_and, and_false, not_true_eq_false, not_false_eq_true, if_true, if_false, if_pos, if_neg, Option.bind_some, k_has (i := k) (H := HL C) (by omega) (by omega), e]
  rfl
theorem k_holderOfO {v bk : Int32} {n : Nat} (h : inO v n) : pX0_holderOf v bk (nI n) fc = some (-nI 1) := by
  unfold pX0_holderOf
  simp (disch := omega) only [n_l0, n_l1, n_l2, n_l3, n_l4, n_l5, n_l6, n_l7, n_l8, n_l9, n_l15, n_l16, n_l17, n_l20, n_l24, n_l31, n_l32, n_l33, n_l36, n_l48, n_l49, n_l97, n_l128, n_l129, n_l192, n_l225, n_l256, n_l353, n_l400, n_l512, n_l593, n_l621, n_l640, n_l857, n_l1093, n_l1095, n_l2048, n_l3225, n_l10000, n_l22955, n_l29988, n_l29989, n_l65536, n_l99999, n_l1000000000, n_l2147483647, nI_add, pk_mul, pk_sub, pk_div, nI_clamp, ckN, nI_leI, nI_ltI, nI_eq, nI_nm1, Nat.add_zero, nI_addneg, k_ush, true_or, or_true, false_or, or_false, true_and, and_true, false_and, and_false, not_true_eq_false, not_false_eq_true, if_true, if_false, if_pos, if_neg, Option.bind_some, k_hasO h]
theorem k_tellAtO {N n : Nat} {v : Int32} (h : inO v n) : pX5_tellAt N v (nI n) tl = some (-4294967296) := by
  unfold pX5_tellAt
  simp (disch := omega) only [n_l0, n_l1, n_l2, n_l3, n_l4, n_l5, n_l6, n_l7, n_l8, n_l9, n_l15, n_l16, n_l17, n_l20, n_l24, n_l31, n_l32, n_l33, n_l36, n_l48, n_l49, n_l97, n_l128, n_l129, n_l192, n_l225, n_l256, n_l353, n_l400, n_l512, n_l593, n_l621, n_l640, n_l857, n_l1093, n_l1095, n_l2048, n_l3225, n_l10000, n_l22955, n_l29988, n_l29989, n_l65536, n_l99999, n_l1000000000, n_l2147483647, nI_add, pk_mul, pk_sub, pk_div, nI_clamp, ckN, nI_leI, nI_ltI, nI_eq, nI_nm1, Nat.add_zero, nI_addneg, k_ush, true_or, or_true, false_or, or_false, true_and, and_true, false_and, and_false, not_true_eq_false, not_false_eq_true, if_true, if_false, if_pos, if_neg, Option.bind_some, k_hasO h]
theorem k_isFull {N i : Nat} (hN : N < 2 ^ 31) (hH : HL C ≤ N) (hi : i < HL C) (ht : KT tl C) : pX5_isFull N (nI i) (nI (HL C)) tl = some (if (TV C i).isSome then nI 1 else nI 0) := by
  unfold pX5_isFull
  simp (disch := omega) only [n_l0, n_l1, n_l2, n_l3, n_l4, n_l5, n_l6, n_l7, n_l8, n_l9, n_l15, n_l16, n_l17, n_l20, n_l24, n_l31, n_l32, n_l33, n_l36, n_l48, n_l49, n_l97, n_l128, n_l129, n_l192, n_l225, n_l256, n_l353, n_l400, n_l512, n_l593, n_l621, n_l640, n_l857, n_l1093, n_l1095, n_l2048, n_l3225, n_l10000, n_l22955, n_l29988, n_l29989, n_l65536, n_l99999, n_l1000000000, n_l2147483647, nI_add, pk_mul, pk_sub, pk_div, nI_clamp, ckN, nI_leI, nI_ltI, nI_eq, nI_nm1, Nat.add_zero, nI_addneg, k_ush, true_or, or_true, false_or, or_false, true_and, and_true, false_and, and_false, not_true_eq_false, not_false_eq_true, if_true, if_false, if_pos, if_neg, Option.bind_some, k_has (i := i) (H := HL C) (by omega) (by omega), ht i hi]
  cases hv : TV C i with
  | none => rw [if_pos (show lg_cmp (enc none) 4294967296 = nI 0 from (lg_cmp_eq _ _).mpr rfl)]; rfl
  | some v => rw [if_neg (show ¬ lg_cmp (enc (some v)) 4294967296 = nI 0 from fun q => by have := (enc_eq _).mp ((lg_cmp_eq _ _).mp q); cases this)]; rfl
theorem k_isFullO {N n : Nat} {v : Int32} (h : inO v n) : pX5_isFull N v (nI n) tl = some (nI 0) := by
  unfold pX5_isFull
  simp (disch := omega) only [n_l0, n_l1, n_l2, n_l3, n_l4, n_l5, n_l6, n_l7, n_l8, n_l9, n_l15, n_l16, n_l17, n_l20, n_l24, n_l31, n_l32, n_l33, n_l36, n_l48, n_l49, n_l97, n_l128, n_l129, n_l192, n_l225, n_l256, n_l353, n_l400, n_l512, n_l593, n_l621, n_l640, n_l857, n_l1093, n_l1095, n_l2048, n_l3225, n_l10000, n_l22955, n_l29988, n_l29989, n_l65536, n_l99999, n_l1000000000, n_l2147483647, nI_add, pk_mul, pk_sub, pk_div, nI_clamp, ckN, nI_leI, nI_ltI, nI_eq, nI_nm1, Nat.add_zero, nI_addneg, k_ush, true_or, or_true, false_or, or_false, true_and, and_true, false_and, and_false, not_true_eq_false, not_false_eq_true, if_true, if_false, if_pos, if_neg, Option.bind_some, k_hasO h]
variable (xp xv xc xb xs : Int32) (xg xq xl : Nat → Int32)
theorem k_loadB (ho : OKC C) (ht : KT tl C) {f n : Nat} (hf : f + n ≤ HL C) (hn : n ≤ 16) : ∃ g, pX3_load 128 (nI f) (nI n) xp xv xg (nI (HL C)) tl = some (nI n, nI (cnt (TV C) f n), g) ∧ ∀ i, i < cnt (TV C) f n → g i = val (TV C) f n i := by
  have := ho.2.1
  have e : min n (HL C - f) = n := Nat.min_eq_left (by omega)
  obtain ⟨g, e1, h1⟩ := k_load (N := 128) (H := HL C) (f := f) (n := n) (by omega) (by omega) (by omega) hn ht xp xv xg
  rw [e] at e1 h1
  exact ⟨g, e1, h1⟩
theorem k_asTold (ho : OKC C) (ht : KT tl C) (hp : KP fc C) {b : Nat} (hb : b < NB C) (hf : KF fc C b) : ∃ z, pX0_measureAsTold 128 (nI b) (nI (NB C)) (nI (HL C)) tl fc xp xv xc xb xs xg xq xl = some z ∧ z.1 = nI (PL C b) ∧ z.2.1 = nI (cm C b) ∧ z.2.2.1 = nI (cp C b) ∧ ∀ i, i < cp C b → u32 (z.2.2.2.2.2.2.1 i) = cq C b i := by
  obtain ⟨_, o2, o3, o4, o5, o6, o7⟩ := ho.2.2 b hb
  obtain ⟨g, e, hg⟩ := k_loadB xp xv xg ho ht (sm_lt2 hb) o2
  have hm := cm_le C b
  have hs1 : FM C b = 1 → ST C b = 0 := fun h => o7 (by omega)
  obtain ⟨z, e2, h1, _, _, h4, _⟩ := k_spreadBy (form := FM C b) (m := cm C b) o3 o5 (by omega) (ST C b) xc xb xs hs1 g xq xl
  unfold pX0_measureAsTold
  simp (disch := omega) only [n_l0, n_l1, n_l2, n_l3, n_l4, n_l5, n_l6, n_l7, n_l8, n_l9, n_l15, n_l16, n_l17, n_l20, n_l24, n_l31, n_l32, n_l33, n_l36, n_l48, n_l49, n_l97, n_l128, n_l129, n_l192, n_l225, n_l256, n_l353, n_l400, n_l512, n_l593, n_l621, n_l640, n_l857, n_l1093, n_l1095, n_l2048, n_l3225, n_l10000, n_l22955, n_l29988, n_l29989, n_l65536, n_l99999, n_l1000000000, n_l2147483647, nI_add, pk_mul, pk_sub, pk_div, nI_clamp, ckN, nI_leI, nI_ltI, nI_eq, nI_nm1, Nat.add_zero, nI_addneg, k_ush, true_or, or_true, false_or, or_false, true_and, and_true, false_and, and_false, not_true_eq_false, not_false_eq_true, if_true, if_false, if_pos, if_neg, Option.bind_some, k_firstOf ho.1 hp (Nat.le_of_lt hb), k_fact (fc := fc) hb ho.1 (show 0 < 8 by omega), hp b hb, e, k_fact (fc := fc) hb ho.1 (show 2 < 8 by omega), hf.2.1, k_fact (fc := fc) hb ho.1 (show 7 < 8 by omega), hf.2.2.2.2.2.2]
  rw [show nI (cnt (TV C) (sm (PL C) b) (PL C b)) = nI (cm C b) from rfl]
  simp (disch := omega) only [n_l0, n_l1, n_l2, n_l3, n_l4, n_l5, n_l6, n_l7, n_l8, n_l9, n_l15, n_l16, n_l17, n_l20, n_l24, n_l31, n_l32, n_l33, n_l36, n_l48, n_l49, n_l97, n_l128, n_l129, n_l192, n_l225, n_l256, n_l353, n_l400, n_l512, n_l593, n_l621, n_l640, n_l857, n_l1093, n_l1095, n_l2048, n_l3225, n_l10000, n_l22955, n_l29988, n_l29989, n_l65536, n_l99999, n_l1000000000, n_l2147483647, nI_add, pk_mul, pk_sub, pk_div, nI_clamp, ckN, nI_leI, nI_ltI, nI_eq, nI_nm1, Nat.add_zero, nI_addneg, k_ush, true_or, or_true, false_or, or_false, true_and, and_true, false_and, and_false, not_true_eq_false, not_false_eq_true, if_true, if_false, if_pos, if_neg, Option.bind_some, e2]
  refine ⟨_, rfl, rfl, rfl, h1, fun i hi => ?_⟩
  show u32 (z.2.2.2.1 i) = _
  rw [h4 i hi]
  exact qs_congr _ _ _ hg i hi
end Cls
