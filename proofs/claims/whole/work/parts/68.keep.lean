/-! ===== a step is kept ===== -/
def rF (f h : Nat) : Nat := if h = 20 then (f + 1) % 20 else f
def rH (h : Nat) : Nat := if h = 20 then 19 else h
theorem r_stepAt {f i : Nat} (hf : f < 20) (hi : i < 20) : pX10_stepAt (nI f) (nI i) = some (nI (1095 + 1093 * ((f + i) % 20))) := by
  unfold pX10_stepAt
  have e : nI (f + i) - nI ((f + i) / 20 * 20) = nI ((f + i) % 20) := by
    rw [pk_sub (Nat.div_mul_le_self _ _)]
    exact congrArg nI (by omega)
  simp (disch := omega) only [n_l0, n_l1, n_l2, n_l3, n_l4, n_l5, n_l6, n_l7, n_l8, n_l9, n_l15, n_l16, n_l17, n_l20, n_l24, n_l31, n_l32, n_l33, n_l36, n_l48, n_l49, n_l97, n_l128, n_l129, n_l192, n_l225, n_l256, n_l353, n_l400, n_l512, n_l593, n_l621, n_l640, n_l857, n_l1093, n_l1095, n_l2048, n_l3225, n_l10000, n_l22955, n_l29988, n_l29989, n_l65536, n_l99999, n_l1000000000, n_l2147483647, nI_add, pk_mul, pk_sub, pk_div, nI_clamp, ckN, nI_leI, nI_ltI, nI_eq, nI_nm1, Nat.add_zero, nI_addneg, k_ush, true_or, or_true, false_or, or_false, true_and, and_true, false_and, and_false, not_true_eq_false, not_false_eq_true, if_true, if_false, if_pos, if_neg, Option.bind_some, e]
theorem r_keepN {v : Nat} (h1 : 1095 ≤ v) (h2 : v + 1093 ≤ 22955) (a : Nat → Int32) : ∃ r, lp (pX10_keep_b56 (nI v)) FU (nI 0, a) = some r ∧ ∀ j, r.2 j = if v ≤ j ∧ j < v + 1093 then a (2 + (j - v)) else a j := by
  refine lpE (body := pX10_keep_b56 (nI v)) (fun k s => s.1 = nI k ∧ ∀ j, s.2 j = if v ≤ j ∧ j < v + k then a (2 + (j - v)) else a j) (fun r => ∀ j, r.2 j = if v ≤ j ∧ j < v + 1093 then a (2 + (j - v)) else a j) 1093 (nI 0, a) ⟨rfl, fun j => by rw [if_neg (by omega)]⟩ (fun k s hk hI => ?_)
  obtain ⟨s1, s2⟩ := s
  obtain ⟨rfl, h⟩ := hI
  replace h : ∀ j, s2 j = if v ≤ j ∧ j < v + k then a (2 + (j - v)) else a j := h
  unfold pX10_keep_b56
  rcases Nat.lt_or_ge k 1093 with h9 | h9
  · refine Or.inl ?_
    rw [if_neg (show ¬ (1093 : Int32) ≤ nI k from fun q => by have := (nI_leI (a := 1093) (by omega) (by omega)).mp q; omega), show (2 : Int32) = nI 2 from rfl, nI_add, nI_add, ckN (by omega) (by omega), ckN (by omega) (by omega), nI_clamp (by omega), nI_clamp (by omega), show (1 : Int32) = nI 1 from rfl, nI_add]
    refine ⟨_, rfl, h9, rfl, fun j => ?_⟩
    show upd s2 (v + k) (s2 (2 + k)) j = _
    by_cases hj : j = v + k
    · subst hj
      rw [u_at, h, if_neg (by omega), if_pos (by omega), show v + k - v = k by omega]
    · rw [u_ne hj, h]
      by_cases hj2 : v ≤ j ∧ j < v + k
      · rw [if_pos hj2, if_pos (by omega)]
      · rw [if_neg hj2, if_neg (by omega)]
  · obtain rfl : k = 1093 := by omega
    exact Or.inr ⟨_, if_pos (show (1093 : Int32) ≤ nI 1093 by decide), h⟩
/-- what keep makes -/
def KEPT (a a1 : Nat → Int32) (f h : Nat) : Prop := a1 0 = nI (rH h + 1) ∧ a1 1 = nI (rF f h) ∧ (∀ i, 2 ≤ i → i < 1095 → a1 i = a i) ∧ (∀ k, k < 1093 → a1 (1095 + 1093 * ((rF f h + rH h) % 20) + k) = a (2 + k)) ∧ ∀ s, s < 20 → s ≠ (rF f h + rH h) % 20 → ∀ k, k < 1093 → a1 (1095 + 1093 * s + k) = a (1095 + 1093 * s + k)
theorem r_keep {a : Nat → Int32} {f h : Nat} (h0 : a 0 = nI h) (h1 : a 1 = nI f) (hh : h ≤ 20) (hf : f < 20) : ∃ a1, pX10_keep a = some a1 ∧ KEPT a a1 f h := by
  have hrF : rF f h < 20 := by unfold rF; split <;> omega
  have hrH : rH h < 20 := by unfold rH; split <;> omega
  have core : ∀ b : Nat → Int32, b 0 = nI (rH h) → b 1 = nI (rF f h) → (∀ i, 2 ≤ i → b i = a i) → ∃ a1, pX10_keep_j38 b = some a1 ∧ KEPT a a1 f h := fun b hb0 hb1 hb2 => by
    have hs20 : (rF f h + rH h) % 20 < 20 := Nat.mod_lt _ (by omega)
    have hv : 1095 + 1093 * ((rF f h + rH h) % 20) + 1093 ≤ 22955 := by
      have : 1093 * ((rF f h + rH h) % 20) ≤ 1093 * 19 := Nat.mul_le_mul_left _ (by omega)
      omega
    obtain ⟨r, er, hr⟩ := r_keepN (v := 1095 + 1093 * ((rF f h + rH h) % 20)) (by omega) hv b
    unfold pX10_keep_j38
    have c0 : ∀ x : Option (Nat → Int32), ck 0 22955 x = x := fun x => ckN (n := 0) (by omega) (by omega)
    have c1 : ∀ x : Option (Nat → Int32), ck 1 22955 x = x := fun x => ckN (n := 1) (by omega) (by omega)
    rw [c1, c0, show (1 : Int32).toNatClampNeg = 1 from rfl, show (0 : Int32).toNatClampNeg = 0 from rfl, hb0, hb1, r_stepAt hrF hrH, Option.bind_some, n_l0, er, Option.bind_some]
    rw [show ck (nI 0) 22955 = ck 0 22955 from rfl, c0, c0]
    have hr0 : r.2 0 = nI (rH h) := by rw [hr, if_neg (by omega), hb0]
    refine ⟨_, rfl, ?_, ?_, fun i h2 h3 => ?_, fun k hk => ?_, fun s hs hne k hk => ?_⟩
    · rw [u_at, hr0, show (1 : Int32) = nI 1 from rfl, nI_add]
    · rw [u_ne (by omega), hr, if_neg (by omega), hb1]
    · rw [u_ne (by omega), hr, if_neg (by omega), hb2 i h2]
    · rw [u_ne (by omega), hr, if_pos (by omega), hb2 _ (by omega)]
      congr 1; omega
    · rw [u_ne (by omega), hr, if_neg, hb2 _ (by omega)]
      intro q
      rcases Nat.lt_or_ge s ((rF f h + rH h) % 20) with h5 | h5
      · have : 1093 * (s + 1) ≤ 1093 * ((rF f h + rH h) % 20) := Nat.mul_le_mul_left _ h5
        omega
      · have : 1093 * ((rF f h + rH h) % 20 + 1) ≤ 1093 * s := Nat.mul_le_mul_left _ (by omega)
        omega
  unfold pX10_keep
  have c0 : ∀ x : Option (Nat → Int32), ck 0 22955 x = x := fun x => ckN (n := 0) (by omega) (by omega)
  have c1 : ∀ x : Option (Nat → Int32), ck 1 22955 x = x := fun x => ckN (n := 1) (by omega) (by omega)
  rw [c0, c1, c1, c0, c0, show (1 : Int32).toNatClampNeg = 1 from rfl, show (0 : Int32).toNatClampNeg = 0 from rfl, h0, h1]
  by_cases h20 : h = 20
  · subst h20
    rw [if_pos (show nI 20 = 20 from rfl)]
    refine core _ ?_ ?_ (fun i hi => ?_)
    · rw [u_at, u_ne (by omega), h0]; rfl
    · rw [u_ne (by omega), u_at]
      unfold rF
      rw [if_pos rfl]
      have e : nI (f + 1) - nI ((f + 1) / 20 * 20) = nI ((f + 1) % 20) := by
        rw [pk_sub (Nat.div_mul_le_self _ _)]
        exact congrArg nI (by omega)
      simp (disch := omega) only [n_l0, n_l1, n_l2, n_l3, n_l4, n_l5, n_l6, n_l7, n_l8, n_l9, n_l15, n_l16, n_l17, n_l20, n_l24, n_l31, n_l32, n_l33, n_l36, n_l48, n_l49, n_l97, n_l128, n_l129, n_l192, n_l225, n_l256, n_l353, n_l400, n_l512, n_l593, n_l621, n_l640, n_l857, n_l1093, n_l1095, n_l2048, n_l3225, n_l10000, n_l22955, n_l29988, n_l29989, n_l65536, n_l99999, n_l1000000000, n_l2147483647, nI_add, pk_mul, pk_sub, pk_div, nI_clamp, ckN, nI_leI, nI_ltI, nI_eq, nI_nm1, Nat.add_zero, nI_addneg, k_ush, true_or, or_true, false_or, or_false, true_and, and_true, false_and, and_false, not_true_eq_false, not_false_eq_true, if_true, if_false, if_pos, if_neg, Option.bind_some, e]
    · rw [u_ne (by omega), u_ne (by omega)]
  · have hq : ¬ nI h = (20 : Int32) := fun q => h20 ((nI_eq (b := 20) (by omega) (by omega)).mp q)
    rw [if_neg hq]
    refine core a ?_ ?_ (fun i _ => rfl)
    · unfold rH; rw [if_neg h20, h0]
    · unfold rF; rw [if_neg h20, h1]
theorem RC_now {a a1 : Nat → Int32} {c : Nat} {C : AC} (hc : c < 3) (ho : OKC C) (e : ∀ i, 2 ≤ i → i < 1095 → a1 i = a i) (h : RCa a c C) : RCa a1 c C :=
  RC_BV.mpr ⟨RB_fr ho.1 (RC_BV.mp h).1 (fun i hi => e _ (by omega) (by omega)), RV_fr ho.2.1 (RC_BV.mp h).2 (fun i _ hi => e _ (by omega) (by omega))⟩
/-- what a change of one column comes to -/
def MU (a : Nat → Int32) (v1 : Int32) (kp : Bool) (a' : Nat → Int32) (bk hd : Int32) (tl : Nat → Int64) (fc : Nat → Int32) : Prop :=
  ∃ C', COL a' v1 bk hd tl fc C' ∧ ((kp = false ∧ a' = a) ∨ (kp = true ∧ ∃ c a1, c < 3 ∧ v1 = nI c ∧ pX10_keep a = some a1 ∧ FR c a1 a'))
theorem MU_no {a : Nat → Int32} {v1 bk hd : Int32} {tl : Nat → Int64} {fc : Nat → Int32} {C : AC} (h : COL a v1 bk hd tl fc C) : MU a v1 false a bk hd tl fc := ⟨C, h, Or.inl ⟨rfl, rfl⟩⟩
theorem MU_yes {a a1 a' : Nat → Int32} {c : Nat} {bk hd : Int32} {tl : Nat → Int64} {fc : Nat → Int32} {C' : AC} (hc : c < 3) (hk : pX10_keep a = some a1) (hF : FR c a1 a') (hK : KC bk hd tl fc C') (ho : OKC C') (hR : RCa a' c C') : MU a (nI c) true a' bk hd tl fc :=
  ⟨C', ⟨hK, ho, fun c2 h2 e => by rw [← (nI_eq (show c < 2 ^ 31 by omega) (show c2 < 2 ^ 31 by omega)).mp e]; exact hR⟩, Or.inr ⟨rfl, c, a1, hc, rfl, hk, hF⟩⟩
/-! set, clear -/
def stT (C : AC) (k : Nat) (t : Option Int32) : AC := (NB C, PL C, ud (TV C) k t, FM C, WD C, ST C)
theorem cnt_far {tv tw : Nat → Option Int32} {f n : Nat} (h : ∀ i, i < n → tv (f + i) = tw (f + i)) : cnt tv f n = cnt tw f n ∧ val tv f n = val tw f n := cnt_congr n h
section Set
variable {C : AC} {b k : Nat} {t : Option Int32}
/-- blocks other than that of the place stay as they are -/
theorem st_cm (h1 : sm (PL C) b ≤ k) (h2 : k < sm (PL C) (b + 1)) {b' : Nat} (hb : b' ≠ b) : cm (stT C k t) b' = cm C b' ∧ cg (stT C k t) b' = cg C b' := by
  refine cnt_far (fun i hi => ud_ne (fun q => ?_))
  have hi' : i < PL C b' := hi
  have q' : sm (PL C) b' + i = k := q
  have hs : sm (PL C) (b' + 1) = sm (PL C) b' + PL C b' := rfl
  rcases Nat.lt_or_ge b' b with h5 | h5
  · have := sm_mono (p := PL C) (show b' + 1 ≤ b from h5)
    omega
  · have := sm_mono (p := PL C) (show b + 1 ≤ b' by omega)
    omega
theorem st_same {C2 : AC} (e1 : FM C2 = FM C) (e2 : WD C2 = WD C) (e3 : ST C2 = ST C) (e4 : PL C2 b = PL C b) (e5 : cm C2 b = cm C b) (e6 : cg C2 b = cg C b) : cq C2 b = cq C b ∧ cp C2 b = cp C b ∧ ce C2 b = ce C b ∧ ct C2 b = ct C b ∧ cb C2 b = cb C b := by
  have h1 : cq C2 b = cq C b := by unfold cq; rw [e1, e3, e5, e6]
  have h2 : cp C2 b = cp C b := by unfold cp; rw [e1, e5]
  have h3 : ce C2 b = ce C b := by unfold ce; rw [e2, h1, h2]
  refine ⟨h1, h2, h3, ?_, ?_⟩
  · unfold ct; rw [e4, e5, e1, e2, h2, h3]
  · unfold cb; rw [e1, e6, e5]
theorem same_KF {C2 : AC} {fc : Nat → Int32} (e1 : FM C2 = FM C) (e2 : WD C2 = WD C) (e3 : ST C2 = ST C) (e4 : PL C2 b = PL C b) (e5 : cm C2 b = cm C b) (e6 : cg C2 b = cg C b) (h : KF fc C b) : KF fc C2 b := by
  obtain ⟨_, _, h3, h4, h5⟩ := st_same e1 e2 e3 e4 e5 e6
  unfold KF at h ⊢
  rw [e1, e2, e3, e5, h3, h4, h5]; exact h
theorem same_okb {C2 : AC} (e1 : FM C2 = FM C) (e2 : WD C2 = WD C) (e3 : ST C2 = ST C) (e4 : PL C2 b = PL C b) (e5 : cm C2 b = cm C b) (e6 : cg C2 b = cg C b) (h : okb C b) : okb C2 b := by
  obtain ⟨_, _, h3, _, _⟩ := st_same e1 e2 e3 e4 e5 e6
  unfold okb at h ⊢
  rw [e1, e2, e3, e4, e5, h3]; exact h
end Set
section Chg
variable {c : Nat} {a : Nat → Int32} {v1 v2 v3 bk hd : Int32} {tl : Nat → Int64} {fc : Nat → Int32} {C : AC} {xc : Nat → Option Nat}
/-- a place told otherwise, its block told anew: by both, behind keep -/
theorem s_change (xv xw xp xs xf xu xt xb : Int32) (vs : Nat → Int32) (ps : Nat → Int64) (m1 m2 m3 m4 m5 m6 m7 m8 m9 m10 m11 : Int32) (n1 n2 n3 : Nat → Int32) (hc : c < 3) (hR : RCa a c C) (ho : OKC C) (hT : KT tl C) (hP : KP fc C) (hF : ∀ b, b < NB C → KF fc C b) {b k : Nat} (hk : k < HL C) (hb : b < NB C) (h1 : sm (PL C) b ≤ k) (h2 : k < sm (PL C) (b + 1)) (t : Option Int32) :
    ∃ z w, pX10_tellBlock (nI c) (nI b) xv xw xp xs xf xu xt xb (pP a c k t) vs ps = some z ∧ pX0_retell 128 (nI b) (nI (NB C)) (nI (HL C)) (vp_updL tl k (enc t)) fc m1 m2 m3 m4 m5 m6 m7 m8 m9 m10 m11 n1 n2 n3 = some w ∧
      RCa z.2.2.2.2.2.2.2.2.1 c (tlC (stT C k t) b) ∧ FR c a z.2.2.2.2.2.2.2.2.1 ∧ OKC (tlC (stT C k t) b) ∧ KC (nI (NB C)) (nI (HL C)) (vp_updL tl k (enc t)) w.1 (tlC (stT C k t) b) ∧ w.1 (b * 8 + 5) = nI (bt3 (stT C k t) b).2.2 := by
  have hn := ho.1
  have hl := ho.2.1
  obtain ⟨o1, o2, _⟩ := ho.2.2 b hb
  have hR1 : RCa (pP a c k t) c (stT C k t) := RC_BV.mpr ⟨RB_fr hn (RC_BV.mp hR).1 (fun i hi => pP_lo t hi), pP_RV (show k < 128 by omega) hl t (fun j hj hjk => by
    show _ = vv (ud (TV C) k t j) ∧ _ = ee (ud (TV C) k t j)
    rw [ud_ne hjk]; exact (RC_BV.mp hR).2 j hj) (fun _ => ud_at _ _ _)⟩
  obtain ⟨z, ez, z1, z2⟩ := r_tell (C := stT C k t) xv xw xp xs xf xu xt xb vs ps hc hR1 hn hl hb o2
  have hT1 : ∀ j, j < HL C → vp_updL tl k (enc t) j = enc (TV (stT C k t) j) := fun j hj => by
    show _ = enc (ud (TV C) k t j)
    by_cases hjk : j = k
    · subst hjk; rw [ul_at, ud_at]
    · rw [ul_ne hjk, ud_ne hjk]; exact hT j hj
  obtain ⟨w, ew, w1, w2, w3, w4⟩ := k_retell (C := stT C k t) (fc := fc) (tl := vp_updL tl k (enc t)) m1 m2 m3 m4 m5 m6 m7 m8 m9 m10 m11 n1 n2 n3 (H := HL C) hn (Nat.le_refl _) hl hT1 hP hb o2
  refine ⟨z, w, ez, ew, z1, FR_tr (pP_fr (by omega) t) z2, ⟨hn, hl, fun b' hb' => ?_⟩, ⟨rfl, rfl, hT1, w1, fun b' hb' => ?_⟩, w4⟩
  · by_cases hbb : b' = b
    · subst hbb; exact tl_okb o1 o2
    · obtain ⟨e5, e6⟩ := st_cm (t := t) h1 h2 hbb
      exact tl_okbn hbb (same_okb (C := C) rfl rfl rfl rfl e5 e6 (ho.2.2 b' hb'))
  · by_cases hbb : b' = b
    · subst hbb; exact w2
    · obtain ⟨e5, e6⟩ := st_cm (t := t) h1 h2 hbb
      exact w3 b' hbb hb' (same_KF (C := C) rfl rfl rfl rfl e5 e6 (hF b' hb'))
theorem k_change5 (hl : HL C ≤ 128) {k : Nat} (hk : k < HL C) (x : Int64) : pX5_change 128 (nI k) x (nI (HL C)) tl = some (vp_updL tl k x) := by
  unfold pX5_change
  simp (disch := omega) only [n_l0, n_l1, n_l2, n_l3, n_l4, n_l5, n_l6, n_l7, n_l8, n_l9, n_l15, n_l16, n_l17, n_l20, n_l24, n_l31, n_l32, n_l33, n_l36, n_l48, n_l49, n_l97, n_l128, n_l129, n_l192, n_l225, n_l256, n_l353, n_l400, n_l512, n_l593, n_l621, n_l640, n_l857, n_l1093, n_l1095, n_l2048, n_l3225, n_l10000, n_l22955, n_l29988, n_l29989, n_l65536, n_l99999, n_l1000000000, n_l2147483647, nI_add, pk_mul, pk_sub, pk_div, nI_clamp, ckN, nI_leI, nI_ltI, nI_eq, nI_nm1, Nat.add_zero, nI_addneg, k_ush, true_or, or_true, false_or, or_false, true_and, and_true, false_and, and_false, not_true_eq_false, not_false_eq_true, if_true, if_false, if_pos, if_neg, Option.bind_some, k_has (i := k) (H := HL C) (by omega) (by omega)]
/-- the change, whole -/
theorem q_change (xv xw xp xs xf xu xt xb : Int32) (vs : Nat → Int32) (ps : Nat → Int64) (m1 m2 m3 m4 m5 m6 m7 m8 m9 m10 m11 : Int32) (n1 n2 n3 : Nat → Int32) {f h0 : Nat} (ha0 : a 0 = nI h0) (ha1 : a 1 = nI f) (hh : h0 ≤ 20) (hf : f < 20) (h : COL a v1 bk hd tl fc C) (t : Option Int32) :
    ∃ z w, pX10_changed v1 v2 (vv t) (ee t) xv xw xp xs xf xu xt xb a vs ps = some z ∧ pX9_change 16 128 v1 v2 (enc t) xc m1 m2 m3 m4 m5 m6 m7 m8 m9 m10 m11 n1 n2 n3 bk hd tl fc = some w ∧ w.1 = z.1 ∧ MU a v1 w.2.1 z.2.2.2.2.2.2.2.2.2.1 bk hd w.2.2.2.2.2.2.2.2.2.2.2.2.2.2.2.2.1 w.2.2.2.2.2.2.2.2.2.2.2.2.2.2.2.2.2 := by
  have h' := h
  obtain ⟨⟨rfl, rfl, hT, hP, hF⟩, ho, hr⟩ := h
  have hn := ho.1
  have hl := ho.2.1
  have hH : ∀ k, k < HL C → tl k = enc (TV C k) := hT
  unfold pX10_changed pX9_change
  rcases col_cases v1 with ⟨c, hc, rfl⟩ | hv
  · have hR := hr c hc rfl
    rcases ix_cases v2 (n := HL C) (by omega) with ⟨k, hk, rfl⟩ | hk
    · obtain ⟨b, hb, h1, h2⟩ := blk_ex _ k hk
      obtain ⟨a1, ek, hK⟩ := r_keep ha0 ha1 hh hf
      have hR1 := RC_now hc ho hK.2.2.1 hR
      obtain ⟨z, w, ez, ew, s1, s2, s3, s4, s5⟩ := s_change (tl := tl) (fc := fc) xv xw xp xs xf xu xt xb vs ps m1 m2 m3 m4 m5 m6 m7 m8 m9 m10 m11 n1 n2 n3 hc hR1 ho hT hP hF hk hb h1 h2 t
      have hR2 : RCa (pP a1 c k t) c (stT C k t) := RC_BV.mpr ⟨RB_fr hn (RC_BV.mp hR1).1 (fun i hi => pP_lo t hi), pP_RV (show k < 128 by omega) hl t (fun j hj hjk => by
        show _ = vv (ud (TV C) k t j) ∧ _ = ee (ud (TV C) k t j)
        rw [ud_ne hjk]; exact (RC_BV.mp hR1).2 j hj) (fun _ => ud_at _ _ _)⟩
      obtain ⟨y, ey, hy⟩ := r_bitsOfBlock z.1 z.2.1 z.2.2.1 z.2.2.2.1 z.2.2.2.2.2.2.2.2.2.1 z.2.2.2.2.2.2.2.2.2.2 hc s1 s3 (b := b) hb
      rw [r_isPlace hc hR ho hk, k_withPlace hc hk hl, Option.bind_some, Option.bind_some, if_neg (show ¬ nI 1 = 0 by decide), if_pos rfl, ek, Option.bind_some, r_putPP hc (show k < 128 by omega) t, Option.bind_some]
      rw [r_blockWith (C := stT C k t) hc hR2 hn hl hb h1 h2, Option.bind_some, k_change5 hl hk, Option.bind_some, k_holderOf hn hl hP hb h1 h2, Option.bind_some, ez, ew, Option.bind_some, Option.bind_some, ey, Option.bind_some, show (5 : Int32) = nI 5 from rfl, k_fact hb hn (by omega), Option.bind_some]
      exact ⟨_, _, rfl, rfl, by show w.1 (b * 8 + 5) = y.1; rw [hy, s5, tl_ct], MU_yes hc ek s2 s4 s3 s1⟩
    · simp (disch := omega) only [n_l0, n_l1, n_l2, n_l3, n_l4, n_l5, n_l6, n_l7, n_l8, n_l9, n_l15, n_l16, n_l17, n_l20, n_l24, n_l31, n_l32, n_l33, n_l36, n_l48, n_l49, n_l97, n_l128, n_l129, n_l192, n_l225, n_l256, n_l353, n_l400, n_l512, n_l593, n_l621, n_l640, n_l857, n_l1093, n_l1095, n_l2048, n_l3225, n_l10000, n_l22955, n_l29988, n_l29989, n_l65536, n_l99999, n_l1000000000, n_l2147483647, nI_add, pk_mul, pk_sub, pk_div, nI_clamp, ckN, nI_leI, nI_ltI, nI_eq, nI_nm1, Nat.add_zero, nI_addneg, k_ush, true_or, or_true, false_or, or_false, true_and, and_true, false_and, and_false, not_true_eq_false, not_false_eq_true, if_true, if_false, if_pos, if_neg, Option.bind_some, r_isCol hc, r_blocks hc hR, r_places hc hR hn, eHL, k_col hc, r_isPlaceO hc hR ho hk, k_withPlaceO hc hk, Bool.false_eq_true]
      exact ⟨_, _, rfl, rfl, rfl, MU_no h'⟩
  · simp (disch := omega) only [n_l0, n_l1, n_l2, n_l3, n_l4, n_l5, n_l6, n_l7, n_l8, n_l9, n_l15, n_l16, n_l17, n_l20, n_l24, n_l31, n_l32, n_l33, n_l36, n_l48, n_l49, n_l97, n_l128, n_l129, n_l192, n_l225, n_l256, n_l353, n_l400, n_l512, n_l593, n_l621, n_l640, n_l857, n_l1093, n_l1095, n_l2048, n_l3225, n_l10000, n_l22955, n_l29988, n_l29989, n_l65536, n_l99999, n_l1000000000, n_l2147483647, nI_add, pk_mul, pk_sub, pk_div, nI_clamp, ckN, nI_leI, nI_ltI, nI_eq, nI_nm1, Nat.add_zero, nI_addneg, k_ush, true_or, or_true, false_or, or_false, true_and, and_true, false_and, and_false, not_true_eq_false, not_false_eq_true, if_true, if_false, if_pos, if_neg, Option.bind_some, r_isColO hv, k_colO hv, r_isPlaceC hv, k_withPlaceC hv, Bool.false_eq_true]
    exact ⟨_, _, rfl, rfl, rfl, MU_no h'⟩
end Chg
