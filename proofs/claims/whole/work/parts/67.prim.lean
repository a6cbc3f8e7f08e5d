/-! ===== what changes: the smallest pieces ===== -/
theorem u_at (f : Nat → Int32) (k : Nat) (x : Int32) : upd f k x k = x := if_pos rfl
theorem u_ne {f : Nat → Int32} {k j : Nat} {x : Int32} (h : j ≠ k) : upd f k x j = f j := if_neg h
theorem ul_at (f : Nat → Int64) (k : Nat) (x : Int64) : vp_updL f k x k = x := if_pos rfl
theorem ul_ne {f : Nat → Int64} {k j : Nat} {x : Int64} (h : j ≠ k) : vp_updL f k x j = f j := if_neg h
/-- rows of anything -/
def ud {α : Type} (f : Nat → α) (k : Nat) (x : α) : Nat → α := fun j => if j = k then x else f j
theorem ud_at {α : Type} (f : Nat → α) (k : Nat) (x : α) : ud f k x k = x := if_pos rfl
theorem ud_ne {α : Type} {f : Nat → α} {k j : Nat} {x : α} (h : j ≠ k) : ud f k x j = f j := if_neg h
/-- blocks and values of a column in the reference, apart -/
def RB (a : Nat → Int32) (c nb : Nat) (pl fm wd : Nat → Nat) (st : Nat → Int32) : Prop :=
  a (36 + 353 * c) = nI nb ∧ ∀ b, b < nb → a (36 + 353 * c + 1 + 4 * b) = nI (pl b) ∧ a (36 + 353 * c + 1 + 4 * b + 1) = nI (fm b) ∧ a (36 + 353 * c + 1 + 4 * b + 2) = nI (wd b) ∧ a (36 + 353 * c + 1 + 4 * b + 3) = st b
def RV (a : Nat → Int32) (c L : Nat) (tv : Nat → Option Int32) : Prop := ∀ k, k < L → a (36 + 353 * c + 97 + k) = vv (tv k) ∧ a (36 + 353 * c + 225 + k) = ee (tv k)
theorem RC_BV {a : Nat → Int32} {c nb : Nat} {pl fm wd : Nat → Nat} {tv : Nat → Option Int32} {st : Nat → Int32} : RC a c nb pl tv fm wd st ↔ RB a c nb pl fm wd st ∧ RV a c (sm pl nb) tv :=
  ⟨fun h => ⟨⟨h.1, h.2.1⟩, h.2.2⟩, fun h => ⟨h.1.1, h.1.2, h.2⟩⟩
/-- cells of a column -/
def inC (c i : Nat) : Prop := 36 + 353 * c ≤ i ∧ i < 36 + 353 * c + 353
def FR (c : Nat) (a a' : Nat → Int32) : Prop := ∀ i, ¬ inC c i → a' i = a i
theorem FR_rf (c : Nat) (a : Nat → Int32) : FR c a a := fun _ _ => rfl
theorem FR_tr {c : Nat} {a b d : Nat → Int32} (h1 : FR c a b) (h2 : FR c b d) : FR c a d := fun i hi => by rw [h2 i hi, h1 i hi]
theorem FR_u {c k : Nat} (h : inC c k) (a : Nat → Int32) (x : Int32) : FR c a (upd a k x) := fun i hi => u_ne (fun q => hi (by rw [q]; exact h))
theorem RB_fr {a a' : Nat → Int32} {c nb : Nat} {pl fm wd : Nat → Nat} {st : Nat → Int32} (hn : nb ≤ 24) (h : RB a c nb pl fm wd st) (e : ∀ i, i < 97 → a' (36 + 353 * c + i) = a (36 + 353 * c + i)) : RB a' c nb pl fm wd st := by
  refine ⟨by rw [← h.1]; exact e 0 (by omega), fun b hb => ?_⟩
  obtain ⟨h1, h2, h3, h4⟩ := h.2 b hb
  rw [← h1, ← h2, ← h3, ← h4]
  refine ⟨?_, ?_, ?_, ?_⟩
  · have := e (1 + 4 * b) (by omega); rw [← Nat.add_assoc] at this; exact this
  · have := e (1 + 4 * b + 1) (by omega); rw [← Nat.add_assoc, ← Nat.add_assoc] at this; exact this
  · have := e (1 + 4 * b + 2) (by omega); rw [← Nat.add_assoc, ← Nat.add_assoc] at this; exact this
  · have := e (1 + 4 * b + 3) (by omega); rw [← Nat.add_assoc, ← Nat.add_assoc] at this; exact this
theorem RV_fr {a a' : Nat → Int32} {c L : Nat} {tv : Nat → Option Int32} (hL : L ≤ 128) (h : RV a c L tv) (e : ∀ i, 97 ≤ i → i < 353 → a' (36 + 353 * c + i) = a (36 + 353 * c + i)) : RV a' c L tv := fun k hk => by
  obtain ⟨h1, h2⟩ := h k hk
  rw [← h1, ← h2]
  have e1 := e (97 + k) (by omega) (by omega)
  have e2 := e (225 + k) (by omega) (by omega)
  rw [← Nat.add_assoc] at e1 e2
  exact ⟨e1, e2⟩
/-- another column isn't touched -/
theorem RC_other {a a' : Nat → Int32} {c c2 : Nat} {C : AC} (ho : OKC C) (hne : c ≠ c2) (hF : FR c a a') (h : RCa a c2 C) : RCa a' c2 C := by
  have e : ∀ i, i < 353 → a' (36 + 353 * c2 + i) = a (36 + 353 * c2 + i) := fun i hi => hF _ (fun q => by
    unfold inC at q
    rcases Nat.lt_or_ge c c2 with h1 | h1
    · have : 353 * (c + 1) ≤ 353 * c2 := Nat.mul_le_mul_left _ h1
      omega
    · have : 353 * (c2 + 1) ≤ 353 * c := Nat.mul_le_mul_left _ (by omega)
      omega)
  exact RC_BV.mpr ⟨RB_fr ho.1 (RC_BV.mp h).1 (fun i hi => e i (by omega)), RV_fr ho.2.1 (RC_BV.mp h).2 (fun i _ hi => e i hi)⟩
section Put
variable {c : Nat} {a : Nat → Int32}
theorem r_putBlock (hc : c < 3) {b w : Nat} (hb : b < 24) (hw : w < 4) (v : Int32) : pX10_putBlock (nI c) (nI b) (nI w) v a = some (upd a (36 + 353 * c + 1 + 4 * b + w) v) := by
  unfold pX10_putBlock pX10_at
  simp (disch := omega) only [n_l0, n_l1, n_l2, n_l3, n_l4, n_l5, n_l6, n_l7, n_l8, n_l9, n_l15, n_l16, n_l17, n_l20, n_l24, n_l31, n_l32, n_l33, n_l36, n_l48, n_l49, n_l97, n_l128, n_l129, n_l192, n_l225, n_l256, n_l353, n_l400, n_l512, n_l593, n_l621, n_l640, n_l857, n_l1093, n_l1095, n_l2048, n_l3225, n_l10000, n_l22955, n_l29988, n_l29989, n_l65536, n_l99999, n_l1000000000, n_l2147483647, nI_add, pk_mul, pk_sub, pk_div, nI_clamp, ckN, nI_leI, nI_ltI, nI_eq, nI_nm1, Nat.add_zero, nI_addneg, k_ush, true_or, or_true, false_or, or_false, true_and, and_true, false_and, and_false, not_true_eq_false, not_false_eq_true, if_true, if_false, if_pos, if_neg, Option.bind_some]
theorem r_putS (hc : c < 3) {k : Nat} (hk : k < 128) (v : Int32) : pX10_putPlace (nI c) (nI k) v (nI 0) a = some (upd (upd a (36 + 353 * c + 97 + k) v) (36 + 353 * c + 225 + k) (nI 0)) := by
  unfold pX10_putPlace pX10_putPlace_j23 pX10_at
  simp (disch := omega) only [n_l0, n_l1, n_l2, n_l3, n_l4, n_l5, n_l6, n_l7, n_l8, n_l9, n_l15, n_l16, n_l17, n_l20, n_l24, n_l31, n_l32, n_l33, n_l36, n_l48, n_l49, n_l97, n_l128, n_l129, n_l192, n_l225, n_l256, n_l353, n_l400, n_l512, n_l593, n_l621, n_l640, n_l857, n_l1093, n_l1095, n_l2048, n_l3225, n_l10000, n_l22955, n_l29988, n_l29989, n_l65536, n_l99999, n_l1000000000, n_l2147483647, nI_add, pk_mul, pk_sub, pk_div, nI_clamp, ckN, nI_leI, nI_ltI, nI_eq, nI_nm1, Nat.add_zero, nI_addneg, k_ush, true_or, or_true, false_or, or_false, true_and, and_true, false_and, and_false, not_true_eq_false, not_false_eq_true, if_true, if_false, if_pos, if_neg, Option.bind_some]
theorem r_putN (hc : c < 3) {k : Nat} (hk : k < 128) (v : Int32) : pX10_putPlace (nI c) (nI k) v (nI 1) a = some (upd (upd a (36 + 353 * c + 97 + k) (nI 0)) (36 + 353 * c + 225 + k) (nI 1)) := by
  unfold pX10_putPlace pX10_putPlace_j23 pX10_at
  simp (disch := omega) only [n_l0, n_l1, n_l2, n_l3, n_l4, n_l5, n_l6, n_l7, n_l8, n_l9, n_l15, n_l16, n_l17, n_l20, n_l24, n_l31, n_l32, n_l33, n_l36, n_l48, n_l49, n_l97, n_l128, n_l129, n_l192, n_l225, n_l256, n_l353, n_l400, n_l512, n_l593, n_l621, n_l640, n_l857, n_l1093, n_l1095, n_l2048, n_l3225, n_l10000, n_l22955, n_l29988, n_l29989, n_l65536, n_l99999, n_l1000000000, n_l2147483647, nI_add, pk_mul, pk_sub, pk_div, nI_clamp, ckN, nI_leI, nI_ltI, nI_eq, nI_nm1, Nat.add_zero, nI_addneg, k_ush, true_or, or_true, false_or, or_false, true_and, and_true, false_and, and_false, not_true_eq_false, not_false_eq_true, if_true, if_false, if_pos, if_neg, Option.bind_some]
theorem r_putP (hc : c < 3) {k : Nat} (hk : k < 128) (t : Option Int32) : pX10_putPlace (nI c) (nI k) (vv t) (ee t) a = some (upd (upd a (36 + 353 * c + 97 + k) (vv t)) (36 + 353 * c + 225 + k) (ee t)) := by
  cases t with
  | none => exact r_putN hc hk _
  | some v => exact r_putS hc hk v
def pP (a : Nat → Int32) (c k : Nat) (t : Option Int32) : Nat → Int32 := upd (upd a (36 + 353 * c + 97 + k) (vv t)) (36 + 353 * c + 225 + k) (ee t)
theorem r_putPP (hc : c < 3) {k : Nat} (hk : k < 128) (t : Option Int32) : pX10_putPlace (nI c) (nI k) (vv t) (ee t) a = some (pP a c k t) := r_putP hc hk t
theorem pP_fr {k : Nat} (hk : k < 128) (t : Option Int32) : FR c a (pP a c k t) := FR_tr (FR_u (by unfold inC; omega) _ _) (FR_u (by unfold inC; omega) _ _)
theorem pP_lo {k i : Nat} (t : Option Int32) (hi : i < 97) : pP a c k t (36 + 353 * c + i) = a (36 + 353 * c + i) := by
  unfold pP; rw [u_ne (by omega), u_ne (by omega)]
theorem pP_v {k j : Nat} (hk : k < 128) (hj : j < 128) (t : Option Int32) : pP a c k t (36 + 353 * c + 97 + j) = if j = k then vv t else a (36 + 353 * c + 97 + j) := by
  unfold pP; rw [u_ne (by omega)]
  split
  · rename_i h; rw [h, u_at]
  · rw [u_ne (by omega)]
theorem pP_e {k j : Nat} (hk : k < 128) (hj : j < 128) (t : Option Int32) : pP a c k t (36 + 353 * c + 225 + j) = if j = k then ee t else a (36 + 353 * c + 225 + j) := by
  unfold pP
  split
  · rename_i h; rw [h, u_at]
  · rw [u_ne (by omega), u_ne (by omega)]
theorem pP_RV {k L : Nat} {tv : Nat → Option Int32} (hk : k < 128) (hL : L ≤ 128) (t : Option Int32) (h : ∀ j, j < L → j ≠ k → a (36 + 353 * c + 97 + j) = vv (tv j) ∧ a (36 + 353 * c + 225 + j) = ee (tv j)) (ht : k < L → tv k = t) : RV (pP a c k t) c L tv := fun j hj => by
  rw [pP_v hk (by omega), pP_e hk (by omega)]
  by_cases hjk : j = k
  · subst hjk
    rw [if_pos rfl, if_pos rfl, ht hj]; exact ⟨rfl, rfl⟩
  · rw [if_neg hjk, if_neg hjk]; exact h j hj hjk
end Put
/-! a block told anew -/
def bt3 (C : AC) (b : Nat) : Nat × Nat × Nat := bst (PL C b) (cm C b) (cg C b)
def tlC (C : AC) (b : Nat) : AC := (NB C, PL C, TV C, ud (FM C) b (bt3 C b).1, ud (WD C) b (bt3 C b).2.1, ud (ST C) b (if (bt3 C b).1 = 2 then stp (cg C b) (cm C b) else 0))
section Tell
variable {C : AC} {b b' : Nat}
theorem tl_NB : NB (tlC C b) = NB C := rfl
theorem tl_PL : PL (tlC C b) = PL C := rfl
theorem tl_TV : TV (tlC C b) = TV C := rfl
theorem tl_HL : HL (tlC C b) = HL C := rfl
theorem tl_cm (j : Nat) : cm (tlC C b) j = cm C j := rfl
theorem tl_cg (j : Nat) : cg (tlC C b) j = cg C j := rfl
theorem tl_FM : FM (tlC C b) b = (bt3 C b).1 := ud_at _ _ _
theorem tl_WD : WD (tlC C b) b = (bt3 C b).2.1 := ud_at _ _ _
theorem tl_ST : ST (tlC C b) b = if (bt3 C b).1 = 2 then stp (cg C b) (cm C b) else 0 := ud_at _ _ _
theorem tl_FMn (h : b' ≠ b) : FM (tlC C b) b' = FM C b' := ud_ne h
theorem tl_WDn (h : b' ≠ b) : WD (tlC C b) b' = WD C b' := ud_ne h
theorem tl_STn (h : b' ≠ b) : ST (tlC C b) b' = ST C b' := ud_ne h
theorem tl_cqn (h : b' ≠ b) : cq (tlC C b) b' = cq C b' := by unfold cq; rw [tl_FMn h, tl_STn h]; rfl
theorem tl_cpn (h : b' ≠ b) : cp (tlC C b) b' = cp C b' := by unfold cp; rw [tl_FMn h]; rfl
theorem tl_cen (h : b' ≠ b) : ce (tlC C b) b' = ce C b' := by unfold ce; rw [tl_WDn h, tl_cqn h, tl_cpn h]
theorem tl_ctn (h : b' ≠ b) : ct (tlC C b) b' = ct C b' := by unfold ct; rw [tl_WDn h, tl_FMn h, tl_cen h, tl_cpn h]; rfl
theorem tl_cbn (h : b' ≠ b) : cb (tlC C b) b' = cb C b' := by unfold cb; rw [tl_FMn h]; rfl
theorem qs_st {form : Nat} (hf : form ≤ 2) (g : Nat → Int32) (m : Nat) : qs form (if form = 2 then stp g m else 0) g m = qs form (stp g m) g m := by
  rcases (show form = 2 ∨ form < 2 by omega) with rfl | h2
  · rfl
  · exact qs_st0 h2 _ _ _ _
theorem tl_cq : cq (tlC C b) b = qs (bt3 C b).1 (stp (cg C b) (cm C b)) (cg C b) (cm C b) := by
  unfold cq
  rw [tl_FM, tl_ST]
  exact qs_st (bst_ok _ _ _).1 _ _
theorem tl_cp : cp (tlC C b) b = pcn (bt3 C b).1 (cm C b) := by unfold cp; rw [tl_FM]; rfl
theorem tl_ce : ce (tlC C b) b = exc (bt3 C b).2.1 (qs (bt3 C b).1 (stp (cg C b) (cm C b)) (cg C b) (cm C b)) (pcn (bt3 C b).1 (cm C b)) := by unfold ce; rw [tl_WD, tl_cq, tl_cp]
theorem tl_ct : ct (tlC C b) b = (bt3 C b).2.2 := by
  unfold ct
  rw [tl_FM, tl_WD, tl_ce, tl_cp]
  exact (bst_ok (PL C b) (cm C b) (cg C b)).2.2.2.2.symm
theorem tl_cb : cb (tlC C b) b = bse (bt3 C b).1 (cg C b) (cm C b) := by unfold cb; rw [tl_FM]; rfl
theorem tl_okb (h1 : 1 ≤ PL C b) (h2 : PL C b ≤ 16) : okb (tlC C b) b := by
  obtain ⟨b1, b2, b3, b4, b5⟩ := bst_ok (PL C b) (cm C b) (cg C b)
  refine ⟨h1, h2, by rw [tl_FM]; exact b1, by rw [tl_WD]; exact b2, by rw [tl_FM]; exact b3, by rw [tl_ce]; exact b4, fun h => ?_⟩
  rw [tl_FM] at h
  rw [tl_ST, if_neg h]
theorem tl_okbn (h : b' ≠ b) (ho : okb C b') : okb (tlC C b) b' := by
  unfold okb at ho ⊢
  rw [tl_FMn h, tl_WDn h, tl_STn h, tl_cen h]
  exact ho
theorem tl_KFn {fc : Nat → Int32} (h : b' ≠ b) (hF : KF fc C b') : KF fc (tlC C b) b' := by
  unfold KF at hF ⊢
  rw [tl_FMn h, tl_WDn h, tl_STn h, tl_cen h, tl_ctn h, tl_cbn h]
  exact hF
end Tell
section RTell
variable {c : Nat} {a : Nat → Int32} {C : AC}
theorem r_tell (xv xw xp xs xf xu xt xb : Int32) (vs : Nat → Int32) (ps : Nat → Int64) (hc : c < 3) (h : RCa a c C) (hn : NB C ≤ 24) (hl : HL C ≤ 128) {b : Nat} (hb : b < NB C) (hp : PL C b ≤ 16) : ∃ z, pX10_tellBlock (nI c) (nI b) xv xw xp xs xf xu xt xb a vs ps = some z ∧ RCa z.2.2.2.2.2.2.2.2.1 c (tlC C b) ∧ FR c a z.2.2.2.2.2.2.2.2.1 := by
  obtain ⟨g, e, hg⟩ := r_takeBlock hc h hn hl hb hp xv xw vs
  have hm := cm_le C b
  obtain ⟨f, ef, f1, f2, f3, f4⟩ := r_findBest (n := PL C b) (m := cm C b) hp (by omega) xp xs xf xu xt xb g ps
  rw [bst_congr (m := cm C b) hg] at f1 f2 f3
  rw [stp_congr (cm C b) hg] at f4
  have b1 := (bst_ok (PL C b) (cm C b) (cg C b)).1
  replace f1 : f.2.2.1 = nI (bt3 C b).1 := f1
  replace f2 : f.2.2.2.1 = nI (bt3 C b).2.1 := f2
  replace f4 : f.2.2.2.2.2.1 = stp (cg C b) (cm C b) := f4
  replace b1 : (bt3 C b).1 ≤ 2 := b1
  unfold pX10_tellBlock pX10_tellBlock_j52
  rw [e, Option.bind_some]
  show ∃ z, (pX10_findBest (nI (cm C b)) (nI (PL C b)) xp xs xf xu xt xb g ps).bind _ = some z ∧ _
  rw [ef, Option.bind_some, show (1 : Int32) = nI 1 from rfl, r_putBlock hc (show b < 24 by omega) (by omega), Option.bind_some, show (2 : Int32) = nI 2 from rfl, r_putBlock hc (show b < 24 by omega) (by omega), Option.bind_some, show (3 : Int32) = nI 3 from rfl, r_putBlock hc (show b < 24 by omega) (by omega), r_putBlock hc (show b < 24 by omega) (by omega), f1, f2, f4]
  have fin : ∀ s3, s3 = (if (bt3 C b).1 = 2 then stp (cg C b) (cm C b) else 0) → RCa (upd (upd (upd a (36 + 353 * c + 1 + 4 * b + 1) (nI (bt3 C b).1)) (36 + 353 * c + 1 + 4 * b + 2) (nI (bt3 C b).2.1)) (36 + 353 * c + 1 + 4 * b + 3) s3) c (tlC C b) ∧ FR c a (upd (upd (upd a (36 + 353 * c + 1 + 4 * b + 1) (nI (bt3 C b).1)) (36 + 353 * c + 1 + 4 * b + 2) (nI (bt3 C b).2.1)) (36 + 353 * c + 1 + 4 * b + 3) s3) := fun s3 hs3 => by
    refine ⟨RC_BV.mpr ⟨⟨?_, fun b' hb' => ?_⟩, RV_fr hl (RC_BV.mp h).2 (fun i h1 h2 => ?_)⟩, FR_tr (FR_u (by unfold inC; omega) _ _) (FR_tr (FR_u (by unfold inC; omega) _ _) (FR_u (by unfold inC; omega) _ _))⟩
    · rw [u_ne (by omega), u_ne (by omega), u_ne (by omega)]; exact h.1
    · obtain ⟨h1, h2, h3, h4⟩ := h.2.1 b' hb'
      by_cases hbb : b' = b
      · subst hbb
        rw [u_ne (by omega), u_ne (by omega), u_ne (by omega), u_ne (by omega), u_ne (by omega), u_at, u_ne (by omega), u_at, u_at, tl_FM, tl_WD, tl_ST, hs3]
        exact ⟨h1, rfl, rfl, rfl⟩
      · rw [tl_FMn hbb, tl_WDn hbb, tl_STn hbb]
        rw [u_ne (by omega), u_ne (by omega), u_ne (by omega), u_ne (by omega), u_ne (by omega), u_ne (by omega), u_ne (by omega), u_ne (by omega), u_ne (by omega), u_ne (by omega), u_ne (by omega), u_ne (by omega)]
        exact ⟨h1, h2, h3, h4⟩
    · rw [u_ne (by omega), u_ne (by omega), u_ne (by omega)]
  by_cases h2 : (bt3 C b).1 = 2
  · rw [if_pos (by rw [h2])]
    obtain ⟨q1, q2⟩ := fin (stp (cg C b) (cm C b)) (by rw [if_pos h2])
    exact ⟨_, rfl, q1, q2⟩
  · rw [if_neg (fun q => h2 ((nI_eq (by omega) (by omega)).mp q))]
    obtain ⟨q1, q2⟩ := fin 0 (by rw [if_neg h2])
    exact ⟨_, rfl, q1, q2⟩
end RTell
section KTell
variable {tl : Nat → Int64} {fc : Nat → Int32} {C : AC}
theorem k_keepFact {b w n : Nat} (hb : b < n) (hn : n ≤ 24) (hw : w < 8) (v : Int32) : pX0_keepFact (nI b) (nI w) v (nI n) fc = some (upd fc (b * 8 + w) v) := by
  unfold pX0_keepFact
  simp (disch := omega) only [n_l0, n_l1, n_l2, n_l3, n_l4, n_l5, n_l6, n_l7, n_l8, n_l9, n_l15, n_l16, n_l17, n_l20, n_l24, n_l31, n_l32, n_l33, n_l36, n_l48, n_l49, n_l97, n_l128, n_l129, n_l192, n_l225, n_l256, n_l353, n_l400, n_l512, n_l593, n_l621, n_l640, n_l857, n_l1093, n_l1095, n_l2048, n_l3225, n_l10000, n_l22955, n_l29988, n_l29989, n_l65536, n_l99999, n_l1000000000, n_l2147483647, nI_add, pk_mul, pk_sub, pk_div, nI_clamp, ckN, nI_leI, nI_ltI, nI_eq, nI_nm1, Nat.add_zero, nI_addneg, k_ush, true_or, or_true, false_or, or_false, true_and, and_true, false_and, and_false, not_true_eq_false, not_false_eq_true, if_true, if_false, if_pos, if_neg, Option.bind_some, k_hasBlock hb (show n < 2 ^ 31 by omega), nI_pos]
theorem k_loadH {H : Nat} (hH : H ≤ 128) (hT : ∀ k, k < H → tl k = enc (TV C k)) (xp xv : Int32) (xg : Nat → Int32) {f n : Nat} (hf : f + n ≤ H) (hn : n ≤ 16) : ∃ g, pX3_load 128 (nI f) (nI n) xp xv xg (nI H) tl = some (nI n, nI (cnt (TV C) f n), g) ∧ ∀ i, i < cnt (TV C) f n → g i = val (TV C) f n i := by
  have e : min n (H - f) = n := Nat.min_eq_left (by omega)
  obtain ⟨g, e1, h1⟩ := k_load (N := 128) (H := H) (f := f) (n := n) (by omega) (by omega) (by omega) hn hT xp xv xg
  rw [e] at e1 h1
  exact ⟨g, e1, h1⟩
theorem k_retell (m1 m2 m3 m4 m5 m6 m7 m8 m9 m10 m11 : Int32) (n1 n2 n3 : Nat → Int32) {H : Nat} (hn : NB C ≤ 24) (hl : HL C ≤ H) (hH : H ≤ 128) (hT : ∀ k, k < H → tl k = enc (TV C k)) (hP : KP fc C) {b : Nat} (hb : b < NB C) (hp : PL C b ≤ 16) : ∃ z, pX0_retell 128 (nI b) (nI (NB C)) (nI H) tl fc m1 m2 m3 m4 m5 m6 m7 m8 m9 m10 m11 n1 n2 n3 = some z ∧ KP z.1 (tlC C b) ∧ KF z.1 (tlC C b) b ∧ (∀ b', b' ≠ b → b' < NB C → KF fc C b' → KF z.1 (tlC C b) b') ∧ z.1 (b * 8 + 5) = nI (bt3 C b).2.2 := by
  have hs := sm_lt2 hb
  obtain ⟨g, e, hg⟩ := k_loadH (C := C) hH hT m1 m2 n1 (f := sm (PL C) b) (n := PL C b) (by omega) hp
  have hm := cm_le C b
  obtain ⟨y, ey, hy⟩ := k_choose (n := PL C b) (m := cm C b) hp (by omega) m3 m4 m5 m6 m7 m8 m9 m10 m11 g n2 n3
  rw [bst_congr (m := cm C b) hg] at hy
  obtain ⟨y1, y2, y3, y4, _, y6, y7⟩ := hy
  rw [stp_congr (cm C b) hg] at y3 y7
  rw [exc_congr _ (fun i hi => qs_congr _ _ (cm C b) hg i hi)] at y3
  rw [bse_congr (m := cm C b) hg (bst_ok _ _ _).2.2.1] at y6
  replace y1 : y.2.2.2.1 = nI (bt3 C b).1 := y1
  replace y2 : y.2.2.2.2.1 = nI (bt3 C b).2.1 := y2
  replace y4 : y.2.2.2.2.2.2.1 = nI (bt3 C b).2.2 := y4
  unfold pX0_retell
  rw [k_firstOf hn hP (Nat.le_of_lt hb), Option.bind_some, show (0 : Int32) = nI 0 from rfl, k_fact (fc := fc) hb hn (show 0 < 8 by omega), Nat.add_zero, hP b hb, Option.bind_some, e, Option.bind_some]
  show ∃ z, (pX3_choose (nI (PL C b)) (nI (cm C b)) m3 m4 m5 m6 m7 m8 m9 m10 m11 g n2 n3).bind _ = some z ∧ _
  rw [ey, Option.bind_some, show (1 : Int32) = nI 1 from rfl, k_keepFact hb hn (by omega), Option.bind_some, show (2 : Int32) = nI 2 from rfl, k_keepFact hb hn (by omega), Option.bind_some, show (3 : Int32) = nI 3 from rfl, k_keepFact hb hn (by omega), Option.bind_some, show (4 : Int32) = nI 4 from rfl, k_keepFact hb hn (by omega), Option.bind_some, show (5 : Int32) = nI 5 from rfl, k_keepFact hb hn (by omega), Option.bind_some, show (6 : Int32) = nI 6 from rfl, k_keepFact hb hn (by omega), Option.bind_some, show (7 : Int32) = nI 7 from rfl, k_keepFact hb hn (by omega), Option.bind_some]
  refine ⟨_, rfl, fun b' hb' => ?_, ?_, fun b' hbb hb' hF => tl_KFn hbb ?_, ?_⟩
  · show upd _ _ _ _ = _
    rw [u_ne (by omega), u_ne (by omega), u_ne (by omega), u_ne (by omega), u_ne (by omega), u_ne (by omega), u_ne (by omega)]
    exact hP b' hb'
  · refine ⟨?_, ?_, ?_, ?_, ?_, ?_, ?_⟩
    · show upd _ _ _ _ = _
      rw [u_ne (by omega), u_ne (by omega), u_ne (by omega), u_ne (by omega), u_ne (by omega), u_ne (by omega), u_at]
      rfl
    · show upd _ _ _ _ = _
      rw [u_ne (by omega), u_ne (by omega), u_ne (by omega), u_ne (by omega), u_ne (by omega), u_at, tl_FM]
      exact y1
    · show upd _ _ _ _ = _
      rw [u_ne (by omega), u_ne (by omega), u_ne (by omega), u_ne (by omega), u_at, tl_WD]
      exact y2
    · show upd _ _ _ _ = _
      rw [u_ne (by omega), u_ne (by omega), u_ne (by omega), u_at, tl_ce]
      exact y3
    · show upd _ _ _ _ = _
      rw [u_ne (by omega), u_ne (by omega), u_at, tl_ct]
      exact y4
    · show upd _ _ _ _ = _
      rw [u_ne (by omega), u_at, tl_cb]
      exact y6
    · show upd _ _ _ _ = _
      rw [u_at, tl_ST]
      exact y7
  · obtain ⟨h1, h2, h3, h4, h5, h6, h7⟩ := hF
    refine ⟨?_, ?_, ?_, ?_, ?_, ?_, ?_⟩
    · show upd _ _ _ _ = _
      rw [u_ne (by omega), u_ne (by omega), u_ne (by omega), u_ne (by omega), u_ne (by omega), u_ne (by omega), u_ne (by omega)]; exact h1
    · show upd _ _ _ _ = _
      rw [u_ne (by omega), u_ne (by omega), u_ne (by omega), u_ne (by omega), u_ne (by omega), u_ne (by omega), u_ne (by omega)]; exact h2
    · show upd _ _ _ _ = _
      rw [u_ne (by omega), u_ne (by omega), u_ne (by omega), u_ne (by omega), u_ne (by omega), u_ne (by omega), u_ne (by omega)]; exact h3
    · show upd _ _ _ _ = _
      rw [u_ne (by omega), u_ne (by omega), u_ne (by omega), u_ne (by omega), u_ne (by omega), u_ne (by omega), u_ne (by omega)]; exact h4
    · show upd _ _ _ _ = _
      rw [u_ne (by omega), u_ne (by omega), u_ne (by omega), u_ne (by omega), u_ne (by omega), u_ne (by omega), u_ne (by omega)]; exact h5
    · show upd _ _ _ _ = _
      rw [u_ne (by omega), u_ne (by omega), u_ne (by omega), u_ne (by omega), u_ne (by omega), u_ne (by omega), u_ne (by omega)]; exact h6
    · show upd _ _ _ _ = _
      rw [u_ne (by omega), u_ne (by omega), u_ne (by omega), u_ne (by omega), u_ne (by omega), u_ne (by omega), u_ne (by omega)]; exact h7
  · show upd _ _ _ _ = _
    rw [u_ne (by omega), u_ne (by omega), u_at]
    exact y4
end KTell
