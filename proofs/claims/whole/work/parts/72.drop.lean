/-! ===== drop, remove ===== -/
theorem ud_sm_lo {p : Nat → Nat} {b x j : Nat} (h : j ≤ b) : sm (ud p b x) j = sm p j := sm_congr j (fun i hi => ud_ne (by omega))
theorem ud_sm_hi {p : Nat → Nat} {b x : Nat} : ∀ j, b < j → sm (ud p b x) j + p b = sm p j + x := by
  intro j
  induction j with
  | zero => intro h; omega
  | succ k ih =>
    intro h
    show sm (ud p b x) k + ud p b x k + p b = sm p k + p k + x
    rcases Nat.lt_or_ge b k with h1 | h1
    · have := ih h1
      rw [ud_ne (by omega)]; omega
    · obtain rfl : k = b := by omega
      rw [ud_sm_lo (Nat.le_refl _), ud_at]; omega
theorem del_sm_lo {p : Nat → Nat} {b j : Nat} (h : j ≤ b) : sm (delN p b 1) j = sm p j := sm_congr j (fun i hi => del_lo (by omega))
theorem del_sm_hi {p : Nat → Nat} {b : Nat} : ∀ j, b ≤ j → sm (delN p b 1) j + p b = sm p (j + 1) := by
  intro j
  induction j with
  | zero => intro h; obtain rfl : b = 0 := by omega
            show 0 + p 0 = 0 + p 0; rfl
  | succ k ih =>
    intro h
    show sm (delN p b 1) k + delN p b 1 k + p b = sm p (k + 1) + p (k + 1)
    rcases Nat.lt_or_ge k b with h1 | h1
    · obtain rfl : b = k + 1 := by omega
      rw [del_lo (by omega), del_sm_lo (by omega)]; rfl
    · have := ih h1
      rw [del_hi h1]; omega
/-- a block is gone, with its places -/
def drC (C : AC) (b : Nat) : AC := (NB C - 1, delN (PL C) b 1, delN (TV C) (sm (PL C) b) (PL C b), delN (FM C) b 1, delN (WD C) b 1, delN (ST C) b 1)
/-- a place of a block is gone -/
def rmC (C : AC) (b p : Nat) : AC := (NB C, ud (PL C) b (PL C b - 1), delN (TV C) p 1, FM C, WD C, ST C)
/-- a value comes into a block -/
def enC (C : AC) (b p : Nat) (v : Int32) : AC := (NB C, ud (PL C) b (PL C b + 1), insN (TV C) p (some v), FM C, WD C, ST C)
section Pic
variable {C : AC} {b p : Nat} {v : Int32}
theorem drC_lo {j : Nat} (h : j < b) : BL (drC C b) j C j := by
  refine ⟨del_lo h, del_lo h, del_lo h, del_lo h, fun r hr => ?_⟩
  show delN (TV C) (sm (PL C) b) (PL C b) (sm (delN (PL C) b 1) j + r) = _
  rw [del_sm_lo (by omega)]
  have := sm_mono (p := PL C) (show j + 1 ≤ b from h)
  have hs : sm (PL C) (j + 1) = sm (PL C) j + PL C j := rfl
  rw [del_lo (by omega)]
theorem drC_hi {j : Nat} (h : b ≤ j) : BL (drC C b) j C (j + 1) := by
  refine ⟨del_hi h, del_hi h, del_hi h, del_hi h, fun r hr => ?_⟩
  show delN (TV C) (sm (PL C) b) (PL C b) (sm (delN (PL C) b 1) j + r) = _
  have h1 := del_sm_hi (p := PL C) j h
  have h2 := sm_mono (p := PL C) (show b + 1 ≤ j + 1 by omega)
  have hs : sm (PL C) (b + 1) = sm (PL C) b + PL C b := rfl
  rw [del_hi (by omega)]
  exact congrArg (TV C) (by omega)
theorem drC_HL (hb : b < NB C) : HL (drC C b) = HL C - PL C b := by
  have h1 := del_sm_hi (p := PL C) (b := b) (NB C - 1) (by omega)
  rw [show NB C - 1 + 1 = NB C by omega] at h1
  show sm (delN (PL C) b 1) (NB C - 1) = sm (PL C) (NB C) - PL C b
  omega
theorem rmC_n {j : Nat} (h1 : sm (PL C) b ≤ p) (h2 : p < sm (PL C) (b + 1)) (h : j ≠ b) : BL (rmC C b p) j C j := by
  refine ⟨ud_ne h, rfl, rfl, rfl, fun r hr => ?_⟩
  show delN (TV C) p 1 (sm (ud (PL C) b (PL C b - 1)) j + r) = _
  have hs : sm (PL C) (b + 1) = sm (PL C) b + PL C b := rfl
  rcases Nat.lt_or_ge j b with h3 | h3
  · rw [ud_sm_lo (by omega)]
    have := sm_mono (p := PL C) (show j + 1 ≤ b from h3)
    have hs : sm (PL C) (j + 1) = sm (PL C) j + PL C j := rfl
    rw [del_lo (by omega)]
  · have h4 := ud_sm_hi (p := PL C) (b := b) (x := PL C b - 1) j (by omega)
    have h5 := sm_mono (p := PL C) (show b + 1 ≤ j by omega)
    rw [del_hi (by omega)]
    exact congrArg (TV C) (by omega)
theorem rmC_HL (hb : b < NB C) (h : 1 ≤ PL C b) : HL (rmC C b p) = HL C - 1 := by
  have h4 := ud_sm_hi (p := PL C) (b := b) (x := PL C b - 1) (NB C) hb
  show sm (ud (PL C) b (PL C b - 1)) (NB C) = sm (PL C) (NB C) - 1
  omega
theorem enC_n {j : Nat} (h1 : sm (PL C) b ≤ p) (h2 : p ≤ sm (PL C) (b + 1)) (h : j ≠ b) : BL (enC C b p v) j C j := by
  refine ⟨ud_ne h, rfl, rfl, rfl, fun r hr => ?_⟩
  show insN (TV C) p (some v) (sm (ud (PL C) b (PL C b + 1)) j + r) = _
  have hs : sm (PL C) (b + 1) = sm (PL C) b + PL C b := rfl
  rcases Nat.lt_or_ge j b with h3 | h3
  · rw [ud_sm_lo (by omega)]
    have := sm_mono (p := PL C) (show j + 1 ≤ b from h3)
    have hs : sm (PL C) (j + 1) = sm (PL C) j + PL C j := rfl
    rw [ins_lo (by omega)]
  · have h4 := ud_sm_hi (p := PL C) (b := b) (x := PL C b + 1) j (by omega)
    have h5 := sm_mono (p := PL C) (show b + 1 ≤ j by omega)
    rw [show sm (ud (PL C) b (PL C b + 1)) j + r = sm (PL C) j + r + 1 by omega, ins_hi (by omega)]
theorem enC_HL (hb : b < NB C) : HL (enC C b p v) = HL C + 1 := by
  have h4 := ud_sm_hi (p := PL C) (b := b) (x := PL C b + 1) (NB C) hb
  show sm (ud (PL C) b (PL C b + 1)) (NB C) = sm (PL C) (NB C) + 1
  omega
end Pic
section Q
variable {c : Nat} {a : Nat → Int32} {v1 v2 v3 bk hd : Int32} {tl : Nat → Int64} {fc : Nat → Int32} {C : AC} {xc : Nat → Option Nat}
/-- a block shut, by both (its places are gone already) -/
theorem k_shut (hn : NB C ≤ 24) (hP : KP fc C) (hF : ∀ j, j < NB C → KF fc C j) {b : Nat} (hb : b < NB C) : ∃ f1, pX0_closeSlot (nI b) (nI (NB C)) fc = some (nI (NB C - 1), f1) ∧ KP f1 (drC C b) ∧ ∀ j, j < NB C - 1 → KF f1 (drC C b) j := by
  have hlo : ∀ j w, j < b → w < 8 → va_cpy fc fc (b * 8 + 8) (b * 8) ((NB C - 1 - b) * 8) (j * 8 + w) = fc (j * 8 + w) := fun j w hj hw => by
    show (if b * 8 ≤ j * 8 + w ∧ _ then _ else _) = _
    rw [if_neg (by omega)]
  have hhi : ∀ j w, b ≤ j → j < NB C - 1 → w < 8 → va_cpy fc fc (b * 8 + 8) (b * 8) ((NB C - 1 - b) * 8) (j * 8 + w) = fc ((j + 1) * 8 + w) := fun j w hj hj2 hw => by
    show (if b * 8 ≤ j * 8 + w ∧ j * 8 + w < b * 8 + (NB C - 1 - b) * 8 then fc (b * 8 + 8 + (j * 8 + w - b * 8)) else _) = _
    rw [if_pos (by omega)]
    exact congrArg fc (by omega)
  refine ⟨_, k_closeSlot hb hn, fun j hj => ?_, fun j hj => ?_⟩
  · have hj' : j < NB C - 1 := hj
    show _ = nI (delN (PL C) b 1 j)
    rcases Nat.lt_or_ge j b with h1 | h1
    · have := hlo j 0 h1 (by omega)
      rw [Nat.add_zero (j * 8)] at this
      rw [this, del_lo h1]; exact hP j (by omega)
    · have := hhi j 0 h1 hj' (by omega)
      rw [Nat.add_zero (j * 8), Nat.add_zero ((j + 1) * 8)] at this
      rw [this, del_hi h1]; exact hP (j + 1) (by omega)
  · rcases Nat.lt_or_ge j b with h1 | h1
    · exact BL_KF (drC_lo h1) (fun w hw => hlo j w h1 hw) (hF j (by omega))
    · exact BL_KF (drC_hi h1) (fun w hw => hhi j w h1 hj hw) (hF (j + 1) (by omega))
theorem dr_ok (ho : OKC C) {b : Nat} (hb : b < NB C) : OKC (drC C b) := by
  refine ⟨by show NB C - 1 ≤ 24; have := ho.1; omega, by rw [drC_HL hb]; have := ho.2.1; omega, fun j hj => ?_⟩
  have hj' : j < NB C - 1 := hj
  rcases Nat.lt_or_ge j b with h1 | h1
  · exact BL_okb (drC_lo h1) (ho.2.2 j (by omega))
  · exact BL_okb (drC_hi h1) (ho.2.2 (j + 1) (by omega))
/-- the reference: places, then the block -/
theorem r_dropB (hc : c < 3) (hR : RCa a c C) (ho : OKC C) {b : Nat} (hb : b < NB C) : ∃ a1 a2, pX10_shutPlaces (nI c) (nI (sm (PL C) b)) (nI (PL C b)) a = some a1 ∧ pX10_shutBlock (nI c) (nI b) a1 = some a2 ∧ RCa a2 c (drC C b) ∧ FR c a a2 := by
  have hn := ho.1
  have hl := ho.2.1
  have hs := sm_lt2 hb
  obtain ⟨a1, e1, e2, e3, e4⟩ := r_shutPlaces (L := HL C) hc hR hn rfl hl (p := sm (PL C) b) (n := PL C b) hs
  obtain ⟨a2, g1, g2, g3, g4⟩ := r_shutBlock hc (RB_fr hn (RC_BV.mp hR).1 e2) hn hb
  refine ⟨a1, a2, e1, g1, RC_BV.mpr ⟨g2, ?_⟩, FR_tr e3 g4⟩
  show RV a2 c (HL (drC C b)) (delN (TV C) (sm (PL C) b) (PL C b))
  rw [drC_HL hb]
  exact RV_fr (by omega) e4 g3
theorem q_drop {f h0 : Nat} (ha0 : a 0 = nI h0) (ha1 : a 1 = nI f) (hh : h0 ≤ 20) (hf : f < 20) (h : COL a v1 bk hd tl fc C) :
    ∃ z w, pX10_drop v1 v2 a = some z ∧ pX9_drop 16 128 v1 v2 xc bk hd tl fc = some w ∧ w.1 = z.1 ∧ MU a v1 w.2.1 z.2 w.2.2.1 w.2.2.2.1 w.2.2.2.2.1 w.2.2.2.2.2 := by
  have h' := h
  obtain ⟨⟨rfl, rfl, hT, hP, hF⟩, ho, hr⟩ := h
  have hn := ho.1
  have hl := ho.2.1
  have hH : ∀ k, k < HL C → tl k = enc (TV C k) := hT
  unfold pX10_drop pX9_drop
  rcases col_cases v1 with ⟨c, hc, rfl⟩ | hv
  · have hR := hr c hc rfl
    rcases ix_cases v2 (n := NB C) (by omega) with ⟨b, hb, rfl⟩ | hb
    · obtain ⟨o1, o2, o3⟩ := ho.2.2 b hb
      have hs := sm_lt2 hb
      have hfa := k_fact (fc := fc) hb hn (show 0 < 8 by omega)
      rw [Nat.add_zero, hP b hb] at hfa
      obtain ⟨a1, ek, hK⟩ := r_keep ha0 ha1 hh hf
      have hR1 := RC_now hc ho hK.2.2.1 hR
      obtain ⟨a2, a3, e1, e2, e3, e4⟩ := r_dropB hc hR1 ho hb
      obtain ⟨f1, g1, g2, g3⟩ := k_shut hn hP hF hb
      have hof : pX10_ofBlock (nI c) (nI b) 0 a1 = some (nI (PL C b)) := r_ofPl hc hR1 hb hn
      rw [r_isBlock hc hR ho hb, Option.bind_some, if_neg (show ¬ nI 1 = 0 by decide), ek, Option.bind_some, hof, Option.bind_some, r_firstOf hc hR1 (Nat.le_of_lt hb) hn, Option.bind_some, e1, Option.bind_some, e2, Option.bind_some]
      unfold pX0_dropBlock
      rw [k_col hc, Option.bind_some, if_pos rfl, k_hasBlock hb (by omega), Option.bind_some, if_neg (show ¬ nI 1 = 0 by decide), show (0 : Int32) = nI 0 from rfl, hfa, Option.bind_some, k_firstOf hn hP (Nat.le_of_lt hb), Option.bind_some, Option.bind_some, k_takeOut hs hl, Option.bind_some, g1, Option.bind_some, Option.bind_some]
      refine ⟨_, _, rfl, rfl, rfl, MU_yes hc ek e4 ⟨rfl, ?_, fun k hk => ?_, g2, g3⟩ (dr_ok ho hb) e3⟩
      · rw [drC_HL hb]
      · rw [drC_HL hb] at hk
        exact takeOut_T hs hT k hk
    · simp (disch := omega) only [n_l0, n_l1, n_l2, n_l3, n_l4, n_l5, n_l6, n_l7, n_l8, n_l9, n_l15, n_l16, n_l17, n_l20, n_l24, n_l31, n_l32, n_l33, n_l36, n_l48, n_l49, n_l97, n_l128, n_l129, n_l192, n_l225, n_l256, n_l353, n_l400, n_l512, n_l593, n_l621, n_l640, n_l857, n_l1093, n_l1095, n_l2048, n_l3225, n_l10000, n_l22955, n_l29988, n_l29989, n_l65536, n_l99999, n_l1000000000, n_l2147483647, nI_add, pk_mul, pk_sub, pk_div, nI_clamp, ckN, nI_leI, nI_ltI, nI_eq, nI_nm1, Nat.add_zero, nI_addneg, k_ush, true_or, or_true, false_or, or_false, true_and, and_true, false_and, and_false, not_true_eq_false, not_false_eq_true, if_true, if_false, if_pos, if_neg, Option.bind_some, r_isCol hc, r_blocks hc hR, r_places hc hR hn, eHL, k_col hc, r_isBlockO hc hR ho hb, k_hasBlockO hb]
      exact ⟨_, _, rfl, rfl, rfl, MU_no h'⟩
  · simp (disch := omega) only [n_l0, n_l1, n_l2, n_l3, n_l4, n_l5, n_l6, n_l7, n_l8, n_l9, n_l15, n_l16, n_l17, n_l20, n_l24, n_l31, n_l32, n_l33, n_l36, n_l48, n_l49, n_l97, n_l128, n_l129, n_l192, n_l225, n_l256, n_l353, n_l400, n_l512, n_l593, n_l621, n_l640, n_l857, n_l1093, n_l1095, n_l2048, n_l3225, n_l10000, n_l22955, n_l29988, n_l29989, n_l65536, n_l99999, n_l1000000000, n_l2147483647, nI_add, pk_mul, pk_sub, pk_div, nI_clamp, ckN, nI_leI, nI_ltI, nI_eq, nI_nm1, Nat.add_zero, nI_addneg, k_ush, true_or, or_true, false_or, or_false, true_and, and_true, false_and, and_false, not_true_eq_false, not_false_eq_true, if_true, if_false, if_pos, if_neg, Option.bind_some, r_isColO hv, k_colO hv, r_isBlockC hv, Bool.false_eq_true]
    exact ⟨_, _, rfl, rfl, rfl, MU_no h'⟩
/-- the places of a block told otherwise, in the reference -/
theorem r_putPl {pl fm wd : Nat → Nat} {st : Nat → Int32} {nb b n : Nat} (hc : c < 3) (h : RB a c nb pl fm wd st) (hb : b < nb) (hnb : nb ≤ 24) : RB (upd a (36 + 353 * c + 1 + 4 * b + 0) (nI n)) c nb (ud pl b n) fm wd st := by
  refine ⟨by rw [u_ne (by omega)]; exact h.1, fun j hj => ?_⟩
  obtain ⟨g1, g2, g3, g4⟩ := h.2 j hj
  by_cases hjb : j = b
  · subst hjb
    rw [ud_at]
    exact ⟨u_at _ _ _, by rw [u_ne (by omega)]; exact g2, by rw [u_ne (by omega)]; exact g3, by rw [u_ne (by omega)]; exact g4⟩
  · rw [ud_ne hjb, u_ne (by omega), u_ne (by omega), u_ne (by omega), u_ne (by omega)]
    exact ⟨g1, g2, g3, g4⟩
theorem r_ofPlB {pl fm wd : Nat → Nat} {st : Nat → Int32} {nb b : Nat} (hc : c < 3) (h : RB a c nb pl fm wd st) (hb : b < nb) (hnb : nb ≤ 24) : pX10_ofBlock (nI c) (nI b) 0 a = some (nI (pl b)) := by
  have e := (h.2 b hb).1
  unfold pX10_ofBlock pX10_at
  simp (disch := omega) only [n_l0, n_l1, n_l2, n_l3, n_l4, n_l5, n_l6, n_l7, n_l8, n_l9, n_l15, n_l16, n_l17, n_l20, n_l24, n_l31, n_l32, n_l33, n_l36, n_l48, n_l49, n_l97, n_l128, n_l129, n_l192, n_l225, n_l256, n_l353, n_l400, n_l512, n_l593, n_l621, n_l640, n_l857, n_l1093, n_l1095, n_l2048, n_l3225, n_l10000, n_l22955, n_l29988, n_l29989, n_l65536, n_l99999, n_l1000000000, n_l2147483647, nI_add, pk_mul, pk_sub, pk_div, nI_clamp, ckN, nI_leI, nI_ltI, nI_eq, nI_nm1, Nat.add_zero, nI_addneg, k_ush, true_or, or_true, false_or, or_false, true_and, and_true, false_and, and_false, not_true_eq_false, not_false_eq_true, if_true, if_false, if_pos, if_neg, Option.bind_some, Nat.add_zero, e]
theorem q_remove (xv xw xp xs xf xu xt xb : Int32) (vs : Nat → Int32) (ps : Nat → Int64) (m1 m2 m3 m4 m5 m6 m7 m8 m9 m10 m11 : Int32) (n1 n2 n3 : Nat → Int32) {f h0 : Nat} (ha0 : a 0 = nI h0) (ha1 : a 1 = nI f) (hh : h0 ≤ 20) (hf : f < 20) (h : COL a v1 bk hd tl fc C) :
    ∃ z w, pX10_remove v1 v2 xv xw xp xs xf xu xt xb a vs ps = some z ∧ pX9_remove 16 128 v1 v2 xc m1 m2 m3 m4 m5 m6 m7 m8 m9 m10 m11 n1 n2 n3 bk hd tl fc = some w ∧ w.1 = z.1 ∧ MU a v1 w.2.1 z.2.2.2.2.2.2.2.2.2.1 w.2.2.2.2.2.2.2.2.2.2.2.2.2.2.2.2.1 w.2.2.2.2.2.2.2.2.2.2.2.2.2.2.2.2.2.1 w.2.2.2.2.2.2.2.2.2.2.2.2.2.2.2.2.2.2.1 w.2.2.2.2.2.2.2.2.2.2.2.2.2.2.2.2.2.2.2 := by
  have h' := h
  obtain ⟨⟨rfl, rfl, hT, hP, hF⟩, ho, hr⟩ := h
  have hn := ho.1
  have hl := ho.2.1
  have hH : ∀ k, k < HL C → tl k = enc (TV C k) := hT
  unfold pX10_remove pX9_remove pX10_remove_j70
  rcases col_cases v1 with ⟨c, hc, rfl⟩ | hv
  · have hR := hr c hc rfl
    rcases ix_cases v2 (n := HL C) (by omega) with ⟨p, hp, rfl⟩ | hp
    · obtain ⟨b, hb, h1, h2⟩ := blk_ex _ p hp
      obtain ⟨o1, o2, o3⟩ := ho.2.2 b hb
      have hs := sm_lt2 hb
      have hs1 : sm (PL C) (b + 1) = sm (PL C) b + PL C b := rfl
      have hfa := k_fact (fc := fc) hb hn (show 0 < 8 by omega)
      rw [Nat.add_zero, hP b hb] at hfa
      obtain ⟨a1, ek, hK⟩ := r_keep ha0 ha1 hh hf
      have hR1 := RC_now hc ho hK.2.2.1 hR
      obtain ⟨a2, e1, e2, e3, e4⟩ := r_shutPlaces (L := HL C) hc hR1 hn rfl hl (p := p) (n := 1) (by omega)
      have hB2 := RB_fr hn (RC_BV.mp hR1).1 e2
      have hB3 := r_putPl (n := PL C b - 1) hc hB2 hb hn
      have hof := r_ofPlB hc hB2 hb hn
      have hof3 := r_ofPlB hc hB3 hb hn
      rw [ud_at] at hof3
      have hF3 : FR c a1 (upd a2 (36 + 353 * c + 1 + 4 * b + 0) (nI (PL C b - 1))) := FR_tr e3 (FR_u (by unfold inC; omega) _ _)
      have hV3 : ∀ i, 97 ≤ i → i < 353 → upd a2 (36 + 353 * c + 1 + 4 * b + 0) (nI (PL C b - 1)) (36 + 353 * c + i) = a2 (36 + 353 * c + i) := fun i h1 h2 => by rw [u_ne (by omega)]
      rw [r_isPlace hc hR ho hp, Option.bind_some, if_neg (show ¬ nI 1 = 0 by decide), ek, Option.bind_some, r_blockWith hc hR1 hn hl hb h1 h2, Option.bind_some, show (1 : Int32) = nI 1 from rfl, e1, Option.bind_some, hof, Option.bind_some, pk_sub o1, r_putBlock0 hc (by omega), Option.bind_some, hof3, Option.bind_some]
      unfold pX0_takeOut
      rw [k_col hc, Option.bind_some, if_pos rfl, k_has (i := p) (H := HL C) (by omega) (by omega), if_pos hp, Option.bind_some, if_neg (show ¬ nI 1 = 0 by decide), k_holderOf hn hl hP hb h1 h2, Option.bind_some, show (0 : Int32) = nI 0 from rfl, hfa, Option.bind_some, show (1 : Int32) = nI 1 from rfl, k_takeOut (show p + 1 ≤ HL C by omega) hl, Option.bind_some, pk_sub o1]
      by_cases h0 : PL C b - 1 = 0
      · have hpb : PL C b = 1 := by omega
        have hpp : p = sm (PL C) b := by omega
        obtain ⟨a4, g1, g2, g3, g4⟩ := r_shutBlock hc hB3 hn hb
        obtain ⟨f1, k1, k2, k3⟩ := k_shut hn hP hF hb
        have hR4 : RCa a4 c (drC C b) := by
          refine RC_BV.mpr ⟨⟨g2.1, fun j hj => ?_⟩, ?_⟩
          · obtain ⟨q1, q2, q3, q4⟩ := g2.2 j hj
            refine ⟨?_, q2, q3, q4⟩
            rw [q1]
            show nI (delN (ud (PL C) b (PL C b - 1)) b 1 j) = nI (delN (PL C) b 1 j)
            unfold delN
            split
            · rw [ud_ne (by omega)]
            · rw [ud_ne (by omega)]
          · show RV a4 c (HL (drC C b)) (delN (TV C) (sm (PL C) b) (PL C b))
            rw [drC_HL hb, hpb, ← hpp]
            exact RV_fr (by omega) e4 (fun i h1 h2 => by rw [g3 i h1 h2, hV3 i h1 h2])
        have hOK := dr_ok ho hb
        obtain ⟨y, ey, hy⟩ := r_bitsOfColumn xv xw xp xs vs ps hc hR4 hOK
        rw [h0] at g1
        rw [h0, if_pos rfl, if_pos rfl, g1, Option.bind_some, ey, Option.bind_some, k1, Option.bind_some, Option.bind_some]
        show ∃ z' w', _ = some z' ∧ ((pX0_all (nI 5) (nI (NB (drC C b))) f1).bind _) = some w' ∧ _
        rw [k_allBits hOK k3, Option.bind_some]
        refine ⟨_, _, rfl, rfl, hy.symm, MU_yes hc ek (FR_tr hF3 g4) ⟨rfl, ?_, fun k hk => ?_, k2, k3⟩ hOK hR4⟩
        · rw [drC_HL hb, hpb]
        · rw [drC_HL hb, hpb] at hk
          show va_cpy tl tl (p + 1) p (HL C - (p + 1)) k = enc (delN (TV C) (sm (PL C) b) (PL C b) k)
          rw [hpb, ← hpp]
          exact takeOut_T (show p + 1 ≤ HL C by omega) hT k hk
      · have hne : ¬ nI (PL C b - 1) = nI 0 := fun q => h0 ((nI_eq (by omega) (by omega)).mp q)
        have hHL : HL (rmC C b p) = HL C - 1 := rmC_HL hb o1
        have hR3 : RCa (upd a2 (36 + 353 * c + 1 + 4 * b + 0) (nI (PL C b - 1))) c (rmC C b p) := by
          refine RC_BV.mpr ⟨hB3, ?_⟩
          show RV _ c (HL (rmC C b p)) (delN (TV C) p 1)
          rw [hHL]
          exact RV_fr (by omega) e4 hV3
        have hpl : PL (rmC C b p) b = PL C b - 1 := ud_at _ _ _
        obtain ⟨z, ez, z1, z2⟩ := r_tell (C := rmC C b p) xv xw xp xs xf xu xt xb vs ps hc hR3 hn (by rw [hHL]; omega) hb (by rw [hpl]; omega)
        have hP3 : KP (upd fc (b * 8 + 0) (nI (PL C b - 1))) (rmC C b p) := fun j hj => by
          show _ = nI (ud (PL C) b (PL C b - 1) j)
          by_cases hjb : j = b
          · subst hjb; rw [ud_at]; exact u_at _ _ _
          · rw [ud_ne hjb, u_ne (by omega)]; exact hP j hj
        have hT3 : ∀ k, k < HL C - 1 → va_cpy tl tl (p + 1) p (HL C - (p + 1)) k = enc (TV (rmC C b p) k) := takeOut_T (show p + 1 ≤ HL C by omega) hT
        obtain ⟨w, ew, w1, w2, w3, _⟩ := k_retell (C := rmC C b p) (fc := upd fc (b * 8 + 0) (nI (PL C b - 1))) (tl := va_cpy tl tl (p + 1) p (HL C - (p + 1))) m1 m2 m3 m4 m5 m6 m7 m8 m9 m10 m11 n1 n2 n3 (H := HL C - 1) hn (by rw [hHL]; exact Nat.le_refl _) (by omega) hT3 hP3 hb (by rw [hpl]; omega)
        have hOK : OKC (tlC (rmC C b p) b) := okC_one hn (by rw [hHL]; omega) (by rw [hpl]; omega) (by rw [hpl]; omega) (fun j hjb hj => BL_okb (rmC_n h1 h2 hjb) (ho.2.2 j hj))
        obtain ⟨y, ey, hy⟩ := r_bitsOfColumn z.1 z.2.1 z.2.2.1 z.2.2.2.1 z.2.2.2.2.2.2.2.2.2.1 z.2.2.2.2.2.2.2.2.2.2 hc z1 hOK
        have hKF : ∀ j, j < NB C → KF w.1 (tlC (rmC C b p) b) j := fun j hj => by
          by_cases hjb : j = b
          · subst hjb; exact w2
          · exact w3 j hjb hj (BL_KF (rmC_n h1 h2 hjb) (fun q hq => u_ne (by omega)) (hF j hj))
        rw [if_neg hne, if_neg hne, ez, Option.bind_some, ey, Option.bind_some, k_keepFact hb hn (by omega), Option.bind_some]
        show ∃ z' w', _ = some z' ∧ ((((pX0_retell 128 (nI b) (nI (NB (rmC C b p))) (nI (HL C - 1)) (va_cpy tl tl (p + 1) p (HL C - (p + 1))) (upd fc (b * 8 + 0) (nI (PL C b - 1))) m1 m2 m3 m4 m5 m6 m7 m8 m9 m10 m11 n1 n2 n3).bind _)).bind _) = some w' ∧ _
        rw [ew, Option.bind_some, Option.bind_some]
        show ∃ z' w', _ = some z' ∧ ((pX0_all (nI 5) (nI (NB (tlC (rmC C b p) b))) w.1).bind _) = some w' ∧ _
        rw [k_allBits hOK hKF, Option.bind_some]
        have hKC : KC (nI (NB C)) (nI (HL C - 1)) (va_cpy tl tl (p + 1) p (HL C - (p + 1))) w.1 (tlC (rmC C b p) b) :=
          ⟨rfl, by rw [tl_HL, hHL], fun k hk => hT3 k (by rw [tl_HL, hHL] at hk; exact hk), w1, hKF⟩
        exact ⟨_, _, rfl, rfl, hy.symm, MU_yes hc ek (FR_tr hF3 z2) hKC hOK z1⟩
    · simp (disch := omega) only [n_l0, n_l1, n_l2, n_l3, n_l4, n_l5, n_l6, n_l7, n_l8, n_l9, n_l15, n_l16, n_l17, n_l20, n_l24, n_l31, n_l32, n_l33, n_l36, n_l48, n_l49, n_l97, n_l128, n_l129, n_l192, n_l225, n_l256, n_l353, n_l400, n_l512, n_l593, n_l621, n_l640, n_l857, n_l1093, n_l1095, n_l2048, n_l3225, n_l10000, n_l22955, n_l29988, n_l29989, n_l65536, n_l99999, n_l1000000000, n_l2147483647, nI_add, pk_mul, pk_sub, pk_div, nI_clamp, ckN, nI_leI, nI_ltI, nI_eq, nI_nm1, Nat.add_zero, nI_addneg, k_ush, true_or, or_true, false_or, or_false, true_and, and_true, false_and, and_false, not_true_eq_false, not_false_eq_true, if_true, if_false, if_pos, if_neg, Option.bind_some, r_isCol hc, r_blocks hc hR, r_places hc hR hn, eHL, k_col hc, r_isPlaceO hc hR ho hp, k_hasO hp]
      exact ⟨_, _, rfl, rfl, rfl, MU_no h'⟩
  · simp (disch := omega) only [n_l0, n_l1, n_l2, n_l3, n_l4, n_l5, n_l6, n_l7, n_l8, n_l9, n_l15, n_l16, n_l17, n_l20, n_l24, n_l31, n_l32, n_l33, n_l36, n_l48, n_l49, n_l97, n_l128, n_l129, n_l192, n_l225, n_l256, n_l353, n_l400, n_l512, n_l593, n_l621, n_l640, n_l857, n_l1093, n_l1095, n_l2048, n_l3225, n_l10000, n_l22955, n_l29988, n_l29989, n_l65536, n_l99999, n_l1000000000, n_l2147483647, nI_add, pk_mul, pk_sub, pk_div, nI_clamp, ckN, nI_leI, nI_ltI, nI_eq, nI_nm1, Nat.add_zero, nI_addneg, k_ush, true_or, or_true, false_or, or_false, true_and, and_true, false_and, and_false, not_true_eq_false, not_false_eq_true, if_true, if_false, if_pos, if_neg, Option.bind_some, r_isColO hv, k_colO hv, r_isPlaceC hv, Bool.false_eq_true]
    exact ⟨_, _, rfl, rfl, rfl, MU_no h'⟩
end Q
