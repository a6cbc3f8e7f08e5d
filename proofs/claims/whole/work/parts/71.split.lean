/-! ===== split ===== -/
/-! split -/
def splP (p : Nat → Nat) (b n : Nat) : Nat → Nat := insN (ud p b n) (b + 1) (p b - n)
theorem spl_lo {p : Nat → Nat} {b n j : Nat} (h : j < b) : splP p b n j = p j := by unfold splP; rw [ins_lo (by omega), ud_ne (by omega)]
theorem spl_0 {p : Nat → Nat} {b n : Nat} : splP p b n b = n := by unfold splP; rw [ins_lo (by omega), ud_at]
theorem spl_1 {p : Nat → Nat} {b n : Nat} : splP p b n (b + 1) = p b - n := ins_at
theorem spl_hi {p : Nat → Nat} {b n j : Nat} (h : b + 1 ≤ j) : splP p b n (j + 1) = p j := by unfold splP; rw [ins_hi h, ud_ne (by omega)]
theorem spl_sm_lo {p : Nat → Nat} {b n j : Nat} (h : j ≤ b) : sm (splP p b n) j = sm p j := sm_congr j (fun i hi => spl_lo (by omega))
theorem spl_sm_hi {p : Nat → Nat} {b n : Nat} (hn : n ≤ p b) : ∀ j, b + 1 ≤ j → sm (splP p b n) (j + 1) = sm p j := by
  intro j
  induction j with
  | zero => intro h; omega
  | succ k ih =>
    intro h
    rcases Nat.lt_or_ge k (b + 1) with h1 | h1
    · obtain rfl : k = b := by omega
      show sm (splP p k n) k + splP p k n k + splP p k n (k + 1) = sm p k + p k
      rw [spl_sm_lo (Nat.le_refl _), spl_0, spl_1]; omega
    · show sm (splP p b n) (k + 1) + splP p b n (k + 1) = sm p k + p k
      rw [ih h1, spl_hi h1]
def splC (C : AC) (b n f0 w0 : Nat) (s0 : Int32) : AC := (NB C + 1, splP (PL C) b n, TV C, insN (FM C) (b + 1) f0, insN (WD C) (b + 1) w0, insN (ST C) (b + 1) s0)
section Spl
variable {C : AC} {b n f0 w0 : Nat} {s0 : Int32}
theorem splC_lo {j : Nat} (h : j < b) : BL (splC C b n f0 w0 s0) j C j := by
  refine ⟨spl_lo h, ins_lo (by omega), ins_lo (by omega), ins_lo (by omega), fun r hr => ?_⟩
  show TV C (sm (splP (PL C) b n) j + r) = _
  rw [spl_sm_lo (by omega)]
theorem splC_hi {j : Nat} (hn : n ≤ PL C b) (h : b + 1 ≤ j) : BL (splC C b n f0 w0 s0) (j + 1) C j := by
  refine ⟨spl_hi h, ins_hi h, ins_hi h, ins_hi h, fun r hr => ?_⟩
  show TV C (sm (splP (PL C) b n) (j + 1) + r) = _
  rw [spl_sm_hi hn j h]
theorem splC_HL (hn : n ≤ PL C b) (hb : b < NB C) : HL (splC C b n f0 w0 s0) = HL C := spl_sm_hi hn (NB C) hb
/-- the reference's cut in two, told not yet -/
theorem r_cut {c : Nat} {a : Nat → Int32} (hc : c < 3) (h : RCa a c C) (hnb : NB C < 24) (hl : HL C ≤ 128) (hb : b < NB C) (hn : n ≤ PL C b) : ∃ a1 f0 w0 s0, pX10_openBlock (nI c) (nI (b + 1)) (nI (PL C b - n)) (upd a (36 + 353 * c + 1 + 4 * b + 0) (nI n)) = some a1 ∧ RCa a1 c (splC C b n f0 w0 s0) ∧ FR c a a1 := by
  have hB1 : RB (upd a (36 + 353 * c + 1 + 4 * b + 0) (nI n)) c (NB C) (ud (PL C) b n) (FM C) (WD C) (ST C) := by
    refine ⟨by rw [u_ne (by omega)]; exact h.1, fun j hj => ?_⟩
    obtain ⟨g1, g2, g3, g4⟩ := h.2.1 j hj
    by_cases hjb : j = b
    · subst hjb
      rw [ud_at]
      exact ⟨u_at _ _ _, by rw [u_ne (by omega)]; exact g2, by rw [u_ne (by omega)]; exact g3, by rw [u_ne (by omega)]; exact g4⟩
    · rw [ud_ne hjb, u_ne (by omega), u_ne (by omega), u_ne (by omega), u_ne (by omega)]
      exact ⟨g1, g2, g3, g4⟩
  obtain ⟨a1, f0, w0, s0, e1, e2, e3, e4⟩ := r_openBlock hc hB1 hnb (b := b + 1) (by omega) (PL C b - n)
  refine ⟨a1, f0, w0, s0, e1, RC_BV.mpr ⟨e2, ?_⟩, FR_tr (FR_u (by unfold inC; omega) _ _) e4⟩
  show RV a1 c (HL (splC C b n f0 w0 s0)) (TV C)
  rw [splC_HL hn hb]
  refine RV_fr hl (RC_BV.mp h).2 (fun i h1 h2 => ?_)
  rw [e3 i h1 h2, u_ne (by omega)]
/-- the class's -/
theorem k_cut {fc : Nat → Int32} (hnb : NB C < 24) (hb : b < NB C) (hn : n ≤ PL C b) (hP : ∀ j, j ≠ b → j < NB C → fc (j * 8) = nI (PL C j)) (hF : ∀ j, j ≠ b → j < NB C → KF fc C j) :
    ∃ f3, (pX0_openSlot (nI (b + 1)) (nI (NB C)) fc).bind (fun k12 => (pX0_keepFact (nI b) (nI 0) (nI n) k12.1 k12.2).bind (fun k19 => (pX0_keepFact (nI (b + 1)) (nI 0) (nI (PL C b - n)) k12.1 k19).bind (fun k31 => some (k12.1, k31)))) = some (nI (NB C + 1), f3) ∧ KP f3 (splC C b n f0 w0 s0) ∧ ∀ j, j ≠ b → j ≠ b + 1 → j < NB C + 1 → KF f3 (splC C b n f0 w0 s0) j := by
  rw [k_openSlot (show b + 1 ≤ NB C by omega) hnb, Option.bind_some, k_keepFact (show b < NB C + 1 by omega) (by omega) (by omega), Option.bind_some, k_keepFact (show b + 1 < NB C + 1 by omega) (by omega) (by omega), Option.bind_some]
  have hlo : ∀ j w, j < b → w < 8 → upd (upd (va_cpy fc fc ((b + 1) * 8) ((b + 1) * 8 + 8) ((NB C - (b + 1)) * 8)) (b * 8 + 0) (nI n)) ((b + 1) * 8 + 0) (nI (PL C b - n)) (j * 8 + w) = fc (j * 8 + w) := fun j w hj hw => by
    rw [u_ne (by omega), u_ne (by omega)]
    show (if (b + 1) * 8 + 8 ≤ j * 8 + w ∧ _ then _ else _) = _
    rw [if_neg (by omega)]
  have hhi : ∀ j w, b + 1 ≤ j → j < NB C → w < 8 → upd (upd (va_cpy fc fc ((b + 1) * 8) ((b + 1) * 8 + 8) ((NB C - (b + 1)) * 8)) (b * 8 + 0) (nI n)) ((b + 1) * 8 + 0) (nI (PL C b - n)) ((j + 1) * 8 + w) = fc (j * 8 + w) := fun j w hj hj2 hw => by
    rw [u_ne (by omega), u_ne (by omega)]
    show (if (b + 1) * 8 + 8 ≤ (j + 1) * 8 + w ∧ (j + 1) * 8 + w < (b + 1) * 8 + 8 + (NB C - (b + 1)) * 8 then fc ((b + 1) * 8 + ((j + 1) * 8 + w - ((b + 1) * 8 + 8))) else _) = _
    rw [if_pos (by omega)]
    exact congrArg fc (by omega)
  refine ⟨upd (upd (va_cpy fc fc ((b + 1) * 8) ((b + 1) * 8 + 8) ((NB C - (b + 1)) * 8)) (b * 8 + 0) (nI n)) ((b + 1) * 8 + 0) (nI (PL C b - n)), rfl, fun j hj => ?_, fun j h1 h2 hj => ?_⟩
  · show _ = nI (splP (PL C) b n j)
    rcases Nat.lt_or_ge j b with h1 | h1
    · have := hlo j 0 h1 (by omega)
      rw [Nat.add_zero (j * 8)] at this
      rw [this, spl_lo h1]; exact hP j (by omega) (by omega)
    · rcases Nat.lt_or_ge j (b + 2) with h2 | h2
      · rcases (show j = b ∨ j = b + 1 by omega) with rfl | rfl
        · rw [u_ne (by omega), spl_0]; exact u_at _ _ _
        · rw [spl_1]; exact u_at _ _ _
      · obtain ⟨m, rfl⟩ : ∃ m, j = m + 1 := ⟨j - 1, by omega⟩
        have hj' : m + 1 < NB C + 1 := hj
        have := hhi m 0 (by omega) (by omega) (by omega)
        rw [Nat.add_zero ((m + 1) * 8), Nat.add_zero (m * 8)] at this
        rw [this, spl_hi (by omega)]; exact hP m (by omega) (by omega)
  · rcases Nat.lt_or_ge j b with h3 | h3
    · exact BL_KF (splC_lo h3) (fun w hw => hlo j w h3 hw) (hF j h1 (by omega))
    · obtain ⟨m, rfl⟩ : ∃ m, j = m + 1 := ⟨j - 1, by omega⟩
      exact BL_KF (splC_hi hn (show b + 1 ≤ m by omega)) (fun w hw => hhi m w (by omega) (by omega) hw) (hF m (by omega) (by omega))
end Spl
section Q
variable {c : Nat} {a : Nat → Int32} {v1 v2 v3 bk hd : Int32} {tl : Nat → Int64} {fc : Nat → Int32} {C : AC} {xc : Nat → Option Nat}
theorem r_putBlock0 (hc : c < 3) {b : Nat} (hb : b < 24) (v : Int32) : pX10_putBlock (nI c) (nI b) 0 v a = some (upd a (36 + 353 * c + 1 + 4 * b + 0) v) := r_putBlock hc hb (w := 0) (by omega) v
theorem q_split (xv xw xp xs xf xu xt xb : Int32) (vs : Nat → Int32) (ps : Nat → Int64) (m1 m2 m3 m4 m5 m6 m7 m8 m9 m10 m11 : Int32) (n1 n2 n3 : Nat → Int32) {f h0 : Nat} (ha0 : a 0 = nI h0) (ha1 : a 1 = nI f) (hh : h0 ≤ 20) (hf : f < 20) (h : COL a v1 bk hd tl fc C) :
    ∃ z w, pX10_split v1 v2 v3 xv xw xp xs xf xu xt xb a vs ps = some z ∧ pX9_split 16 128 v1 v2 v3 xc m1 m2 m3 m4 m5 m6 m7 m8 m9 m10 m11 n1 n2 n3 bk hd tl fc = some w ∧ w.1 = z.1 ∧ MU a v1 w.2.1 z.2.2.2.2.2.2.2.2.2.1 w.2.2.2.2.2.2.2.2.2.2.2.2.2.2.2.2.1 hd tl w.2.2.2.2.2.2.2.2.2.2.2.2.2.2.2.2.2 := by
  have h' := h
  obtain ⟨⟨rfl, rfl, hT, hP, hF⟩, ho, hr⟩ := h
  have hn := ho.1
  have hl := ho.2.1
  have hH : ∀ k, k < HL C → tl k = enc (TV C k) := hT
  unfold pX10_split pX9_split
  rcases col_cases v1 with ⟨c, hc, rfl⟩ | hv
  · have hR := hr c hc rfl
    rcases ix_cases v2 (n := NB C) (by omega) with ⟨b, hb, rfl⟩ | hb
    · obtain ⟨o1, o2, o3⟩ := ho.2.2 b hb
      by_cases h24 : NB C = 24
      · simp (disch := omega) only [n_l0, n_l1, n_l2, n_l3, n_l4, n_l5, n_l6, n_l7, n_l8, n_l9, n_l15, n_l16, n_l17, n_l20, n_l24, n_l31, n_l32, n_l33, n_l36, n_l48, n_l49, n_l97, n_l128, n_l129, n_l192, n_l225, n_l256, n_l353, n_l400, n_l512, n_l593, n_l621, n_l640, n_l857, n_l1093, n_l1095, n_l2048, n_l3225, n_l10000, n_l22955, n_l29988, n_l29989, n_l65536, n_l99999, n_l1000000000, n_l2147483647, nI_add, pk_mul, pk_sub, pk_div, nI_clamp, ckN, nI_leI, nI_ltI, nI_eq, nI_nm1, Nat.add_zero, nI_addneg, k_ush, true_or, or_true, false_or, or_false, true_and, and_true, false_and, and_false, not_true_eq_false, not_false_eq_true, if_true, if_false, if_pos, if_neg, Option.bind_some, r_isCol hc, r_blocks hc hR, r_places hc hR hn, eHL, k_col hc, r_isBlock hc hR ho hb, h24, Nat.le_refl]
        exact ⟨_, _, rfl, rfl, rfl, by rw [← h24]; exact MU_no h'⟩
      · have hfa := k_fact (fc := fc) hb hn (show 0 < 8 by omega)
        rw [Nat.add_zero, hP b hb] at hfa
        rcases s_cases v3 (m := PL C b - 1) (by omega) with ⟨n, h1, h2, rfl⟩ | h1 | h1
        · obtain ⟨a1, ek, hK⟩ := r_keep ha0 ha1 hh hf
          have hR1 := RC_now hc ho hK.2.2.1 hR
          obtain ⟨a2, f0, w0, s0, e1, e2, e3⟩ := r_cut (n := n) hc hR1 (show NB C < 24 by omega) hl hb (by omega)
          obtain ⟨f3, g1, g2, g3⟩ := k_cut (n := n) (f0 := f0) (w0 := w0) (s0 := s0) (fc := fc) (show NB C < 24 by omega) hb (by omega) (fun j _ hj => hP j hj) (fun j _ hj => hF j hj)
          have hHL : HL (splC C b n f0 w0 s0) = HL C := splC_HL (by omega) hb
          have hN1 : NB (splC C b n f0 w0 s0) ≤ 24 := by show NB C + 1 ≤ 24; omega
          have hp0 : PL (splC C b n f0 w0 s0) b = n := spl_0
          have hp1 : PL (splC C b n f0 w0 s0) (b + 1) = PL C b - n := spl_1
          obtain ⟨z, ez, z1, z2⟩ := r_tell (C := splC C b n f0 w0 s0) xv xw xp xs xf xu xt xb vs ps hc e2 hN1 (by rw [hHL]; exact hl) (show b < NB C + 1 by omega) (by rw [hp0]; omega)
          obtain ⟨y, ey, y1, y2⟩ := r_tell (C := tlC (splC C b n f0 w0 s0) b) z.1 z.2.1 z.2.2.1 z.2.2.2.1 z.2.2.2.2.1 z.2.2.2.2.2.1 z.2.2.2.2.2.2.1 z.2.2.2.2.2.2.2.1 z.2.2.2.2.2.2.2.2.2.1 z.2.2.2.2.2.2.2.2.2.2 hc z1 hN1 (by show HL (splC C b n f0 w0 s0) ≤ 128; rw [hHL]; exact hl) (show b + 1 < NB C + 1 by omega) (by show PL (splC C b n f0 w0 s0) (b + 1) ≤ 16; rw [hp1]; omega)
          obtain ⟨w, w2, ew, ew2, hKC⟩ := k_two (C := splC C b n f0 w0 s0) (b := b) (tl := tl) (fc := f3) m1 m2 m3 m4 m5 m6 m7 m8 m9 m10 m11 n1 n2 n3 (H := HL C) hN1 hHL hl hT g2 (show b + 1 < NB C + 1 by omega) (by rw [hp0]; omega) (by rw [hp1]; omega) g3
          have hOK : OKC (tlC (tlC (splC C b n f0 w0 s0) b) (b + 1)) := okC_two hN1 (by rw [hHL]; exact hl) (by rw [hp0]; omega) (by rw [hp0]; omega) (by rw [hp1]; omega) (by rw [hp1]; omega) (fun j j1 j2 j3 => by
            have j3' : j < NB C + 1 := j3
            rcases Nat.lt_or_ge j b with h5 | h5
            · exact BL_okb (splC_lo h5) (ho.2.2 j (by omega))
            · obtain ⟨m, rfl⟩ : ∃ m, j = m + 1 := ⟨j - 1, by omega⟩
              exact BL_okb (splC_hi (by omega) (show b + 1 ≤ m by omega)) (ho.2.2 m (by omega)))
          obtain ⟨p, ep, hp⟩ := r_bitsOfBlock y.1 y.2.1 y.2.2.1 y.2.2.2.1 y.2.2.2.2.2.2.2.2.2.1 y.2.2.2.2.2.2.2.2.2.2 hc y1 hOK (b := b) (show b < NB C + 1 by omega)
          obtain ⟨q, eq, hq⟩ := r_bitsOfBlock p.2.1 p.2.2.1 p.2.2.2.1 p.2.2.2.2.1 p.2.2.2.2.2.1 p.2.2.2.2.2.2 hc y1 hOK (b := b + 1) (show b + 1 < NB C + 1 by omega)
          have hF3 := hKC.2.2.2.2
          have hof : pX10_ofBlock (nI c) (nI b) 0 a1 = some (nI (PL C b)) := r_ofPl hc hR1 hb hn
          have hof0 : pX10_ofBlock (nI c) (nI b) 0 a = some (nI (PL C b)) := r_ofPl hc hR hb hn
          have hne : ¬ nI (NB C) = (24 : Int32) := fun q => h24 ((nI_eq (b := 24) (by omega) (by omega)).mp q)
          rw [r_isBlock hc hR ho hb, Option.bind_some, if_neg (show ¬ nI 1 = 0 by decide), r_blocks hc hR, Option.bind_some, if_neg hne, hof0, Option.bind_some]
          rw [show pX10_isIn (nI n) 1 (nI (PL C b) - 1) = some (nI 1) from by
            rw [show (1 : Int32) = nI 1 from rfl, pk_sub (by omega)]; exact r_isInT h1 h2 (by omega)]
          rw [Option.bind_some, if_neg (show ¬ nI 1 = 0 by decide), ek, Option.bind_some, hof, Option.bind_some, r_putBlock0 hc (by omega), Option.bind_some, show (1 : Int32) = nI 1 from rfl, nI_add, pk_sub (show n ≤ PL C b by omega), e1, Option.bind_some, ez, Option.bind_some, ey, Option.bind_some, ep, Option.bind_some, eq, Option.bind_some]
          unfold pX0_cutInTwo
          rw [k_col hc, Option.bind_some, if_pos rfl, if_neg (show ¬ (24 : Int32) ≤ nI (NB C) from fun q => by have := (nI_leI (a := 24) (by omega) (by omega)).mp q; omega), if_neg (show ¬ nI n < nI 1 by rw [nI_ltI (by omega) (by omega)]; omega), show (0 : Int32) = nI 0 from rfl, hfa, Option.bind_some, if_pos (nI_lt (show n < PL C b by omega) (by omega)), Option.bind_some, show (1 : Int32) = nI 1 from rfl, nI_add, pk_sub (show n ≤ PL C b by omega)]
          cases h5 : pX0_openSlot (nI (b + 1)) (nI (NB C)) fc with
          | none => rw [h5] at g1; cases g1
          | some k12 =>
            rw [h5, Option.bind_some] at g1
            rw [Option.bind_some]
            cases h6 : pX0_keepFact (nI b) (nI 0) (nI n) k12.1 k12.2 with
            | none => rw [h6] at g1; cases g1
            | some k19 =>
              rw [h6, Option.bind_some] at g1
              rw [Option.bind_some]
              cases h7 : pX0_keepFact (nI (b + 1)) (nI 0) (nI (PL C b - n)) k12.1 k19 with
              | none => rw [h7] at g1; cases g1
              | some k31 =>
                rw [h7, Option.bind_some] at g1
                have g1' := Option.some.inj g1
                have i1 : k12.1 = nI (NB C + 1) := congrArg Prod.fst g1'
                have i2 : k31 = f3 := congrArg Prod.snd g1'
                rw [Option.bind_some, i1, i2]
                show ∃ z' w', _ = some z' ∧ (((((pX0_retell 128 (nI b) (nI (NB (splC C b n f0 w0 s0))) (nI (HL C)) tl f3 m1 m2 m3 m4 m5 m6 m7 m8 m9 m10 m11 n1 n2 n3).bind _)).bind _)) = some w' ∧ _
                rw [ew, Option.bind_some]
                show ∃ z' w', _ = some z' ∧ (((((pX0_retell 128 (nI (b + 1)) (nI (NB (splC C b n f0 w0 s0))) (nI (HL C)) tl w.1 w.2.1 w.2.2.1 w.2.2.2.1 w.2.2.2.2.1 w.2.2.2.2.2.1 w.2.2.2.2.2.2.1 w.2.2.2.2.2.2.2.1 w.2.2.2.2.2.2.2.2.1 w.2.2.2.2.2.2.2.2.2.1 w.2.2.2.2.2.2.2.2.2.2.1 w.2.2.2.2.2.2.2.2.2.2.2.1 w.2.2.2.2.2.2.2.2.2.2.2.2.1 w.2.2.2.2.2.2.2.2.2.2.2.2.2.1 w.2.2.2.2.2.2.2.2.2.2.2.2.2.2).bind _)).bind _)) = some w' ∧ _
                rw [ew2, Option.bind_some, Option.bind_some]
                show ∃ z' w', _ = some z' ∧ ((pX0_fact (nI b) (nI 5) (nI (NB C + 1)) w2.1).bind _) = some w' ∧ _
                rw [k_fact (show b < NB C + 1 by omega) (by omega) (by omega), Option.bind_some]
                show ∃ z' w', _ = some z' ∧ ((pX0_fact (nI (b + 1)) (nI 5) (nI (NB C + 1)) w2.1).bind _) = some w' ∧ _
                rw [k_fact (show b + 1 < NB C + 1 by omega) (by omega) (by omega), Option.bind_some]
                refine ⟨_, _, rfl, rfl, ?_, MU_yes hc ek (FR_tr e3 (FR_tr z2 y2)) hKC hOK y1⟩
                show w2.1 (b * 8 + 5) + w2.1 ((b + 1) * 8 + 5) = p.1 + q.1
                rw [(hF3 b (show b < NB C + 1 by omega)).2.2.2.2.1, (hF3 (b + 1) (show b + 1 < NB C + 1 by omega)).2.2.2.2.1, hp, hq]
        · have hlo : pX10_isIn v3 (nI 1) (nI (PL C b - 1)) = some (nI 0) := r_isIn_lo h1
          simp (disch := omega) only [n_l0, n_l1, n_l2, n_l3, n_l4, n_l5, n_l6, n_l7, n_l8, n_l9, n_l15, n_l16, n_l17, n_l20, n_l24, n_l31, n_l32, n_l33, n_l36, n_l48, n_l49, n_l97, n_l128, n_l129, n_l192, n_l225, n_l256, n_l353, n_l400, n_l512, n_l593, n_l621, n_l640, n_l857, n_l1093, n_l1095, n_l2048, n_l3225, n_l10000, n_l22955, n_l29988, n_l29989, n_l65536, n_l99999, n_l1000000000, n_l2147483647, nI_add, pk_mul, pk_sub, pk_div, nI_clamp, ckN, nI_leI, nI_ltI, nI_eq, nI_nm1, Nat.add_zero, nI_addneg, k_ush, true_or, or_true, false_or, or_false, true_and, and_true, false_and, and_false, not_true_eq_false, not_false_eq_true, if_true, if_false, if_pos, if_neg, Option.bind_some, r_isCol hc, r_blocks hc hR, r_places hc hR hn, eHL, k_col hc, r_isBlock hc hR ho hb, h24, r_ofPl hc hR hb hn, hlo, h1]
          exact ⟨_, _, rfl, rfl, rfl, MU_no h'⟩
        · have hhi : pX10_isIn v3 (nI 1) (nI (PL C b - 1)) = some (nI 0) := r_isIn_hi h1
          have hnl : ¬ v3 < nI (PL C b) := fun q => by
            have q1 := Int32.lt_iff_toInt_lt.mp q
            have q2 := Int32.lt_iff_toInt_lt.mp h1
            rw [nI_toInt (by omega)] at q1 q2
            omega
          simp (disch := omega) only [n_l0, n_l1, n_l2, n_l3, n_l4, n_l5, n_l6, n_l7, n_l8, n_l9, n_l15, n_l16, n_l17, n_l20, n_l24, n_l31, n_l32, n_l33, n_l36, n_l48, n_l49, n_l97, n_l128, n_l129, n_l192, n_l225, n_l256, n_l353, n_l400, n_l512, n_l593, n_l621, n_l640, n_l857, n_l1093, n_l1095, n_l2048, n_l3225, n_l10000, n_l22955, n_l29988, n_l29989, n_l65536, n_l99999, n_l1000000000, n_l2147483647, nI_add, pk_mul, pk_sub, pk_div, nI_clamp, ckN, nI_leI, nI_ltI, nI_eq, nI_nm1, Nat.add_zero, nI_addneg, k_ush, true_or, or_true, false_or, or_false, true_and, and_true, false_and, and_false, not_true_eq_false, not_false_eq_true, if_true, if_false, if_pos, if_neg, Option.bind_some, r_isCol hc, r_blocks hc hR, r_places hc hR hn, eHL, k_col hc, r_isBlock hc hR ho hb, h24, r_ofPl hc hR hb hn, hhi, hfa, hnl]
          split <;> exact ⟨_, _, rfl, rfl, rfl, MU_no h'⟩
    · rw [r_isBlockO hc hR ho hb, Option.bind_some, if_pos (show nI 0 = 0 from rfl), k_col hc, Option.bind_some, if_pos rfl]
      split
      · exact ⟨_, _, rfl, rfl, rfl, MU_no h'⟩
      · split
        · exact ⟨_, _, rfl, rfl, rfl, MU_no h'⟩
        · rename_i hv3
          rw [k_factO hb, Option.bind_some, if_neg]
          · exact ⟨_, _, rfl, rfl, rfl, MU_no h'⟩
          · intro q
            have q1 := Int32.lt_iff_toInt_lt.mp q
            have q2 := Int32.le_iff_toInt_le.mp (Int32.not_lt.mp hv3)
            have h3 : (nI 0).toInt = 0 := by decide
            have h4 : (1 : Int32).toInt = 1 := by decide
            omega
  · simp (disch := omega) only [n_l0, n_l1, n_l2, n_l3, n_l4, n_l5, n_l6, n_l7, n_l8, n_l9, n_l15, n_l16, n_l17, n_l20, n_l24, n_l31, n_l32, n_l33, n_l36, n_l48, n_l49, n_l97, n_l128, n_l129, n_l192, n_l225, n_l256, n_l353, n_l400, n_l512, n_l593, n_l621, n_l640, n_l857, n_l1093, n_l1095, n_l2048, n_l3225, n_l10000, n_l22955, n_l29988, n_l29989, n_l65536, n_l99999, n_l1000000000, n_l2147483647, nI_add, pk_mul, pk_sub, pk_div, nI_clamp, ckN, nI_leI, nI_ltI, nI_eq, nI_nm1, Nat.add_zero, nI_addneg, k_ush, true_or, or_true, false_or, or_false, true_and, and_true, false_and, and_false, not_true_eq_false, not_false_eq_true, if_true, if_false, if_pos, if_neg, Option.bind_some, r_isColO hv, k_colO hv, r_isBlockC hv, Bool.false_eq_true]
    exact ⟨_, _, rfl, rfl, rfl, MU_no h'⟩
end Q
