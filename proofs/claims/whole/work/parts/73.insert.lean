/-! ===== insert ===== -/
section Cut
variable {tl : Nat → Int64} {fc : Nat → Int32} {C : AC} {b n f0 w0 : Nat} {s0 : Int32}
theorem k_cutInTwo (m1 m2 m3 m4 m5 m6 m7 m8 m9 m10 m11 : Int32) (n1 n2 n3 : Nat → Int32) {H : Nat} (hnb : NB C < 24) (hb : b < NB C) (hn : n ≤ PL C b) (hP : KP fc C) (hF : ∀ j, j ≠ b → j < NB C → KF fc C j) (hl : HL C = H) (hH : H ≤ 128) (hT : ∀ k, k < H → tl k = enc (TV C k)) (hp : n ≤ 16) (hp2 : PL C b - n ≤ 16) :
    ∃ z, pX0_cutInTwo 128 (nI b) (nI n) (nI (NB C)) (nI H) tl fc m1 m2 m3 m4 m5 m6 m7 m8 m9 m10 m11 n1 n2 n3 = some z ∧ z.1 = nI (NB C + 1) ∧ KC (nI (NB C + 1)) (nI H) tl z.2.1 (tlC (tlC (splC C b n f0 w0 s0) b) (b + 1)) := by
  have hfa := k_fact (fc := fc) hb (show NB C ≤ 24 by omega) (show 0 < 8 by omega)
  rw [Nat.add_zero, hP b hb] at hfa
  obtain ⟨f3, g1, g2, g3⟩ := k_cut (n := n) (f0 := f0) (w0 := w0) (s0 := s0) (fc := fc) hnb hb hn (fun j _ hj => hP j hj) hF
  have hHL : HL (splC C b n f0 w0 s0) = HL C := splC_HL hn hb
  have hN1 : NB (splC C b n f0 w0 s0) ≤ 24 := by show NB C + 1 ≤ 24; omega
  have hp0 : PL (splC C b n f0 w0 s0) b = n := spl_0
  have hp1 : PL (splC C b n f0 w0 s0) (b + 1) = PL C b - n := spl_1
  obtain ⟨w, w2, ew, ew2, hKC⟩ := k_two (C := splC C b n f0 w0 s0) (b := b) (tl := tl) (fc := f3) m1 m2 m3 m4 m5 m6 m7 m8 m9 m10 m11 n1 n2 n3 (H := H) hN1 (hHL.trans hl) hH hT g2 (show b + 1 < NB C + 1 by omega) (by rw [hp0]; omega) (by rw [hp1]; omega) g3
  unfold pX0_cutInTwo
  rw [show (0 : Int32) = nI 0 from rfl, hfa, Option.bind_some, show (1 : Int32) = nI 1 from rfl, nI_add, pk_sub hn]
  cases h5 : pX0_openSlot (nI (b + 1)) (nI (NB C)) fc with
  | none => rw [h5] at g1; cases g1
  | some k12 =>
    rw [h5, Option.bind_some] at g1
    rw [Option.bind_some]
    cases h6 : pX0_keepFact (nI b) (nI 0) (nI n) k12.1 k12.2 with
    | none => rw [h6] at g1; cases g1
    | some k19 =>
      rw [h6, Option.bind_some] at g1
      rw [Option.bind_some]
      cases h7 : pX0_keepFact (nI (b + 1)) (nI 0) (nI (PL C b - n)) k12.1 k19 with
      | none => rw [h7] at g1; cases g1
      | some k31 =>
        rw [h7, Option.bind_some] at g1
        have g1' := Option.some.inj g1
        have i1 : k12.1 = nI (NB C + 1) := congrArg Prod.fst g1'
        have i2 : k31 = f3 := congrArg Prod.snd g1'
        rw [Option.bind_some, i1, i2]
        show ∃ z, (((pX0_retell 128 (nI b) (nI (NB (splC C b n f0 w0 s0))) (nI H) tl f3 m1 m2 m3 m4 m5 m6 m7 m8 m9 m10 m11 n1 n2 n3).bind _)) = some z ∧ _
        rw [ew, Option.bind_some]
        show ∃ z, (((pX0_retell 128 (nI (b + 1)) (nI (NB (splC C b n f0 w0 s0))) (nI H) tl w.1 w.2.1 w.2.2.1 w.2.2.2.1 w.2.2.2.2.1 w.2.2.2.2.2.1 w.2.2.2.2.2.2.1 w.2.2.2.2.2.2.2.1 w.2.2.2.2.2.2.2.2.1 w.2.2.2.2.2.2.2.2.2.1 w.2.2.2.2.2.2.2.2.2.2.1 w.2.2.2.2.2.2.2.2.2.2.2.1 w.2.2.2.2.2.2.2.2.2.2.2.2.1 w.2.2.2.2.2.2.2.2.2.2.2.2.2.1 w.2.2.2.2.2.2.2.2.2.2.2.2.2.2).bind _)) = some z ∧ _
        rw [ew2, Option.bind_some]
        exact ⟨_, rfl, rfl, hKC⟩
end Cut
section Q
variable {c : Nat} {a : Nat → Int32} {v1 v2 v3 bk hd : Int32} {tl : Nat → Int64} {fc : Nat → Int32} {C : AC} {xc : Nat → Option Nat}
/-- the block that a value enters -/
theorem ent_ex (h0 : 0 < NB C) {p : Nat} (hp : p ≤ HL C) : ∃ b, b < NB C ∧ sm (PL C) b ≤ p ∧ p ≤ sm (PL C) (b + 1) ∧ ((p = HL C ∧ b = NB C - 1) ∨ (p < HL C ∧ p < sm (PL C) (b + 1))) := by
  rcases Nat.lt_or_ge p (HL C) with h1 | h1
  · obtain ⟨b, hb, h2, h3⟩ := blk_ex _ p h1
    exact ⟨b, hb, h2, by omega, Or.inr ⟨h1, h3⟩⟩
  · have e : p = HL C := by omega
    have hs := sm_mono (p := PL C) (show NB C - 1 ≤ NB C by omega)
    have e2 : sm (PL C) (NB C - 1 + 1) = HL C := by rw [show NB C - 1 + 1 = NB C by omega]; rfl
    exact ⟨NB C - 1, by omega, by rw [e]; exact hs, by rw [e2]; omega, Or.inl ⟨e, rfl⟩⟩
theorem k_entered (hn : NB C ≤ 24) (hl : HL C ≤ 128) (hP : KP fc C) {b p : Nat} (hb : b < NB C) (h1 : sm (PL C) b ≤ p) (h : (p = HL C ∧ b = NB C - 1) ∨ (p < HL C ∧ p < sm (PL C) (b + 1))) : pX0_enteredBlock (nI p) (nI (NB C)) (nI (HL C)) fc = some (nI b) := by
  unfold pX0_enteredBlock
  rcases h with ⟨rfl, rfl⟩ | ⟨h2, h3⟩
  · rw [if_pos rfl, show (1 : Int32) = nI 1 from rfl, pk_sub (by omega)]
  · rw [if_neg (fun q => by have := (nI_eq (by omega) (by omega)).mp q; omega), k_holderOf hn hl hP hb h1 h3]; rfl
theorem r_room (hc : c < 3) (hR : RCa a c C) (hn : NB C ≤ 24) {p q : Nat} (hp : p < 2 ^ 20) (hq : q < 2 ^ 20) (hl : HL C ≤ 128) : pX10_hasRoom (nI c) (nI p) (nI q) a = some (if HL C + p ≤ 128 ∧ NB C + q ≤ 24 then nI 1 else nI 0) := by
  unfold pX10_hasRoom
  by_cases h1 : HL C + p ≤ 128
  · by_cases h2 : NB C + q ≤ 24
    · simp (disch := omega) only [n_l0, n_l1, n_l2, n_l3, n_l4, n_l5, n_l6, n_l7, n_l8, n_l9, n_l15, n_l16, n_l17, n_l20, n_l24, n_l31, n_l32, n_l33, n_l36, n_l48, n_l49, n_l97, n_l128, n_l129, n_l192, n_l225, n_l256, n_l353, n_l400, n_l512, n_l593, n_l621, n_l640, n_l857, n_l1093, n_l1095, n_l2048, n_l3225, n_l10000, n_l22955, n_l29988, n_l29989, n_l65536, n_l99999, n_l1000000000, n_l2147483647, nI_add, pk_mul, pk_sub, pk_div, nI_clamp, ckN, nI_leI, nI_ltI, nI_eq, nI_nm1, Nat.add_zero, nI_addneg, k_ush, true_or, or_true, false_or, or_false, true_and, and_true, false_and, and_false, not_true_eq_false, not_false_eq_true, if_true, if_false, if_pos, if_neg, Option.bind_some, r_places hc hR hn, eHL, r_blocks hc hR, h1, h2]
    · simp (disch := omega) only [n_l0, n_l1, n_l2, n_l3, n_l4, n_l5, n_l6, n_l7, n_l8, n_l9, n_l15, n_l16, n_l17, n_l20, n_l24, n_l31, n_l32, n_l33, n_l36, n_l48, n_l49, n_l97, n_l128, n_l129, n_l192, n_l225, n_l256, n_l353, n_l400, n_l512, n_l593, n_l621, n_l640, n_l857, n_l1093, n_l1095, n_l2048, n_l3225, n_l10000, n_l22955, n_l29988, n_l29989, n_l65536, n_l99999, n_l1000000000, n_l2147483647, nI_add, pk_mul, pk_sub, pk_div, nI_clamp, ckN, nI_leI, nI_ltI, nI_eq, nI_nm1, Nat.add_zero, nI_addneg, k_ush, true_or, or_true, false_or, or_false, true_and, and_true, false_and, and_false, not_true_eq_false, not_false_eq_true, if_true, if_false, if_pos, if_neg, Option.bind_some, r_places hc hR hn, eHL, r_blocks hc hR, h1, h2]
  · simp (disch := omega) only [n_l0, n_l1, n_l2, n_l3, n_l4, n_l5, n_l6, n_l7, n_l8, n_l9, n_l15, n_l16, n_l17, n_l20, n_l24, n_l31, n_l32, n_l33, n_l36, n_l48, n_l49, n_l97, n_l128, n_l129, n_l192, n_l225, n_l256, n_l353, n_l400, n_l512, n_l593, n_l621, n_l640, n_l857, n_l1093, n_l1095, n_l2048, n_l3225, n_l10000, n_l22955, n_l29988, n_l29989, n_l65536, n_l99999, n_l1000000000, n_l2147483647, nI_add, pk_mul, pk_sub, pk_div, nI_clamp, ckN, nI_leI, nI_ltI, nI_eq, nI_nm1, Nat.add_zero, nI_addneg, k_ush, true_or, or_true, false_or, or_false, true_and, and_true, false_and, and_false, not_true_eq_false, not_false_eq_true, if_true, if_false, if_pos, if_neg, Option.bind_some, r_places hc hR hn, eHL, h1]
theorem k_room (hn : NB C ≤ 24) {p q : Nat} (hp : p < 2 ^ 20) (hq : q < 2 ^ 20) (hl : HL C ≤ 128) : pX0_hasRoom (nI p) (nI q) (nI (NB C)) (nI (HL C)) = some (if HL C + p ≤ 128 ∧ NB C + q ≤ 24 then nI 1 else nI 0) := by
  unfold pX0_hasRoom
  by_cases h1 : HL C + p ≤ 128
  · by_cases h2 : NB C + q ≤ 24
    · simp (disch := omega) only [n_l0, n_l1, n_l2, n_l3, n_l4, n_l5, n_l6, n_l7, n_l8, n_l9, n_l15, n_l16, n_l17, n_l20, n_l24, n_l31, n_l32, n_l33, n_l36, n_l48, n_l49, n_l97, n_l128, n_l129, n_l192, n_l225, n_l256, n_l353, n_l400, n_l512, n_l593, n_l621, n_l640, n_l857, n_l1093, n_l1095, n_l2048, n_l3225, n_l10000, n_l22955, n_l29988, n_l29989, n_l65536, n_l99999, n_l1000000000, n_l2147483647, nI_add, pk_mul, pk_sub, pk_div, nI_clamp, ckN, nI_leI, nI_ltI, nI_eq, nI_nm1, Nat.add_zero, nI_addneg, k_ush, true_or, or_true, false_or, or_false, true_and, and_true, false_and, and_false, not_true_eq_false, not_false_eq_true, if_true, if_false, if_pos, if_neg, Option.bind_some, h1, h2]
    · simp (disch := omega) only [n_l0, n_l1, n_l2, n_l3, n_l4, n_l5, n_l6, n_l7, n_l8, n_l9, n_l15, n_l16, n_l17, n_l20, n_l24, n_l31, n_l32, n_l33, n_l36, n_l48, n_l49, n_l97, n_l128, n_l129, n_l192, n_l225, n_l256, n_l353, n_l400, n_l512, n_l593, n_l621, n_l640, n_l857, n_l1093, n_l1095, n_l2048, n_l3225, n_l10000, n_l22955, n_l29988, n_l29989, n_l65536, n_l99999, n_l1000000000, n_l2147483647, nI_add, pk_mul, pk_sub, pk_div, nI_clamp, ckN, nI_leI, nI_ltI, nI_eq, nI_nm1, Nat.add_zero, nI_addneg, k_ush, true_or, or_true, false_or, or_false, true_and, and_true, false_and, and_false, not_true_eq_false, not_false_eq_true, if_true, if_false, if_pos, if_neg, Option.bind_some, h1, h2]
  · simp (disch := omega) only [n_l0, n_l1, n_l2, n_l3, n_l4, n_l5, n_l6, n_l7, n_l8, n_l9, n_l15, n_l16, n_l17, n_l20, n_l24, n_l31, n_l32, n_l33, n_l36, n_l48, n_l49, n_l97, n_l128, n_l129, n_l192, n_l225, n_l256, n_l353, n_l400, n_l512, n_l593, n_l621, n_l640, n_l857, n_l1093, n_l1095, n_l2048, n_l3225, n_l10000, n_l22955, n_l29988, n_l29989, n_l65536, n_l99999, n_l1000000000, n_l2147483647, nI_add, pk_mul, pk_sub, pk_div, nI_clamp, ckN, nI_leI, nI_ltI, nI_eq, nI_nm1, Nat.add_zero, nI_addneg, k_ush, true_or, or_true, false_or, or_false, true_and, and_true, false_and, and_false, not_true_eq_false, not_false_eq_true, if_true, if_false, if_pos, if_neg, Option.bind_some, h1]
/-- the reference: a value stands in its place, the block's places are told -/
theorem r_insP (hc : c < 3) (hR : RCa a c C) (ho : OKC C) (hroom : HL C + 1 ≤ 128) {b p : Nat} (hb : b < NB C) (h1 : sm (PL C) b ≤ p) (h2 : p ≤ sm (PL C) (b + 1)) (v : Int32) : ∃ a2, pX10_openPlaces (nI c) (nI p) (nI 1) a = some a2 ∧ pX10_putPlace (nI c) (nI p) v (nI 0) a2 = some (pP a2 c p (some v)) ∧ RCa (upd (pP a2 c p (some v)) (36 + 353 * c + 1 + 4 * b + 0) (nI (PL C b + 1))) c (enC C b p v) ∧ FR c a (upd (pP a2 c p (some v)) (36 + 353 * c + 1 + 4 * b + 0) (nI (PL C b + 1))) := by
  have hn := ho.1
  have hl := ho.2.1
  have hs := sm_lt2 hb
  have hs1 : sm (PL C) (b + 1) = sm (PL C) b + PL C b := rfl
  obtain ⟨a2, e1, e2, e3, e4, e5⟩ := r_openPlaces (L := HL C) hc hR hn rfl (by omega) (p := p) (by omega)
  have hB := RB_fr hn (RC_BV.mp hR).1 e2
  have hB3 : RB (pP a2 c p (some v)) c (NB C) (PL C) (FM C) (WD C) (ST C) := RB_fr hn hB (fun i hi => pP_lo _ hi)
  refine ⟨a2, e1, r_putPP hc (show p < 128 by omega) (some v), RC_BV.mpr ⟨r_putPl (n := PL C b + 1) hc hB3 hb hn, ?_⟩, FR_tr e3 (FR_tr (pP_fr (by omega) _) (FR_u (by unfold inC; omega) _ _))⟩
  show RV _ c (HL (enC C b p v)) (insN (TV C) p (some v))
  rw [enC_HL hb]
  have hV : RV (pP a2 c p (some v)) c (HL C + 1) (insN (TV C) p (some v)) := pP_RV (show p < 128 by omega) (by omega) (some v) (fun j hj hjp => by
    rcases Nat.lt_or_ge j p with h5 | h5
    · rw [ins_lo h5]; exact e4 j h5
    · obtain ⟨m, rfl⟩ : ∃ m, j = m + 1 := ⟨j - 1, by omega⟩
      rw [ins_hi (show p ≤ m by omega)]; exact e5 m (by omega) (by omega)) (fun _ => ins_at)
  exact RV_fr (by omega) hV (fun i h1 h2 => by rw [u_ne (by omega)])
theorem k_allBitsN {n : Nat} (hN : NB C = n) (ho : OKC C) (hF : ∀ b, b < NB C → KF fc C b) : pX0_all (nI 5) (nI n) fc = some (nI (sm (ct C) (NB C))) := by
  subst hN; exact k_allBits ho hF
theorem k_retellN (m1 m2 m3 m4 m5 m6 m7 m8 m9 m10 m11 : Int32) (n1 n2 n3 : Nat → Int32) {n H : Nat} (hN : NB C = n) (hn : n ≤ 24) (hl : HL C ≤ H) (hH : H ≤ 128) (hT : ∀ k, k < H → tl k = enc (TV C k)) (hP : KP fc C) {b : Nat} (hb : b < n) (hp : PL C b ≤ 16) : ∃ z, pX0_retell 128 (nI b) (nI n) (nI H) tl fc m1 m2 m3 m4 m5 m6 m7 m8 m9 m10 m11 n1 n2 n3 = some z ∧ KP z.1 (tlC C b) ∧ KF z.1 (tlC C b) b ∧ (∀ b', b' ≠ b → b' < n → KF fc C b' → KF z.1 (tlC C b) b') ∧ z.1 (b * 8 + 5) = nI (bt3 C b).2.2 := by
  subst hN; exact k_retell m1 m2 m3 m4 m5 m6 m7 m8 m9 m10 m11 n1 n2 n3 hn hl hH hT hP hb hp
theorem enC_NB {b p : Nat} {v : Int32} : NB (enC C b p v) = NB C := rfl
theorem splC_NB {b n f0 w0 : Nat} {s0 : Int32} : NB (splC C b n f0 w0 s0) = NB C + 1 := rfl
/-- the reference comes to the block -/
theorem r_insGo (xv xw xp xs xf xu xt xb : Int32) (vs : Nat → Int32) (ps : Nat → Int64) (hc : c < 3) (hR : RCa a c C) (hn : NB C ≤ 24) (hl : HL C ≤ 128) {b p : Nat} (hb : b < NB C) (hp : p ≤ HL C) (h1 : sm (PL C) b ≤ p) (hcase : (p = HL C ∧ b = NB C - 1) ∨ (p < HL C ∧ p < sm (PL C) (b + 1))) : pX10_insert (nI c) (nI p) v3 xv xw xp xs xf xu xt xb a vs ps = pX10_insert_j55 (nI c) (nI p) v3 (nI b) xv xw xp xs xf xu xt xb a vs ps := by
  have hnz : ¬ nI (NB C) = (0 : Int32) := fun q => by have := (nI_eq (b := 0) (by omega) (by omega)).mp q; omega
  unfold pX10_insert
  rw [r_isCol hc, Option.bind_some, if_neg (show ¬ nI 1 = 0 by decide), r_blocks hc hR, Option.bind_some, if_neg hnz, r_places hc hR hn, eHL, Option.bind_some, show pX10_isIn (nI p) 0 (nI (HL C)) = some (nI 1) from r_isInT (l := 0) (Nat.zero_le _) (by omega) (by omega), Option.bind_some, if_neg (show ¬ nI 1 = 0 by decide), Option.bind_some]
  rcases hcase with ⟨q1, q2⟩ | ⟨q1, q2⟩
  · rw [if_pos (by rw [q1]), Option.bind_some, show (1 : Int32) = nI 1 from rfl, pk_sub (show 1 ≤ NB C by omega), ← q2]
  · rw [if_neg (fun q => by have := (nI_eq (by omega) (by omega)).mp q; omega), r_blockWith hc hR hn hl hb h1 q2, Option.bind_some]
theorem r_ins16 (xv xw xp xs xf xu xt xb : Int32) (vs : Nat → Int32) (ps : Nat → Int64) {f h0 : Nat} (ha0 : a 0 = nI h0) (ha1 : a 1 = nI f) (hh : h0 ≤ 20) (hf : f < 20) (hc : c < 3) (hR : RCa a c C) (ho : OKC C) {b p : Nat} (hb : b < NB C) (h1 : sm (PL C) b ≤ p) (h2 : p ≤ sm (PL C) (b + 1)) (h16 : PL C b = 16) (hroom : HL C + 1 ≤ 128 ∧ NB C + 1 ≤ 24) (v : Int32) :
    ∃ z f0 w0 s0 a1, pX10_insert_j55 (nI c) (nI p) v (nI b) xv xw xp xs xf xu xt xb a vs ps = some z ∧ pX10_keep a = some a1 ∧ FR c a1 z.2.2.2.2.2.2.2.2.2.1 ∧ RCa z.2.2.2.2.2.2.2.2.2.1 c (tlC (tlC (splC (enC C b p v) b 8 f0 w0 s0) b) (b + 1)) ∧ OKC (tlC (tlC (splC (enC C b p v) b 8 f0 w0 s0) b) (b + 1)) ∧ z.1 = nI (sm (ct (tlC (tlC (splC (enC C b p v) b 8 f0 w0 s0) b) (b + 1))) (NB (tlC (tlC (splC (enC C b p v) b 8 f0 w0 s0) b) (b + 1)))) := by
  have hn := ho.1
  have hl := ho.2.1
  have hof0 : pX10_ofBlock (nI c) (nI b) 0 a = some (nI (PL C b)) := r_ofPl hc hR hb hn
  obtain ⟨a1, ek, hK⟩ := r_keep ha0 ha1 hh hf
  have hR1 := RC_now hc ho hK.2.2.1 hR
  obtain ⟨a2, e1, e2, e3, e4⟩ := r_insP hc hR1 ho hroom.1 hb h1 h2 v
  have hHL : HL (enC C b p v) = HL C + 1 := enC_HL hb
  have hplE : PL (enC C b p v) b = PL C b + 1 := ud_at _ _ _
  have hPL17 : PL (enC C b p v) b - 8 = 9 := by rw [hplE]; omega
  have h8 : 8 ≤ PL (enC C b p v) b := by rw [hplE]; omega
  have hbE : b < NB (enC C b p v) := hb
  obtain ⟨a5, f0, w0, s0, g1, g2, g3⟩ := r_cut (C := enC C b p v) (n := 8) hc e3 (by rw [enC_NB]; omega) (by rw [hHL]; omega) hbE h8
  rw [hPL17] at g1
  have hHL2 : HL (splC (enC C b p v) b 8 f0 w0 s0) = HL C + 1 := (splC_HL h8 hbE).trans hHL
  have hNB2 : NB (splC (enC C b p v) b 8 f0 w0 s0) = NB C + 1 := by rw [splC_NB, enC_NB]
  have hp0 : PL (splC (enC C b p v) b 8 f0 w0 s0) b = 8 := spl_0
  have hp1 : PL (splC (enC C b p v) b 8 f0 w0 s0) (b + 1) = 9 := by rw [← hPL17]; exact spl_1
  obtain ⟨z, ez, z1, z2⟩ := r_tell (C := splC (enC C b p v) b 8 f0 w0 s0) xv xw xp xs xf xu xt xb vs ps hc g2 (by rw [hNB2]; omega) (by rw [hHL2]; omega) (b := b + 1) (by rw [hNB2]; omega) (by rw [hp1]; omega)
  obtain ⟨y, ey, y1, y2⟩ := r_tell (C := tlC (splC (enC C b p v) b 8 f0 w0 s0) (b + 1)) z.1 z.2.1 z.2.2.1 z.2.2.2.1 z.2.2.2.2.1 z.2.2.2.2.2.1 z.2.2.2.2.2.2.1 z.2.2.2.2.2.2.2.1 z.2.2.2.2.2.2.2.2.2.1 z.2.2.2.2.2.2.2.2.2.2 hc z1 (by rw [tl_NB, hNB2]; omega) (by rw [tl_HL, hHL2]; omega) (b := b) (by rw [tl_NB, hNB2]; omega) (by rw [tl_PL, hp0]; omega)
  rw [tl_comm (show b + 1 ≠ b by omega)] at y1
  have hOK : OKC (tlC (tlC (splC (enC C b p v) b 8 f0 w0 s0) b) (b + 1)) := okC_two (by rw [hNB2]; omega) (by rw [hHL2]; omega) (by rw [hp0]; omega) (by rw [hp0]; omega) (by rw [hp1]; omega) (by rw [hp1]; omega) (fun j j1 j2 j3 => by
    rw [hNB2] at j3
    rcases Nat.lt_or_ge j b with h5 | h5
    · exact BL_okb (splC_lo h5) (BL_okb (enC_n h1 h2 j1) (ho.2.2 j (by omega)))
    · obtain ⟨m, rfl⟩ : ∃ m, j = m + 1 := ⟨j - 1, by omega⟩
      exact BL_okb (splC_hi h8 (show b + 1 ≤ m by omega)) (BL_okb (enC_n h1 h2 (by omega)) (ho.2.2 m (by omega))))
  obtain ⟨q, eq, hq⟩ := r_bitsOfColumn y.1 y.2.1 y.2.2.1 y.2.2.2.1 y.2.2.2.2.2.2.2.2.2.1 y.2.2.2.2.2.2.2.2.2.2 hc y1 hOK
  have hroomR : pX10_hasRoom (nI c) 1 1 a = some (nI 1) := by
    rw [show (1 : Int32) = nI 1 from rfl, r_room (p := 1) (q := 1) hc hR hn (by omega) (by omega) hl, if_pos hroom]
  refine ⟨(q.1, q.2.1, q.2.2.1, q.2.2.2.1, q.2.2.2.2.1, y.2.2.2.2.1, y.2.2.2.2.2.1, y.2.2.2.2.2.2.1, y.2.2.2.2.2.2.2.1, y.2.2.2.2.2.2.2.2.1, q.2.2.2.2.2.1, q.2.2.2.2.2.2), f0, w0, s0, a1, ?_, ek, FR_tr e4 (FR_tr g3 (FR_tr z2 y2)), y1, hOK, hq⟩
  unfold pX10_insert_j55 pX10_insert_j82 pX10_insert_j158
  rw [hof0, Option.bind_some, h16, if_pos (show nI 16 = 16 from rfl), hroomR, Option.bind_some, if_neg (show ¬ nI 1 = 0 by decide), ek, Option.bind_some, show (1 : Int32) = nI 1 from rfl, e1, Option.bind_some, show (0 : Int32) = nI 0 from rfl, e2, Option.bind_some, show pX10_putBlock (nI c) (nI b) (nI 0) (nI 16 + nI 1) (pP a2 c p (some v)) = some (upd (pP a2 c p (some v)) (36 + 353 * c + 1 + 4 * b + 0) (nI (PL C b + 1))) from by rw [nI_add, h16]; exact r_putBlock hc (by omega) (by omega) _, Option.bind_some, if_pos (show nI 16 = 16 from rfl), show (8 : Int32) = nI 8 from rfl, r_putBlock hc (show b < 24 by omega) (by omega), Option.bind_some, nI_add, show (9 : Int32) = nI 9 from rfl, g1, Option.bind_some, ez, Option.bind_some, ey, Option.bind_some, eq, Option.bind_some]
theorem k_ins16 (m1 m2 m3 m4 m5 m6 m7 m8 m9 m10 m11 : Int32) (n1 n2 n3 : Nat → Int32) (hc : c < 3) (ho : OKC C) (hT : KT tl C) (hP : KP fc C) (hF : ∀ b, b < NB C → KF fc C b) {b p : Nat} (hb : b < NB C) (hp : p ≤ HL C) (h1 : sm (PL C) b ≤ p) (h2 : p ≤ sm (PL C) (b + 1)) (hent : pX0_enteredBlock (nI p) (nI (NB C)) (nI (HL C)) fc = some (nI b)) (h16 : PL C b = 16) (hroom : HL C + 1 ≤ 128 ∧ NB C + 1 ≤ 24) (v : Int32) (f0 w0 : Nat) (s0 : Int32) (hOK : OKC (tlC (tlC (splC (enC C b p v) b 8 f0 w0 s0) b) (b + 1))) :
    ∃ w, pX9_insert 16 128 (nI c) (nI p) v xc m1 m2 m3 m4 m5 m6 m7 m8 m9 m10 m11 n1 n2 n3 (nI (NB C)) (nI (HL C)) tl fc = some w ∧ w.1 = nI (sm (ct (tlC (tlC (splC (enC C b p v) b 8 f0 w0 s0) b) (b + 1))) (NB (tlC (tlC (splC (enC C b p v) b 8 f0 w0 s0) b) (b + 1)))) ∧ w.2.1 = true ∧ KC w.2.2.2.2.2.2.2.2.2.2.2.2.2.2.2.2.1 w.2.2.2.2.2.2.2.2.2.2.2.2.2.2.2.2.2.1 w.2.2.2.2.2.2.2.2.2.2.2.2.2.2.2.2.2.2.1 w.2.2.2.2.2.2.2.2.2.2.2.2.2.2.2.2.2.2.2 (tlC (tlC (splC (enC C b p v) b 8 f0 w0 s0) b) (b + 1)) := by
  have hn := ho.1
  have hl := ho.2.1
  have hnz : ¬ nI (NB C) = (0 : Int32) := fun q => by have := (nI_eq (b := 0) (by omega) (by omega)).mp q; omega
  have hfa := k_fact (fc := fc) hb hn (show 0 < 8 by omega)
  rw [Nat.add_zero, hP b hb] at hfa
  have hHL : HL (enC C b p v) = HL C + 1 := enC_HL hb
  have hplE : PL (enC C b p v) b = PL C b + 1 := ud_at _ _ _
  have hPL17 : PL (enC C b p v) b - 8 = 9 := by rw [hplE]; omega
  have h8 : 8 ≤ PL (enC C b p v) b := by rw [hplE]; omega
  have hT3 : ∀ k, k < HL C + 1 → vp_updL (va_cpy tl tl p (p + 1) (HL C - p)) p v.toInt64 k = enc (TV (enC C b p v) k) := enter_T (by omega) hT v
  have hP3 : KP (upd fc (b * 8 + 0) (nI (PL C b + 1))) (enC C b p v) := fun j hj => by
    show _ = nI (ud (PL C) b (PL C b + 1) j)
    by_cases hjb : j = b
    · subst hjb; rw [ud_at]; exact u_at _ _ _
    · rw [ud_ne hjb, u_ne (by omega)]; exact hP j hj
  have hF3 : ∀ j, j ≠ b → j < NB (enC C b p v) → KF (upd fc (b * 8 + 0) (nI (PL C b + 1))) (enC C b p v) j := fun j hjb hj => BL_KF (enC_n h1 h2 hjb) (fun q hq => u_ne (by omega)) (hF j hj)
  have hbE : b < NB (enC C b p v) := hb
  obtain ⟨w, ew, w1, hKC⟩ := k_cutInTwo (C := enC C b p v) (n := 8) (f0 := f0) (w0 := w0) (s0 := s0) (tl := vp_updL (va_cpy tl tl p (p + 1) (HL C - p)) p v.toInt64) (fc := upd fc (b * 8 + 0) (nI (PL C b + 1))) m1 m2 m3 m4 m5 m6 m7 m8 m9 m10 m11 n1 n2 n3 (H := HL C + 1) (by rw [enC_NB]; omega) hbE h8 hP3 hF3 hHL (by omega) hT3 (by omega) (by rw [hPL17]; omega)
  rw [enC_NB, h16] at ew
  rw [enC_NB] at w1 hKC
  have hroomK : pX0_hasRoom 1 1 (nI (NB C)) (nI (HL C)) = some (nI 1) := by
    rw [show (1 : Int32) = nI 1 from rfl, k_room (C := C) (p := 1) (q := 1) hn (by omega) (by omega) hl, if_pos hroom]
  have hNB3 : NB (tlC (tlC (splC (enC C b p v) b 8 f0 w0 s0) b) (b + 1)) = NB C + 1 := by rw [tl_NB, tl_NB, splC_NB, enC_NB]
  have hall := k_allBitsN hNB3 hOK hKC.2.2.2.2
  unfold pX9_insert pX0_canEnter pX0_canEnter_j46 pX0_enter
  rw [k_col hc, Option.bind_some, if_pos rfl, if_neg hnz, if_neg (nI_pos (by omega)), if_pos (nI_le hp (by omega)), hent, Option.bind_some, show (0 : Int32) = nI 0 from rfl, hfa, Option.bind_some, h16, if_pos (show nI 16 = 16 from rfl), hroomK, Option.bind_some, Option.bind_some, if_neg (show ¬ nI 1 = nI 0 by decide), Option.bind_some, hfa, Option.bind_some, k_enter hp (by omega), Option.bind_some, show (1 : Int32) = nI 1 from rfl, h16, nI_add, k_keepFact hb hn (by omega), Option.bind_some, if_neg (show ¬ nI (16 + 1) ≤ (16 : Int32) by decide), show (8 : Int32) = nI 8 from rfl, ew, Option.bind_some, Option.bind_some, w1, show (5 : Int32) = nI 5 from rfl, hall, Option.bind_some]
  exact ⟨_, rfl, rfl, rfl, hKC⟩
theorem r_insL (xv xw xp xs xf xu xt xb : Int32) (vs : Nat → Int32) (ps : Nat → Int64) {f h0 : Nat} (ha0 : a 0 = nI h0) (ha1 : a 1 = nI f) (hh : h0 ≤ 20) (hf : f < 20) (hc : c < 3) (hR : RCa a c C) (ho : OKC C) {b p : Nat} (hb : b < NB C) (h1 : sm (PL C) b ≤ p) (h2 : p ≤ sm (PL C) (b + 1)) (h16 : PL C b ≠ 16) (hroom : HL C + 1 ≤ 128) (v : Int32) :
    ∃ z a1, pX10_insert_j55 (nI c) (nI p) v (nI b) xv xw xp xs xf xu xt xb a vs ps = some z ∧ pX10_keep a = some a1 ∧ FR c a1 z.2.2.2.2.2.2.2.2.2.1 ∧ RCa z.2.2.2.2.2.2.2.2.2.1 c (tlC (enC C b p v) b) ∧ OKC (tlC (enC C b p v) b) ∧ z.1 = nI (sm (ct (tlC (enC C b p v) b)) (NB (tlC (enC C b p v) b))) := by
  have hn := ho.1
  have hl := ho.2.1
  obtain ⟨o1, o2, o3⟩ := ho.2.2 b hb
  have hne16 : ¬ nI (PL C b) = (16 : Int32) := fun q => h16 ((nI_eq (b := 16) (by omega) (by omega)).mp q)
  have hof0 : pX10_ofBlock (nI c) (nI b) 0 a = some (nI (PL C b)) := r_ofPl hc hR hb hn
  obtain ⟨a1, ek, hK⟩ := r_keep ha0 ha1 hh hf
  have hR1 := RC_now hc ho hK.2.2.1 hR
  obtain ⟨a2, e1, e2, e3, e4⟩ := r_insP hc hR1 ho hroom hb h1 h2 v
  have hHL : HL (enC C b p v) = HL C + 1 := enC_HL hb
  have hplE : PL (enC C b p v) b = PL C b + 1 := ud_at _ _ _
  obtain ⟨y, ey, y1, y2⟩ := r_tell (C := enC C b p v) xv xw xp xs xf xu xt xb vs ps hc e3 (by rw [enC_NB]; exact hn) (by rw [hHL]; omega) (b := b) (by rw [enC_NB]; exact hb) (by rw [hplE]; omega)
  have hOK : OKC (tlC (enC C b p v) b) := okC_one (by rw [enC_NB]; exact hn) (by rw [hHL]; omega) (by rw [hplE]; omega) (by rw [hplE]; omega) (fun j hjb hj => BL_okb (enC_n h1 h2 hjb) (ho.2.2 j hj))
  obtain ⟨q, eq, hq⟩ := r_bitsOfColumn y.1 y.2.1 y.2.2.1 y.2.2.2.1 y.2.2.2.2.2.2.2.2.2.1 y.2.2.2.2.2.2.2.2.2.2 hc y1 hOK
  have hroomR : pX10_hasRoom (nI c) 1 0 a = some (nI 1) := by
    rw [show (1 : Int32) = nI 1 from rfl, show (0 : Int32) = nI 0 from rfl, r_room (p := 1) (q := 0) hc hR hn (by omega) (by omega) hl, if_pos (by omega)]
  refine ⟨(q.1, q.2.1, q.2.2.1, q.2.2.2.1, q.2.2.2.2.1, y.2.2.2.2.1, y.2.2.2.2.2.1, y.2.2.2.2.2.2.1, y.2.2.2.2.2.2.2.1, y.2.2.2.2.2.2.2.2.1, q.2.2.2.2.2.1, q.2.2.2.2.2.2), a1, ?_, ek, FR_tr e4 y2, y1, hOK, hq⟩
  unfold pX10_insert_j55 pX10_insert_j82 pX10_insert_j158
  rw [hof0, Option.bind_some, if_neg hne16, hroomR, Option.bind_some, if_neg (show ¬ nI 1 = 0 by decide), ek, Option.bind_some, show (1 : Int32) = nI 1 from rfl, e1, Option.bind_some, show (0 : Int32) = nI 0 from rfl, e2, Option.bind_some, nI_add, r_putBlock hc (show b < 24 by omega) (by omega), Option.bind_some, if_neg hne16, ey, Option.bind_some, eq, Option.bind_some]
theorem k_insL (m1 m2 m3 m4 m5 m6 m7 m8 m9 m10 m11 : Int32) (n1 n2 n3 : Nat → Int32) (hc : c < 3) (ho : OKC C) (hT : KT tl C) (hP : KP fc C) (hF : ∀ b, b < NB C → KF fc C b) {b p : Nat} (hb : b < NB C) (hp : p ≤ HL C) (h1 : sm (PL C) b ≤ p) (h2 : p ≤ sm (PL C) (b + 1)) (hent : pX0_enteredBlock (nI p) (nI (NB C)) (nI (HL C)) fc = some (nI b)) (h16 : PL C b ≠ 16) (hroom : HL C + 1 ≤ 128) (v : Int32) (hOK : OKC (tlC (enC C b p v) b)) :
    ∃ w, pX9_insert 16 128 (nI c) (nI p) v xc m1 m2 m3 m4 m5 m6 m7 m8 m9 m10 m11 n1 n2 n3 (nI (NB C)) (nI (HL C)) tl fc = some w ∧ w.1 = nI (sm (ct (tlC (enC C b p v) b)) (NB (tlC (enC C b p v) b))) ∧ w.2.1 = true ∧ KC w.2.2.2.2.2.2.2.2.2.2.2.2.2.2.2.2.1 w.2.2.2.2.2.2.2.2.2.2.2.2.2.2.2.2.2.1 w.2.2.2.2.2.2.2.2.2.2.2.2.2.2.2.2.2.2.1 w.2.2.2.2.2.2.2.2.2.2.2.2.2.2.2.2.2.2.2 (tlC (enC C b p v) b) := by
  have hn := ho.1
  have hl := ho.2.1
  obtain ⟨o1, o2, o3⟩ := ho.2.2 b hb
  have hne16 : ¬ nI (PL C b) = (16 : Int32) := fun q => h16 ((nI_eq (b := 16) (by omega) (by omega)).mp q)
  have hnz : ¬ nI (NB C) = (0 : Int32) := fun q => by have := (nI_eq (b := 0) (by omega) (by omega)).mp q; omega
  have hfa := k_fact (fc := fc) hb hn (show 0 < 8 by omega)
  rw [Nat.add_zero, hP b hb] at hfa
  have hHL : HL (enC C b p v) = HL C + 1 := enC_HL hb
  have hplE : PL (enC C b p v) b = PL C b + 1 := ud_at _ _ _
  have hT3 : ∀ k, k < HL C + 1 → vp_updL (va_cpy tl tl p (p + 1) (HL C - p)) p v.toInt64 k = enc (TV (enC C b p v) k) := enter_T (by omega) hT v
  have hP3 : KP (upd fc (b * 8 + 0) (nI (PL C b + 1))) (enC C b p v) := fun j hj => by
    show _ = nI (ud (PL C) b (PL C b + 1) j)
    by_cases hjb : j = b
    · subst hjb; rw [ud_at]; exact u_at _ _ _
    · rw [ud_ne hjb, u_ne (by omega)]; exact hP j hj
  have hF3 : ∀ j, j ≠ b → j < NB C → KF (upd fc (b * 8 + 0) (nI (PL C b + 1))) (enC C b p v) j := fun j hjb hj => BL_KF (enC_n h1 h2 hjb) (fun q hq => u_ne (by omega)) (hF j hj)
  obtain ⟨w, ew, w1, w2, w3, _⟩ := k_retellN (C := enC C b p v) (fc := upd fc (b * 8 + 0) (nI (PL C b + 1))) (tl := vp_updL (va_cpy tl tl p (p + 1) (HL C - p)) p v.toInt64) m1 m2 m3 m4 m5 m6 m7 m8 m9 m10 m11 n1 n2 n3 (n := NB C) (H := HL C + 1) enC_NB hn (by rw [hHL]; exact Nat.le_refl _) (by omega) hT3 hP3 hb (by rw [hplE]; omega)
  have hKF : ∀ j, j < NB (tlC (enC C b p v) b) → KF w.1 (tlC (enC C b p v) b) j := fun j hj => by
    rw [tl_NB, enC_NB] at hj
    by_cases hjb : j = b
    · subst hjb; exact w2
    · exact w3 j hjb hj (hF3 j hjb hj)
  have hNB3 : NB (tlC (enC C b p v) b) = NB C := by rw [tl_NB, enC_NB]
  have hKC : KC (nI (NB C)) (nI (HL C + 1)) (vp_updL (va_cpy tl tl p (p + 1) (HL C - p)) p v.toInt64) w.1 (tlC (enC C b p v) b) := ⟨by rw [hNB3], by rw [tl_HL, hHL], fun k hk => hT3 k (by rw [tl_HL, hHL] at hk; exact hk), w1, hKF⟩
  have hall := k_allBitsN hNB3 hOK hKF
  have hroomK : pX0_hasRoom 1 (nI 0) (nI (NB C)) (nI (HL C)) = some (nI 1) := by
    rw [show (1 : Int32) = nI 1 from rfl, k_room (C := C) (p := 1) (q := 0) hn (by omega) (by omega) hl, if_pos (by omega)]
  unfold pX9_insert pX0_canEnter pX0_canEnter_j46 pX0_enter
  rw [k_col hc, Option.bind_some, if_pos rfl, if_neg hnz, if_neg (nI_pos (by omega)), if_pos (nI_le hp (by omega)), hent, Option.bind_some, show (0 : Int32) = nI 0 from rfl, hfa, Option.bind_some, if_neg hne16, hroomK, Option.bind_some, Option.bind_some, if_neg (show ¬ nI 1 = nI 0 by decide), Option.bind_some, hfa, Option.bind_some, k_enter hp (by omega), Option.bind_some, show (1 : Int32) = nI 1 from rfl, nI_add, k_keepFact hb hn (by omega), Option.bind_some, if_pos (show nI (PL C b + 1) ≤ (16 : Int32) from nI_le (b := 16) (by omega) (by omega)), ew, Option.bind_some, Option.bind_some, show (5 : Int32) = nI 5 from rfl, hall, Option.bind_some]
  exact ⟨_, rfl, rfl, rfl, hKC⟩
theorem q_insert (xv xw xp xs xf xu xt xb : Int32) (vs : Nat → Int32) (ps : Nat → Int64) (m1 m2 m3 m4 m5 m6 m7 m8 m9 m10 m11 : Int32) (n1 n2 n3 : Nat → Int32) {f h0 : Nat} (ha0 : a 0 = nI h0) (ha1 : a 1 = nI f) (hh : h0 ≤ 20) (hf : f < 20) (h : COL a v1 bk hd tl fc C) :
    ∃ z w, pX10_insert v1 v2 v3 xv xw xp xs xf xu xt xb a vs ps = some z ∧ pX9_insert 16 128 v1 v2 v3 xc m1 m2 m3 m4 m5 m6 m7 m8 m9 m10 m11 n1 n2 n3 bk hd tl fc = some w ∧ w.1 = z.1 ∧ MU a v1 w.2.1 z.2.2.2.2.2.2.2.2.2.1 w.2.2.2.2.2.2.2.2.2.2.2.2.2.2.2.2.1 w.2.2.2.2.2.2.2.2.2.2.2.2.2.2.2.2.2.1 w.2.2.2.2.2.2.2.2.2.2.2.2.2.2.2.2.2.2.1 w.2.2.2.2.2.2.2.2.2.2.2.2.2.2.2.2.2.2.2 := by
  have h' := h
  obtain ⟨⟨rfl, rfl, hT, hP, hF⟩, ho, hr⟩ := h
  have hn := ho.1
  have hl := ho.2.1
  have hH : ∀ k, k < HL C → tl k = enc (TV C k) := hT
  rcases col_cases v1 with ⟨c, hc, rfl⟩ | hv
  · have hR := hr c hc rfl
    by_cases hn0 : NB C = 0
    · have hz : nI (NB C) = (0 : Int32) := by rw [hn0]; rfl
      unfold pX10_insert pX9_insert pX0_canEnter
      rw [r_isCol hc, Option.bind_some, if_neg (show ¬ nI 1 = 0 by decide), r_blocks hc hR, Option.bind_some, if_pos hz, k_col hc, Option.bind_some, if_pos rfl, if_pos hz, Option.bind_some, if_pos rfl]
      exact ⟨_, _, rfl, rfl, rfl, MU_no h'⟩
    have hnz : ¬ nI (NB C) = (0 : Int32) := fun q => hn0 ((nI_eq (b := 0) (by omega) (by omega)).mp q)
    rcases ix_cases v2 (n := HL C + 1) (by omega) with ⟨p, hp, rfl⟩ | hp
    · obtain ⟨b, hb, h1, h2, hcase⟩ := ent_ex (C := C) (by omega) (show p ≤ HL C by omega)
      obtain ⟨o1, o2, o3⟩ := ho.2.2 b hb
      have hent := k_entered hn hl hP hb h1 hcase
      rw [r_insGo xv xw xp xs xf xu xt xb vs ps hc hR hn hl hb (by omega) h1 hcase]
      by_cases hroom : HL C + 1 ≤ 128 ∧ NB C + (if PL C b = 16 then 1 else 0) ≤ 24
      · by_cases h16 : PL C b = 16
        · rw [if_pos h16] at hroom
          obtain ⟨z, f0, w0, s0, a1, ez, ek, z1, z2, hOK, z3⟩ := r_ins16 xv xw xp xs xf xu xt xb vs ps ha0 ha1 hh hf hc hR ho hb h1 h2 h16 hroom v3
          obtain ⟨w, ew, w1, w2, hKC⟩ := k_ins16 (xc := xc) m1 m2 m3 m4 m5 m6 m7 m8 m9 m10 m11 n1 n2 n3 hc ho hT hP hF hb (by omega) h1 h2 hent h16 hroom v3 f0 w0 s0 hOK
          exact ⟨z, w, ez, ew, by rw [w1, z3], by rw [w2]; exact MU_yes hc ek z1 hKC hOK z2⟩
        · rw [if_neg h16] at hroom
          obtain ⟨z, a1, ez, ek, z1, z2, hOK, z3⟩ := r_insL xv xw xp xs xf xu xt xb vs ps ha0 ha1 hh hf hc hR ho hb h1 h2 h16 hroom.1 v3
          obtain ⟨w, ew, w1, w2, hKC⟩ := k_insL (xc := xc) m1 m2 m3 m4 m5 m6 m7 m8 m9 m10 m11 n1 n2 n3 hc ho hT hP hF hb (by omega) h1 h2 hent h16 hroom.1 v3 hOK
          exact ⟨z, w, ez, ew, by rw [w1, z3], by rw [w2]; exact MU_yes hc ek z1 hKC hOK z2⟩
      · have hof0 : pX10_ofBlock (nI c) (nI b) 0 a = some (nI (PL C b)) := r_ofPl hc hR hb hn
        have hrr := fun q hq => r_room (p := 1) (q := q) hc hR hn (by omega) hq hl
        have hkr := fun q hq => k_room (C := C) (p := 1) (q := q) hn (by omega) hq hl
        have hfa := k_fact (fc := fc) hb hn (show 0 < 8 by omega)
        rw [Nat.add_zero, hP b hb] at hfa
        have hjj : pX10_insert_j55 (nI c) (nI p) v3 (nI b) xv xw xp xs xf xu xt xb a vs ps = some (-1, xv, xw, xp, xs, xf, xu, xt, xb, a, vs, ps) := by
          unfold pX10_insert_j55 pX10_insert_j82
          rw [hof0, Option.bind_some]
          by_cases h16 : PL C b = 16
          · rw [if_pos h16] at hroom
            rw [h16, if_pos (show nI 16 = 16 from rfl), show pX10_hasRoom (nI c) 1 1 a = some (nI 0) from by rw [show (1 : Int32) = nI 1 from rfl, hrr 1 (by omega), if_neg hroom], Option.bind_some, if_pos (show nI 0 = 0 from rfl)]
          · rw [if_neg h16] at hroom
            rw [if_neg (show ¬ nI (PL C b) = (16 : Int32) from fun q => h16 ((nI_eq (b := 16) (by omega) (by omega)).mp q)), show pX10_hasRoom (nI c) 1 0 a = some (nI 0) from by rw [show (1 : Int32) = nI 1 from rfl, show (0 : Int32) = nI 0 from rfl, hrr 0 (by omega), if_neg hroom], Option.bind_some, if_pos (show nI 0 = 0 from rfl)]
        have hce : pX0_canEnter (nI p) (nI (NB C)) (nI (HL C)) fc = some (nI 0) := by
          unfold pX0_canEnter pX0_canEnter_j46
          rw [if_neg hnz, if_neg (nI_pos (by omega)), if_pos (nI_le (show p ≤ HL C by omega) (by omega)), hent, Option.bind_some, show (0 : Int32) = nI 0 from rfl, hfa, Option.bind_some]
          by_cases h16 : PL C b = 16
          · rw [if_pos h16] at hroom
            rw [h16, if_pos (show nI 16 = 16 from rfl), show (1 : Int32) = nI 1 from rfl, hkr 1 (by omega), if_neg hroom]; rfl
          · rw [if_neg h16] at hroom
            rw [if_neg (show ¬ nI (PL C b) = (16 : Int32) from fun q => h16 ((nI_eq (b := 16) (by omega) (by omega)).mp q)), show (1 : Int32) = nI 1 from rfl, hkr 0 (by omega), if_neg hroom]; rfl
        unfold pX9_insert
        rw [hjj, k_col hc, Option.bind_some, if_pos rfl, hce, Option.bind_some, if_pos (show nI 0 = 0 from rfl)]
        exact ⟨_, _, rfl, rfl, rfl, MU_no h'⟩
    · have hi : pX10_isIn v2 (nI 0) (nI (HL C)) = some (nI 0) := by
        rcases hp with hp | hp
        · exact r_isIn_lo hp
        · refine r_isIn_hi ?_
          have := Int32.le_iff_toInt_le.mp hp
          refine Int32.lt_iff_toInt_lt.mpr ?_
          rw [nI_toInt (by omega)] at this ⊢
          omega
      have hce : pX0_canEnter v2 (nI (NB C)) (nI (HL C)) fc = some (nI 0) := by
        unfold pX0_canEnter
        rw [if_neg hnz]
        rcases hp with hp | hp
        · rw [if_pos hp]; rfl
        · rw [if_neg (show ¬ v2 ≤ nI (HL C) from fun q => by
            have q1 := Int32.le_iff_toInt_le.mp hp
            have q2 := Int32.le_iff_toInt_le.mp q
            rw [nI_toInt (by omega)] at q1 q2
            omega)]
          split <;> rfl
      unfold pX10_insert pX9_insert
      simp (disch := omega) only [n_l0, n_l1, n_l2, n_l3, n_l4, n_l5, n_l6, n_l7, n_l8, n_l9, n_l15, n_l16, n_l17, n_l20, n_l24, n_l31, n_l32, n_l33, n_l36, n_l48, n_l49, n_l97, n_l128, n_l129, n_l192, n_l225, n_l256, n_l353, n_l400, n_l512, n_l593, n_l621, n_l640, n_l857, n_l1093, n_l1095, n_l2048, n_l3225, n_l10000, n_l22955, n_l29988, n_l29989, n_l65536, n_l99999, n_l1000000000, n_l2147483647, nI_add, pk_mul, pk_sub, pk_div, nI_clamp, ckN, nI_leI, nI_ltI, nI_eq, nI_nm1, Nat.add_zero, nI_addneg, k_ush, true_or, or_true, false_or, or_false, true_and, and_true, false_and, and_false, not_true_eq_false, not_false_eq_true, if_true, if_false, if_pos, if_neg, Option.bind_some, r_isCol hc, r_blocks hc hR, r_places hc hR hn, eHL, k_col hc, hn0, hi, hce]
      exact ⟨_, _, rfl, rfl, rfl, MU_no h'⟩
  · unfold pX10_insert pX9_insert
    simp (disch := omega) only [n_l0, n_l1, n_l2, n_l3, n_l4, n_l5, n_l6, n_l7, n_l8, n_l9, n_l15, n_l16, n_l17, n_l20, n_l24, n_l31, n_l32, n_l33, n_l36, n_l48, n_l49, n_l97, n_l128, n_l129, n_l192, n_l225, n_l256, n_l353, n_l400, n_l512, n_l593, n_l621, n_l640, n_l857, n_l1093, n_l1095, n_l2048, n_l3225, n_l10000, n_l22955, n_l29988, n_l29989, n_l65536, n_l99999, n_l1000000000, n_l2147483647, nI_add, pk_mul, pk_sub, pk_div, nI_clamp, ckN, nI_leI, nI_ltI, nI_eq, nI_nm1, Nat.add_zero, nI_addneg, k_ush, true_or, or_true, false_or, or_false, true_and, and_true, false_and, and_false, not_true_eq_false, not_false_eq_true, if_true, if_false, if_pos, if_neg, Option.bind_some, r_isColO hv, k_colO hv, Bool.false_eq_true]
    exact ⟨_, _, rfl, rfl, rfl, MU_no h'⟩
end Q
