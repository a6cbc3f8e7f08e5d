/-! ===== blocks and places come and go ===== -/
def insN {α : Type} (f : Nat → α) (b : Nat) (x : α) (j : Nat) : α := if j < b then f j else if j = b then x else f (j - 1)
theorem ins_lo {α : Type} {f : Nat → α} {b j : Nat} {x : α} (h : j < b) : insN f b x j = f j := if_pos h
theorem ins_at {α : Type} {f : Nat → α} {b : Nat} {x : α} : insN f b x b = x := by unfold insN; rw [if_neg (Nat.lt_irrefl b), if_pos rfl]
theorem ins_hi {α : Type} {f : Nat → α} {b j : Nat} {x : α} (h : b ≤ j) : insN f b x (j + 1) = f j := by unfold insN; rw [if_neg (by omega), if_neg (by omega)]; rfl
def delN {α : Type} (f : Nat → α) (b n : Nat) (j : Nat) : α := if j < b then f j else f (j + n)
theorem del_lo {α : Type} {f : Nat → α} {b n j : Nat} (h : j < b) : delN f b n j = f j := if_pos h
theorem del_hi {α : Type} {f : Nat → α} {b n j : Nat} (h : b ≤ j) : delN f b n j = f (j + n) := if_neg (by omega)
theorem cpkN {α : Type} {sp dp n N0 N1 : Nat} {x : Option α} (h1 : sp + n ≤ N0) (h2 : dp + n ≤ N1) (h3 : N0 < 2 ^ 31) (h4 : N1 < 2 ^ 31) : cpk (nI sp) (nI dp) (nI n) N0 N1 x = x := by
  unfold cpk
  rw [nI_clamp (by omega), nI_clamp (by omega), nI_clamp (by omega)]
  exact if_pos ⟨nI_pos (by omega), nI_pos (by omega), nI_pos (by omega), h1, h2⟩
section Blk
variable {c nb : Nat} {a : Nat → Int32} {pl fm wd : Nat → Nat} {st : Nat → Int32}
theorem r_blocksB (hc : c < 3) (h : a (36 + 353 * c) = nI nb) : pX10_blocks (nI c) a = some (nI nb) := by
  unfold pX10_blocks pX10_at
  simp (disch := omega) only [n_l0, n_l1, n_l2, n_l3, n_l4, n_l5, n_l6, n_l7, n_l8, n_l9, n_l15, n_l16, n_l17, n_l20, n_l24, n_l31, n_l32, n_l33, n_l36, n_l48, n_l49, n_l97, n_l128, n_l129, n_l192, n_l225, n_l256, n_l353, n_l400, n_l512, n_l593, n_l621, n_l640, n_l857, n_l1093, n_l1095, n_l2048, n_l3225, n_l10000, n_l22955, n_l29988, n_l29989, n_l65536, n_l99999, n_l1000000000, n_l2147483647, nI_add, pk_mul, pk_sub, pk_div, nI_clamp, ckN, nI_leI, nI_ltI, nI_eq, nI_nm1, Nat.add_zero, nI_addneg, k_ush, true_or, or_true, false_or, or_false, true_and, and_true, false_and, and_false, not_true_eq_false, not_false_eq_true, if_true, if_false, if_pos, if_neg, Option.bind_some, h]
theorem r_openBlock (hc : c < 3) (h : RB a c nb pl fm wd st) (hnb : nb < 24) {b : Nat} (hb : b ≤ nb) (n : Nat) : ∃ a' f0 w0 s0, pX10_openBlock (nI c) (nI b) (nI n) a = some a' ∧ RB a' c (nb + 1) (insN pl b n) (insN fm b f0) (insN wd b w0) (insN st b s0) ∧ (∀ i, 97 ≤ i → i < 353 → a' (36 + 353 * c + i) = a (36 + 353 * c + i)) ∧ FR c a a' := by
  obtain ⟨r, e, hr⟩ := lpE (body := pX10_openBlock_b19 (nI b) (nI (36 + 353 * c + 1))) (fun j s => s.1 = dn (4 * nb - j) ∧ ∀ i, s.2 i = if 36 + 353 * c + 1 + (4 * nb - j) + 4 ≤ i ∧ i < 36 + 353 * c + 1 + 4 * nb + 4 then a (i - 4) else a i)
    (fun r => ∀ i, r.2 i = if 36 + 353 * c + 1 + 4 * b + 4 ≤ i ∧ i < 36 + 353 * c + 1 + 4 * nb + 4 then a (i - 4) else a i) (4 * nb - 4 * b) (dn (4 * nb), a) ⟨rfl, fun i => by rw [if_neg (by omega)]⟩ (fun j s hj hI => by
    obtain ⟨s1, s2⟩ := s
    obtain ⟨h1, h2⟩ := hI
    replace h1 : s1 = dn (4 * nb - j) := h1
    replace h2 : ∀ i, s2 i = if 36 + 353 * c + 1 + (4 * nb - j) + 4 ≤ i ∧ i < 36 + 353 * c + 1 + 4 * nb + 4 then a (i - 4) else a i := h2
    subst h1
    unfold pX10_openBlock_b19
    rcases Nat.lt_or_ge j (4 * nb - 4 * b) with h9 | h9
    · refine Or.inl ?_
      obtain ⟨m, hm⟩ : ∃ m, 4 * nb - j = m + 1 := ⟨4 * nb - j - 1, by omega⟩
      rw [hm] at h2 ⊢
      rw [dn_s]
      simp (disch := omega) only [n_l0, n_l1, n_l2, n_l3, n_l4, n_l5, n_l6, n_l7, n_l8, n_l9, n_l15, n_l16, n_l17, n_l20, n_l24, n_l31, n_l32, n_l33, n_l36, n_l48, n_l49, n_l97, n_l128, n_l129, n_l192, n_l225, n_l256, n_l353, n_l400, n_l512, n_l593, n_l621, n_l640, n_l857, n_l1093, n_l1095, n_l2048, n_l3225, n_l10000, n_l22955, n_l29988, n_l29989, n_l65536, n_l99999, n_l1000000000, n_l2147483647, nI_add, pk_mul, pk_sub, pk_div, nI_clamp, ckN, nI_leI, nI_ltI, nI_eq, nI_nm1, Nat.add_zero, nI_addneg, k_ush, true_or, or_true, false_or, or_false, true_and, and_true, false_and, and_false, not_true_eq_false, not_false_eq_true, if_true, if_false, if_pos, if_neg, Option.bind_some, dn_sub]
      refine ⟨_, rfl, h9, by rw [show 4 * nb - (j + 1) = m by omega], fun i => ?_⟩
      show upd s2 (36 + 353 * c + 1 + m + 4) (s2 (36 + 353 * c + 1 + m)) i = _
      by_cases hi : i = 36 + 353 * c + 1 + m + 4
      · subst hi
        rw [u_at, h2, if_neg (by omega), if_pos (by omega), Nat.add_sub_cancel]
      · rw [u_ne hi, h2]
        by_cases hi2 : 36 + 353 * c + 1 + (m + 1) + 4 ≤ i ∧ i < 36 + 353 * c + 1 + 4 * nb + 4
        · rw [if_pos hi2, if_pos (by omega)]
        · rw [if_neg hi2, if_neg (by omega)]
    · obtain rfl : j = 4 * nb - 4 * b := by omega
      rw [show 4 * nb - (4 * nb - 4 * b) = 4 * b by omega] at h2 ⊢
      refine Or.inr ?_
      have hlt : dn (4 * b) < nI (4 * b) := by
        unfold dn
        split
        · rename_i h0; rw [h0]; decide
        · exact nI_lt (by omega) (by omega)
      simp (disch := omega) only [n_l0, n_l1, n_l2, n_l3, n_l4, n_l5, n_l6, n_l7, n_l8, n_l9, n_l15, n_l16, n_l17, n_l20, n_l24, n_l31, n_l32, n_l33, n_l36, n_l48, n_l49, n_l97, n_l128, n_l129, n_l192, n_l225, n_l256, n_l353, n_l400, n_l512, n_l593, n_l621, n_l640, n_l857, n_l1093, n_l1095, n_l2048, n_l3225, n_l10000, n_l22955, n_l29988, n_l29989, n_l65536, n_l99999, n_l1000000000, n_l2147483647, nI_add, pk_mul, pk_sub, pk_div, nI_clamp, ckN, nI_leI, nI_ltI, nI_eq, nI_nm1, Nat.add_zero, nI_addneg, k_ush, true_or, or_true, false_or, or_false, true_and, and_true, false_and, and_false, not_true_eq_false, not_false_eq_true, if_true, if_false, if_pos, if_neg, Option.bind_some, hlt]
      exact ⟨_, rfl, h2⟩)
  unfold pX10_openBlock
  rw [r_blocksB hc h.1]
  have hat : pX10_at (nI c) = some (nI (36 + 353 * c)) := by
    unfold pX10_at
    simp (disch := omega) only [n_l0, n_l1, n_l2, n_l3, n_l4, n_l5, n_l6, n_l7, n_l8, n_l9, n_l15, n_l16, n_l17, n_l20, n_l24, n_l31, n_l32, n_l33, n_l36, n_l48, n_l49, n_l97, n_l128, n_l129, n_l192, n_l225, n_l256, n_l353, n_l400, n_l512, n_l593, n_l621, n_l640, n_l857, n_l1093, n_l1095, n_l2048, n_l3225, n_l10000, n_l22955, n_l29988, n_l29989, n_l65536, n_l99999, n_l1000000000, n_l2147483647, nI_add, pk_mul, pk_sub, pk_div, nI_clamp, ckN, nI_leI, nI_ltI, nI_eq, nI_nm1, Nat.add_zero, nI_addneg, k_ush, true_or, or_true, false_or, or_false, true_and, and_true, false_and, and_false, not_true_eq_false, not_false_eq_true, if_true, if_false, if_pos, if_neg, Option.bind_some]
  have e0 : (4 : Int32) * nI nb - 1 = dn (4 * nb) := by
    rw [show (4 : Int32) = nI 4 from rfl, pk_mul, show (1 : Int32) = nI 1 from rfl, dn_sub2]
  rw [hat, Option.bind_some, Option.bind_some, show (1 : Int32) = nI 1 from rfl, nI_add, show (4 : Int32) * nI nb - nI 1 = dn (4 * nb) from e0, e, Option.bind_some, Option.bind_some, ckN (by omega) (by omega), ckN (by omega) (by omega), nI_clamp (by omega), hr, if_neg (by omega), h.1, nI_add, show (0 : Int32) = nI 0 from rfl, r_putBlock hc (show b < 24 by omega) (by omega), Option.bind_some]
  have cell : ∀ i, i ≠ 36 + 353 * c → i ≠ 36 + 353 * c + 1 + 4 * b + 0 → upd (upd r.2 (36 + 353 * c) (nI (nb + 1))) (36 + 353 * c + 1 + 4 * b + 0) (nI n) i = if 36 + 353 * c + 1 + 4 * b + 4 ≤ i ∧ i < 36 + 353 * c + 1 + 4 * nb + 4 then a (i - 4) else a i := fun i h1 h2 => by
    rw [u_ne h2, u_ne h1, hr]
  refine ⟨_, u32 (a (36 + 353 * c + 1 + 4 * b + 1)), u32 (a (36 + 353 * c + 1 + 4 * b + 2)), a (36 + 353 * c + 1 + 4 * b + 3), rfl, ⟨?_, fun j hj => ?_⟩, fun i h1 h2 => ?_, fun i hi => ?_⟩
  · rw [u_ne (by omega), u_at]
  · rcases Nat.lt_or_ge j b with h1 | h1
    · obtain ⟨g1, g2, g3, g4⟩ := h.2 j (by omega)
      rw [ins_lo h1, ins_lo h1, ins_lo h1, ins_lo h1, cell _ (by omega) (by omega), cell _ (by omega) (by omega), cell _ (by omega) (by omega), cell _ (by omega) (by omega), if_neg (by omega), if_neg (by omega), if_neg (by omega), if_neg (by omega)]
      exact ⟨g1, g2, g3, g4⟩
    · rcases Nat.lt_or_ge b j with h2 | h2
      · obtain ⟨m, rfl⟩ : ∃ m, j = m + 1 := ⟨j - 1, by omega⟩
        obtain ⟨g1, g2, g3, g4⟩ := h.2 m (by omega)
        rw [ins_hi (show b ≤ m by omega), ins_hi (show b ≤ m by omega), ins_hi (show b ≤ m by omega), ins_hi (show b ≤ m by omega), cell _ (by omega) (by omega), cell _ (by omega) (by omega), cell _ (by omega) (by omega), cell _ (by omega) (by omega), if_pos (by omega), if_pos (by omega), if_pos (by omega), if_pos (by omega), ← g1, ← g2, ← g3, ← g4]
        refine ⟨congrArg a (by omega), congrArg a (by omega), congrArg a (by omega), congrArg a (by omega)⟩
      · obtain rfl : j = b := by omega
        rw [ins_at, ins_at, ins_at, ins_at]
        refine ⟨u_at _ _ _, ?_, ?_, ?_⟩
        · rw [cell _ (by omega) (by omega), if_neg (by omega), nI_u32]
        · rw [cell _ (by omega) (by omega), if_neg (by omega), nI_u32]
        · rw [cell _ (by omega) (by omega), if_neg (by omega)]
  · rw [cell _ (by omega) (by omega), if_neg (by omega)]
  · unfold inC at hi
    rw [cell _ (by omega) (by omega), if_neg (by omega)]
theorem r_shutBlock (hc : c < 3) (h : RB a c nb pl fm wd st) (hnb : nb ≤ 24) {b : Nat} (hb : b < nb) : ∃ a', pX10_shutBlock (nI c) (nI b) a = some a' ∧ RB a' c (nb - 1) (delN pl b 1) (delN fm b 1) (delN wd b 1) (delN st b 1) ∧ (∀ i, 97 ≤ i → i < 353 → a' (36 + 353 * c + i) = a (36 + 353 * c + i)) ∧ FR c a a' := by
  obtain ⟨r, e, hr⟩ := lpE (body := pX10_shutBlock_b12 (nI c) (nI (36 + 353 * c + 1))) (fun j s => s.1 = nI (4 * b + j) ∧ ∀ i, s.2 i = if 36 + 353 * c + 1 + 4 * b ≤ i ∧ i < 36 + 353 * c + 1 + 4 * b + j then a (i + 4) else a i)
    (fun r => ∀ i, r.2 i = if 36 + 353 * c + 1 + 4 * b ≤ i ∧ i < 36 + 353 * c + 1 + (4 * nb - 4) then a (i + 4) else a i) (4 * nb - 4 - 4 * b) (nI (4 * b), a) ⟨rfl, fun i => by rw [if_neg (by omega)]⟩ (fun j s hj hI => by
    obtain ⟨s1, s2⟩ := s
    obtain ⟨h1, h2⟩ := hI
    replace h1 : s1 = nI (4 * b + j) := h1
    replace h2 : ∀ i, s2 i = if 36 + 353 * c + 1 + 4 * b ≤ i ∧ i < 36 + 353 * c + 1 + 4 * b + j then a (i + 4) else a i := h2
    subst h1
    have hbl : pX10_blocks (nI c) s2 = some (nI nb) := r_blocksB hc (by rw [h2, if_neg (by omega)]; exact h.1)
    unfold pX10_shutBlock_b12
    rcases Nat.lt_or_ge j (4 * nb - 4 - 4 * b) with h9 | h9
    · refine Or.inl ?_
      simp (disch := omega) only [n_l0, n_l1, n_l2, n_l3, n_l4, n_l5, n_l6, n_l7, n_l8, n_l9, n_l15, n_l16, n_l17, n_l20, n_l24, n_l31, n_l32, n_l33, n_l36, n_l48, n_l49, n_l97, n_l128, n_l129, n_l192, n_l225, n_l256, n_l353, n_l400, n_l512, n_l593, n_l621, n_l640, n_l857, n_l1093, n_l1095, n_l2048, n_l3225, n_l10000, n_l22955, n_l29988, n_l29989, n_l65536, n_l99999, n_l1000000000, n_l2147483647, nI_add, pk_mul, pk_sub, pk_div, nI_clamp, ckN, nI_leI, nI_ltI, nI_eq, nI_nm1, Nat.add_zero, nI_addneg, k_ush, true_or, or_true, false_or, or_false, true_and, and_true, false_and, and_false, not_true_eq_false, not_false_eq_true, if_true, if_false, if_pos, if_neg, Option.bind_some, hbl]
      refine ⟨_, rfl, h9, rfl, fun i => ?_⟩
      show upd s2 (36 + 353 * c + 1 + (4 * b + j)) (s2 (36 + 353 * c + 1 + (4 * b + j) + 4)) i = _
      by_cases hi : i = 36 + 353 * c + 1 + (4 * b + j)
      · subst hi
        rw [u_at, h2, if_neg (by omega), if_pos (by omega)]
      · rw [u_ne hi, h2]
        by_cases hi2 : 36 + 353 * c + 1 + 4 * b ≤ i ∧ i < 36 + 353 * c + 1 + 4 * b + j
        · rw [if_pos hi2, if_pos (by omega)]
        · rw [if_neg hi2, if_neg (by omega)]
    · obtain rfl : j = 4 * nb - 4 - 4 * b := by omega
      refine Or.inr ?_
      rw [show 36 + 353 * c + 1 + 4 * b + (4 * nb - 4 - 4 * b) = 36 + 353 * c + 1 + (4 * nb - 4) by omega] at h2
      simp (disch := omega) only [n_l0, n_l1, n_l2, n_l3, n_l4, n_l5, n_l6, n_l7, n_l8, n_l9, n_l15, n_l16, n_l17, n_l20, n_l24, n_l31, n_l32, n_l33, n_l36, n_l48, n_l49, n_l97, n_l128, n_l129, n_l192, n_l225, n_l256, n_l353, n_l400, n_l512, n_l593, n_l621, n_l640, n_l857, n_l1093, n_l1095, n_l2048, n_l3225, n_l10000, n_l22955, n_l29988, n_l29989, n_l65536, n_l99999, n_l1000000000, n_l2147483647, nI_add, pk_mul, pk_sub, pk_div, nI_clamp, ckN, nI_leI, nI_ltI, nI_eq, nI_nm1, Nat.add_zero, nI_addneg, k_ush, true_or, or_true, false_or, or_false, true_and, and_true, false_and, and_false, not_true_eq_false, not_false_eq_true, if_true, if_false, if_pos, if_neg, Option.bind_some, hbl]
      exact ⟨_, rfl, h2⟩)
  have hat : pX10_at (nI c) = some (nI (36 + 353 * c)) := by
    unfold pX10_at
    simp (disch := omega) only [n_l0, n_l1, n_l2, n_l3, n_l4, n_l5, n_l6, n_l7, n_l8, n_l9, n_l15, n_l16, n_l17, n_l20, n_l24, n_l31, n_l32, n_l33, n_l36, n_l48, n_l49, n_l97, n_l128, n_l129, n_l192, n_l225, n_l256, n_l353, n_l400, n_l512, n_l593, n_l621, n_l640, n_l857, n_l1093, n_l1095, n_l2048, n_l3225, n_l10000, n_l22955, n_l29988, n_l29989, n_l65536, n_l99999, n_l1000000000, n_l2147483647, nI_add, pk_mul, pk_sub, pk_div, nI_clamp, ckN, nI_leI, nI_ltI, nI_eq, nI_nm1, Nat.add_zero, nI_addneg, k_ush, true_or, or_true, false_or, or_false, true_and, and_true, false_and, and_false, not_true_eq_false, not_false_eq_true, if_true, if_false, if_pos, if_neg, Option.bind_some]
  -- the last block's cells
  obtain ⟨q, eq, hq⟩ := lpE (body := pX10_shutBlock_b68 (nI c)) (fun j s => s.1 = nI j ∧ ∀ i, s.2 i = if 36 + 353 * c + 1 + 4 * (nb - 1) ≤ i ∧ i < 36 + 353 * c + 1 + 4 * (nb - 1) + j then nI 0 else upd r.2 (36 + 353 * c) (nI (nb - 1)) i)
    (fun q => ∀ i, q.2 i = if 36 + 353 * c + 1 + 4 * (nb - 1) ≤ i ∧ i < 36 + 353 * c + 1 + 4 * (nb - 1) + 4 then nI 0 else upd r.2 (36 + 353 * c) (nI (nb - 1)) i) 4 (nI 0, upd r.2 (36 + 353 * c) (nI (nb - 1))) ⟨rfl, fun i => by rw [if_neg (by omega)]⟩ (fun j s hj hI => by
    obtain ⟨s1, s2⟩ := s
    obtain ⟨h1, h2⟩ := hI
    replace h1 : s1 = nI j := h1
    replace h2 : ∀ i, s2 i = if 36 + 353 * c + 1 + 4 * (nb - 1) ≤ i ∧ i < 36 + 353 * c + 1 + 4 * (nb - 1) + j then nI 0 else upd r.2 (36 + 353 * c) (nI (nb - 1)) i := h2
    subst h1
    have hbl : pX10_blocks (nI c) s2 = some (nI (nb - 1)) := r_blocksB hc (by rw [h2, if_neg (by omega), u_at])
    unfold pX10_shutBlock_b68
    rcases Nat.lt_or_ge j 4 with h9 | h9
    · refine Or.inl ?_
      simp (disch := omega) only [n_l0, n_l1, n_l2, n_l3, n_l4, n_l5, n_l6, n_l7, n_l8, n_l9, n_l15, n_l16, n_l17, n_l20, n_l24, n_l31, n_l32, n_l33, n_l36, n_l48, n_l49, n_l97, n_l128, n_l129, n_l192, n_l225, n_l256, n_l353, n_l400, n_l512, n_l593, n_l621, n_l640, n_l857, n_l1093, n_l1095, n_l2048, n_l3225, n_l10000, n_l22955, n_l29988, n_l29989, n_l65536, n_l99999, n_l1000000000, n_l2147483647, nI_add, pk_mul, pk_sub, pk_div, nI_clamp, ckN, nI_leI, nI_ltI, nI_eq, nI_nm1, Nat.add_zero, nI_addneg, k_ush, true_or, or_true, false_or, or_false, true_and, and_true, false_and, and_false, not_true_eq_false, not_false_eq_true, if_true, if_false, if_pos, if_neg, Option.bind_some, hbl, r_putBlock hc (show nb - 1 < 24 by omega) h9]
      refine ⟨_, rfl, h9, rfl, fun i => ?_⟩
      show upd s2 (36 + 353 * c + 1 + 4 * (nb - 1) + j) (nI 0) i = _
      by_cases hi : i = 36 + 353 * c + 1 + 4 * (nb - 1) + j
      · subst hi
        rw [u_at, if_pos (by omega)]
      · rw [u_ne hi, h2]
        by_cases hi2 : 36 + 353 * c + 1 + 4 * (nb - 1) ≤ i ∧ i < 36 + 353 * c + 1 + 4 * (nb - 1) + j
        · rw [if_pos hi2, if_pos (by omega)]
        · rw [if_neg hi2, if_neg (by omega)]
    · obtain rfl : j = 4 := by omega
      refine Or.inr ?_
      simp (disch := omega) only [n_l0, n_l1, n_l2, n_l3, n_l4, n_l5, n_l6, n_l7, n_l8, n_l9, n_l15, n_l16, n_l17, n_l20, n_l24, n_l31, n_l32, n_l33, n_l36, n_l48, n_l49, n_l97, n_l128, n_l129, n_l192, n_l225, n_l256, n_l353, n_l400, n_l512, n_l593, n_l621, n_l640, n_l857, n_l1093, n_l1095, n_l2048, n_l3225, n_l10000, n_l22955, n_l29988, n_l29989, n_l65536, n_l99999, n_l1000000000, n_l2147483647, nI_add, pk_mul, pk_sub, pk_div, nI_clamp, ckN, nI_leI, nI_ltI, nI_eq, nI_nm1, Nat.add_zero, nI_addneg, k_ush, true_or, or_true, false_or, or_false, true_and, and_true, false_and, and_false, not_true_eq_false, not_false_eq_true, if_true, if_false, if_pos, if_neg, Option.bind_some]
      exact ⟨_, rfl, h2⟩)
  unfold pX10_shutBlock
  rw [hat, Option.bind_some, show (1 : Int32) = nI 1 from rfl, nI_add, show (4 : Int32) * nI b = nI (4 * b) from pk_mul 4 b, e, Option.bind_some, Option.bind_some, ckN (by omega) (by omega), ckN (by omega) (by omega), nI_clamp (by omega)]
  have h00 : r.2 (36 + 353 * c) - nI 1 = nI (nb - 1) := by rw [hr, if_neg (by omega), h.1, pk_sub (by omega)]
  rw [h00, n_l0, eq, Option.bind_some]
  have cell : ∀ i, i ≠ 36 + 353 * c → ¬ (36 + 353 * c + 1 + 4 * (nb - 1) ≤ i ∧ i < 36 + 353 * c + 1 + 4 * (nb - 1) + 4) → q.2 i = if 36 + 353 * c + 1 + 4 * b ≤ i ∧ i < 36 + 353 * c + 1 + (4 * nb - 4) then a (i + 4) else a i := fun i h1 h2 => by
    rw [hq, if_neg h2, u_ne h1, hr]
  refine ⟨_, rfl, ⟨?_, fun j hj => ?_⟩, fun i h1 h2 => ?_, fun i hi => ?_⟩
  · rw [hq, if_neg (by omega), u_at]
  · rcases Nat.lt_or_ge j b with h1 | h1
    · obtain ⟨g1, g2, g3, g4⟩ := h.2 j (by omega)
      rw [del_lo h1, del_lo h1, del_lo h1, del_lo h1, cell _ (by omega) (by omega), cell _ (by omega) (by omega), cell _ (by omega) (by omega), cell _ (by omega) (by omega), if_neg (by omega), if_neg (by omega), if_neg (by omega), if_neg (by omega)]
      exact ⟨g1, g2, g3, g4⟩
    · obtain ⟨g1, g2, g3, g4⟩ := h.2 (j + 1) (by omega)
      rw [del_hi h1, del_hi h1, del_hi h1, del_hi h1, cell _ (by omega) (by omega), cell _ (by omega) (by omega), cell _ (by omega) (by omega), cell _ (by omega) (by omega), if_pos (by omega), if_pos (by omega), if_pos (by omega), if_pos (by omega), ← g1, ← g2, ← g3, ← g4]
      refine ⟨congrArg a (by omega), congrArg a (by omega), congrArg a (by omega), congrArg a (by omega)⟩
  · rw [cell _ (by omega) (by omega), if_neg (by omega)]
  · unfold inC at hi
    rw [cell _ (by omega) (by omega), if_neg (by omega)]
end Blk
section Plc
variable {c L : Nat} {a : Nat → Int32} {tv : Nat → Option Int32}
theorem r_valueV (hc : c < 3) {k : Nat} (hk : k < 128) {t : Option Int32} (h : a (36 + 353 * c + 97 + k) = vv t) : pX10_valueAt (nI c) (nI k) a = some (vv t) := by
  unfold pX10_valueAt pX10_at
  simp (disch := omega) only [n_l0, n_l1, n_l2, n_l3, n_l4, n_l5, n_l6, n_l7, n_l8, n_l9, n_l15, n_l16, n_l17, n_l20, n_l24, n_l31, n_l32, n_l33, n_l36, n_l48, n_l49, n_l97, n_l128, n_l129, n_l192, n_l225, n_l256, n_l353, n_l400, n_l512, n_l593, n_l621, n_l640, n_l857, n_l1093, n_l1095, n_l2048, n_l3225, n_l10000, n_l22955, n_l29988, n_l29989, n_l65536, n_l99999, n_l1000000000, n_l2147483647, nI_add, pk_mul, pk_sub, pk_div, nI_clamp, ckN, nI_leI, nI_ltI, nI_eq, nI_nm1, Nat.add_zero, nI_addneg, k_ush, true_or, or_true, false_or, or_false, true_and, and_true, false_and, and_false, not_true_eq_false, not_false_eq_true, if_true, if_false, if_pos, if_neg, Option.bind_some, h]
theorem r_emptyV (hc : c < 3) {k : Nat} (hk : k < 128) {t : Option Int32} (h : a (36 + 353 * c + 225 + k) = ee t) : pX10_isEmpty (nI c) (nI k) a = some (ee t) := by
  unfold pX10_isEmpty pX10_at
  simp (disch := omega) only [n_l0, n_l1, n_l2, n_l3, n_l4, n_l5, n_l6, n_l7, n_l8, n_l9, n_l15, n_l16, n_l17, n_l20, n_l24, n_l31, n_l32, n_l33, n_l36, n_l48, n_l49, n_l97, n_l128, n_l129, n_l192, n_l225, n_l256, n_l353, n_l400, n_l512, n_l593, n_l621, n_l640, n_l857, n_l1093, n_l1095, n_l2048, n_l3225, n_l10000, n_l22955, n_l29988, n_l29989, n_l65536, n_l99999, n_l1000000000, n_l2147483647, nI_add, pk_mul, pk_sub, pk_div, nI_clamp, ckN, nI_leI, nI_ltI, nI_eq, nI_nm1, Nat.add_zero, nI_addneg, k_ush, true_or, or_true, false_or, or_false, true_and, and_true, false_and, and_false, not_true_eq_false, not_false_eq_true, if_true, if_false, if_pos, if_neg, Option.bind_some, h]
  cases t <;> rfl
theorem r_openPlaces {nb : Nat} {pl fm wd : Nat → Nat} {st : Nat → Int32} (hc : c < 3) (h : RC a c nb pl tv fm wd st) (hn : nb ≤ 24) (hL : sm pl nb = L) (hL2 : L ≤ 127) {p : Nat} (hp : p ≤ L) : ∃ a', pX10_openPlaces (nI c) (nI p) (nI 1) a = some a' ∧ (∀ i, i < 97 → a' (36 + 353 * c + i) = a (36 + 353 * c + i)) ∧ FR c a a' ∧ (∀ j, j < p → a' (36 + 353 * c + 97 + j) = vv (tv j) ∧ a' (36 + 353 * c + 225 + j) = ee (tv j)) ∧ ∀ j, p ≤ j → j < L → a' (36 + 353 * c + 97 + (j + 1)) = vv (tv j) ∧ a' (36 + 353 * c + 225 + (j + 1)) = ee (tv j) := by
  obtain ⟨r, e, h1, h2, h3, h4⟩ := lpE (body := pX10_openPlaces_b9 (nI c) (nI p) (nI 1)) (fun j s => s.1 = dn (L - j) ∧ (∀ i, i < 97 → s.2 (36 + 353 * c + i) = a (36 + 353 * c + i)) ∧ FR c a s.2 ∧ (∀ i, i < L - j → s.2 (36 + 353 * c + 97 + i) = vv (tv i) ∧ s.2 (36 + 353 * c + 225 + i) = ee (tv i)) ∧ ∀ i, L - j ≤ i → i < L → s.2 (36 + 353 * c + 97 + (i + 1)) = vv (tv i) ∧ s.2 (36 + 353 * c + 225 + (i + 1)) = ee (tv i))
    (fun r => (∀ i, i < 97 → r.2 (36 + 353 * c + i) = a (36 + 353 * c + i)) ∧ FR c a r.2 ∧ (∀ j, j < p → r.2 (36 + 353 * c + 97 + j) = vv (tv j) ∧ r.2 (36 + 353 * c + 225 + j) = ee (tv j)) ∧ ∀ j, p ≤ j → j < L → r.2 (36 + 353 * c + 97 + (j + 1)) = vv (tv j) ∧ r.2 (36 + 353 * c + 225 + (j + 1)) = ee (tv j)) (L - p) (dn L, a) ⟨rfl, fun _ _ => rfl, FR_rf c a, fun i hi => h.2.2 i (by rw [hL]; exact hi), fun i h1 h2 => absurd h2 (by omega)⟩ (fun j s hj hI => by
    obtain ⟨s1, s2⟩ := s
    obtain ⟨g1, g2, g3, g4, g5⟩ := hI
    replace g1 : s1 = dn (L - j) := g1
    replace g4 : ∀ i, i < L - j → s2 (36 + 353 * c + 97 + i) = vv (tv i) ∧ s2 (36 + 353 * c + 225 + i) = ee (tv i) := g4
    replace g5 : ∀ i, L - j ≤ i → i < L → s2 (36 + 353 * c + 97 + (i + 1)) = vv (tv i) ∧ s2 (36 + 353 * c + 225 + (i + 1)) = ee (tv i) := g5
    subst g1
    unfold pX10_openPlaces_b9
    rcases Nat.lt_or_ge j (L - p) with h9 | h9
    · refine Or.inl ?_
      obtain ⟨m, hm⟩ : ∃ m, L - j = m + 1 := ⟨L - j - 1, by omega⟩
      rw [hm] at g4 g5 ⊢
      rw [dn_s]
      obtain ⟨e1, e2⟩ := g4 m (by omega)
      simp (disch := omega) only [n_l0, n_l1, n_l2, n_l3, n_l4, n_l5, n_l6, n_l7, n_l8, n_l9, n_l15, n_l16, n_l17, n_l20, n_l24, n_l31, n_l32, n_l33, n_l36, n_l48, n_l49, n_l97, n_l128, n_l129, n_l192, n_l225, n_l256, n_l353, n_l400, n_l512, n_l593, n_l621, n_l640, n_l857, n_l1093, n_l1095, n_l2048, n_l3225, n_l10000, n_l22955, n_l29988, n_l29989, n_l65536, n_l99999, n_l1000000000, n_l2147483647, nI_add, pk_mul, pk_sub, pk_div, nI_clamp, ckN, nI_leI, nI_ltI, nI_eq, nI_nm1, Nat.add_zero, nI_addneg, k_ush, true_or, or_true, false_or, or_false, true_and, and_true, false_and, and_false, not_true_eq_false, not_false_eq_true, if_true, if_false, if_pos, if_neg, Option.bind_some, r_valueV hc (show m < 128 by omega) e1, r_emptyV hc (show m < 128 by omega) e2, r_putPP hc (show m + 1 < 128 by omega), dn_sub]
      refine ⟨_, rfl, h9, by rw [show L - (j + 1) = m by omega], fun i hi => ?_, FR_tr g3 (pP_fr (by omega) _), fun i hi => ?_, fun i h5 h6 => ?_⟩
      · show pP s2 c (m + 1) (tv m) _ = _
        rw [pP_lo _ hi]; exact g2 i hi
      · show pP s2 c (m + 1) (tv m) _ = _ ∧ pP s2 c (m + 1) (tv m) _ = _
        rw [pP_v (by omega) (by omega), pP_e (by omega) (by omega), if_neg (by omega), if_neg (by omega)]
        exact g4 i (by omega)
      · show pP s2 c (m + 1) (tv m) _ = _ ∧ pP s2 c (m + 1) (tv m) _ = _
        rw [pP_v (by omega) (by omega), pP_e (by omega) (by omega)]
        by_cases him : i = m
        · subst him
          rw [if_pos rfl, if_pos rfl]; exact ⟨rfl, rfl⟩
        · rw [if_neg (by omega), if_neg (by omega)]
          exact g5 i (by omega) h6
    · obtain rfl : j = L - p := by omega
      rw [show L - (L - p) = p by omega] at g4 g5 ⊢
      refine Or.inr ?_
      have hlt : dn p < nI p := by
        unfold dn
        split
        · rename_i h0; rw [h0]; decide
        · exact nI_lt (by omega) (by omega)
      simp (disch := omega) only [n_l0, n_l1, n_l2, n_l3, n_l4, n_l5, n_l6, n_l7, n_l8, n_l9, n_l15, n_l16, n_l17, n_l20, n_l24, n_l31, n_l32, n_l33, n_l36, n_l48, n_l49, n_l97, n_l128, n_l129, n_l192, n_l225, n_l256, n_l353, n_l400, n_l512, n_l593, n_l621, n_l640, n_l857, n_l1093, n_l1095, n_l2048, n_l3225, n_l10000, n_l22955, n_l29988, n_l29989, n_l65536, n_l99999, n_l1000000000, n_l2147483647, nI_add, pk_mul, pk_sub, pk_div, nI_clamp, ckN, nI_leI, nI_ltI, nI_eq, nI_nm1, Nat.add_zero, nI_addneg, k_ush, true_or, or_true, false_or, or_false, true_and, and_true, false_and, and_false, not_true_eq_false, not_false_eq_true, if_true, if_false, if_pos, if_neg, Option.bind_some, hlt]
      exact ⟨_, rfl, g2, g3, g4, g5⟩)
  refine ⟨r.2, ?_, h1, h2, h3, h4⟩
  unfold pX10_openPlaces
  rw [r_places hc h hn, Option.bind_some, hL, show (1 : Int32) = nI 1 from rfl, dn_sub2, e]; rfl
theorem r_shutPlaces {nb : Nat} {pl fm wd : Nat → Nat} {st : Nat → Int32} (hc : c < 3) (h : RC a c nb pl tv fm wd st) (hn : nb ≤ 24) (hL : sm pl nb = L) (hL2 : L ≤ 128) {p n : Nat} (hp : p + n ≤ L) : ∃ a', pX10_shutPlaces (nI c) (nI p) (nI n) a = some a' ∧ (∀ i, i < 97 → a' (36 + 353 * c + i) = a (36 + 353 * c + i)) ∧ FR c a a' ∧ RV a' c (L - n) (delN tv p n) := by
  obtain ⟨r, e, h1, h2, h3⟩ := lpE (body := pX10_shutPlaces_b12 (nI c) (nI n) (nI L)) (fun j s => s.1 = nI (p + n + j) ∧ (∀ i, i < 97 → s.2 (36 + 353 * c + i) = a (36 + 353 * c + i)) ∧ FR c a s.2 ∧ (∀ i, p + j ≤ i → i < L → s.2 (36 + 353 * c + 97 + i) = vv (tv i) ∧ s.2 (36 + 353 * c + 225 + i) = ee (tv i)) ∧ ∀ i, i < p + j → s.2 (36 + 353 * c + 97 + i) = vv (delN tv p n i) ∧ s.2 (36 + 353 * c + 225 + i) = ee (delN tv p n i))
    (fun r => (∀ i, i < 97 → r.2 (36 + 353 * c + i) = a (36 + 353 * c + i)) ∧ FR c a r.2 ∧ ∀ i, i < L - n → r.2 (36 + 353 * c + 97 + i) = vv (delN tv p n i) ∧ r.2 (36 + 353 * c + 225 + i) = ee (delN tv p n i)) (L - n - p) (nI (p + n), a) ⟨rfl, fun _ _ => rfl, FR_rf c a, fun i h1 h2 => h.2.2 i (by rw [hL]; exact h2), fun i hi => by rw [del_lo (by omega)]; exact h.2.2 i (by rw [hL]; omega)⟩ (fun j s hj hI => by
    obtain ⟨s1, s2⟩ := s
    obtain ⟨g1, g2, g3, g4, g5⟩ := hI
    replace g1 : s1 = nI (p + n + j) := g1
    replace g4 : ∀ i, p + j ≤ i → i < L → s2 (36 + 353 * c + 97 + i) = vv (tv i) ∧ s2 (36 + 353 * c + 225 + i) = ee (tv i) := g4
    replace g5 : ∀ i, i < p + j → s2 (36 + 353 * c + 97 + i) = vv (delN tv p n i) ∧ s2 (36 + 353 * c + 225 + i) = ee (delN tv p n i) := g5
    subst g1
    unfold pX10_shutPlaces_b12
    rcases Nat.lt_or_ge j (L - n - p) with h9 | h9
    · refine Or.inl ?_
      obtain ⟨e1, e2⟩ := g4 (p + n + j) (by omega) (by omega)
      have hdl : delN tv p n (p + j) = tv (p + n + j) := by rw [del_hi (by omega)]; exact congrArg tv (by omega)
      simp (disch := omega) only [n_l0, n_l1, n_l2, n_l3, n_l4, n_l5, n_l6, n_l7, n_l8, n_l9, n_l15, n_l16, n_l17, n_l20, n_l24, n_l31, n_l32, n_l33, n_l36, n_l48, n_l49, n_l97, n_l128, n_l129, n_l192, n_l225, n_l256, n_l353, n_l400, n_l512, n_l593, n_l621, n_l640, n_l857, n_l1093, n_l1095, n_l2048, n_l3225, n_l10000, n_l22955, n_l29988, n_l29989, n_l65536, n_l99999, n_l1000000000, n_l2147483647, nI_add, pk_mul, pk_sub, pk_div, nI_clamp, ckN, nI_leI, nI_ltI, nI_eq, nI_nm1, Nat.add_zero, nI_addneg, k_ush, true_or, or_true, false_or, or_false, true_and, and_true, false_and, and_false, not_true_eq_false, not_false_eq_true, if_true, if_false, if_pos, if_neg, Option.bind_some, r_valueV hc (show p + n + j < 128 by omega) e1, r_emptyV hc (show p + n + j < 128 by omega) e2, show p + n + j - n = p + j by omega, r_putPP hc (show p + j < 128 by omega)]
      refine ⟨_, rfl, h9, rfl, fun i hi => ?_, FR_tr g3 (pP_fr (by omega) _), fun i h5 h6 => ?_, fun i hi => ?_⟩
      · show pP s2 c (p + j) (tv (p + n + j)) _ = _
        rw [pP_lo _ hi]; exact g2 i hi
      · show pP s2 c (p + j) (tv (p + n + j)) _ = _ ∧ pP s2 c (p + j) (tv (p + n + j)) _ = _
        rw [pP_v (by omega) (by omega), pP_e (by omega) (by omega), if_neg (by omega), if_neg (by omega)]
        exact g4 i (by omega) h6
      · show pP s2 c (p + j) (tv (p + n + j)) _ = _ ∧ pP s2 c (p + j) (tv (p + n + j)) _ = _
        rw [pP_v (by omega) (by omega), pP_e (by omega) (by omega)]
        by_cases him : i = p + j
        · subst him
          rw [if_pos rfl, if_pos rfl, hdl]; exact ⟨rfl, rfl⟩
        · rw [if_neg him, if_neg him]
          exact g5 i (by omega)
    · obtain rfl : j = L - n - p := by omega
      refine Or.inr ?_
      simp (disch := omega) only [n_l0, n_l1, n_l2, n_l3, n_l4, n_l5, n_l6, n_l7, n_l8, n_l9, n_l15, n_l16, n_l17, n_l20, n_l24, n_l31, n_l32, n_l33, n_l36, n_l48, n_l49, n_l97, n_l128, n_l129, n_l192, n_l225, n_l256, n_l353, n_l400, n_l512, n_l593, n_l621, n_l640, n_l857, n_l1093, n_l1095, n_l2048, n_l3225, n_l10000, n_l22955, n_l29988, n_l29989, n_l65536, n_l99999, n_l1000000000, n_l2147483647, nI_add, pk_mul, pk_sub, pk_div, nI_clamp, ckN, nI_leI, nI_ltI, nI_eq, nI_nm1, Nat.add_zero, nI_addneg, k_ush, true_or, or_true, false_or, or_false, true_and, and_true, false_and, and_false, not_true_eq_false, not_false_eq_true, if_true, if_false, if_pos, if_neg, Option.bind_some]
      exact ⟨_, rfl, g2, g3, fun i hi => g5 i (by omega)⟩)
  obtain ⟨q, eq, q1, q2, q3⟩ := lpE (body := pX10_shutPlaces_b54 (nI c) (nI L)) (fun j s => s.1 = nI (L - n + j) ∧ (∀ i, i < 97 → s.2 (36 + 353 * c + i) = a (36 + 353 * c + i)) ∧ FR c a s.2 ∧ ∀ i, i < L - n → s.2 (36 + 353 * c + 97 + i) = vv (delN tv p n i) ∧ s.2 (36 + 353 * c + 225 + i) = ee (delN tv p n i))
    (fun r => (∀ i, i < 97 → r.2 (36 + 353 * c + i) = a (36 + 353 * c + i)) ∧ FR c a r.2 ∧ ∀ i, i < L - n → r.2 (36 + 353 * c + 97 + i) = vv (delN tv p n i) ∧ r.2 (36 + 353 * c + 225 + i) = ee (delN tv p n i)) n (nI (L - n), r.2) ⟨rfl, h1, h2, h3⟩ (fun j s hj hI => by
    obtain ⟨s1, s2⟩ := s
    obtain ⟨g1, g2, g3, g4⟩ := hI
    replace g1 : s1 = nI (L - n + j) := g1
    replace g4 : ∀ i, i < L - n → s2 (36 + 353 * c + 97 + i) = vv (delN tv p n i) ∧ s2 (36 + 353 * c + 225 + i) = ee (delN tv p n i) := g4
    subst g1
    unfold pX10_shutPlaces_b54
    rcases Nat.lt_or_ge j n with h9 | h9
    · refine Or.inl ?_
      have hput : pX10_putPlace (nI c) (nI (L - n + j)) (nI 0) (nI 0) s2 = some (pP s2 c (L - n + j) (some (nI 0))) := r_putPP hc (show L - n + j < 128 by omega) (some (nI 0))
      simp (disch := omega) only [n_l0, n_l1, n_l2, n_l3, n_l4, n_l5, n_l6, n_l7, n_l8, n_l9, n_l15, n_l16, n_l17, n_l20, n_l24, n_l31, n_l32, n_l33, n_l36, n_l48, n_l49, n_l97, n_l128, n_l129, n_l192, n_l225, n_l256, n_l353, n_l400, n_l512, n_l593, n_l621, n_l640, n_l857, n_l1093, n_l1095, n_l2048, n_l3225, n_l10000, n_l22955, n_l29988, n_l29989, n_l65536, n_l99999, n_l1000000000, n_l2147483647, nI_add, pk_mul, pk_sub, pk_div, nI_clamp, ckN, nI_leI, nI_ltI, nI_eq, nI_nm1, Nat.add_zero, nI_addneg, k_ush, true_or, or_true, false_or, or_false, true_and, and_true, false_and, and_false, not_true_eq_false, not_false_eq_true, if_true, if_false, if_pos, if_neg, Option.bind_some, hput]
      refine ⟨_, rfl, h9, rfl, fun i hi => ?_, FR_tr g3 (pP_fr (by omega) _), fun i hi => ?_⟩
      · show pP s2 c (L - n + j) (some (nI 0)) _ = _
        rw [pP_lo _ hi]; exact g2 i hi
      · show pP s2 c (L - n + j) (some (nI 0)) _ = _ ∧ pP s2 c (L - n + j) (some (nI 0)) _ = _
        rw [pP_v (by omega) (by omega), pP_e (by omega) (by omega), if_neg (by omega), if_neg (by omega)]
        exact g4 i hi
    · obtain rfl : j = n := by omega
      refine Or.inr ?_
      simp (disch := omega) only [n_l0, n_l1, n_l2, n_l3, n_l4, n_l5, n_l6, n_l7, n_l8, n_l9, n_l15, n_l16, n_l17, n_l20, n_l24, n_l31, n_l32, n_l33, n_l36, n_l48, n_l49, n_l97, n_l128, n_l129, n_l192, n_l225, n_l256, n_l353, n_l400, n_l512, n_l593, n_l621, n_l640, n_l857, n_l1093, n_l1095, n_l2048, n_l3225, n_l10000, n_l22955, n_l29988, n_l29989, n_l65536, n_l99999, n_l1000000000, n_l2147483647, nI_add, pk_mul, pk_sub, pk_div, nI_clamp, ckN, nI_leI, nI_ltI, nI_eq, nI_nm1, Nat.add_zero, nI_addneg, k_ush, true_or, or_true, false_or, or_false, true_and, and_true, false_and, and_false, not_true_eq_false, not_false_eq_true, if_true, if_false, if_pos, if_neg, Option.bind_some]
      exact ⟨_, rfl, g2, g3, g4⟩)
  refine ⟨q.2, ?_, q1, q2, q3⟩
  unfold pX10_shutPlaces
  rw [r_places hc h hn, Option.bind_some, hL, nI_add, e, Option.bind_some, pk_sub (by omega), eq]; rfl
end Plc
section Cls
variable {tl : Nat → Int64} {fc : Nat → Int32}
theorem k_openSlot {b n : Nat} (hb : b ≤ n) (hn : n < 24) : pX0_openSlot (nI b) (nI n) fc = some (nI (n + 1), va_cpy fc fc (b * 8) (b * 8 + 8) ((n - b) * 8)) := by
  unfold pX0_openSlot
  simp (disch := omega) only [n_l0, n_l1, n_l2, n_l3, n_l4, n_l5, n_l6, n_l7, n_l8, n_l9, n_l15, n_l16, n_l17, n_l20, n_l24, n_l31, n_l32, n_l33, n_l36, n_l48, n_l49, n_l97, n_l128, n_l129, n_l192, n_l225, n_l256, n_l353, n_l400, n_l512, n_l593, n_l621, n_l640, n_l857, n_l1093, n_l1095, n_l2048, n_l3225, n_l10000, n_l22955, n_l29988, n_l29989, n_l65536, n_l99999, n_l1000000000, n_l2147483647, nI_add, pk_mul, pk_sub, pk_div, nI_clamp, ckN, nI_leI, nI_ltI, nI_eq, nI_nm1, Nat.add_zero, nI_addneg, k_ush, true_or, or_true, false_or, or_false, true_and, and_true, false_and, and_false, not_true_eq_false, not_false_eq_true, if_true, if_false, if_pos, if_neg, Option.bind_some, nI_pos, cpkN]
theorem k_closeSlot {b n : Nat} (hb : b < n) (hn : n ≤ 24) : pX0_closeSlot (nI b) (nI n) fc = some (nI (n - 1), va_cpy fc fc (b * 8 + 8) (b * 8) ((n - 1 - b) * 8)) := by
  unfold pX0_closeSlot
  simp (disch := omega) only [n_l0, n_l1, n_l2, n_l3, n_l4, n_l5, n_l6, n_l7, n_l8, n_l9, n_l15, n_l16, n_l17, n_l20, n_l24, n_l31, n_l32, n_l33, n_l36, n_l48, n_l49, n_l97, n_l128, n_l129, n_l192, n_l225, n_l256, n_l353, n_l400, n_l512, n_l593, n_l621, n_l640, n_l857, n_l1093, n_l1095, n_l2048, n_l3225, n_l10000, n_l22955, n_l29988, n_l29989, n_l65536, n_l99999, n_l1000000000, n_l2147483647, nI_add, pk_mul, pk_sub, pk_div, nI_clamp, ckN, nI_leI, nI_ltI, nI_eq, nI_nm1, Nat.add_zero, nI_addneg, k_ush, true_or, or_true, false_or, or_false, true_and, and_true, false_and, and_false, not_true_eq_false, not_false_eq_true, if_true, if_false, if_pos, if_neg, Option.bind_some, k_hasBlock hb (show n < 2 ^ 31 by omega), cpkN]
theorem k_enter {p L : Nat} (hp : p ≤ L) (hL : L < 128) (v : Int32) : pX5_enter 128 (nI p) v (nI L) tl = some (nI (L + 1), vp_updL (va_cpy tl tl p (p + 1) (L - p)) p v.toInt64) := by
  unfold pX5_enter
  rw [show Int32.ofNat 128 = nI 128 from rfl]
  simp (disch := omega) only [n_l0, n_l1, n_l2, n_l3, n_l4, n_l5, n_l6, n_l7, n_l8, n_l9, n_l15, n_l16, n_l17, n_l20, n_l24, n_l31, n_l32, n_l33, n_l36, n_l48, n_l49, n_l97, n_l128, n_l129, n_l192, n_l225, n_l256, n_l353, n_l400, n_l512, n_l593, n_l621, n_l640, n_l857, n_l1093, n_l1095, n_l2048, n_l3225, n_l10000, n_l22955, n_l29988, n_l29989, n_l65536, n_l99999, n_l1000000000, n_l2147483647, nI_add, pk_mul, pk_sub, pk_div, nI_clamp, ckN, nI_leI, nI_ltI, nI_eq, nI_nm1, Nat.add_zero, nI_addneg, k_ush, true_or, or_true, false_or, or_false, true_and, and_true, false_and, and_false, not_true_eq_false, not_false_eq_true, if_true, if_false, if_pos, if_neg, Option.bind_some, nI_pos, cpkN]
theorem k_takeOut {p n L : Nat} (hp : p + n ≤ L) (hL : L ≤ 128) : pX5_takeOut 128 (nI p) (nI n) (nI L) tl = some (nI (L - n), va_cpy tl tl (p + n) p (L - (p + n))) := by
  unfold pX5_takeOut
  simp (disch := omega) only [n_l0, n_l1, n_l2, n_l3, n_l4, n_l5, n_l6, n_l7, n_l8, n_l9, n_l15, n_l16, n_l17, n_l20, n_l24, n_l31, n_l32, n_l33, n_l36, n_l48, n_l49, n_l97, n_l128, n_l129, n_l192, n_l225, n_l256, n_l353, n_l400, n_l512, n_l593, n_l621, n_l640, n_l857, n_l1093, n_l1095, n_l2048, n_l3225, n_l10000, n_l22955, n_l29988, n_l29989, n_l65536, n_l99999, n_l1000000000, n_l2147483647, nI_add, pk_mul, pk_sub, pk_div, nI_clamp, ckN, nI_leI, nI_ltI, nI_eq, nI_nm1, Nat.add_zero, nI_addneg, k_ush, true_or, or_true, false_or, or_false, true_and, and_true, false_and, and_false, not_true_eq_false, not_false_eq_true, if_true, if_false, if_pos, if_neg, Option.bind_some, nI_pos, cpkN]
theorem enter_T {p L : Nat} (hp : p ≤ L) {tv : Nat → Option Int32} (hT : ∀ k, k < L → tl k = enc (tv k)) (v : Int32) : ∀ k, k < L + 1 → vp_updL (va_cpy tl tl p (p + 1) (L - p)) p v.toInt64 k = enc (insN tv p (some v) k) := fun k hk => by
  rcases Nat.lt_or_ge k p with h1 | h1
  · rw [ul_ne (by omega), ins_lo h1]
    show (if p + 1 ≤ k ∧ k < p + 1 + (L - p) then _ else tl k) = _
    rw [if_neg (by omega)]; exact hT k (by omega)
  · rcases Nat.lt_or_ge p k with h2 | h2
    · obtain ⟨m, rfl⟩ : ∃ m, k = m + 1 := ⟨k - 1, by omega⟩
      rw [ul_ne (by omega), ins_hi (show p ≤ m by omega)]
      show (if p + 1 ≤ m + 1 ∧ m + 1 < p + 1 + (L - p) then tl (p + (m + 1 - (p + 1))) else _) = _
      rw [if_pos (by omega), show p + (m + 1 - (p + 1)) = m by omega]; exact hT m (by omega)
    · obtain rfl : k = p := by omega
      rw [ul_at, ins_at]; rfl
theorem takeOut_T {p n L : Nat} (hp : p + n ≤ L) {tv : Nat → Option Int32} (hT : ∀ k, k < L → tl k = enc (tv k)) : ∀ k, k < L - n → va_cpy tl tl (p + n) p (L - (p + n)) k = enc (delN tv p n k) := fun k hk => by
  show (if p ≤ k ∧ k < p + (L - (p + n)) then tl (p + n + (k - p)) else tl k) = _
  rcases Nat.lt_or_ge k p with h1 | h1
  · rw [if_neg (by omega), del_lo h1]; exact hT k (by omega)
  · rw [if_pos (by omega), del_hi h1, show p + n + (k - p) = k + n by omega]; exact hT (k + n) (by omega)
end Cls
