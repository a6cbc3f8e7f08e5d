/-! ===== the class's best ===== -/
theorem bstp_le {form w t : Nat} {acc : Option (Nat × Nat × Nat)} : ∃ x, bstp form w (some t) acc = some x ∧ x.2.2 ≤ t := by
  unfold bstp
  cases acc with
  | none => exact ⟨_, rfl, Nat.le_refl _⟩
  | some y =>
    by_cases h : t < y.2.2
    · exact ⟨_, if_pos h, Nat.le_refl _⟩
    · exact ⟨_, if_neg h, by omega⟩
theorem bstp_same {form w t : Nat} {x : Nat × Nat × Nat} (h : x.2.2 ≤ t) : bstp form w (some t) (some x) = some x := by
  unfold bstp
  exact if_neg (by omega)
theorem tot_e0 {n m form w pc : Nat} : tot n m form w pc 0 = 49 + (if m < n then n else 0) + (if form = 2 then 32 else 0) + w * pc := by
  unfold tot; rw [Nat.zero_mul]; omega
theorem tot_mono {n m form w pc e : Nat} (he : e ≤ pc) (hw : w + 1 ≤ 36) : tot n m form w pc e ≤ tot n m form (w + 1) pc e := by
  unfold tot
  have h1 : (w + 1) * pc = w * pc + pc := Nat.succ_mul w pc
  have h2 : e * (36 - w) = e * (36 - (w + 1)) + e := by
    rw [show 36 - w = (36 - (w + 1)) + 1 by omega, Nat.mul_succ]
  omega
/-- a width that no part has just so is never better -/
theorem bw_skip {n m form : Nat} {q : Nat → Nat} {acc : Option (Nat × Nat × Nat)} {k : Nat} (hk : k + 1 ≤ 32) (h : lenc (k + 1) q (pcn form m) = 0) : bw n m form q acc (k + 2) = bw n m form q acc (k + 1) := by
  have e := exc_len k q (pcn form m)
  rw [h, Nat.add_zero] at e
  rw [bw_s n m form q acc (k + 1)]
  unfold cand
  rw [e]
  by_cases h1 : exc k q (pcn form m) ≤ 15
  · rw [if_pos h1]
    have hc : cand n m form k q = some (tot n m form k (pcn form m) (exc k q (pcn form m))) := if_pos h1
    obtain ⟨x, hx, hle⟩ := bstp_le (form := form) (w := k) (t := tot n m form k (pcn form m) (exc k q (pcn form m))) (acc := bw n m form q acc k)
    rw [bw_s n m form q acc k, hc, hx]
    exact bstp_same (Nat.le_trans hle (tot_mono (exc_le k q _) (by omega)))
  · rw [if_neg h1]
    rfl
theorem bw_stop {n m form : Nat} {q : Nat → Nat} {acc : Option (Nat × Nat × Nat)} {k : Nat} (h : exc k q (pcn form m) = 0) : ∀ j, k + 1 + j ≤ 33 → bw n m form q acc (k + 1 + j) = bw n m form q acc (k + 1) := by
  intro j
  induction j with
  | zero => intro _; rfl
  | succ i ih =>
    intro hj
    rw [← ih (by omega)]
    have h2 := exc_anti (q := q) (show k ≤ k + i by omega) (pcn form m)
    have e := exc_len (k + i) q (pcn form m)
    have h3 := bw_skip (n := n) (m := m) (form := form) (q := q) (acc := acc) (k := k + i) (by omega) (by omega)
    rw [show k + 1 + (i + 1) = k + i + 2 by omega, show k + 1 + i = k + i + 1 by omega]
    exact h3
/-- the class's best so far -/
def okK (m : Nat) (g : Nat → Int32) (acc : Option (Nat × Nat × Nat)) (f w o t b s : Int32) : Prop := match acc with
  | none => t = nI 2147483647
  | some x => f = nI x.1 ∧ w = nI x.2.1 ∧ o = nI (exc x.2.1 (qs x.1 (stp g m) g m) (pcn x.1 m)) ∧ t = nI x.2.2 ∧ x.2.2 < 2000 ∧ b = bse x.1 g m ∧ s = if x.1 = 2 then stp g m else 0
theorem k_headBits {form n m : Nat} (hf : form ≤ 2) (hn : n ≤ 16) (hm : m ≤ 16) : pX3_headBits (nI form) (nI n) (nI m) = some (nI (49 + (if m < n then n else 0) + (if form = 2 then 32 else 0))) := by
  unfold pX3_headBits pX3_headBits_j19
  by_cases h2 : m < n
  · by_cases h3 : form = 2
    · subst h3
      simp (disch := omega) only [n_l0, n_l1, n_l2, n_l3, n_l4, n_l5, n_l6, n_l7, n_l8, n_l9, n_l15, n_l16, n_l17, n_l20, n_l24, n_l31, n_l32, n_l33, n_l36, n_l48, n_l49, n_l97, n_l128, n_l129, n_l192, n_l225, n_l256, n_l353, n_l400, n_l512, n_l593, n_l621, n_l640, n_l857, n_l1093, n_l1095, n_l2048, n_l3225, n_l10000, n_l22955, n_l29988, n_l29989, n_l65536, n_l99999, n_l1000000000, n_l2147483647, nI_add, pk_mul, pk_sub, pk_div, nI_clamp, ckN, nI_leI, nI_ltI, nI_eq, nI_nm1, Nat.add_zero, nI_addneg, k_ush, true_or, or_true, false_or, or_false, true_and, and_true, false_and, and_false, not_true_eq_false, not_false_eq_true, if_true, if_false, if_pos, if_neg, Option.bind_some]
    · simp (disch := omega) only [n_l0, n_l1, n_l2, n_l3, n_l4, n_l5, n_l6, n_l7, n_l8, n_l9, n_l15, n_l16, n_l17, n_l20, n_l24, n_l31, n_l32, n_l33, n_l36, n_l48, n_l49, n_l97, n_l128, n_l129, n_l192, n_l225, n_l256, n_l353, n_l400, n_l512, n_l593, n_l621, n_l640, n_l857, n_l1093, n_l1095, n_l2048, n_l3225, n_l10000, n_l22955, n_l29988, n_l29989, n_l65536, n_l99999, n_l1000000000, n_l2147483647, nI_add, pk_mul, pk_sub, pk_div, nI_clamp, ckN, nI_leI, nI_ltI, nI_eq, nI_nm1, Nat.add_zero, nI_addneg, k_ush, true_or, or_true, false_or, or_false, true_and, and_true, false_and, and_false, not_true_eq_false, not_false_eq_true, if_true, if_false, if_pos, if_neg, Option.bind_some]
  · by_cases h3 : form = 2
    · subst h3
      simp (disch := omega) only [n_l0, n_l1, n_l2, n_l3, n_l4, n_l5, n_l6, n_l7, n_l8, n_l9, n_l15, n_l16, n_l17, n_l20, n_l24, n_l31, n_l32, n_l33, n_l36, n_l48, n_l49, n_l97, n_l128, n_l129, n_l192, n_l225, n_l256, n_l353, n_l400, n_l512, n_l593, n_l621, n_l640, n_l857, n_l1093, n_l1095, n_l2048, n_l3225, n_l10000, n_l22955, n_l29988, n_l29989, n_l65536, n_l99999, n_l1000000000, n_l2147483647, nI_add, pk_mul, pk_sub, pk_div, nI_clamp, ckN, nI_leI, nI_ltI, nI_eq, nI_nm1, Nat.add_zero, nI_addneg, k_ush, true_or, or_true, false_or, or_false, true_and, and_true, false_and, and_false, not_true_eq_false, not_false_eq_true, if_true, if_false, if_pos, if_neg, Option.bind_some]
    · simp (disch := omega) only [n_l0, n_l1, n_l2, n_l3, n_l4, n_l5, n_l6, n_l7, n_l8, n_l9, n_l15, n_l16, n_l17, n_l20, n_l24, n_l31, n_l32, n_l33, n_l36, n_l48, n_l49, n_l97, n_l128, n_l129, n_l192, n_l225, n_l256, n_l353, n_l400, n_l512, n_l593, n_l621, n_l640, n_l857, n_l1093, n_l1095, n_l2048, n_l3225, n_l10000, n_l22955, n_l29988, n_l29989, n_l65536, n_l99999, n_l1000000000, n_l2147483647, nI_add, pk_mul, pk_sub, pk_div, nI_clamp, ckN, nI_leI, nI_ltI, nI_eq, nI_nm1, Nat.add_zero, nI_addneg, k_ush, true_or, or_true, false_or, or_false, true_and, and_true, false_and, and_false, not_true_eq_false, not_false_eq_true, if_true, if_false, if_pos, if_neg, Option.bind_some]
/-- how many are over, ahead of a width -/
def ovr (q : Nat → Nat) (pc : Nat) : Nat → Nat
  | 0 => pc
  | k + 1 => exc k q pc
theorem ovr_sub (q : Nat → Nat) (pc k : Nat) : ovr q pc k = exc k q pc + lenc k q pc := by
  cases k with
  | zero => exact (exc_len0 q pc).symm
  | succ j => exact (exc_len j q pc).symm
theorem qs_st0 {form : Nat} (hf : form < 2) (s s2 : Int32) (g : Nat → Int32) (m : Nat) : qs form s g m = qs form s2 g m := by
  funext i
  rcases (show form = 0 ∨ form = 1 by omega) with rfl | rfl <;> rfl
theorem bstp_new {form w t : Nat} {x : Nat × Nat × Nat} (h : t < x.2.2) : bstp form w (some t) (some x) = some (form, w, t) := by
  unfold bstp
  exact if_pos h
theorem k_chooseWidth {form n m : Nat} (hf : form ≤ 2) (hn : n ≤ 16) (hm : m ≤ 16) {b s : Int32} {g ls : Nat → Int32} (hb : b = bse form g m) (hs : s = if form = 2 then stp g m else 0) (hl : ∀ w, w ≤ 32 → ls w = nI (lenc w (qs form (stp g m) g m) (pcn form m))) {acc : Option (Nat × Nat × Nat)} {f w o t b0 s0 : Int32} (ha : okK m g acc f w o t b0 s0) :
    ∃ z, pX3_chooseWidth (nI form) (nI n) (nI m) (nI (pcn form m)) b s f w o t b0 s0 ls = some z ∧ okK m g (bw n m form (qs form (stp g m) g m) acc 33) z.1 z.2.1 z.2.2.1 z.2.2.2.1 z.2.2.2.2.1 z.2.2.2.2.2 := by
  have hp := pcn_le form m
  generalize hq : qs form (stp g m) g m = q at *
  generalize hpc : pcn form m = pc at *
  obtain ⟨r, e, hr⟩ := lpE (body := pX3_chooseWidth_b14 (nI form) (nI (49 + (if m < n then n else 0) + (if form = 2 then 32 else 0))) (nI pc) b s ls)
    (fun k z => z.1 = nI (ovr q pc k) ∧ z.2.1 = nI k ∧ okK m g (bw n m form q acc k) z.2.2.1 z.2.2.2.1 z.2.2.2.2.1 z.2.2.2.2.2.1 z.2.2.2.2.2.2.1 z.2.2.2.2.2.2.2)
    (fun r => match r with
      | .inl z => okK m g (bw n m form q acc 33) z.2.2.1 z.2.2.2.1 z.2.2.2.2.1 z.2.2.2.2.2.1 z.2.2.2.2.2.2.1 z.2.2.2.2.2.2.2
      | .inr z => okK m g (bw n m form q acc 33) z.1 z.2.1 z.2.2.1 z.2.2.2.1 z.2.2.2.2.1 z.2.2.2.2.2) 33 (nI pc, nI 0, f, w, o, t, b0, s0) ⟨rfl, rfl, ha⟩ (fun k z hk hI => by
    obtain ⟨z1, z2, f, w, o, t, b0, s0⟩ := z
    obtain ⟨rfl, rfl, h⟩ := hI
    replace h : okK m g (bw n m form q acc k) f w o t b0 s0 := h
    rcases Nat.lt_or_ge k 33 with hk3 | hk3
    · have hov := ovr_sub q pc k
      have hle := exc_le k q pc
      have hll := lenc_le k q pc
      -- what stands behind the look at a width
      have fin : ∀ f w o t b0 s0, okK m g (bw n m form q acc (k + 1)) f w o t b0 s0 → (∃ s', pX3_chooseWidth_b14j82 (nI (exc k q pc)) (nI k) f w o t b0 s0 = some (Sum.inl s') ∧ k < 33 ∧ s'.1 = nI (ovr q pc (k + 1)) ∧ s'.2.1 = nI (k + 1) ∧ okK m g (bw n m form q acc (k + 1)) s'.2.2.1 s'.2.2.2.1 s'.2.2.2.2.1 s'.2.2.2.2.2.1 s'.2.2.2.2.2.2.1 s'.2.2.2.2.2.2.2) ∨
          ∃ r, pX3_chooseWidth_b14j82 (nI (exc k q pc)) (nI k) f w o t b0 s0 = some (Sum.inr r) ∧ (match r with
            | .inl z => okK m g (bw n m form q acc 33) z.2.2.1 z.2.2.2.1 z.2.2.2.2.1 z.2.2.2.2.2.1 z.2.2.2.2.2.2.1 z.2.2.2.2.2.2.2
            | .inr z => okK m g (bw n m form q acc 33) z.1 z.2.1 z.2.2.1 z.2.2.2.1 z.2.2.2.2.1 z.2.2.2.2.2) := fun f w o t b0 s0 h => by
        unfold pX3_chooseWidth_b14j82
        by_cases h0 : exc k q pc = 0
        · refine Or.inr ?_
          have hst := bw_stop (n := n) (m := m) (form := form) (q := q) (acc := acc) (k := k) (by rw [hpc]; exact h0) (32 - k) (by omega)
          rw [show k + 1 + (32 - k) = 33 by omega] at hst
          simp (disch := omega) only [n_l0, n_l1, n_l2, n_l3, n_l4, n_l5, n_l6, n_l7, n_l8, n_l9, n_l15, n_l16, n_l17, n_l20, n_l24, n_l31, n_l32, n_l33, n_l36, n_l48, n_l49, n_l97, n_l128, n_l129, n_l192, n_l225, n_l256, n_l353, n_l400, n_l512, n_l593, n_l621, n_l640, n_l857, n_l1093, n_l1095, n_l2048, n_l3225, n_l10000, n_l22955, n_l29988, n_l29989, n_l65536, n_l99999, n_l1000000000, n_l2147483647, nI_add, pk_mul, pk_sub, pk_div, nI_clamp, ckN, nI_leI, nI_ltI, nI_eq, nI_nm1, Nat.add_zero, nI_addneg, k_ush, true_or, or_true, false_or, or_false, true_and, and_true, false_and, and_false, not_true_eq_false, not_false_eq_true, if_true, if_false, if_pos, if_neg, Option.bind_some, h0]
          refine ⟨_, rfl, ?_⟩
          show okK m g (bw n m form q acc 33) f w o t b0 s0
          rw [hst]; exact h
        · refine Or.inl ?_
          simp (disch := omega) only [n_l0, n_l1, n_l2, n_l3, n_l4, n_l5, n_l6, n_l7, n_l8, n_l9, n_l15, n_l16, n_l17, n_l20, n_l24, n_l31, n_l32, n_l33, n_l36, n_l48, n_l49, n_l97, n_l128, n_l129, n_l192, n_l225, n_l256, n_l353, n_l400, n_l512, n_l593, n_l621, n_l640, n_l857, n_l1093, n_l1095, n_l2048, n_l3225, n_l10000, n_l22955, n_l29988, n_l29989, n_l65536, n_l99999, n_l1000000000, n_l2147483647, nI_add, pk_mul, pk_sub, pk_div, nI_clamp, ckN, nI_leI, nI_ltI, nI_eq, nI_nm1, Nat.add_zero, nI_addneg, k_ush, true_or, or_true, false_or, or_false, true_and, and_true, false_and, and_false, not_true_eq_false, not_false_eq_true, if_true, if_false, if_pos, if_neg, Option.bind_some]
          exact ⟨_, rfl, hk3, rfl, rfl, h⟩
      have look : (∃ s', pX3_chooseWidth_b14j46 (nI form) (nI (49 + (if m < n then n else 0) + (if form = 2 then 32 else 0))) (nI (exc k q pc)) (nI k) (nI pc) b s f w o t b0 s0 = some (Sum.inl s') ∧ k < 33 ∧ s'.1 = nI (ovr q pc (k + 1)) ∧ s'.2.1 = nI (k + 1) ∧ okK m g (bw n m form q acc (k + 1)) s'.2.2.1 s'.2.2.2.1 s'.2.2.2.2.1 s'.2.2.2.2.2.1 s'.2.2.2.2.2.2.1 s'.2.2.2.2.2.2.2) ∨
          ∃ r, pX3_chooseWidth_b14j46 (nI form) (nI (49 + (if m < n then n else 0) + (if form = 2 then 32 else 0))) (nI (exc k q pc)) (nI k) (nI pc) b s f w o t b0 s0 = some (Sum.inr r) ∧ (match r with
            | .inl z => okK m g (bw n m form q acc 33) z.2.2.1 z.2.2.2.1 z.2.2.2.2.1 z.2.2.2.2.2.1 z.2.2.2.2.2.2.1 z.2.2.2.2.2.2.2
            | .inr z => okK m g (bw n m form q acc 33) z.1 z.2.1 z.2.2.1 z.2.2.2.1 z.2.2.2.2.1 z.2.2.2.2.2) := by
        unfold pX3_chooseWidth_b14j46 pX3_bodyBits pX3_keepBest
        have hl2 := tot_lt (n := n) (m := m) (form := form) (w := k) (pc := pc) (e := exc k q pc) hn (by omega) (by omega) (by omega)
        have eT : tot n m form k pc (exc k q pc) = 49 + (if m < n then n else 0) + (if form = 2 then 32 else 0) + (k * pc + exc k q pc * (36 - k)) := by unfold tot; omega
        have hT : nI (49 + (if m < n then n else 0) + (if form = 2 then 32 else 0)) + (nI k * nI pc + nI (exc k q pc) * (36 - nI k)) = nI (tot n m form k pc (exc k q pc)) := by
          rw [eT]
          simp (disch := omega) only [n_l0, n_l1, n_l2, n_l3, n_l4, n_l5, n_l6, n_l7, n_l8, n_l9, n_l15, n_l16, n_l17, n_l20, n_l24, n_l31, n_l32, n_l33, n_l36, n_l48, n_l49, n_l97, n_l128, n_l129, n_l192, n_l225, n_l256, n_l353, n_l400, n_l512, n_l593, n_l621, n_l640, n_l857, n_l1093, n_l1095, n_l2048, n_l3225, n_l10000, n_l22955, n_l29988, n_l29989, n_l65536, n_l99999, n_l1000000000, n_l2147483647, nI_add, pk_mul, pk_sub, pk_div, nI_clamp, ckN, nI_leI, nI_ltI, nI_eq, nI_nm1, Nat.add_zero, nI_addneg, k_ush, true_or, or_true, false_or, or_false, true_and, and_true, false_and, and_false, not_true_eq_false, not_false_eq_true, if_true, if_false, if_pos, if_neg, Option.bind_some]
        simp only [Option.bind_some, hT]
        by_cases h1 : exc k q pc ≤ 15
        · have hc : cand n m form k q = some (tot n m form k pc (exc k q pc)) := by unfold cand; rw [hpc]; exact if_pos h1
          have hbw := bw_s n m form q acc k
          rw [hc] at hbw
          cases hb2 : bw n m form q acc k with
          | none =>
            rw [hb2] at h hbw
            obtain rfl : t = nI 2147483647 := h
            simp (disch := omega) only [n_l0, n_l1, n_l2, n_l3, n_l4, n_l5, n_l6, n_l7, n_l8, n_l9, n_l15, n_l16, n_l17, n_l20, n_l24, n_l31, n_l32, n_l33, n_l36, n_l48, n_l49, n_l97, n_l128, n_l129, n_l192, n_l225, n_l256, n_l353, n_l400, n_l512, n_l593, n_l621, n_l640, n_l857, n_l1093, n_l1095, n_l2048, n_l3225, n_l10000, n_l22955, n_l29988, n_l29989, n_l65536, n_l99999, n_l1000000000, n_l2147483647, nI_add, pk_mul, pk_sub, pk_div, nI_clamp, ckN, nI_leI, nI_ltI, nI_eq, nI_nm1, Nat.add_zero, nI_addneg, k_ush, true_or, or_true, false_or, or_false, true_and, and_true, false_and, and_false, not_true_eq_false, not_false_eq_true, if_true, if_false, if_pos, if_neg, Option.bind_some]
            refine fin _ _ _ _ _ _ ?_
            rw [hbw]
            exact ⟨rfl, rfl, by show _ = nI (exc k (qs form (stp g m) g m) (pcn form m)); rw [hq, hpc], rfl, hl2, hb, hs⟩
          | some x =>
            rw [hb2] at h hbw
            obtain ⟨rfl, rfl, rfl, rfl, hx, rfl, rfl⟩ := h
            by_cases ht : x.2.2 ≤ tot n m form k pc (exc k q pc)
            · rw [bstp_same ht] at hbw
              simp (disch := omega) only [n_l0, n_l1, n_l2, n_l3, n_l4, n_l5, n_l6, n_l7, n_l8, n_l9, n_l15, n_l16, n_l17, n_l20, n_l24, n_l31, n_l32, n_l33, n_l36, n_l48, n_l49, n_l97, n_l128, n_l129, n_l192, n_l225, n_l256, n_l353, n_l400, n_l512, n_l593, n_l621, n_l640, n_l857, n_l1093, n_l1095, n_l2048, n_l3225, n_l10000, n_l22955, n_l29988, n_l29989, n_l65536, n_l99999, n_l1000000000, n_l2147483647, nI_add, pk_mul, pk_sub, pk_div, nI_clamp, ckN, nI_leI, nI_ltI, nI_eq, nI_nm1, Nat.add_zero, nI_addneg, k_ush, true_or, or_true, false_or, or_false, true_and, and_true, false_and, and_false, not_true_eq_false, not_false_eq_true, if_true, if_false, if_pos, if_neg, Option.bind_some]
              refine fin _ _ _ _ _ _ ?_
              rw [hbw]
              exact ⟨rfl, rfl, rfl, rfl, hx, rfl, rfl⟩
            · simp (disch := omega) only [n_l0, n_l1, n_l2, n_l3, n_l4, n_l5, n_l6, n_l7, n_l8, n_l9, n_l15, n_l16, n_l17, n_l20, n_l24, n_l31, n_l32, n_l33, n_l36, n_l48, n_l49, n_l97, n_l128, n_l129, n_l192, n_l225, n_l256, n_l353, n_l400, n_l512, n_l593, n_l621, n_l640, n_l857, n_l1093, n_l1095, n_l2048, n_l3225, n_l10000, n_l22955, n_l29988, n_l29989, n_l65536, n_l99999, n_l1000000000, n_l2147483647, nI_add, pk_mul, pk_sub, pk_div, nI_clamp, ckN, nI_leI, nI_ltI, nI_eq, nI_nm1, Nat.add_zero, nI_addneg, k_ush, true_or, or_true, false_or, or_false, true_and, and_true, false_and, and_false, not_true_eq_false, not_false_eq_true, if_true, if_false, if_pos, if_neg, Option.bind_some]
              refine fin _ _ _ _ _ _ ?_
              rw [hbw, bstp_new (show tot n m form k pc (exc k q pc) < x.2.2 by omega)]
              exact ⟨rfl, rfl, by show _ = nI (exc k (qs form (stp g m) g m) (pcn form m)); rw [hq, hpc], rfl, hl2, hb, hs⟩
        · have hc : cand n m form k q = none := by unfold cand; rw [hpc]; exact if_neg h1
          simp (disch := omega) only [n_l0, n_l1, n_l2, n_l3, n_l4, n_l5, n_l6, n_l7, n_l8, n_l9, n_l15, n_l16, n_l17, n_l20, n_l24, n_l31, n_l32, n_l33, n_l36, n_l48, n_l49, n_l97, n_l128, n_l129, n_l192, n_l225, n_l256, n_l353, n_l400, n_l512, n_l593, n_l621, n_l640, n_l857, n_l1093, n_l1095, n_l2048, n_l3225, n_l10000, n_l22955, n_l29988, n_l29989, n_l65536, n_l99999, n_l1000000000, n_l2147483647, nI_add, pk_mul, pk_sub, pk_div, nI_clamp, ckN, nI_leI, nI_ltI, nI_eq, nI_nm1, Nat.add_zero, nI_addneg, k_ush, true_or, or_true, false_or, or_false, true_and, and_true, false_and, and_false, not_true_eq_false, not_false_eq_true, if_true, if_false, if_pos, if_neg, Option.bind_some]
          refine fin _ _ _ _ _ _ ?_
          rw [bw_s, hc]
          exact h
      unfold pX3_chooseWidth_b14
      have hsub : ovr q pc k - lenc k q pc = exc k q pc := by omega
      rcases Nat.eq_zero_or_pos k with h0 | h0
      · subst h0
        simp (disch := omega) only [n_l0, n_l1, n_l2, n_l3, n_l4, n_l5, n_l6, n_l7, n_l8, n_l9, n_l15, n_l16, n_l17, n_l20, n_l24, n_l31, n_l32, n_l33, n_l36, n_l48, n_l49, n_l97, n_l128, n_l129, n_l192, n_l225, n_l256, n_l353, n_l400, n_l512, n_l593, n_l621, n_l640, n_l857, n_l1093, n_l1095, n_l2048, n_l3225, n_l10000, n_l22955, n_l29988, n_l29989, n_l65536, n_l99999, n_l1000000000, n_l2147483647, nI_add, pk_mul, pk_sub, pk_div, nI_clamp, ckN, nI_leI, nI_ltI, nI_eq, nI_nm1, Nat.add_zero, nI_addneg, k_ush, true_or, or_true, false_or, or_false, true_and, and_true, false_and, and_false, not_true_eq_false, not_false_eq_true, if_true, if_false, if_pos, if_neg, Option.bind_some, hl 0 (by omega), hsub]
        exact look
      · by_cases hz : lenc k q pc = 0
        · have hsk := bw_skip (n := n) (m := m) (form := form) (q := q) (acc := acc) (k := k - 1) (by omega) (by rw [hpc, show k - 1 + 1 = k by omega]; exact hz)
          rw [show k - 1 + 2 = k + 1 by omega, show k - 1 + 1 = k by omega] at hsk
          simp (disch := omega) only [n_l0, n_l1, n_l2, n_l3, n_l4, n_l5, n_l6, n_l7, n_l8, n_l9, n_l15, n_l16, n_l17, n_l20, n_l24, n_l31, n_l32, n_l33, n_l36, n_l48, n_l49, n_l97, n_l128, n_l129, n_l192, n_l225, n_l256, n_l353, n_l400, n_l512, n_l593, n_l621, n_l640, n_l857, n_l1093, n_l1095, n_l2048, n_l3225, n_l10000, n_l22955, n_l29988, n_l29989, n_l65536, n_l99999, n_l1000000000, n_l2147483647, nI_add, pk_mul, pk_sub, pk_div, nI_clamp, ckN, nI_leI, nI_ltI, nI_eq, nI_nm1, Nat.add_zero, nI_addneg, k_ush, true_or, or_true, false_or, or_false, true_and, and_true, false_and, and_false, not_true_eq_false, not_false_eq_true, if_true, if_false, if_pos, if_neg, Option.bind_some, hl k (by omega), hsub]
          refine fin _ _ _ _ _ _ ?_
          rw [hsk]; exact h
        · simp (disch := omega) only [n_l0, n_l1, n_l2, n_l3, n_l4, n_l5, n_l6, n_l7, n_l8, n_l9, n_l15, n_l16, n_l17, n_l20, n_l24, n_l31, n_l32, n_l33, n_l36, n_l48, n_l49, n_l97, n_l128, n_l129, n_l192, n_l225, n_l256, n_l353, n_l400, n_l512, n_l593, n_l621, n_l640, n_l857, n_l1093, n_l1095, n_l2048, n_l3225, n_l10000, n_l22955, n_l29988, n_l29989, n_l65536, n_l99999, n_l1000000000, n_l2147483647, nI_add, pk_mul, pk_sub, pk_div, nI_clamp, ckN, nI_leI, nI_ltI, nI_eq, nI_nm1, Nat.add_zero, nI_addneg, k_ush, true_or, or_true, false_or, or_false, true_and, and_true, false_and, and_false, not_true_eq_false, not_false_eq_true, if_true, if_false, if_pos, if_neg, Option.bind_some, hl k (by omega), hsub]
          exact look
    · obtain rfl : k = 33 := by omega
      refine Or.inr ?_
      unfold pX3_chooseWidth_b14
      simp (disch := omega) only [n_l0, n_l1, n_l2, n_l3, n_l4, n_l5, n_l6, n_l7, n_l8, n_l9, n_l15, n_l16, n_l17, n_l20, n_l24, n_l31, n_l32, n_l33, n_l36, n_l48, n_l49, n_l97, n_l128, n_l129, n_l192, n_l225, n_l256, n_l353, n_l400, n_l512, n_l593, n_l621, n_l640, n_l857, n_l1093, n_l1095, n_l2048, n_l3225, n_l10000, n_l22955, n_l29988, n_l29989, n_l65536, n_l99999, n_l1000000000, n_l2147483647, nI_add, pk_mul, pk_sub, pk_div, nI_clamp, ckN, nI_leI, nI_ltI, nI_eq, nI_nm1, Nat.add_zero, nI_addneg, k_ush, true_or, or_true, false_or, or_false, true_and, and_true, false_and, and_false, not_true_eq_false, not_false_eq_true, if_true, if_false, if_pos, if_neg, Option.bind_some]
      exact ⟨_, rfl, h⟩)
  unfold pX3_chooseWidth
  simp (disch := omega) only [n_l0, n_l1, n_l2, n_l3, n_l4, n_l5, n_l6, n_l7, n_l8, n_l9, n_l15, n_l16, n_l17, n_l20, n_l24, n_l31, n_l32, n_l33, n_l36, n_l48, n_l49, n_l97, n_l128, n_l129, n_l192, n_l225, n_l256, n_l353, n_l400, n_l512, n_l593, n_l621, n_l640, n_l857, n_l1093, n_l1095, n_l2048, n_l3225, n_l10000, n_l22955, n_l29988, n_l29989, n_l65536, n_l99999, n_l1000000000, n_l2147483647, nI_add, pk_mul, pk_sub, pk_div, nI_clamp, ckN, nI_leI, nI_ltI, nI_eq, nI_nm1, Nat.add_zero, nI_addneg, k_ush, true_or, or_true, false_or, or_false, true_and, and_true, false_and, and_false, not_true_eq_false, not_false_eq_true, if_true, if_false, if_pos, if_neg, Option.bind_some, k_headBits hf hn hm, e]
  cases r with
  | inl z => exact ⟨_, rfl, hr⟩
  | inr z => exact ⟨_, rfl, hr⟩
theorem k_suits {form m : Nat} (hf : form ≤ 2) (hm : m ≤ 16) : pX3_suits (nI form) (nI m) = some (if form = 0 ∨ 2 ≤ m then 1 else 0) := by
  unfold pX3_suits
  by_cases h0 : form = 0
  · subst h0
    simp (disch := omega) only [n_l0, n_l1, n_l2, n_l3, n_l4, n_l5, n_l6, n_l7, n_l8, n_l9, n_l15, n_l16, n_l17, n_l20, n_l24, n_l31, n_l32, n_l33, n_l36, n_l48, n_l49, n_l97, n_l128, n_l129, n_l192, n_l225, n_l256, n_l353, n_l400, n_l512, n_l593, n_l621, n_l640, n_l857, n_l1093, n_l1095, n_l2048, n_l3225, n_l10000, n_l22955, n_l29988, n_l29989, n_l65536, n_l99999, n_l1000000000, n_l2147483647, nI_add, pk_mul, pk_sub, pk_div, nI_clamp, ckN, nI_leI, nI_ltI, nI_eq, nI_nm1, Nat.add_zero, nI_addneg, k_ush, true_or, or_true, false_or, or_false, true_and, and_true, false_and, and_false, not_true_eq_false, not_false_eq_true, if_true, if_false, if_pos, if_neg, Option.bind_some]
  · by_cases h2 : 2 ≤ m
    · simp (disch := omega) only [n_l0, n_l1, n_l2, n_l3, n_l4, n_l5, n_l6, n_l7, n_l8, n_l9, n_l15, n_l16, n_l17, n_l20, n_l24, n_l31, n_l32, n_l33, n_l36, n_l48, n_l49, n_l97, n_l128, n_l129, n_l192, n_l225, n_l256, n_l353, n_l400, n_l512, n_l593, n_l621, n_l640, n_l857, n_l1093, n_l1095, n_l2048, n_l3225, n_l10000, n_l22955, n_l29988, n_l29989, n_l65536, n_l99999, n_l1000000000, n_l2147483647, nI_add, pk_mul, pk_sub, pk_div, nI_clamp, ckN, nI_leI, nI_ltI, nI_eq, nI_nm1, Nat.add_zero, nI_addneg, k_ush, true_or, or_true, false_or, or_false, true_and, and_true, false_and, and_false, not_true_eq_false, not_false_eq_true, if_true, if_false, if_pos, if_neg, Option.bind_some]
    · rw [if_neg (show ¬ (form = 0 ∨ 2 ≤ m) by omega)]
      simp (disch := omega) only [n_l0, n_l1, n_l2, n_l3, n_l4, n_l5, n_l6, n_l7, n_l8, n_l9, n_l15, n_l16, n_l17, n_l20, n_l24, n_l31, n_l32, n_l33, n_l36, n_l48, n_l49, n_l97, n_l128, n_l129, n_l192, n_l225, n_l256, n_l353, n_l400, n_l512, n_l593, n_l621, n_l640, n_l857, n_l1093, n_l1095, n_l2048, n_l3225, n_l10000, n_l22955, n_l29988, n_l29989, n_l65536, n_l99999, n_l1000000000, n_l2147483647, nI_add, pk_mul, pk_sub, pk_div, nI_clamp, ckN, nI_leI, nI_ltI, nI_eq, nI_nm1, Nat.add_zero, nI_addneg, k_ush, true_or, or_true, false_or, or_false, true_and, and_true, false_and, and_false, not_true_eq_false, not_false_eq_true, if_true, if_false, if_pos, if_neg, Option.bind_some]
theorem k_choose {n m : Nat} (hn : n ≤ 16) (hm : m ≤ 16) (xp xb xs f w o t b s : Int32) (g ps ls : Nat → Int32) :
    ∃ z, pX3_choose (nI n) (nI m) xp xb xs f w o t b s g ps ls = some z ∧ okK m g (some (bst n m g)) z.2.2.2.1 z.2.2.2.2.1 z.2.2.2.2.2.1 z.2.2.2.2.2.2.1 z.2.2.2.2.2.2.2.1 z.2.2.2.2.2.2.2.2.1 := by
  obtain ⟨r, e, hr⟩ := lpE (body := pX3_choose_b8 (nI n) (nI m) g)
    (fun k z => z.1 = nI k ∧ okK m g (bfs n m g k) z.2.2.2.2.1 z.2.2.2.2.2.1 z.2.2.2.2.2.2.1 z.2.2.2.2.2.2.2.1 z.2.2.2.2.2.2.2.2.1 z.2.2.2.2.2.2.2.2.2.1)
    (fun z => okK m g (bfs n m g 3) z.2.2.2.2.1 z.2.2.2.2.2.1 z.2.2.2.2.2.2.1 z.2.2.2.2.2.2.2.1 z.2.2.2.2.2.2.2.2.1 z.2.2.2.2.2.2.2.2.2.1) 3 (nI 0, xp, xb, xs, f, w, o, nI 2147483647, b, s, ps, ls) ⟨rfl, rfl⟩ (fun k z hk hI => by
    obtain ⟨z1, z2, z3, z4, z5, z6, z7, z8, z9, z10, z11, z12⟩ := z
    obtain ⟨rfl, h⟩ := hI
    replace h : okK m g (bfs n m g k) z5 z6 z7 z8 z9 z10 := h
    rcases Nat.lt_or_ge k 3 with hk3 | hk3
    · refine Or.inl ?_
      rw [bfs_s]
      unfold pX3_choose_b8 pX3_choose_b8j36
      by_cases hc : k = 0 ∨ 2 ≤ m
      · have hst : pX3_stepOf (nI k) (nI m) g = some (if k = 2 then stp g m else 0) := by
          rcases (show k = 2 ∨ k < 2 by omega) with rfl | h2
          · exact k_stepOf2 (by omega) hm g
          · rw [if_neg (by omega)]; exact k_stepOf0 h2 _ _
        obtain ⟨y, ey, y1, y2, y3, y4, y5⟩ := k_spreadBy (form := k) (m := m) (by omega) hc hm (if k = 2 then stp g m else 0) z2 z3 z4 (fun h1 => if_neg (by omega)) g z11 z12
        have hqq : qs k (if k = 2 then stp g m else 0) g m = qs k (stp g m) g m := by
          rcases (show k = 2 ∨ k < 2 by omega) with rfl | h2
          · rfl
          · exact qs_st0 h2 _ _ _ _
        rw [hqq] at y5
        obtain ⟨x, ex, hx⟩ := k_chooseWidth (form := k) (n := n) (m := m) (by omega) hn hm (b := y.2.1) (s := y.2.2.1) (ls := y.2.2.2.2) y2 y3 y5 h
        clear y3
        generalize (if k = 2 then stp g m else 0) = S at *
        simp (disch := omega) only [n_l0, n_l1, n_l2, n_l3, n_l4, n_l5, n_l6, n_l7, n_l8, n_l9, n_l15, n_l16, n_l17, n_l20, n_l24, n_l31, n_l32, n_l33, n_l36, n_l48, n_l49, n_l97, n_l128, n_l129, n_l192, n_l225, n_l256, n_l353, n_l400, n_l512, n_l593, n_l621, n_l640, n_l857, n_l1093, n_l1095, n_l2048, n_l3225, n_l10000, n_l22955, n_l29988, n_l29989, n_l65536, n_l99999, n_l1000000000, n_l2147483647, nI_add, pk_mul, pk_sub, pk_div, nI_clamp, ckN, nI_leI, nI_ltI, nI_eq, nI_nm1, Nat.add_zero, nI_addneg, k_ush, true_or, or_true, false_or, or_false, true_and, and_true, false_and, and_false, not_true_eq_false, not_false_eq_true, if_true, if_false, if_pos, if_neg, Option.bind_some, k_suits (show k ≤ 2 by omega) hm, hc, hst, ey, y1, ex]
        refine ⟨_, rfl, hk3, rfl, ?_⟩
        unfold bf
        rw [if_pos hc]
        exact hx
      · simp (disch := omega) only [n_l0, n_l1, n_l2, n_l3, n_l4, n_l5, n_l6, n_l7, n_l8, n_l9, n_l15, n_l16, n_l17, n_l20, n_l24, n_l31, n_l32, n_l33, n_l36, n_l48, n_l49, n_l97, n_l128, n_l129, n_l192, n_l225, n_l256, n_l353, n_l400, n_l512, n_l593, n_l621, n_l640, n_l857, n_l1093, n_l1095, n_l2048, n_l3225, n_l10000, n_l22955, n_l29988, n_l29989, n_l65536, n_l99999, n_l1000000000, n_l2147483647, nI_add, pk_mul, pk_sub, pk_div, nI_clamp, ckN, nI_leI, nI_ltI, nI_eq, nI_nm1, Nat.add_zero, nI_addneg, k_ush, true_or, or_true, false_or, or_false, true_and, and_true, false_and, and_false, not_true_eq_false, not_false_eq_true, if_true, if_false, if_pos, if_neg, Option.bind_some, k_suits (show k ≤ 2 by omega) hm, hc]
        refine ⟨_, rfl, hk3, rfl, ?_⟩
        unfold bf
        rw [if_neg hc]
        exact h
    · obtain rfl : k = 3 := by omega
      refine Or.inr ?_
      unfold pX3_choose_b8
      simp (disch := omega) only [n_l0, n_l1, n_l2, n_l3, n_l4, n_l5, n_l6, n_l7, n_l8, n_l9, n_l15, n_l16, n_l17, n_l20, n_l24, n_l31, n_l32, n_l33, n_l36, n_l48, n_l49, n_l97, n_l128, n_l129, n_l192, n_l225, n_l256, n_l353, n_l400, n_l512, n_l593, n_l621, n_l640, n_l857, n_l1093, n_l1095, n_l2048, n_l3225, n_l10000, n_l22955, n_l29988, n_l29989, n_l65536, n_l99999, n_l1000000000, n_l2147483647, nI_add, pk_mul, pk_sub, pk_div, nI_clamp, ckN, nI_leI, nI_ltI, nI_eq, nI_nm1, Nat.add_zero, nI_addneg, k_ush, true_or, or_true, false_or, or_false, true_and, and_true, false_and, and_false, not_true_eq_false, not_false_eq_true, if_true, if_false, if_pos, if_neg, Option.bind_some]
      exact ⟨_, rfl, h⟩)
  rw [bfs_some] at hr
  unfold pX3_choose
  simp (disch := omega) only [n_l0, n_l1, n_l2, n_l3, n_l4, n_l5, n_l6, n_l7, n_l8, n_l9, n_l15, n_l16, n_l17, n_l20, n_l24, n_l31, n_l32, n_l33, n_l36, n_l48, n_l49, n_l97, n_l128, n_l129, n_l192, n_l225, n_l256, n_l353, n_l400, n_l512, n_l593, n_l621, n_l640, n_l857, n_l1093, n_l1095, n_l2048, n_l3225, n_l10000, n_l22955, n_l29988, n_l29989, n_l65536, n_l99999, n_l1000000000, n_l2147483647, nI_add, pk_mul, pk_sub, pk_div, nI_clamp, ckN, nI_leI, nI_ltI, nI_eq, nI_nm1, Nat.add_zero, nI_addneg, k_ush, true_or, or_true, false_or, or_false, true_and, and_true, false_and, and_false, not_true_eq_false, not_false_eq_true, if_true, if_false, if_pos, if_neg, Option.bind_some, e]
  exact ⟨_, rfl, hr⟩
theorem k_isOver {i w pc : Nat} (hi : i < pc) (hp : pc ≤ 16) (hw : w ≤ 32) (ps : Nat → Int32) : pX3_isOver (nI i) (nI w) (nI pc) ps = some (if bl (u32 (ps i)) ≤ w then nI 0 else nI 1) := by
  unfold pX3_isOver pX3_hasPart
  have hx := u32_lt (ps i)
  by_cases h : w = 32
  · subst h
    simp (disch := omega) only [n_l0, n_l1, n_l2, n_l3, n_l4, n_l5, n_l6, n_l7, n_l8, n_l9, n_l15, n_l16, n_l17, n_l20, n_l24, n_l31, n_l32, n_l33, n_l36, n_l48, n_l49, n_l97, n_l128, n_l129, n_l192, n_l225, n_l256, n_l353, n_l400, n_l512, n_l593, n_l621, n_l640, n_l857, n_l1093, n_l1095, n_l2048, n_l3225, n_l10000, n_l22955, n_l29988, n_l29989, n_l65536, n_l99999, n_l1000000000, n_l2147483647, nI_add, pk_mul, pk_sub, pk_div, nI_clamp, ckN, nI_leI, nI_ltI, nI_eq, nI_nm1, Nat.add_zero, nI_addneg, k_ush, true_or, or_true, false_or, or_false, true_and, and_true, false_and, and_false, not_true_eq_false, not_false_eq_true, if_true, if_false, if_pos, if_neg, Option.bind_some, bl_32 (ps i)]
  · have e1 : ps i = nI (u32 (ps i)) := (nI_u32 _).symm
    simp (disch := omega) only [n_l0, n_l1, n_l2, n_l3, n_l4, n_l5, n_l6, n_l7, n_l8, n_l9, n_l15, n_l16, n_l17, n_l20, n_l24, n_l31, n_l32, n_l33, n_l36, n_l48, n_l49, n_l97, n_l128, n_l129, n_l192, n_l225, n_l256, n_l353, n_l400, n_l512, n_l593, n_l621, n_l640, n_l857, n_l1093, n_l1095, n_l2048, n_l3225, n_l10000, n_l22955, n_l29988, n_l29989, n_l65536, n_l99999, n_l1000000000, n_l2147483647, nI_add, pk_mul, pk_sub, pk_div, nI_clamp, ckN, nI_leI, nI_ltI, nI_eq, nI_nm1, Nat.add_zero, nI_addneg, k_ush, true_or, or_true, false_or, or_false, true_and, and_true, false_and, and_false, not_true_eq_false, not_false_eq_true, if_true, if_false, if_pos, if_neg, Option.bind_some]
    rw [e1, u32_nI hx]
    generalize u32 (ps i) = p at *
    by_cases h2 : bl p ≤ w
    · have h3 : p / 2 ^ w = 0 := Nat.div_eq_of_lt ((bl_le p w).mp h2)
      simp (disch := omega) only [n_l0, n_l1, n_l2, n_l3, n_l4, n_l5, n_l6, n_l7, n_l8, n_l9, n_l15, n_l16, n_l17, n_l20, n_l24, n_l31, n_l32, n_l33, n_l36, n_l48, n_l49, n_l97, n_l128, n_l129, n_l192, n_l225, n_l256, n_l353, n_l400, n_l512, n_l593, n_l621, n_l640, n_l857, n_l1093, n_l1095, n_l2048, n_l3225, n_l10000, n_l22955, n_l29988, n_l29989, n_l65536, n_l99999, n_l1000000000, n_l2147483647, nI_add, pk_mul, pk_sub, pk_div, nI_clamp, ckN, nI_leI, nI_ltI, nI_eq, nI_nm1, Nat.add_zero, nI_addneg, k_ush, true_or, or_true, false_or, or_false, true_and, and_true, false_and, and_false, not_true_eq_false, not_false_eq_true, if_true, if_false, if_pos, if_neg, Option.bind_some, h3]
    · have h3 : ¬ p / 2 ^ w = 0 := fun q => h2 ((bl_le p w).mpr ((Nat.div_eq_zero_iff_lt (Nat.two_pow_pos w)).mp q))
      have h4 : p / 2 ^ w < 2 ^ 32 := Nat.lt_of_le_of_lt (Nat.div_le_self _ _) hx
      simp (disch := omega) only [n_l0, n_l1, n_l2, n_l3, n_l4, n_l5, n_l6, n_l7, n_l8, n_l9, n_l15, n_l16, n_l17, n_l20, n_l24, n_l31, n_l32, n_l33, n_l36, n_l48, n_l49, n_l97, n_l128, n_l129, n_l192, n_l225, n_l256, n_l353, n_l400, n_l512, n_l593, n_l621, n_l640, n_l857, n_l1093, n_l1095, n_l2048, n_l3225, n_l10000, n_l22955, n_l29988, n_l29989, n_l65536, n_l99999, n_l1000000000, n_l2147483647, nI_add, pk_mul, pk_sub, pk_div, nI_clamp, ckN, nI_leI, nI_ltI, nI_eq, nI_nm1, Nat.add_zero, nI_addneg, k_ush, true_or, or_true, false_or, or_false, true_and, and_true, false_and, and_false, not_true_eq_false, not_false_eq_true, if_true, if_false, if_pos, if_neg, Option.bind_some]
      rw [if_neg (fun q => h3 (by rw [← u32_nI h4, q]; rfl))]
theorem k_overAt {w pc : Nat} (hp : pc ≤ 16) (hw : w ≤ 32) {ps : Nat → Int32} {q : Nat → Nat} (hq : ∀ i, i < pc → u32 (ps i) = q i) : pX3_overAt (nI w) (nI pc) ps = some (nI (exc w q pc)) := by
  have e := lpF (body := pX3_overAt_b4 (nI w) (nI pc) ps) (r := (nI (exc w q pc), nI pc)) (fun k => (nI (exc w q k), nI k)) pc (nI 0, nI 0) rfl (fun k hk => by
      unfold pX3_overAt_b4 pX3_overAt_b4j24
      by_cases hh : bl (q k) ≤ w
      · simp (disch := omega) only [n_l0, n_l1, n_l2, n_l3, n_l4, n_l5, n_l6, n_l7, n_l8, n_l9, n_l15, n_l16, n_l17, n_l20, n_l24, n_l31, n_l32, n_l33, n_l36, n_l48, n_l49, n_l97, n_l128, n_l129, n_l192, n_l225, n_l256, n_l353, n_l400, n_l512, n_l593, n_l621, n_l640, n_l857, n_l1093, n_l1095, n_l2048, n_l3225, n_l10000, n_l22955, n_l29988, n_l29989, n_l65536, n_l99999, n_l1000000000, n_l2147483647, nI_add, pk_mul, pk_sub, pk_div, nI_clamp, ckN, nI_leI, nI_ltI, nI_eq, nI_nm1, Nat.add_zero, nI_addneg, k_ush, true_or, or_true, false_or, or_false, true_and, and_true, false_and, and_false, not_true_eq_false, not_false_eq_true, if_true, if_false, if_pos, if_neg, Option.bind_some, k_isOver hk hp hw, hq k hk, exc_s]
      · simp (disch := omega) only [n_l0, n_l1, n_l2, n_l3, n_l4, n_l5, n_l6, n_l7, n_l8, n_l9, n_l15, n_l16, n_l17, n_l20, n_l24, n_l31, n_l32, n_l33, n_l36, n_l48, n_l49, n_l97, n_l128, n_l129, n_l192, n_l225, n_l256, n_l353, n_l400, n_l512, n_l593, n_l621, n_l640, n_l857, n_l1093, n_l1095, n_l2048, n_l3225, n_l10000, n_l22955, n_l29988, n_l29989, n_l65536, n_l99999, n_l1000000000, n_l2147483647, nI_add, pk_mul, pk_sub, pk_div, nI_clamp, ckN, nI_leI, nI_ltI, nI_eq, nI_nm1, Nat.add_zero, nI_addneg, k_ush, true_or, or_true, false_or, or_false, true_and, and_true, false_and, and_false, not_true_eq_false, not_false_eq_true, if_true, if_false, if_pos, if_neg, Option.bind_some, k_isOver hk hp hw, hq k hk, exc_s]) (by
      unfold pX3_overAt_b4
      simp (disch := omega) only [n_l0, n_l1, n_l2, n_l3, n_l4, n_l5, n_l6, n_l7, n_l8, n_l9, n_l15, n_l16, n_l17, n_l20, n_l24, n_l31, n_l32, n_l33, n_l36, n_l48, n_l49, n_l97, n_l128, n_l129, n_l192, n_l225, n_l256, n_l353, n_l400, n_l512, n_l593, n_l621, n_l640, n_l857, n_l1093, n_l1095, n_l2048, n_l3225, n_l10000, n_l22955, n_l29988, n_l29989, n_l65536, n_l99999, n_l1000000000, n_l2147483647, nI_add, pk_mul, pk_sub, pk_div, nI_clamp, ckN, nI_leI, nI_ltI, nI_eq, nI_nm1, Nat.add_zero, nI_addneg, k_ush, true_or, or_true, false_or, or_false, true_and, and_true, false_and, and_false, not_true_eq_false, not_false_eq_true, if_true, if_false, if_pos, if_neg, Option.bind_some])
  unfold pX3_overAt
  simp (disch := omega) only [n_l0, n_l1, n_l2, n_l3, n_l4, n_l5, n_l6, n_l7, n_l8, n_l9, n_l15, n_l16, n_l17, n_l20, n_l24, n_l31, n_l32, n_l33, n_l36, n_l48, n_l49, n_l97, n_l128, n_l129, n_l192, n_l225, n_l256, n_l353, n_l400, n_l512, n_l593, n_l621, n_l640, n_l857, n_l1093, n_l1095, n_l2048, n_l3225, n_l10000, n_l22955, n_l29988, n_l29989, n_l65536, n_l99999, n_l1000000000, n_l2147483647, nI_add, pk_mul, pk_sub, pk_div, nI_clamp, ckN, nI_leI, nI_ltI, nI_eq, nI_nm1, Nat.add_zero, nI_addneg, k_ush, true_or, or_true, false_or, or_false, true_and, and_true, false_and, and_false, not_true_eq_false, not_false_eq_true, if_true, if_false, if_pos, if_neg, Option.bind_some, e]
theorem k_bitsBy {form n m w pc : Nat} (hf : form ≤ 2) (hn : n ≤ 16) (hm : m ≤ 16) (hp : pc ≤ 16) (hw : w ≤ 32) {ps : Nat → Int32} {q : Nat → Nat} (hq : ∀ i, i < pc → u32 (ps i) = q i) : pX3_bitsBy (nI form) (nI w) (nI n) (nI m) (nI pc) ps = some (nI (tot n m form w pc (exc w q pc))) := by
  unfold pX3_bitsBy pX3_bodyBits tot
  simp (disch := omega) only [n_l0, n_l1, n_l2, n_l3, n_l4, n_l5, n_l6, n_l7, n_l8, n_l9, n_l15, n_l16, n_l17, n_l20, n_l24, n_l31, n_l32, n_l33, n_l36, n_l48, n_l49, n_l97, n_l128, n_l129, n_l192, n_l225, n_l256, n_l353, n_l400, n_l512, n_l593, n_l621, n_l640, n_l857, n_l1093, n_l1095, n_l2048, n_l3225, n_l10000, n_l22955, n_l29988, n_l29989, n_l65536, n_l99999, n_l1000000000, n_l2147483647, nI_add, pk_mul, pk_sub, pk_div, nI_clamp, ckN, nI_leI, nI_ltI, nI_eq, nI_nm1, Nat.add_zero, nI_addneg, k_ush, true_or, or_true, false_or, or_false, true_and, and_true, false_and, and_false, not_true_eq_false, not_false_eq_true, if_true, if_false, if_pos, if_neg, Option.bind_some, k_headBits hf hn hm, k_overAt hp hw hq]
  all_goals (first | rfl | exact congrArg some (congrArg nI (by omega)))
