/-! ===== words of a block ===== -/
theorem bt_1 (i : Nat) : bt 1 i = decide (i = 0) := by
  unfold bt
  show (1#32).getLsbD i = _
  rw [BitVec.getLsbD_one]
  simp
/-- a bit, as the class takes it -/
theorem k_bit1 {k : Nat} (hk : k < 32) (x : Int32) : (x.toUInt32 >>> ((nI k).toUInt32 &&& Int32.toUInt32 31)).toInt32 &&& nI 1 = if bt x k then nI 1 else nI 0 := by
  refine b_ext (fun i hi => ?_)
  rw [b_and, b_ushr k hk, show bt (nI 1) i = decide (i = 0) from bt_1 i]
  rcases Nat.eq_zero_or_pos i with h | h
  · subst h
    rw [Nat.add_zero]
    cases bt x k with
    | true => exact (by decide : (true && decide (0 = 0)) = bt (if true = true then nI 1 else nI 0) 0)
    | false => exact (by decide : (false && decide (0 = 0)) = bt (if false = true then nI 1 else nI 0) 0)
  · rw [decide_eq_false (by omega), Bool.and_false]
    cases bt x k with
    | true =>
      show false = bt 1 i
      rw [bt_1, decide_eq_false (by omega)]
    | false =>
      show false = bt 0 i
      rw [b_0]
/-- a bit, as the reference takes it -/
theorem r_bit1 {k : Nat} (hk : k < 32) (v : Int64) : ((v >>> ((nI k).toInt64 &&& 63)) &&& 1 = 1) ↔ v.toBitVec.getLsbD k = true := by
  rw [wb_c k (by omega)]
  have e1 : (v >>> lN k).toBitVec = v.toBitVec.sshiftRight k := by
    show v.toBitVec.sshiftRight' ((BitVec.ofNat 64 k).smod 64) = _
    rw [wb_sm k (by omega)]
    show v.toBitVec.sshiftRight (BitVec.ofNat 64 k).toNat = _
    rw [BitVec.toNat_ofNat, Nat.mod_eq_of_lt (by omega)]
  have e2 : ((v >>> lN k) &&& 1).toBitVec = (v.toBitVec.sshiftRight k) &&& 1#64 := by
    rw [Int64.toBitVec_and, e1]; rfl
  constructor
  · intro h
    have h1 : (v.toBitVec.sshiftRight k &&& 1#64).getLsbD 0 = (1#64).getLsbD 0 := by rw [← e2, h]; rfl
    rw [BitVec.getLsbD_and, BitVec.getLsbD_sshiftRight] at h1
    have h2 : (1#64).getLsbD 0 = true := by decide
    rw [h2, Bool.and_true] at h1
    have h3 : decide (64 ≤ 0) = false := by decide
    rw [h3, Nat.add_zero, if_pos (by omega)] at h1
    simpa using h1
  · intro h
    refine Int64.toBitVec_inj.mp ?_
    rw [e2]
    refine BitVec.eq_of_getLsbD_eq (fun i hi => ?_)
    rw [BitVec.getLsbD_and]
    show _ = (1#64).getLsbD i
    rcases Nat.eq_zero_or_pos i with h0 | h0
    · subst h0
      rw [BitVec.getLsbD_sshiftRight]
      have h3 : decide (64 ≤ 0) = false := by decide
      rw [h3, Nat.add_zero, if_pos (by omega), h]
      decide
    · have h4 : (1#64).getLsbD i = false := by rw [BitVec.getLsbD_one]; simp; omega
      rw [h4, Bool.and_false]
def BB (v : Int64) (x : Int32) (n : Nat) : Prop := ∀ k, k < n → v.toBitVec.getLsbD k = bt x k
theorem BB_int (x : Int32) : BB x.toInt64 x 32 := fun k hk => by
  unfold bt
  show (x.toBitVec.signExtend 64).getLsbD k = _
  rw [BitVec.getLsbD_signExtend, if_pos hk, decide_eq_true (show k < 64 by omega), Bool.true_and]
theorem BB_1 : BB 1 (nI 1) 1 := fun j hj => by
  rw [show j = 0 by omega]; decide
theorem BB_0 : BB 0 (nI 0) 1 := fun j hj => by
  rw [show j = 0 by omega]; decide
theorem BB_sub {v : Int64} {x : Int32} {n m : Nat} (h : BB v x n) (hm : m ≤ n) : BB v x m := fun k hk => h k (by omega)
theorem tb_lN (p k : Nat) (hk : k < 64) : (lN p).toBitVec.getLsbD k = p.testBit k := by
  show (BitVec.ofNat 64 p).getLsbD k = _
  rw [BitVec.getLsbD_ofNat, decide_eq_true hk, Bool.true_and]
theorem BB_u {p : Nat} {x : Int32} (h : u32 x = p) : BB (lN p) x 32 := fun k hk => by
  rw [tb_lN _ _ (by omega), ← h]
  rfl
theorem BB_sh {p w : Nat} {x : Int32} (h : u32 x = p) (hw : w < 32) : BB (lN p >>> ((nI w).toInt64 &&& 63)) ((x.toUInt32 >>> ((nI w).toUInt32 &&& Int32.toUInt32 31)).toInt32) (32 - w) := fun k hk => by
  have hp := u32_lt x
  rw [b_ushr w hw, wb_c w (by omega), pf_shr (d := w) (by
    show ((BitVec.ofNat 64 w).smod 64).toNat = w
    rw [wb_sm w (by omega), BitVec.toNat_ofNat, Nat.mod_eq_of_lt (by omega)]) (by omega), tb_lN _ _ (by omega), Nat.testBit_div_two_pow, ← h, Nat.add_comm k w]
  rfl
/-- both have the same words -/
def EW (wr wc : Nat → Int32) : Prop := ∀ j, j < 20 → wr j = wc j
theorem s_write {v : Int64} {x : Int32} {m t : Nat} (hb : BB v x m) (hm : m ≤ 32) (ht : t + m ≤ 640) {wr wc : Nat → Int32} (h : EW wr wc) :
    ∃ wr' wc', pX10_write v (nI m) (nI t) wr = some (nI (t + m), wr') ∧ pX6_writeNumber x (nI m) (nI t) wc = some (nI (t + m), wc') ∧ EW wr' wc' := by
  obtain ⟨r, r2, e1, e2, h1, h2, h3⟩ := lp2S (body := pX10_write_b3 v (nI m)) (body2 := pX6_writeNumber_b2 x (nI m)) (fun k s s2 => s.1 = nI k ∧ s2.1 = nI k ∧ s.2.1 = nI (t + k) ∧ s2.2.1 = nI (t + k) ∧ EW s.2.2 s2.2.2) (fun r r2 => r.2.1 = nI (t + m) ∧ r2.2.1 = nI (t + m) ∧ EW r.2.2 r2.2.2) m (nI 0, nI t, wr) (nI 0, nI t, wc) ⟨rfl, rfl, rfl, rfl, h⟩ (fun k s s2 hk hJ => by
    obtain ⟨s1, s3, s4⟩ := s
    obtain ⟨t1, t3, t4⟩ := s2
    obtain ⟨rfl, rfl, rfl, rfl, he⟩ := hJ
    replace he : EW s4 t4 := he
    unfold pX10_write_b3 pX10_write_b3j44 pX6_writeNumber_b2
    rcases Nat.lt_or_ge k m with h9 | h9
    · refine Or.inl ?_
      have hb1 := hb k h9
      have hsm : nI (t + k) - nI ((t + k) / 32 * 32) = nI ((t + k) % 32) := by
        rw [pk_sub (Nat.div_mul_le_self _ _)]
        exact congrArg nI (by omega)
      cases hbit : bt x k with
      | true =>
        rw [hbit] at hb1
        have hb2 : (v >>> ((nI k).toInt64 &&& 63)) &&& 1 = 1 := (r_bit1 (by omega) v).mpr hb1
        have hb3 := k_bit1 (k := k) (by omega) x
        rw [hbit, if_pos rfl] at hb3
        simp only [nI_leI (show m < 2 ^ 31 by omega) (show k < 2 ^ 31 by omega), if_neg (show ¬ m ≤ k by omega), hb2, if_pos ((lg_cmp_eq (1 : Int64) 1).mpr rfl), hb3, show (32 : Int32) = nI 32 from rfl, show (640 : Int32) = nI 640 from rfl, nI_leI (show 640 < 2 ^ 31 by omega) (show t + k < 2 ^ 31 by omega), if_neg (show ¬ 640 ≤ t + k by omega), pk_div (show t + k < 2 ^ 31 by omega) (show 0 < 32 by omega) (show 32 < 2 ^ 31 by omega), ckN (show (t + k) / 32 < 24 by omega) (by omega), ckN (show (t + k) / 32 < 20 by omega) (by omega), pk_mul, hsm, nI_clamp (show (t + k) / 32 < 2 ^ 31 by omega), show (1 : Int32) = nI 1 from rfl, nI_add]
        refine ⟨_, _, rfl, rfl, h9, rfl, rfl, rfl, rfl, fun j hj => ?_⟩
        show upd s4 ((t + k) / 32) _ j = upd t4 ((t + k) / 32) _ j
        unfold upd
        split
        · rw [he ((t + k) / 32) (by omega)]
        · exact he j hj
      | false =>
        rw [hbit] at hb1
        have hb2 : ¬ (v >>> ((nI k).toInt64 &&& 63)) &&& 1 = 1 := fun q => by
          have := (r_bit1 (by omega) v).mp q
          rw [hb1] at this; cases this
        have hb3 := k_bit1 (k := k) (by omega) x
        rw [hbit, if_neg (by decide)] at hb3
        have hz : (nI 0 <<< (nI ((t + k) % 32) &&& 31) : Int32) = nI 0 := b_ext (fun i hi => by
          rw [b_shl _ (Nat.mod_lt _ (by omega)) _ hi]
          show (_ && bt 0 _) = bt 0 i
          rw [b_0, b_0, Bool.and_false])
        have ho : ∀ y : Int32, y ||| nI 0 = y := fun y => b_ext (fun i hi => by
          rw [b_or]
          show (_ || bt 0 i) = _
          rw [b_0, Bool.or_false])
        simp only [nI_leI (show m < 2 ^ 31 by omega) (show k < 2 ^ 31 by omega), if_neg (show ¬ m ≤ k by omega), if_neg (fun q => hb2 ((lg_cmp_eq _ _).mp q)), hb3, show (32 : Int32) = nI 32 from rfl, show (640 : Int32) = nI 640 from rfl, nI_leI (show 640 < 2 ^ 31 by omega) (show t + k < 2 ^ 31 by omega), if_neg (show ¬ 640 ≤ t + k by omega), pk_div (show t + k < 2 ^ 31 by omega) (show 0 < 32 by omega) (show 32 < 2 ^ 31 by omega), ckN (show (t + k) / 32 < 20 by omega) (by omega), pk_mul, hsm, nI_clamp (show (t + k) / 32 < 2 ^ 31 by omega), show (1 : Int32) = nI 1 from rfl, nI_add, hz, ho]
        refine ⟨_, _, rfl, rfl, h9, rfl, rfl, rfl, rfl, fun j hj => ?_⟩
        show s4 j = upd t4 ((t + k) / 32) _ j
        unfold upd
        split
        · rename_i hj2; rw [hj2, he ((t + k) / 32) (by omega)]
        · exact he j hj
    · obtain rfl : k = m := by omega
      refine Or.inr ?_
      simp (disch := omega) only [n_l0, n_l1, n_l2, n_l3, n_l4, n_l5, n_l6, n_l7, n_l8, n_l9, n_l15, n_l16, n_l17, n_l20, n_l24, n_l31, n_l32, n_l33, n_l36, n_l48, n_l49, n_l97, n_l128, n_l129, n_l192, n_l225, n_l256, n_l353, n_l400, n_l512, n_l593, n_l621, n_l640, n_l857, n_l1093, n_l1095, n_l2048, n_l3225, n_l10000, n_l22955, n_l29988, n_l29989, n_l65536, n_l99999, n_l1000000000, n_l2147483647, nI_add, pk_mul, pk_sub, pk_div, nI_clamp, ckN, nI_leI, nI_ltI, nI_eq, nI_nm1, Nat.add_zero, nI_addneg, k_ush, true_or, or_true, false_or, or_false, true_and, and_true, false_and, and_false, not_true_eq_false, not_false_eq_true, if_true, if_false, if_pos, if_neg, Option.bind_some]
      exact ⟨_, _, rfl, rfl, rfl, rfl, he⟩)
  unfold pX10_write pX6_writeNumber
  rw [n_l0, e1, e2]
  exact ⟨r.2.2, r2.2.2, by rw [Option.bind_some, h1], by rw [Option.bind_some, h2], h3⟩
section Wr
variable {c : Nat} {a : Nat → Int32} {v1 v2 v3 bk hd : Int32} {tl : Nat → Int64} {fc : Nat → Int32} {C : AC} {xc : Nat → Option Nat}
/-- the mask -/
theorem s_mask (hc : c < 3) (hR : RCa a c C) (hl : HL C ≤ 128) (hT : KT tl C) {f n m t : Nat} (hf : f + n ≤ HL C) (hn : n ≤ 16) (hm : m < n) (ht : t + n ≤ 640) {wr wc : Nat → Int32} (h : EW wr wc) :
    ∃ r wc', lp (pX10_layWords_b105 (nI c) (nI f) (nI m) (nI n) a) FU (nI f, nI t, wr) = some r ∧ r.2.1 = nI (t + n) ∧ pX6_writeMask 128 (nI f) (nI n) (nI t) wc (nI (HL C)) tl = some (nI (t + n), wc') ∧ EW r.2.2 wc' := by
  obtain ⟨r, r2, e1, e2, h1, h2, h3⟩ := lp2S (body := pX10_layWords_b105 (nI c) (nI f) (nI m) (nI n) a) (body2 := pX6_writeMask_b3 128 (nI f) (nI n) (nI (HL C)) tl) (fun k s s2 => s.1 = nI (f + k) ∧ s2.1 = nI (f + k) ∧ s.2.1 = nI (t + k) ∧ s2.2.1 = nI (t + k) ∧ EW s.2.2 s2.2.2) (fun r r2 => r.2.1 = nI (t + n) ∧ r2.2.1 = nI (t + n) ∧ EW r.2.2 r2.2.2) n (nI f, nI t, wr) (nI f, nI t, wc) ⟨rfl, rfl, rfl, rfl, h⟩ (fun k s s2 hk hJ => by
    obtain ⟨s1, s3, s4⟩ := s
    obtain ⟨t1, t3, t4⟩ := s2
    obtain ⟨rfl, rfl, rfl, rfl, he⟩ := hJ
    replace he : EW s4 t4 := he
    unfold pX10_layWords_b105 pX10_layWords_b105j144 pX6_writeMask_b3 pX6_writeMask_b3j26
    rcases Nat.lt_or_ge k n with h9 | h9
    · refine Or.inl ?_
      cases hx : TV C (f + k) with
      | none =>
        obtain ⟨wr', wc', w1, w2, w3⟩ := s_write (v := 1) (x := nI 1) (m := 1) (t := t + k) BB_1 (by omega) (by omega) he
        simp (disch := omega) only [n_l0, n_l1, n_l2, n_l3, n_l4, n_l5, n_l6, n_l7, n_l8, n_l9, n_l15, n_l16, n_l17, n_l20, n_l24, n_l31, n_l32, n_l33, n_l36, n_l48, n_l49, n_l97, n_l128, n_l129, n_l192, n_l225, n_l256, n_l353, n_l400, n_l512, n_l593, n_l621, n_l640, n_l857, n_l1093, n_l1095, n_l2048, n_l3225, n_l10000, n_l22955, n_l29988, n_l29989, n_l65536, n_l99999, n_l1000000000, n_l2147483647, nI_add, pk_mul, pk_sub, pk_div, nI_clamp, ckN, nI_leI, nI_ltI, nI_eq, nI_nm1, Nat.add_zero, nI_addneg, k_ush, true_or, or_true, false_or, or_false, true_and, and_true, false_and, and_false, not_true_eq_false, not_false_eq_true, if_true, if_false, if_pos, if_neg, Option.bind_some, r_empty hc hR (show f + k < HL C by omega) hl, k_isFull (N := 128) (by omega) hl (show f + k < HL C by omega) hT, hx, e_none, e_some, l64_ne, l64_inj, l64_lt, l64_le, vv_some, vv_none, ee_some, ee_none, lc_eq, lc_lt, lc_le, lc_gt, lc_ge, reduceCtorEq, Option.isSome_none, Option.isSome_some, Bool.false_eq_true, w1, w2]
        exact ⟨_, _, rfl, rfl, h9, rfl, rfl, rfl, rfl, w3⟩
      | some v =>
        obtain ⟨wr', wc', w1, w2, w3⟩ := s_write (v := 0) (x := nI 0) (m := 1) (t := t + k) BB_0 (by omega) (by omega) he
        simp (disch := omega) only [n_l0, n_l1, n_l2, n_l3, n_l4, n_l5, n_l6, n_l7, n_l8, n_l9, n_l15, n_l16, n_l17, n_l20, n_l24, n_l31, n_l32, n_l33, n_l36, n_l48, n_l49, n_l97, n_l128, n_l129, n_l192, n_l225, n_l256, n_l353, n_l400, n_l512, n_l593, n_l621, n_l640, n_l857, n_l1093, n_l1095, n_l2048, n_l3225, n_l10000, n_l22955, n_l29988, n_l29989, n_l65536, n_l99999, n_l1000000000, n_l2147483647, nI_add, pk_mul, pk_sub, pk_div, nI_clamp, ckN, nI_leI, nI_ltI, nI_eq, nI_nm1, Nat.add_zero, nI_addneg, k_ush, true_or, or_true, false_or, or_false, true_and, and_true, false_and, and_false, not_true_eq_false, not_false_eq_true, if_true, if_false, if_pos, if_neg, Option.bind_some, r_empty hc hR (show f + k < HL C by omega) hl, k_isFull (N := 128) (by omega) hl (show f + k < HL C by omega) hT, hx, e_none, e_some, l64_ne, l64_inj, l64_lt, l64_le, vv_some, vv_none, ee_some, ee_none, lc_eq, lc_lt, lc_le, lc_gt, lc_ge, reduceCtorEq, Option.isSome_none, Option.isSome_some, Bool.false_eq_true, w1, w2]
        exact ⟨_, _, rfl, rfl, h9, rfl, rfl, rfl, rfl, w3⟩
    · obtain rfl : k = n := by omega
      refine Or.inr ?_
      simp (disch := omega) only [n_l0, n_l1, n_l2, n_l3, n_l4, n_l5, n_l6, n_l7, n_l8, n_l9, n_l15, n_l16, n_l17, n_l20, n_l24, n_l31, n_l32, n_l33, n_l36, n_l48, n_l49, n_l97, n_l128, n_l129, n_l192, n_l225, n_l256, n_l353, n_l400, n_l512, n_l593, n_l621, n_l640, n_l857, n_l1093, n_l1095, n_l2048, n_l3225, n_l10000, n_l22955, n_l29988, n_l29989, n_l65536, n_l99999, n_l1000000000, n_l2147483647, nI_add, pk_mul, pk_sub, pk_div, nI_clamp, ckN, nI_leI, nI_ltI, nI_eq, nI_nm1, Nat.add_zero, nI_addneg, k_ush, true_or, or_true, false_or, or_false, true_and, and_true, false_and, and_false, not_true_eq_false, not_false_eq_true, if_true, if_false, if_pos, if_neg, Option.bind_some]
      exact ⟨_, _, rfl, rfl, rfl, rfl, he⟩)
  unfold pX6_writeMask
  rw [e1, e2]
  exact ⟨r, r2.2.2, rfl, h1, by rw [Option.bind_some, h2], h3⟩
/-- the parts and the exceptions -/
theorem s_parts {w pc t : Nat} (hw : w ≤ 32) (hp : pc ≤ 16) {ps : Nat → Int64} {xs : Nat → Int32} {q : Nat → Nat} (hq : ∀ i, i < pc → q i < 2 ^ 32 ∧ ps i = lN (q i)) (hx : ∀ i, i < pc → u32 (xs i) = q i) (ht : t + (w * pc + exc w q pc * (36 - w)) ≤ 640) {wr wc : Nat → Int32} (h : EW wr wc) :
    ∃ r r' wc', lp (pX10_layWords_b210 (nI w) (nI pc) ps) FU (nI 0, nI t, wr) = some r ∧ lp (pX10_layWords_b241 (nI w) (nI pc) ps) FU (nI 0, r.2.1, r.2.2) = some r' ∧ r'.2.1 = nI (t + (w * pc + exc w q pc * (36 - w))) ∧ pX6_writeParts (nI w) (nI t) wc (nI pc) xs = some (nI (t + (w * pc + exc w q pc * (36 - w))), wc') ∧ EW r'.2.2 wc' := by
  obtain ⟨r, r2, e1, e2, h1, h2, h3⟩ := lp2S (body := pX10_layWords_b210 (nI w) (nI pc) ps) (body2 := pX6_writeParts_b2 (nI w) (nI pc) xs) (fun k s s2 => s.1 = nI k ∧ s2.1 = nI k ∧ s.2.1 = nI (t + w * k) ∧ s2.2.1 = nI (t + w * k) ∧ EW s.2.2 s2.2.2) (fun r r2 => r.2.1 = nI (t + w * pc) ∧ r2.2.1 = nI (t + w * pc) ∧ EW r.2.2 r2.2.2) pc (nI 0, nI t, wr) (nI 0, nI t, wc) ⟨rfl, rfl, by rw [Nat.mul_zero]; rfl, by rw [Nat.mul_zero]; rfl, h⟩ (fun k s s2 hk hJ => by
    obtain ⟨s1, s3, s4⟩ := s
    obtain ⟨t1, t3, t4⟩ := s2
    obtain ⟨rfl, rfl, rfl, rfl, he⟩ := hJ
    replace he : EW s4 t4 := he
    unfold pX10_layWords_b210 pX6_writeParts_b2
    rcases Nat.lt_or_ge k pc with h9 | h9
    · refine Or.inl ?_
      have hmul : w * (k + 1) ≤ w * pc := Nat.mul_le_mul_left w h9
      rw [Nat.mul_succ] at hmul
      obtain ⟨wr', wc', w1, w2, w3⟩ := s_write (v := ps k) (x := xs k) (m := w) (t := t + w * k) (by rw [(hq k h9).2]; exact BB_sub (BB_u (hx k h9)) hw) hw (by omega) he
      have e9 : t + w * k + w = t + w * (k + 1) := by rw [Nat.mul_succ]; omega
      rw [e9] at w1 w2
      simp (disch := omega) only [n_l0, n_l1, n_l2, n_l3, n_l4, n_l5, n_l6, n_l7, n_l8, n_l9, n_l15, n_l16, n_l17, n_l20, n_l24, n_l31, n_l32, n_l33, n_l36, n_l48, n_l49, n_l97, n_l128, n_l129, n_l192, n_l225, n_l256, n_l353, n_l400, n_l512, n_l593, n_l621, n_l640, n_l857, n_l1093, n_l1095, n_l2048, n_l3225, n_l10000, n_l22955, n_l29988, n_l29989, n_l65536, n_l99999, n_l1000000000, n_l2147483647, nI_add, pk_mul, pk_sub, pk_div, nI_clamp, ckN, nI_leI, nI_ltI, nI_eq, nI_nm1, Nat.add_zero, nI_addneg, k_ush, true_or, or_true, false_or, or_false, true_and, and_true, false_and, and_false, not_true_eq_false, not_false_eq_true, if_true, if_false, if_pos, if_neg, Option.bind_some, w1, w2]
      exact ⟨_, _, rfl, rfl, h9, rfl, rfl, rfl, rfl, w3⟩
    · obtain rfl : k = pc := by omega
      refine Or.inr ?_
      simp (disch := omega) only [n_l0, n_l1, n_l2, n_l3, n_l4, n_l5, n_l6, n_l7, n_l8, n_l9, n_l15, n_l16, n_l17, n_l20, n_l24, n_l31, n_l32, n_l33, n_l36, n_l48, n_l49, n_l97, n_l128, n_l129, n_l192, n_l225, n_l256, n_l353, n_l400, n_l512, n_l593, n_l621, n_l640, n_l857, n_l1093, n_l1095, n_l2048, n_l3225, n_l10000, n_l22955, n_l29988, n_l29989, n_l65536, n_l99999, n_l1000000000, n_l2147483647, nI_add, pk_mul, pk_sub, pk_div, nI_clamp, ckN, nI_leI, nI_ltI, nI_eq, nI_nm1, Nat.add_zero, nI_addneg, k_ush, true_or, or_true, false_or, or_false, true_and, and_true, false_and, and_false, not_true_eq_false, not_false_eq_true, if_true, if_false, if_pos, if_neg, Option.bind_some]
      exact ⟨_, _, rfl, rfl, rfl, rfl, he⟩)
  obtain ⟨r', r2', e1', e2', h1', h2', h3'⟩ := lp2S (body := pX10_layWords_b241 (nI w) (nI pc) ps) (body2 := pX6_writeParts_b29 (nI w) (nI pc) xs) (fun k s s2 => s.1 = nI k ∧ s2.1 = nI k ∧ s.2.1 = nI (t + w * pc + exc w q k * (36 - w)) ∧ s2.2.1 = nI (t + w * pc + exc w q k * (36 - w)) ∧ EW s.2.2 s2.2.2) (fun r r2 => r.2.1 = nI (t + (w * pc + exc w q pc * (36 - w))) ∧ r2.2.1 = nI (t + (w * pc + exc w q pc * (36 - w))) ∧ EW r.2.2 r2.2.2) pc (nI 0, r.2.1, r.2.2) (nI 0, r2.2.1, r2.2.2) ⟨rfl, rfl, by show r.2.1 = nI (t + w * pc + 0 * (36 - w)); rw [h1, Nat.zero_mul]; rfl, by show r2.2.1 = nI (t + w * pc + 0 * (36 - w)); rw [h2, Nat.zero_mul]; rfl, h3⟩ (fun k s s2 hk hJ => by
    obtain ⟨s1, s3, s4⟩ := s
    obtain ⟨t1, t3, t4⟩ := s2
    obtain ⟨rfl, rfl, rfl, rfl, he⟩ := hJ
    replace he : EW s4 t4 := he
    unfold pX10_layWords_b241 pX10_layWords_b241j295 pX6_writeParts_b29 pX6_writeParts_b29j68
    rcases Nat.lt_or_ge k pc with h9 | h9
    · refine Or.inl ?_
      have hbl : bl (q k) ≤ 32 := (bl_le _ 32).mpr (hq k h9).1
      have hov := k_isOver (w := w) h9 hp hw xs
      rw [hx k h9] at hov
      by_cases hle : bl (q k) ≤ w
      · have hes : exc w q (k + 1) = exc w q k := by rw [exc_s, if_pos hle]; rfl
        simp (disch := omega) only [n_l0, n_l1, n_l2, n_l3, n_l4, n_l5, n_l6, n_l7, n_l8, n_l9, n_l15, n_l16, n_l17, n_l20, n_l24, n_l31, n_l32, n_l33, n_l36, n_l48, n_l49, n_l97, n_l128, n_l129, n_l192, n_l225, n_l256, n_l353, n_l400, n_l512, n_l593, n_l621, n_l640, n_l857, n_l1093, n_l1095, n_l2048, n_l3225, n_l10000, n_l22955, n_l29988, n_l29989, n_l65536, n_l99999, n_l1000000000, n_l2147483647, nI_add, pk_mul, pk_sub, pk_div, nI_clamp, ckN, nI_leI, nI_ltI, nI_eq, nI_nm1, Nat.add_zero, nI_addneg, k_ush, true_or, or_true, false_or, or_false, true_and, and_true, false_and, and_false, not_true_eq_false, not_false_eq_true, if_true, if_false, if_pos, if_neg, Option.bind_some, (hq k h9).2, r_bitsOf (hq k h9).1, hov]
        exact ⟨_, _, rfl, rfl, h9, rfl, rfl, by rw [hes], by rw [hes], he⟩
      · have hes : exc w q (k + 1) = exc w q k + 1 := by rw [exc_s, if_neg hle]
        have hmo : exc w q (k + 1) ≤ exc w q pc := by
          have : ∀ n, k + 1 ≤ n → exc w q (k + 1) ≤ exc w q n := by
            intro n
            induction n with
            | zero => intro h; omega
            | succ j ih =>
              intro hj
              rcases Nat.lt_or_ge k j with h5 | h5
              · have := ih (by omega); rw [exc_s w q j]; omega
              · rw [show j = k by omega]; exact Nat.le_refl _
          exact this pc h9
        have hmul := Nat.mul_le_mul_right (36 - w) hmo
        rw [hes, Nat.succ_mul] at hmul
        have hw2 : w < 32 := by omega
        obtain ⟨wr', wc', w1, w2, w3⟩ := s_write (v := (nI k).toInt64) (x := nI k) (m := 4) (t := t + w * pc + exc w q k * (36 - w)) (BB_sub (BB_int _) (by omega)) (by omega) (by omega) he
        obtain ⟨wr'', wc'', y1, y2, y3⟩ := s_write (v := lN (q k) >>> ((nI w).toInt64 &&& 63)) (x := ((xs k).toUInt32 >>> ((nI w).toUInt32 &&& Int32.toUInt32 31)).toInt32) (m := 32 - w) (t := t + w * pc + exc w q k * (36 - w) + 4) (BB_sh (hx k h9) hw2) (by omega) (by omega) w3
        have e9 : t + w * pc + exc w q k * (36 - w) + 4 + (32 - w) = t + w * pc + exc w q (k + 1) * (36 - w) := by rw [hes, Nat.succ_mul]; omega
        rw [e9] at y1 y2
        simp only [nI_leI (show pc < 2 ^ 31 by omega) (show k < 2 ^ 31 by omega), if_neg (show ¬ pc ≤ k by omega), ckN (show k < 16 by omega) (by omega), nI_clamp (show k < 2 ^ 31 by omega), (hq k h9).2, r_bitsOf (hq k h9).1, Option.bind_some, nI_ltI (show w < 2 ^ 31 by omega) (show bl (q k) < 2 ^ 31 by omega), if_pos (show w < bl (q k) by omega), show (4 : Int32) = nI 4 from rfl, w1, show (32 : Int32) = nI 32 from rfl, pk_sub (show w ≤ 32 from hw), y1, hov, if_neg hle, show (nI 1 = (0 : Int32)) = False from eq_false (by decide), if_false, w2, y2, show (1 : Int32) = nI 1 from rfl, nI_add]
        exact ⟨_, _, rfl, rfl, h9, rfl, rfl, rfl, rfl, y3⟩
    · obtain rfl : k = pc := by omega
      refine Or.inr ?_
      simp (disch := omega) only [n_l0, n_l1, n_l2, n_l3, n_l4, n_l5, n_l6, n_l7, n_l8, n_l9, n_l15, n_l16, n_l17, n_l20, n_l24, n_l31, n_l32, n_l33, n_l36, n_l48, n_l49, n_l97, n_l128, n_l129, n_l192, n_l225, n_l256, n_l353, n_l400, n_l512, n_l593, n_l621, n_l640, n_l857, n_l1093, n_l1095, n_l2048, n_l3225, n_l10000, n_l22955, n_l29988, n_l29989, n_l65536, n_l99999, n_l1000000000, n_l2147483647, nI_add, pk_mul, pk_sub, pk_div, nI_clamp, ckN, nI_leI, nI_ltI, nI_eq, nI_nm1, Nat.add_zero, nI_addneg, k_ush, true_or, or_true, false_or, or_false, true_and, and_true, false_and, and_false, not_true_eq_false, not_false_eq_true, if_true, if_false, if_pos, if_neg, Option.bind_some]
      exact ⟨_, _, rfl, rfl, by rw [Nat.add_assoc], by rw [Nat.add_assoc], he⟩)
  refine ⟨r, r', r2'.2.2, e1, e1', h1', ?_, h3'⟩
  unfold pX6_writeParts
  rw [n_l0, e2, Option.bind_some, e2', Option.bind_some, h2']
end Wr
