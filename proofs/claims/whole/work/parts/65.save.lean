/-! ===== words of a block: bits, save ===== -/
theorem tot_621 {n m form w pc e : Nat} (hn : n ≤ 16) (hm : m ≤ n) (hw : w ≤ 32) (hp : pc = pcn form m) (he : e ≤ pc) (h15 : e ≤ 15) : tot n m form w pc e ≤ 621 ∧ tot n m form w pc e ≤ 81 + 37 * n := by
  unfold tot
  have h1 : w * pc + e * (36 - w) ≤ 36 * pc := by
    have h2 := Nat.mul_le_mul_right (36 - w) he
    have h3 : pc * (36 - w) = pc * 36 - pc * w := Nat.mul_sub pc 36 w
    have h4 : pc * w ≤ pc * 36 := Nat.mul_le_mul_left pc (by omega)
    have h5 : w * pc = pc * w := Nat.mul_comm w pc
    omega
  have h6 : w * pc + e * (36 - w) ≤ w * pc + 15 * (36 - w) := Nat.add_le_add_left (Nat.mul_le_mul_right _ h15) _
  unfold pcn at hp
  by_cases h0 : form = 0
  · rw [if_pos h0] at hp
    subst h0
    rw [if_neg (show ¬ 0 = 2 by omega)]
    by_cases hmn : m < n
    · rw [if_pos hmn]; omega
    · rw [if_neg hmn]
      rcases Nat.lt_or_ge pc 16 with h7 | h7
      · omega
      · have h8 : pc = 16 := by omega
        rw [h8] at h6 h1 ⊢
        omega
  · rw [if_neg h0] at hp
    split <;> split <;> omega
theorem ct_621 {C : AC} {b : Nat} (h : okb C b) : ct C b ≤ 621 ∧ ct C b ≤ 81 + 37 * PL C b := by
  obtain ⟨_, h2, _, h4, _, h6, _⟩ := h
  exact tot_621 h2 (cm_le C b) h4 rfl (exc_le _ _ _) h6
section Wr
variable {c : Nat} {a : Nat → Int32} {v1 v2 v3 bk hd : Int32} {tl : Nat → Int64} {fc : Nat → Int32} {C : AC} {xc : Nat → Option Nat}
theorem r_zero (ws : Nat → Int32) : ∃ r, lp pX10_layWords_b34 FU (nI 0, ws) = some r ∧ ∀ j, j < 24 → r.2 j = nI 0 := by
  refine lpE (body := pX10_layWords_b34) (fun k s => s.1 = nI k ∧ ∀ j, j < k → s.2 j = nI 0) (fun r => ∀ j, j < 24 → r.2 j = nI 0) 24 (nI 0, ws) ⟨rfl, fun j hj => absurd hj (Nat.not_lt_zero j)⟩ (fun k s hk hI => ?_)
  obtain ⟨s1, s2⟩ := s
  obtain ⟨rfl, h⟩ := hI
  unfold pX10_layWords_b34
  rcases Nat.lt_or_ge k 24 with h9 | h9
  · refine Or.inl ?_
    simp (disch := omega) only [n_l0, n_l1, n_l2, n_l3, n_l4, n_l5, n_l6, n_l7, n_l8, n_l9, n_l15, n_l16, n_l17, n_l20, n_l24, n_l31, n_l32, n_l33, n_l36, n_l48, n_l49, n_l97, n_l128, n_l129, n_l192, n_l225, n_l256, n_l353, n_l400, n_l512, n_l593, n_l621, n_l640, n_l857, n_l1093, n_l1095, n_l2048, n_l3225, n_l10000, n_l22955, n_l29988, n_l29989, n_l65536, n_l99999, n_l1000000000, n_l2147483647, nI_add, pk_mul, pk_sub, pk_div, nI_clamp, ckN, nI_leI, nI_ltI, nI_eq, nI_nm1, Nat.add_zero, nI_addneg, k_ush, true_or, or_true, false_or, or_false, true_and, and_true, false_and, and_false, not_true_eq_false, not_false_eq_true, if_true, if_false, if_pos, if_neg, Option.bind_some]
    refine ⟨_, rfl, h9, rfl, fun j hj => ?_⟩
    show upd s2 k (nI 0) j = _
    unfold upd
    split
    · rfl
    · exact h j (by omega)
  · obtain rfl : k = 24 := by omega
    refine Or.inr ?_
    simp (disch := omega) only [n_l0, n_l1, n_l2, n_l3, n_l4, n_l5, n_l6, n_l7, n_l8, n_l9, n_l15, n_l16, n_l17, n_l20, n_l24, n_l31, n_l32, n_l33, n_l36, n_l48, n_l49, n_l97, n_l128, n_l129, n_l192, n_l225, n_l256, n_l353, n_l400, n_l512, n_l593, n_l621, n_l640, n_l857, n_l1093, n_l1095, n_l2048, n_l3225, n_l10000, n_l22955, n_l29988, n_l29989, n_l65536, n_l99999, n_l1000000000, n_l2147483647, nI_add, pk_mul, pk_sub, pk_div, nI_clamp, ckN, nI_leI, nI_ltI, nI_eq, nI_nm1, Nat.add_zero, nI_addneg, k_ush, true_or, or_true, false_or, or_false, true_and, and_true, false_and, and_false, not_true_eq_false, not_false_eq_true, if_true, if_false, if_pos, if_neg, Option.bind_some]
    exact ⟨_, rfl, h⟩
/-- what stands behind the mask, by both -/
theorem s_tail (xv xw xsx : Int32) (vs : Nat → Int32) (ho : OKC C) (hF : ∀ b, b < NB C → KF fc C b) {b t : Nat} (hb : b < NB C) {ps : Nat → Int64} {xs : Nat → Int32} (hps : ∀ i, i < cp C b → ps i = lN (cq C b i)) (hxs : ∀ i, i < cp C b → u32 (xs i) = cq C b i) (ht : t + 44 + (if FM C b = 2 then 32 else 0) + WD C b * cp C b + ce C b * (36 - WD C b) ≤ 640) {wr wc : Nat → Int32} (h : EW wr wc) :
    ∃ T z w, T = t + 44 + (if FM C b = 2 then 32 else 0) + WD C b * cp C b + ce C b * (36 - WD C b) ∧
      ((pX10_write (nI (FM C b)).toInt64 2 (nI t) wr).bind (fun k158 => (pX10_write (nI (WD C b)).toInt64 6 k158.1 k158.2).bind (fun k167 => (pX10_exceptionsBy (nI (WD C b)) (nI (cp C b)) ps).bind (fun k174 => (pX10_write k174.toInt64 4 k167.1 k167.2).bind (fun k179 => (pX10_write (cb C b).toInt64 32 k179.1 k179.2).bind (fun k188 => if nI (FM C b) = 2 then (pX10_write (ST C b).toInt64 32 k188.1 k188.2).bind (fun k204 => pX10_layWords_j207 (nI (WD C b)) xv xw (nI (cp C b)) xsx k204.1 vs ps k204.2) else pX10_layWords_j207 (nI (WD C b)) xv xw (nI (cp C b)) xsx k188.1 vs ps k188.2))))))
      = some z ∧ z.1 = nI (wds T) ∧ ((pX6_writeHead_j74 128 (nI b) (nI (FM C b)) (nI t) wc (nI (NB C)) fc).bind (fun k22 => (pX6_writeParts (nI (WD C b)) k22.1 k22.2 (nI (cp C b)) xs))) = some w ∧ w.1 = nI T ∧ EW z.2.2.2.2.2.2.2.2 w.2 := by
  have hn := ho.1
  obtain ⟨o1, o2, o3, o4, o5, o6, _⟩ := ho.2.2 b hb
  obtain ⟨g1, g2, g3, g4, g5, g6, g7⟩ := hF b hb
  have hm := cm_le C b
  have hp := cp_le C b
  obtain ⟨w1, c1, a1, b1, d1⟩ := s_write (v := (nI (FM C b)).toInt64) (x := nI (FM C b)) (m := 2) (t := t) (BB_sub (BB_int _) (by omega)) (by omega) (by omega) h
  obtain ⟨w2, c2, a2, b2, d2⟩ := s_write (v := (nI (WD C b)).toInt64) (x := nI (WD C b)) (m := 6) (t := t + 2) (BB_sub (BB_int _) (by omega)) (by omega) (by omega) d1
  obtain ⟨w3, c3, a3, b3, d3⟩ := s_write (v := (nI (ce C b)).toInt64) (x := nI (ce C b)) (m := 4) (t := t + 2 + 6) (BB_sub (BB_int _) (by omega)) (by omega) (by omega) d2
  obtain ⟨w4, c4, a4, b4, d4⟩ := s_write (v := (cb C b).toInt64) (x := cb C b) (m := 32) (t := t + 2 + 6 + 4) (BB_int _) (by omega) (by omega) d3
  have hex := r_exceptionsBy (w := WD C b) (pc := cp C b) (ps := ps) (q := cq C b) o4 (by omega) (fun i hi => ⟨qs_lt _ _ _ _ _, hps i hi⟩)
  rw [show exc (WD C b) (cq C b) (cp C b) = ce C b from rfl] at hex
  unfold pX10_layWords_j207 pX6_writeHead_j74
  have f3 := k_fact (fc := fc) hb hn (show 3 < 8 by omega)
  have f4 := k_fact (fc := fc) hb hn (show 4 < 8 by omega)
  have f6 := k_fact (fc := fc) hb hn (show 6 < 8 by omega)
  have f7 := k_fact (fc := fc) hb hn (show 7 < 8 by omega)
  by_cases c0 : FM C b = 2
  · rw [if_pos c0] at ht ⊢
    obtain ⟨w5, c5, a5, b5, d5⟩ := s_write (v := (ST C b).toInt64) (x := ST C b) (m := 32) (t := t + 2 + 6 + 4 + 32) (BB_int _) (by omega) (by omega) d4
    obtain ⟨r, r', wc', p1, p2, p3, p4, p5⟩ := s_parts (w := WD C b) (pc := cp C b) (q := cq C b) (t := t + 2 + 6 + 4 + 32 + 32) o4 (by omega) (fun i hi => ⟨qs_lt _ _ _ _ _, hps i hi⟩) hxs (by show _ + (_ + ce C b * _) ≤ _; omega) d5
    rw [show exc (WD C b) (cq C b) (cp C b) = ce C b from rfl] at p3 p4
    refine ⟨t + 44 + 32 + WD C b * cp C b + ce C b * (36 - WD C b), ?_⟩
    have eT : t + 2 + 6 + 4 + 32 + 32 + (WD C b * cp C b + ce C b * (36 - WD C b)) = t + 44 + 32 + WD C b * cp C b + ce C b * (36 - WD C b) := by omega
    rw [eT] at p3 p4
    generalize t + 44 + 32 + WD C b * cp C b + ce C b * (36 - WD C b) = T at *
    rw [c0] at a1 b1 ⊢
    simp only [show (2 : Int32) = nI 2 from rfl, show (6 : Int32) = nI 6 from rfl, show (4 : Int32) = nI 4 from rfl, show (32 : Int32) = nI 32 from rfl, show (3 : Int32) = nI 3 from rfl, show (7 : Int32) = nI 7 from rfl, show (0 : Int32) = nI 0 from rfl, a1, a2, hex, a3, a4, a5, Option.bind_some, if_true, p1, p2, p3, r_words (show T < 2 ^ 30 by omega), b1, b2, b3, b4, b5, f3, f4, f6, f7, g3, g4, g6, g7, p4]
    exact ⟨_, _, trivial, rfl, rfl, rfl, rfl, p5⟩
  · rw [if_neg c0] at ht ⊢
    obtain ⟨r, r', wc', p1, p2, p3, p4, p5⟩ := s_parts (w := WD C b) (pc := cp C b) (q := cq C b) (t := t + 2 + 6 + 4 + 32) o4 (by omega) (fun i hi => ⟨qs_lt _ _ _ _ _, hps i hi⟩) hxs (by show _ + (_ + ce C b * _) ≤ _; omega) d4
    rw [show exc (WD C b) (cq C b) (cp C b) = ce C b from rfl] at p3 p4
    refine ⟨t + 44 + 0 + WD C b * cp C b + ce C b * (36 - WD C b), ?_⟩
    have eT : t + 2 + 6 + 4 + 32 + (WD C b * cp C b + ce C b * (36 - WD C b)) = t + 44 + 0 + WD C b * cp C b + ce C b * (36 - WD C b) := by omega
    rw [eT] at p3 p4
    generalize t + 44 + 0 + WD C b * cp C b + ce C b * (36 - WD C b) = T at *
    have hf2 : ¬ nI (FM C b) = nI 2 := fun q => c0 ((nI_eq (by omega) (by omega)).mp q)
    simp only [show (2 : Int32) = nI 2 from rfl, show (6 : Int32) = nI 6 from rfl, show (4 : Int32) = nI 4 from rfl, show (32 : Int32) = nI 32 from rfl, show (3 : Int32) = nI 3 from rfl, show (7 : Int32) = nI 7 from rfl, show (0 : Int32) = nI 0 from rfl, a1, a2, hex, a3, a4, Option.bind_some, if_neg hf2, p1, p2, p3, r_words (show T < 2 ^ 30 by omega), b1, b2, b3, b4, f3, f4, f6, g3, g4, g6, p4]
    exact ⟨_, _, trivial, rfl, rfl, rfl, rfl, p5⟩
theorem r_lw1 (xv xw xp xs : Int32) (vs : Nat → Int32) (ps : Nat → Int64) (xn : Int32) (ws : Nat → Int32) (hc : c < 3) (hR : RCa a c C) (ho : OKC C) {b : Nat} (hb : b < NB C) : ∃ wz vz pz, (∀ j, j < 24 → wz j = nI 0) ∧ (∀ i, i < cp C b → pz i = lN (cq C b i)) ∧ ∀ w1, pX10_write (nI (PL C b - 1)).toInt64 (nI 4) (nI 0) wz = some (nI 4, w1) → pX10_layWords (nI c) (nI b) xv xw xp xs xn a vs ps ws = pX10_layWords_j89 (nI c) (nI b) (nI (FM C b)) (nI (WD C b)) (cb C b) (if cm C b < PL C b then 1 else 0) (nI (cm C b)) (nI (PL C b)) (nI (cp C b)) (ST C b) (nI 4) a vz pz w1 := by
  have hn := ho.1
  obtain ⟨o1, o2, o3, o4, o5, o6, _⟩ := ho.2.2 b hb
  have hm := cm_le C b
  obtain ⟨y, ey, y1, y2, y3, y4⟩ := r_baseOf xv xw vs hc hR ho hb
  obtain ⟨z, ez, z1, z2, z3, z4, z5, z6⟩ := r_layBlock y.2.1 y.2.2.1 xp xs y.2.2.2 ps hc hR ho hb
  obtain ⟨wz, ewz, hwz⟩ := r_zero ws
  refine ⟨wz.2, z.2.2.2.2.1, z.2.2.2.2.2, hwz, z6, fun w1 a1 => ?_⟩
  have h1 : ¬ nI (PL C b) ≤ nI (cm C b) ↔ cm C b < PL C b := by rw [nI_leI (by omega) (by omega)]; omega
  unfold pX10_layWords
  rw [show (1 : Int32) = nI 1 from rfl, show (2 : Int32) = nI 2 from rfl, r_ofFm hc hR hb hn, Option.bind_some, r_ofWd hc hR hb hn, Option.bind_some, ey, Option.bind_some, ez, Option.bind_some]
  rw [n_l0, ewz, Option.bind_some, z2, pk_sub (show 1 ≤ PL C b from o1), show (4 : Int32) = nI 4 from rfl, a1, Option.bind_some, z1, z3, z4, y1]
  by_cases hmn : cm C b < PL C b
  · rw [if_neg (h1.mpr hmn), if_pos hmn]
  · rw [if_pos (Decidable.not_not.mp (fun q => hmn (h1.mp q))), if_neg hmn]
theorem r_lw2 (xvz : Nat → Int32) (pz : Nat → Int64) (hc : c < 3) (hR : RCa a c C) (ho : OKC C) {b t : Nat} (hb : b < NB C) {tx : Int64} {wr w2 : Nat → Int32} (a2 : pX10_write tx (nI 1) (nI 4) wr = some (nI (4 + 1), w2)) {y : Int32 × Int32 × (Nat → Int32)}
    (a3 : lp (pX10_layWords_b105 (nI c) (nI (sm (PL C) b)) (nI (cm C b)) (nI (PL C b)) a) FU (nI (sm (PL C) b), nI (4 + 1), w2) = some y) (e3 : y.2.1 = nI t) : pX10_layWords_j89 (nI c) (nI b) (nI (FM C b)) (nI (WD C b)) (cb C b) tx (nI (cm C b)) (nI (PL C b)) (nI (cp C b)) (ST C b) (nI 4) a xvz pz wr =
    ((pX10_write (nI (FM C b)).toInt64 2 (nI t) y.2.2).bind (fun k158 => (pX10_write (nI (WD C b)).toInt64 6 k158.1 k158.2).bind (fun k167 => (pX10_exceptionsBy (nI (WD C b)) (nI (cp C b)) pz).bind (fun k174 => (pX10_write k174.toInt64 4 k167.1 k167.2).bind (fun k179 => (pX10_write (cb C b).toInt64 32 k179.1 k179.2).bind (fun k188 => if nI (FM C b) = 2 then (pX10_write (ST C b).toInt64 32 k188.1 k188.2).bind (fun k204 => pX10_layWords_j207 (nI (WD C b)) (nI (cm C b)) (nI (PL C b)) (nI (cp C b)) (ST C b) k204.1 xvz pz k204.2) else pX10_layWords_j207 (nI (WD C b)) (nI (cm C b)) (nI (PL C b)) (nI (cp C b)) (ST C b) k188.1 xvz pz k188.2)))))) := by
  unfold pX10_layWords_j89
  rw [show (1 : Int32) = nI 1 from rfl, a2, Option.bind_some, r_firstOf hc hR (Nat.le_of_lt hb) ho.1, Option.bind_some]
  show ((lp (pX10_layWords_b105 (nI c) (nI (sm (PL C) b)) (nI (cm C b)) (nI (PL C b)) a) FU (nI (sm (PL C) b), nI (4 + 1), w2)).bind _) = _
  rw [a3, Option.bind_some, e3]
theorem k_lw1 (m1 m2 m3 m4 m5 : Int32) (n1 n2 n3 : Nat → Int32) (xat : Int32) (wc : Nat → Int32) (ho : OKC C) (hT : KT tl C) (hP : KP fc C) (hF : ∀ b, b < NB C → KF fc C b) {b : Nat} (hb : b < NB C) : ∃ cz k, (∀ j, j < 20 → cz j = nI 0) ∧ pX0_measureAsTold 128 (nI b) (nI (NB C)) (nI (HL C)) tl fc m1 m2 m3 m4 m5 n1 n2 n3 = some k ∧ (∀ i, i < cp C b → u32 (k.2.2.2.2.2.2.1 i) = cq C b i) ∧ ∀ c1, pX6_writeNumber (nI (PL C b - 1)) (nI 4) (nI 0) cz = some (nI 4, c1) → ∀ w,
    ((pX6_writeHead_j51 128 (nI b) (nI (PL C b)) (nI (FM C b)) (if cm C b < PL C b then nI 1 else nI 0) (if cm C b < PL C b then nI 1 else nI 0) (nI 4) c1 (nI (NB C)) (nI (HL C)) tl fc).bind (fun k22 => pX6_writeParts (nI (WD C b)) k22.1 k22.2 (nI (cp C b)) k.2.2.2.2.2.2.1)) = some w →
    pX6_write 128 (nI b) xat wc (nI (NB C)) (nI (HL C)) tl fc m1 m2 m3 m4 m5 n1 n2 n3 = some (w.1, w.2, k.1, k.2.1, k.2.2.1, k.2.2.2.1, k.2.2.2.2.1, k.2.2.2.2.2.1, k.2.2.2.2.2.2.1, k.2.2.2.2.2.2.2) := by
  have hn := ho.1
  obtain ⟨o1, o2, o3, o4, o5, o6, _⟩ := ho.2.2 b hb
  obtain ⟨g1, g2, g3, g4, g5, g6, g7⟩ := hF b hb
  have hm := cm_le C b
  obtain ⟨cz, ecz, hcz⟩ := k_fill (N := 20) (by omega) (nI 0) wc
  obtain ⟨k, ek, k1, k2, k3, k4⟩ := k_asTold (tl := tl) (fc := fc) m1 m2 m3 m4 m5 n1 n2 n3 ho hT hP hb (hF b hb)
  refine ⟨cz, k, hcz, ek, k4, fun c1 b1 w hw => ?_⟩
  have f0 := k_fact (fc := fc) hb hn (show 0 < 8 by omega)
  rw [Nat.add_zero, hP b hb] at f0
  have f1 := k_fact (fc := fc) hb hn (show 1 < 8 by omega)
  rw [g1] at f1
  have f2 := k_fact (fc := fc) hb hn (show 2 < 8 by omega)
  rw [g2] at f2
  have f3 := k_fact (fc := fc) hb hn (show 3 < 8 by omega)
  rw [g3] at f3
  unfold pX6_write pX6_writeHead pX6_writeHead_j30
  by_cases hmn : cm C b < PL C b
  · rw [if_pos hmn] at hw
    simp only [show (1 : Int32) = nI 1 from rfl, show (2 : Int32) = nI 2 from rfl, show (0 : Int32) = nI 0 from rfl, show (3 : Int32) = nI 3 from rfl, show (4 : Int32) = nI 4 from rfl, ecz, ek, f0, f1, f2, f3, Option.bind_some, nI_leI (show PL C b < 2 ^ 31 by omega) (show cm C b < 2 ^ 31 by omega), if_neg (show ¬ PL C b ≤ cm C b by omega), pk_sub (show 1 ≤ PL C b from o1), b1, if_neg (show ¬ nI 1 = nI 0 by decide), k3]
    cases hj : pX6_writeHead_j51 128 (nI b) (nI (PL C b)) (nI (FM C b)) (nI 1) (nI 1) (nI 4) c1 (nI (NB C)) (nI (HL C)) tl fc with
    | none => rw [hj] at hw; cases hw
    | some q =>
      rw [hj, Option.bind_some] at hw
      rw [Option.bind_some, hw, Option.bind_some]
  · rw [if_neg hmn] at hw
    simp only [show (1 : Int32) = nI 1 from rfl, show (2 : Int32) = nI 2 from rfl, show (0 : Int32) = nI 0 from rfl, show (3 : Int32) = nI 3 from rfl, show (4 : Int32) = nI 4 from rfl, ecz, ek, f0, f1, f2, f3, Option.bind_some, nI_leI (show PL C b < 2 ^ 31 by omega) (show cm C b < 2 ^ 31 by omega), if_pos (show PL C b ≤ cm C b by omega), pk_sub (show 1 ≤ PL C b from o1), b1, if_true, k3]
    cases hj : pX6_writeHead_j51 128 (nI b) (nI (PL C b)) (nI (FM C b)) (nI 0) (nI 0) (nI 4) c1 (nI (NB C)) (nI (HL C)) tl fc with
    | none => rw [hj] at hw; cases hw
    | some q =>
      rw [hj, Option.bind_some] at hw
      rw [Option.bind_some, hw, Option.bind_some]
theorem s_words (xv xw xp xs : Int32) (vs : Nat → Int32) (ps : Nat → Int64) (m1 m2 m3 m4 m5 : Int32) (n1 n2 n3 : Nat → Int32) (xn xat : Int32) (ws wc : Nat → Int32) (hc : c < 3) (hR : RCa a c C) (ho : OKC C) (hT : KT tl C) (hP : KP fc C) (hF : ∀ b, b < NB C → KF fc C b) {b : Nat} (hb : b < NB C) :
    ∃ z w, pX10_layWords (nI c) (nI b) xv xw xp xs xn a vs ps ws = some z ∧ z.1 = nI (wds (ct C b)) ∧ pX6_write 128 (nI b) xat wc (nI (NB C)) (nI (HL C)) tl fc m1 m2 m3 m4 m5 n1 n2 n3 = some w ∧ w.1 = nI (ct C b) ∧ EW z.2.2.2.2.2.2.2.2 w.2.1 := by
  have hn := ho.1
  have hl := ho.2.1
  obtain ⟨o1, o2, o3, o4, o5, o6, _⟩ := ho.2.2 b hb
  have hm := cm_le C b
  have h621 := (ct_621 (ho.2.2 b hb)).1
  obtain ⟨wz, vz, pz, hwz, hpz, H1⟩ := r_lw1 xv xw xp xs vs ps xn ws hc hR ho hb
  obtain ⟨cz, k, hcz, ek, k4, H2⟩ := k_lw1 (tl := tl) (fc := fc) m1 m2 m3 m4 m5 n1 n2 n3 xat wc ho hT hP hF hb
  have hE0 : EW wz cz := fun j hj => by rw [hwz j (by omega), hcz j hj]
  obtain ⟨w1, c1, a1, b1, d1⟩ := s_write (v := (nI (PL C b - 1)).toInt64) (x := nI (PL C b - 1)) (m := 4) (t := 0) (BB_sub (BB_int _) (by omega)) (by omega) (by omega) hE0
  rw [Nat.zero_add] at a1 b1
  rw [H1 w1 a1]
  have ect : ct C b = 49 + (if cm C b < PL C b then PL C b else 0) + (if FM C b = 2 then 32 else 0) + WD C b * cp C b + ce C b * (36 - WD C b) := rfl
  by_cases hmn : cm C b < PL C b
  · rw [if_pos hmn] at ect
    obtain ⟨w2, c2, a2, b2, d2⟩ := s_write (v := 1) (x := nI 1) (m := 1) (t := 4) BB_1 (by omega) (by omega) d1
    obtain ⟨r, c3, a3, e3, b3, d3⟩ := s_mask (m := cm C b) hc hR hl hT (sm_lt2 hb) o2 hmn (t := 4 + 1) (by omega) d2
    obtain ⟨T, z', w', eT, t1, t2, t3, t4, t5⟩ := s_tail (nI (cm C b)) (nI (PL C b)) (ST C b) vz ho hF hb hpz k4 (t := 4 + 1 + PL C b) (by omega) d3
    have eT2 : T = ct C b := by omega
    subst eT2
    rw [if_pos hmn, r_lw2 vz pz hc hR ho hb a2 a3 e3]
    refine ⟨z', _, t1, t2, H2 c1 b1 w' ?_, t4, t5⟩
    rw [if_pos hmn]
    unfold pX6_writeHead_j51
    rw [show (1 : Int32) = nI 1 from rfl, b2, Option.bind_some, if_neg (show ¬ nI 1 = 0 by decide), k_firstOf hn hP (Nat.le_of_lt hb), Option.bind_some]
    show (((pX6_writeMask 128 (nI (sm (PL C) b)) (nI (PL C b)) (nI (4 + 1)) c2 (nI (HL C)) tl).bind _).bind _) = _
    rw [b3, Option.bind_some]
    exact t3
  · rw [if_neg hmn] at ect
    obtain ⟨w2, c2, a2, b2, d2⟩ := s_write (v := 0) (x := nI 0) (m := 1) (t := 4) BB_0 (by omega) (by omega) d1
    have a3 : lp (pX10_layWords_b105 (nI c) (nI (sm (PL C) b)) (nI (cm C b)) (nI (PL C b)) a) FU (nI (sm (PL C) b), nI (4 + 1), w2) = some (nI (sm (PL C) b), nI (4 + 1), w2) := by
      refine lpF (fun _ => (nI (sm (PL C) b), nI (4 + 1), w2)) 0 _ rfl (fun k hk => absurd hk (Nat.not_lt_zero k)) ?_
      have hs := sm_lt2 hb
      unfold pX10_layWords_b105
      simp (disch := omega) only [n_l0, n_l1, n_l2, n_l3, n_l4, n_l5, n_l6, n_l7, n_l8, n_l9, n_l15, n_l16, n_l17, n_l20, n_l24, n_l31, n_l32, n_l33, n_l36, n_l48, n_l49, n_l97, n_l128, n_l129, n_l192, n_l225, n_l256, n_l353, n_l400, n_l512, n_l593, n_l621, n_l640, n_l857, n_l1093, n_l1095, n_l2048, n_l3225, n_l10000, n_l22955, n_l29988, n_l29989, n_l65536, n_l99999, n_l1000000000, n_l2147483647, nI_add, pk_mul, pk_sub, pk_div, nI_clamp, ckN, nI_leI, nI_ltI, nI_eq, nI_nm1, Nat.add_zero, nI_addneg, k_ush, true_or, or_true, false_or, or_false, true_and, and_true, false_and, and_false, not_true_eq_false, not_false_eq_true, if_true, if_false, if_pos, if_neg, Option.bind_some]
    obtain ⟨T, z', w', eT, t1, t2, t3, t4, t5⟩ := s_tail (nI (cm C b)) (nI (PL C b)) (ST C b) vz ho hF hb hpz k4 (t := 4 + 1) (by omega) d2
    have eT2 : T = ct C b := by omega
    subst eT2
    rw [if_neg hmn, r_lw2 vz pz hc hR ho hb a2 a3 rfl]
    refine ⟨z', _, t1, t2, H2 c1 b1 w' ?_, t4, t5⟩
    rw [if_neg hmn]
    unfold pX6_writeHead_j51
    rw [show (1 : Int32) = nI 1 from rfl, b2, Option.bind_some, if_pos (show nI 0 = 0 from rfl)]
    exact t3
end Wr
