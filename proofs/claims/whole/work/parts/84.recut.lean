/-! ===== least, cuts, recut ===== -/
/-- a block is told at its best -/
def TB (C : AC) (j : Nat) : Prop := FM C j = (bt3 C j).1 ∧ WD C j = (bt3 C j).2.1 ∧ ST C j = if (bt3 C j).1 = 2 then stp (cg C j) (cm C j) else 0
section TBs
variable {C C2 : AC} {b j : Nat}
theorem TB_tl : TB (tlC C b) b := ⟨tl_FM, tl_WD, tl_ST⟩
theorem TB_tln (h : j ≠ b) (ht : TB C j) : TB (tlC C b) j := ⟨(tl_FMn h).trans ht.1, (tl_WDn h).trans ht.2.1, (tl_STn h).trans ht.2.2⟩
theorem TB_A : ∀ k, j < k → TB (tlA C k) j := by
  intro k
  induction k with
  | zero => intro h; exact absurd h (Nat.not_lt_zero j)
  | succ n ih =>
    intro h
    rw [tlA_s]
    by_cases hj : j = n
    · subst hj; exact TB_tl
    · exact TB_tln hj (ih (by omega))
theorem TB_ct (h : TB C j) : ct C j = (bt3 C j).2.2 := by
  have e : BL C j (tlC C j) j := ⟨rfl, h.1.trans tl_FM.symm, h.2.1.trans tl_WD.symm, h.2.2.trans tl_ST.symm, fun r _ => rfl⟩
  rw [(BL_all e).2.2.2.1, tl_ct]
theorem bt_eq (hp : ∀ i, i ≤ j → PL C2 i = PL C i) (hT : TV C2 = TV C) : cm C2 j = cm C j ∧ cg C2 j = cg C j ∧ bt3 C2 j = bt3 C j := by
  have e := sm_congr (p := PL C2) (q := PL C) j (fun i hi => hp i (by omega))
  have e1 : cm C2 j = cm C j := by unfold cm; rw [hT, e, hp j (Nat.le_refl _)]
  have e2 : cg C2 j = cg C j := by unfold cg; rw [hT, e, hp j (Nat.le_refl _)]
  exact ⟨e1, e2, by unfold bt3; rw [e1, e2, hp j (Nat.le_refl _)]⟩
theorem TB_cg (hp : ∀ i, i ≤ j → PL C2 i = PL C i) (hT : TV C2 = TV C) (h1 : TB C j) (h2 : TB C2 j) : FM C2 j = FM C j ∧ WD C2 j = WD C j ∧ ST C2 j = ST C j := by
  obtain ⟨e1, e2, e3⟩ := bt_eq hp hT
  rw [h1.1, h1.2.1, h1.2.2, h2.1, h2.2.1, h2.2.2, e1, e2, e3]
  exact ⟨rfl, rfl, rfl⟩
/-- two pictures of the same cut, both told at their best, are one picture to the reference -/
theorem RC_TB {a : Nat → Int32} {c : Nat} (hN : NB C2 = NB C) (hp : ∀ i, i < NB C → PL C2 i = PL C i) (hT : TV C2 = TV C) (h1 : ∀ i, i < NB C → TB C i) (h2 : ∀ i, i < NB C → TB C2 i) (h : RCa a c C2) : RCa a c C := by
  have hh := RC_BV.mp h
  rw [hN] at hh
  refine RC_BV.mpr ⟨RB_cg hh.1 (fun j hj => ?_), ?_⟩
  · obtain ⟨e1, e2, e3⟩ := TB_cg (C := C) (C2 := C2) (j := j) (fun i hi => hp i (by omega)) hT (h1 j hj) (h2 j hj)
    exact ⟨(hp j hj).symm, e1.symm, e2.symm, e3.symm⟩
  · have := hh.2
    rw [sm_congr (NB C) hp, hT] at this
    exact this
end TBs
/-- a column cut into blocks of given sizes -/
def ctN (T : Nat → Option Int32) (s : Nat → Nat) : Nat → AC
  | 0 => (0, fun _ => 0, T, fun _ => 0, fun _ => 0, fun _ => 0)
  | i + 1 => abC (ctN T s i) (s i)
section Cn
variable {T : Nat → Option Int32} {s : Nat → Nat}
theorem cn_s (i : Nat) : ctN T s (i + 1) = abC (ctN T s i) (s i) := rfl
theorem cn_NB : ∀ i, NB (ctN T s i) = i := by
  intro i
  induction i with
  | zero => rfl
  | succ n ih => rw [cn_s, ab_NB, ih]
theorem cn_TV : ∀ i, TV (ctN T s i) = T := by
  intro i
  induction i with
  | zero => rfl
  | succ n ih => rw [cn_s, ab_TV, ih]
theorem cn_HL : ∀ i, HL (ctN T s i) = sm s i := by
  intro i
  induction i with
  | zero => rfl
  | succ n ih => rw [cn_s, ab_HL, ih]; rfl
theorem cn_PL : ∀ i j, j < i → PL (ctN T s i) j = s j := by
  intro i
  induction i with
  | zero => intro j h; exact absurd h (Nat.not_lt_zero j)
  | succ n ih =>
    intro j h
    rw [cn_s, ab_PL, cn_NB]
    by_cases hj : j = n
    · subst hj; exact ud_at _ _ _
    · rw [ud_ne hj]; exact ih j (by omega)
theorem cn_TB : ∀ i j, j < i → TB (ctN T s i) j := by
  intro i
  induction i with
  | zero => intro j h; exact absurd h (Nat.not_lt_zero j)
  | succ n ih =>
    intro j h
    rw [cn_s]
    unfold abC
    rw [cn_NB]
    by_cases hj : j = n
    · subst hj; exact TB_tl
    · have hj2 : j < n := by omega
      have ht := ih j hj2
      have hne : ∀ i, i ≤ j → i ≠ NB (ctN T s n) := fun i hi => by rw [cn_NB]; omega
      obtain ⟨e1, e2, e3⟩ := bt_eq (C := ctN T s n) (C2 := apC (ctN T s n) (s n) 0 0 0) (j := j) (fun i hi => by rw [ap_PL, ud_ne (hne i hi)]) ap_TV
      refine TB_tln hj ⟨?_, ?_, ?_⟩
      · rw [e3, ← ht.1]; exact ud_ne (hne j (Nat.le_refl _))
      · rw [e3, ← ht.2.1]; exact ud_ne (hne j (Nat.le_refl _))
      · rw [e1, e2, e3, ← ht.2.2]; exact ud_ne (hne j (Nat.le_refl _))
theorem cn_OK : ∀ i, i ≤ 24 → sm s i ≤ 128 → (∀ j, j < i → 1 ≤ s j ∧ s j ≤ 16) → OKC (ctN T s i) := by
  intro i
  induction i with
  | zero => intro _ _ _; exact ⟨Nat.zero_le _, Nat.zero_le _, fun b hb => absurd hb (Nat.not_lt_zero b)⟩
  | succ n ih =>
    intro h1 h2 h3
    rw [cn_s]
    have h2' : sm s n + s n ≤ 128 := h2
    exact ab_OK (h3 n (by omega)).1 (h3 n (by omega)).2 (by rw [cn_NB]; omega) (by rw [cn_HL]; exact h2') (ih (by omega) (by omega) (fun j hj => h3 j (by omega)))
theorem cn_bits (m : Nat) : sm (ct (ctN T s m)) m = sm (fun j => cst T (sm s j) (s j)) m := by
  refine sm_congr m (fun j hj => ?_)
  have e : sm (PL (ctN T s m)) j = sm s j := sm_congr j (fun i hi => cn_PL m i (by omega))
  rw [TB_ct (cn_TB m j hj)]
  unfold bt3 cm cg
  rw [cn_PL m j hj, e, cn_TV]
  rfl
/-- the class cuts -/
theorem k_cutBy (m1 m2 m3 m4 m5 m6 m7 m8 m9 m10 m11 : Int32) (n1 n2 n3 : Nat → Int32) {tl : Nat → Int64} {fc cz : Nat → Int32} {m H : Nat} (bk : Int32) (hm : m ≤ 24) (hz : ∀ i, i < m → cz i = nI (s i)) (hs : ∀ i, i < m → s i ≤ 16) (hH : sm s m ≤ H) (hH2 : H ≤ 128) (hT : ∀ k, k < H → tl k = enc (T k)) :
    ∃ z, pX0_cutBy 128 bk (nI H) tl fc m1 m2 m3 m4 m5 m6 m7 m8 m9 m10 m11 n1 n2 n3 (nI m) cz = some z ∧ z.1 = nI m ∧ KP z.2.1 (ctN T s m) ∧ ∀ j, j < m → KF z.2.1 (ctN T s m) j := by
  obtain ⟨r, e, r1, r2, r3⟩ := lpE (body := pX0_cutBy_b7 128 (nI H) tl (nI m) cz) (fun k s' => s'.1 = nI k ∧ s'.2.1 = nI k ∧ KP s'.2.2.1 (ctN T s k) ∧ ∀ j, j < k → KF s'.2.2.1 (ctN T s k) j) (fun r => r.2.1 = nI m ∧ KP r.2.2.1 (ctN T s m) ∧ ∀ j, j < m → KF r.2.2.1 (ctN T s m) j) m (nI 0, nI 0, fc, m1, m2, m3, m4, m5, m6, m7, m8, m9, m10, m11, n1, n2, n3) ⟨rfl, rfl, fun j hj => absurd hj (Nat.not_lt_zero j), fun j hj => absurd hj (Nat.not_lt_zero j)⟩ (fun k s' hk hI => by
    obtain ⟨s1, s2, s3, t1, t2, t3, t4, t5, t6, t7, t8, t9, t10, t11, t12, t13, t14⟩ := s'
    obtain ⟨g1, g2, g3, g4⟩ := hI
    replace g1 : s1 = nI k := g1
    replace g2 : s2 = nI k := g2
    replace g3 : KP s3 (ctN T s k) := g3
    replace g4 : ∀ j, j < k → KF s3 (ctN T s k) j := g4
    subst g1 g2
    unfold pX0_cutBy_b7
    rcases Nat.lt_or_ge k m with h9 | h9
    · refine Or.inl ?_
      have hsm : sm s k + s k ≤ H := Nat.le_trans (sm_lt h9) hH
      obtain ⟨z, ez, z1, z2, z3⟩ := k_add (tl := tl) (fc := s3) (C := ctN T s k) (H := H) (n := s k) t1 t2 t3 t4 t5 t6 t7 t8 t9 t10 t11 t12 t13 t14 (by rw [cn_NB]; omega) (by rw [cn_HL]; exact hsm) hH2 (by rw [cn_TV]; exact hT) g3 (by rw [cn_NB]; exact g4) (hs k h9)
      rw [cn_NB] at ez z1 z3
      rw [if_neg (show ¬ nI m ≤ nI k by rw [nI_leI (by omega) (by omega)]; omega), if_neg (show ¬ (24 : Int32) ≤ nI k by rw [n_l24, nI_leI (by omega) (by omega)]; omega), ckN (by omega) (by omega), nI_clamp (by omega), hz k h9, ez, Option.bind_some]
      exact ⟨_, rfl, h9, by show nI k + nI 1 = _; rw [nI_add], z1, z2, z3⟩
    · obtain rfl : k = m := by omega
      refine Or.inr ?_
      rw [if_pos (Int32.le_refl _)]
      exact ⟨_, rfl, rfl, g3, g4⟩)
  unfold pX0_cutBy
  rw [n_l0, e]
  exact ⟨_, rfl, r1, r2, r3⟩
end Cn
section RCu
variable {c : Nat} {a : Nat → Int32}
/-- the reference shuts every block -/
theorem r_shutAll {nb : Nat} {pl fm wd : Nat → Nat} {st : Nat → Int32} (hc : c < 3) (h : RB a c nb pl fm wd st) (hnb : nb ≤ 24) : ∃ a', lp (pX10_recut_b26 (nI c)) FU a = some a' ∧ a' (36 + 353 * c) = nI 0 ∧ (∀ i, 97 ≤ i → i < 353 → a' (36 + 353 * c + i) = a (36 + 353 * c + i)) ∧ FR c a a' := by
  refine lpE (body := pX10_recut_b26 (nI c)) (fun k s => (∃ pl fm wd st, RB s c (nb - k) pl fm wd st) ∧ (∀ i, 97 ≤ i → i < 353 → s (36 + 353 * c + i) = a (36 + 353 * c + i)) ∧ FR c a s) (fun s => s (36 + 353 * c) = nI 0 ∧ (∀ i, 97 ≤ i → i < 353 → s (36 + 353 * c + i) = a (36 + 353 * c + i)) ∧ FR c a s) nb a ⟨⟨pl, fm, wd, st, h⟩, fun _ _ _ => rfl, FR_rf c a⟩ (fun k s hk hI => ?_)
  obtain ⟨⟨pl, fm, wd, st, g1⟩, g2, g3⟩ := hI
  have hbl := r_blocksB hc g1.1
  unfold pX10_recut_b26
  rw [hbl, Option.bind_some, n_l0]
  rcases Nat.lt_or_ge k nb with h9 | h9
  · refine Or.inl ?_
    obtain ⟨a', e1, e2, e3, e4⟩ := r_shutBlock hc g1 (by omega) (b := nb - k - 1) (by omega)
    rw [if_neg (show ¬ nI (nb - k) ≤ nI 0 by rw [nI_leI (by omega) (by omega)]; omega), Option.bind_some, n_l1, pk_sub (by omega), e1, Option.bind_some]
    refine ⟨_, rfl, h9, ⟨_, _, _, _, by rw [show nb - (k + 1) = nb - k - 1 by omega]; exact e2⟩, fun i h1 h2 => (e3 i h1 h2).trans (g2 i h1 h2), FR_tr g3 e4⟩
  · obtain rfl : k = nb := by omega
    refine Or.inr ?_
    rw [Nat.sub_self, if_pos (Int32.le_refl _)]
    exact ⟨_, rfl, by rw [g1.1, Nat.sub_self], g2, g3⟩
/-- and lays the blocks of the cut -/
theorem r_openAll {m : Nat} {s : Nat → Nat} {cz : Nat → Int32} (hc : c < 3) (h0 : a (36 + 353 * c) = nI 0) (hm : m ≤ 24) (hz : ∀ i, i < m → cz i = nI (s i)) : ∃ r, lp (pX10_recut_b51 (nI c) (nI m) cz) FU (nI 0, a) = some r ∧ (∃ pl fm wd st, RB r.2 c m pl fm wd st ∧ ∀ j, j < m → pl j = s j) ∧ (∀ i, 97 ≤ i → i < 353 → r.2 (36 + 353 * c + i) = a (36 + 353 * c + i)) ∧ FR c a r.2 := by
  refine lpE (body := pX10_recut_b51 (nI c) (nI m) cz) (fun k q => q.1 = nI k ∧ (∃ pl fm wd st, RB q.2 c k pl fm wd st ∧ ∀ j, j < k → pl j = s j) ∧ (∀ i, 97 ≤ i → i < 353 → q.2 (36 + 353 * c + i) = a (36 + 353 * c + i)) ∧ FR c a q.2) _ m (nI 0, a) ⟨rfl, ⟨fun _ => 0, fun _ => 0, fun _ => 0, fun _ => 0, ⟨h0, fun b hb => absurd hb (Nat.not_lt_zero b)⟩, fun j hj => absurd hj (Nat.not_lt_zero j)⟩, fun _ _ _ => rfl, FR_rf c a⟩ (fun k q hk hI => ?_)
  obtain ⟨q1, q2⟩ := q
  obtain ⟨g1, ⟨pl, fm, wd, st, g2, g5⟩, g3, g4⟩ := hI
  replace g1 : q1 = nI k := g1
  replace g2 : RB q2 c k pl fm wd st := g2
  replace g3 : ∀ i, 97 ≤ i → i < 353 → q2 (36 + 353 * c + i) = a (36 + 353 * c + i) := g3
  replace g4 : FR c a q2 := g4
  subst g1
  unfold pX10_recut_b51
  rcases Nat.lt_or_ge k m with h9 | h9
  · refine Or.inl ?_
    obtain ⟨a', f0, w0, s0, e1, e2, e3, e4⟩ := r_openBlock hc g2 (by omega) (b := k) (Nat.le_refl _) (s k)
    rw [if_neg (show ¬ nI m ≤ nI k by rw [nI_leI (by omega) (by omega)]; omega), ckN (by omega) (by omega), nI_clamp (by omega), hz k h9, e1, Option.bind_some]
    refine ⟨_, rfl, h9, by show nI k + nI 1 = _; rw [nI_add], ⟨_, _, _, _, e2, fun j hj => ?_⟩, fun i h1 h2 => (e3 i h1 h2).trans (g3 i h1 h2), FR_tr g4 e4⟩
    by_cases hjk : j = k
    · subst hjk; exact ins_at
    · rw [ins_lo (by omega)]; exact g5 j (by omega)
  · obtain rfl : k = m := by omega
    refine Or.inr ?_
    rw [if_pos (Int32.le_refl _)]
    exact ⟨_, rfl, ⟨pl, fm, wd, st, g2, g5⟩, g3, g4⟩
/-- the reference cuts -/
theorem r_cutAll (xv xw xp xs xf xu xt xb : Int32) (vs : Nat → Int32) (ps : Nat → Int64) {C : AC} {m : Nat} {s : Nat → Nat} {cz : Nat → Int32} (hc : c < 3) (hR : RCa a c C) (ho : OKC C) (hm : m ≤ 24) (hz : ∀ i, i < m → cz i = nI (s i)) (hs : ∀ i, i < m → s i ≤ 16) (hH : sm s m = HL C) :
    ∃ a' r z, lp (pX10_recut_b26 (nI c)) FU a = some a' ∧ lp (pX10_recut_b51 (nI c) (nI m) cz) FU (nI 0, a') = some r ∧ pX10_tellAll (nI c) xv xw xp xs xf xu xt xb r.2 vs ps = some z ∧ RCa z.2.2.2.2.2.2.2.2.1 c (ctN (TV C) s m) ∧ FR c a z.2.2.2.2.2.2.2.2.1 := by
  obtain ⟨hB, hV⟩ := RC_BV.mp hR
  have hl := ho.2.1
  obtain ⟨a', e1, e2, e3, e4⟩ := r_shutAll hc hB ho.1
  obtain ⟨r, f1, ⟨pl, fm, wd, st, f2, f5⟩, f3, f4⟩ := r_openAll (m := m) (s := s) (cz := cz) hc e2 hm hz
  have hsm : sm pl m = HL C := by rw [sm_congr m f5, hH]
  have hR2 : RCa r.2 c (m, pl, TV C, fm, wd, st) := by
    refine RC_BV.mpr ⟨f2, ?_⟩
    show RV r.2 c (sm pl m) (TV C)
    rw [hsm]
    exact RV_fr hl hV (fun i h1 h2 => (f3 i h1 h2).trans (e3 i h1 h2))
  obtain ⟨z, ez, z1, z2⟩ := r_tellAll (C := (m, pl, TV C, fm, wd, st)) (a := r.2) xv xw xp xs xf xu xt xb vs ps hc hR2 hm (by show sm pl m ≤ 128; rw [hsm]; exact hl) (fun b hb => by have hb' : b < m := hb; show pl b ≤ 16; rw [f5 b hb']; exact hs b hb')
  refine ⟨a', r, z, e1, f1, ez, RC_TB (C := ctN (TV C) s m) (C2 := tlA (m, pl, TV C, fm, wd, st) m) ?_ ?_ ?_ ?_ ?_ z1, FR_tr (FR_tr e4 f4) z2⟩
  · rw [tlA_NB, cn_NB]; rfl
  · rw [cn_NB]
    intro i hi
    rw [tlA_PL, cn_PL m i hi]; exact f5 i hi
  · rw [tlA_TV, cn_TV]; rfl
  · rw [cn_NB]; exact fun i hi => cn_TB m i hi
  · rw [cn_NB]; exact fun i hi => TB_A m hi
end RCu
section QCut
variable {a : Nat → Int32} {v1 v2 bk hd : Int32} {tl : Nat → Int64} {fc : Nat → Int32} {C : AC} {xc : Nat → Option Nat}
theorem HL_one (ho : OKC C) (h : ¬ NB C = 0) : 1 ≤ HL C := by
  have := sm_lt2 (C := C) (b := 0) (by omega)
  have h2 := (ho.2.2 0 (by omega)).1
  omega
theorem PF_eq {T : Nat → Option Int32} {H : Nat} {b1 f1 b2 f2 : Int32} {z1 z2 : Nat → Int32} (h1 : PF T H b1 f1 z1) (h2 : PF T H b2 f2 z2) : ∃ m v, b1 = nI m ∧ b2 = nI m ∧ f1 = nI v ∧ f2 = nI v ∧ 1 ≤ m ∧ m ≤ 24 ∧ fw T H m 0 = some v ∧ (∀ i, i < m → z1 i = nI (sz T H m i)) ∧ ∀ i, i < m → z2 i = nI (sz T H m i) := by
  obtain ⟨m, v, e1, rfl, rfl, e2⟩ := h1
  obtain ⟨m', v', e1', rfl, rfl, e2'⟩ := h2
  rw [e1] at e1'
  cases e1'
  obtain ⟨b1, b2, b3⟩ := bC_ok 24 _ e1
  exact ⟨m, v, rfl, rfl, rfl, rfl, b1, b2, b3, e2, e2'⟩
theorem neg_m1 {v : Int32} (h1 : ¬ v < -nI 1) (h2 : v < 0) : v = -1 := by
  rw [Int32.lt_iff_toInt_lt] at h1 h2
  have e1 : (-nI 1 : Int32).toInt = -1 := by decide
  have e0 : (0 : Int32).toInt = 0 := rfl
  have e2 : (-1 : Int32).toInt = -1 := by decide
  rw [e1] at h1
  rw [e0] at h2
  exact Int32.toInt_inj.mp (by rw [e2]; omega)
theorem q_least (xv xw xp xs xf xu xt xb : Int32) (vs : Nat → Int32) (ps : Nat → Int64) (m1 m2 m3 m4 m5 m6 m7 m8 m9 m10 m11 : Int32) (n1 n2 n3 : Nat → Int32) {cb_ cf ph cy cw : Int32} {cz cs re s1 s2 s3 : Nat → Int32} {pt : Nat → Int64} (h : COL a v1 bk hd tl fc C) (hPl : PLN cb_ cf cz ph pt) :
    ∃ z w, pX10_least v1 xv xw xp xs xf xu xt xb cy cw a vs ps s1 s2 s3 = some z ∧ pX9_least 128 128 v1 xc m1 m2 m3 m4 m5 m6 m7 m8 m9 m10 m11 n1 n2 n3 cb_ cf cz ph pt cs re bk hd tl = some w ∧ w.1 = z.1 ∧ PLN w.2.2.2.2.2.2.2.2.2.2.2.2.2.2.2.1 w.2.2.2.2.2.2.2.2.2.2.2.2.2.2.2.2.1 w.2.2.2.2.2.2.2.2.2.2.2.2.2.2.2.2.2.1 w.2.2.2.2.2.2.2.2.2.2.2.2.2.2.2.2.2.2.1 w.2.2.2.2.2.2.2.2.2.2.2.2.2.2.2.2.2.2.2.1 := by
  obtain ⟨⟨rfl, rfl, hT, hP, hF⟩, ho, hr⟩ := h
  have hn := ho.1
  have hl := ho.2.1
  have hH : ∀ k, k < HL C → tl k = enc (TV C k) := hT
  unfold pX10_least pX9_least
  rcases col_cases v1 with ⟨c, hc, rfl⟩ | hv
  · have hR := hr c hc rfl
    rw [r_isCol hc, Option.bind_some, if_neg (show ¬ nI 1 = 0 by decide), r_blocks hc hR, Option.bind_some, k_withBlocks hc hn, Option.bind_some]
    by_cases h0 : NB C = 0
    · rw [if_pos (show nI (NB C) = 0 by rw [h0]; rfl), if_pos h0, if_neg Bool.false_ne_true]
      exact ⟨_, _, rfl, rfl, rfl, hPl⟩
    · obtain ⟨z, ez, hz⟩ := r_layCut xv xw xp xs xf xu xt xb vs ps hc hR ho (HL_one ho h0) cy cw s1 s2 s3
      obtain ⟨w, ew, hw, hw2⟩ := k_plan (cs := cs) (re := re) m1 m2 m3 m4 m5 m6 m7 m8 m9 m10 m11 n1 n2 n3 ho hT (HL_one ho h0) hPl
      obtain ⟨m, v, p1, p2, p3, p4, _⟩ := PF_eq hz hw
      rw [if_neg (show ¬ nI (NB C) = 0 by rw [n_l0, nI_eq (by omega) (by omega)]; exact h0), if_neg h0, if_pos rfl, ez, Option.bind_some, ew, Option.bind_some]
      exact ⟨_, _, rfl, rfl, by show w.2.1 = _; rw [p4, ← p3], hw2⟩
  · rw [r_isColO hv, Option.bind_some, if_pos (show nI 0 = 0 from rfl), k_withBlocksC hv, Option.bind_some, if_neg Bool.false_ne_true]
    exact ⟨_, _, rfl, rfl, rfl, hPl⟩
theorem q_cuts (xv xw xp xs xf xu xt xb : Int32) (vs : Nat → Int32) (ps : Nat → Int64) (m1 m2 m3 m4 m5 m6 m7 m8 m9 m10 m11 : Int32) (n1 n2 n3 : Nat → Int32) {cb_ cf ph cy cw : Int32} {cz cs re s1 s2 s3 : Nat → Int32} {pt : Nat → Int64} (h : COL a v1 bk hd tl fc C) (hPl : PLN cb_ cf cz ph pt) :
    ∃ z w, pX10_cuts v1 v2 xv xw xp xs xf xu xt xb cy cw a vs ps s1 s2 s3 = some z ∧ pX9_cuts 128 128 v1 v2 xc m1 m2 m3 m4 m5 m6 m7 m8 m9 m10 m11 n1 n2 n3 cb_ cf cz ph pt cs re bk hd tl = some w ∧ w.1 = z.1 ∧ PLN w.2.2.2.2.2.2.2.2.2.2.2.2.2.2.2.1 w.2.2.2.2.2.2.2.2.2.2.2.2.2.2.2.2.1 w.2.2.2.2.2.2.2.2.2.2.2.2.2.2.2.2.2.1 w.2.2.2.2.2.2.2.2.2.2.2.2.2.2.2.2.2.2.1 w.2.2.2.2.2.2.2.2.2.2.2.2.2.2.2.2.2.2.2.1 := by
  obtain ⟨⟨rfl, rfl, hT, hP, hF⟩, ho, hr⟩ := h
  have hn := ho.1
  have hl := ho.2.1
  have hH : ∀ k, k < HL C → tl k = enc (TV C k) := hT
  unfold pX10_cuts pX9_cuts
  rcases col_cases v1 with ⟨c, hc, rfl⟩ | hv
  · have hR := hr c hc rfl
    rw [r_isCol hc, Option.bind_some, if_neg (show ¬ nI 1 = 0 by decide), r_blocks hc hR, Option.bind_some, k_withBlocks hc hn, Option.bind_some]
    by_cases h0 : NB C = 0
    · rw [if_pos (show nI (NB C) = 0 by rw [h0]; rfl), if_pos h0, if_neg Bool.false_ne_true]
      exact ⟨_, _, rfl, rfl, rfl, hPl⟩
    · obtain ⟨z, ez, hz⟩ := r_layCut xv xw xp xs xf xu xt xb vs ps hc hR ho (HL_one ho h0) cy cw s1 s2 s3
      obtain ⟨w, ew, hw, hw2⟩ := k_plan (cs := cs) (re := re) m1 m2 m3 m4 m5 m6 m7 m8 m9 m10 m11 n1 n2 n3 ho hT (HL_one ho h0) hPl
      obtain ⟨m, v, p1, p2, p3, p4, p5, p6, p7, p8, p9⟩ := PF_eq hz hw
      rw [if_neg (show ¬ nI (NB C) = 0 by rw [n_l0, nI_eq (by omega) (by omega)]; exact h0), if_neg h0, if_pos rfl, ez, Option.bind_some]
      by_cases c1 : v2 = -1
      · subst c1
        rw [if_pos rfl, if_neg (show ¬ (-1 : Int32) < -1 by decide), if_pos (show (-1 : Int32) < 24 by decide), ew, Option.bind_some, if_pos rfl]
        exact ⟨_, _, rfl, rfl, by show w.1 = _; rw [p2, ← p1], hw2⟩
      · rw [if_neg c1, p1, n_l1, pk_sub (by omega), n_l0]
        rcases ix_cases v2 (n := m) (by omega) with ⟨i, hi, rfl⟩ | hi
        · rw [r_isInT (Nat.zero_le _) (show i ≤ m - 1 by omega) (by omega), Option.bind_some, if_neg (show ¬ nI 1 = nI 0 by decide), if_neg (show ¬ nI i < -nI 1 from fun q => ?_), if_pos (show nI i < 24 from nI_lt (b := 24) (by omega) (by omega)), ew, Option.bind_some, if_neg (show ¬ nI i = -nI 1 by rw [nI_nm1 (by omega)]; exact id), p2, if_neg (show ¬ nI m ≤ nI i by rw [nI_leI (by omega) (by omega)]; omega), ckN (by omega) (by omega), ckN (by omega) (by omega), nI_clamp (by omega)]
          · exact ⟨_, _, rfl, rfl, by show w.2.2.1 i = _; rw [p9 i hi, ← p8 i hi], by rw [← p2]; exact hw2⟩
          · have := nI_le (a := 0) (b := i) (by omega) (by omega)
            have h3 : (nI 0 : Int32) < -nI 1 := Int32.lt_of_le_of_lt this q
            exact absurd h3 (by decide)
        · have hin : pX10_isIn v2 (nI 0) (nI (m - 1)) = some (nI 0) := by rw [← pk_sub (show 1 ≤ m by omega)]; exact r_below (n := m) (by omega) hi
          rw [hin, Option.bind_some, if_pos rfl]
          by_cases c2 : v2 < -nI 1
          · rw [if_pos c2]
            exact ⟨_, _, rfl, rfl, rfl, hPl⟩
          · rw [if_neg c2]
            by_cases c3 : v2 < 24
            · rw [if_pos c3, ew, Option.bind_some, if_neg (show ¬ v2 = -nI 1 from c1), p2]
              have hge : nI m ≤ v2 := by
                rcases hi with hi | hi
                · exact absurd hi (fun q => c1 (neg_m1 c2 q))
                · exact hi
              rw [if_pos hge]
              exact ⟨_, _, rfl, rfl, rfl, by rw [← p2]; exact hw2⟩
            · rw [if_neg c3]
              exact ⟨_, _, rfl, rfl, rfl, hPl⟩
  · rw [r_isColO hv, Option.bind_some, if_pos (show nI 0 = 0 from rfl), k_withBlocksC hv, Option.bind_some, if_neg Bool.false_ne_true]
    exact ⟨_, _, rfl, rfl, rfl, hPl⟩
theorem q_recut (xv xw xp xs xf xu xt xb : Int32) (vs : Nat → Int32) (ps : Nat → Int64) (m1 m2 m3 m4 m5 m6 m7 m8 m9 m10 m11 : Int32) (n1 n2 n3 : Nat → Int32) {f h0 : Nat} {cb_ cf ph cy cw : Int32} {cz cs re s1 s2 s3 : Nat → Int32} {pt : Nat → Int64} (ha0 : a 0 = nI h0) (ha1 : a 1 = nI f) (hh : h0 ≤ 20) (hf : f < 20) (h : COL a v1 bk hd tl fc C) (hPl : PLN cb_ cf cz ph pt) :
    ∃ z w, pX10_recut v1 xv xw xp xs xf xu xt xb cy cw a vs ps s1 s2 s3 = some z ∧ pX9_recut 16 128 128 v1 xc m1 m2 m3 m4 m5 m6 m7 m8 m9 m10 m11 n1 n2 n3 cb_ cf cz ph pt cs re bk hd tl fc = some w ∧ w.1 = z.1 ∧ MU a v1 w.2.1 z.2.2.2.2.2.2.2.2.2.2.2.1 w.2.2.2.2.2.2.2.2.2.2.2.2.2.2.2.2.2.2.2.2.2.2.2.1 hd tl w.2.2.2.2.2.2.2.2.2.2.2.2.2.2.2.2.2.2.2.2.2.2.2.2 ∧ PLN w.2.2.2.2.2.2.2.2.2.2.2.2.2.2.2.2.1 w.2.2.2.2.2.2.2.2.2.2.2.2.2.2.2.2.2.1 w.2.2.2.2.2.2.2.2.2.2.2.2.2.2.2.2.2.2.1 w.2.2.2.2.2.2.2.2.2.2.2.2.2.2.2.2.2.2.2.1 w.2.2.2.2.2.2.2.2.2.2.2.2.2.2.2.2.2.2.2.2.1 := by
  have h' := h
  obtain ⟨⟨rfl, rfl, hT, hP, hF⟩, ho, hr⟩ := h
  have hn := ho.1
  have hl := ho.2.1
  have hH : ∀ k, k < HL C → tl k = enc (TV C k) := hT
  unfold pX10_recut pX9_recut
  rcases col_cases v1 with ⟨c, hc, rfl⟩ | hv
  · have hR := hr c hc rfl
    rw [r_isCol hc, Option.bind_some, if_neg (show ¬ nI 1 = 0 by decide), r_blocks hc hR, Option.bind_some, k_withBlocks hc hn, Option.bind_some]
    by_cases h00 : NB C = 0
    · rw [if_pos (show nI (NB C) = 0 by rw [h00]; rfl), if_pos h00, if_neg Bool.false_ne_true]
      exact ⟨_, _, rfl, rfl, rfl, MU_no h', hPl⟩
    · obtain ⟨z, ez, hz⟩ := r_layCut xv xw xp xs xf xu xt xb vs ps hc hR ho (HL_one ho h00) cy cw s1 s2 s3
      obtain ⟨w, ew, hw, hw2⟩ := k_plan (cs := cs) (re := re) m1 m2 m3 m4 m5 m6 m7 m8 m9 m10 m11 n1 n2 n3 ho hT (HL_one ho h00) hPl
      obtain ⟨m, v, p1, p2, p3, p4, p5, p6, p7, p8, p9⟩ := PF_eq hz hw
      have hsz : ∀ i, i < m → 1 ≤ sz (TV C) (HL C) m i ∧ sz (TV C) (HL C) m i ≤ 16 := fun i hi => by
        obtain ⟨_, _, b1, b2, _⟩ := sz_ok p7 hi
        exact ⟨b1, b2⟩
      have hsm : sm (sz (TV C) (HL C) m) m = HL C := by rw [kS_sm, kS_end p7]
      obtain ⟨a1, ek, hK⟩ := r_keep ha0 ha1 hh hf
      have hR1 := RC_now hc ho hK.2.2.1 hR
      obtain ⟨a2, r, y, e1, e2, e3, e4, e5⟩ := r_cutAll z.1 z.2.1 z.2.2.1 z.2.2.2.1 z.2.2.2.2.1 z.2.2.2.2.2.1 z.2.2.2.2.2.2.1 z.2.2.2.2.2.2.2.1 z.2.2.2.2.2.2.2.2.2.2.1 z.2.2.2.2.2.2.2.2.2.2.2.1 hc hR1 ho p6 p8 (fun i hi => (hsz i hi).2) hsm
      obtain ⟨u, eu, u1, u2, u3⟩ := k_cutBy (T := TV C) (s := sz (TV C) (HL C) m) (tl := tl) (fc := fc) (cz := w.2.2.1) (H := HL C) w.2.2.2.2.2.2.2.1 w.2.2.2.2.2.2.2.2.1 w.2.2.2.2.2.2.2.2.2.1 w.2.2.2.2.2.2.2.2.2.2.1 w.2.2.2.2.2.2.2.2.2.2.2.1 w.2.2.2.2.2.2.2.2.2.2.2.2.1 w.2.2.2.2.2.2.2.2.2.2.2.2.2.1 w.2.2.2.2.2.2.2.2.2.2.2.2.2.2.1 w.2.2.2.2.2.2.2.2.2.2.2.2.2.2.2.1 w.2.2.2.2.2.2.2.2.2.2.2.2.2.2.2.2.1 w.2.2.2.2.2.2.2.2.2.2.2.2.2.2.2.2.2.1 w.2.2.2.2.2.2.2.2.2.2.2.2.2.2.2.2.2.2.1 w.2.2.2.2.2.2.2.2.2.2.2.2.2.2.2.2.2.2.2.1 w.2.2.2.2.2.2.2.2.2.2.2.2.2.2.2.2.2.2.2.2 (nI (NB C)) p6 p9 (fun i hi => (hsz i hi).2) (by rw [hsm]; exact Nat.le_refl _) hl hT
      have hOK : OKC (ctN (TV C) (sz (TV C) (HL C) m) m) := cn_OK m p6 (by rw [hsm]; exact hl) hsz
      have hKC : KC (nI m) (nI (HL C)) tl u.2.1 (ctN (TV C) (sz (TV C) (HL C) m) m) := ⟨by rw [cn_NB], by rw [cn_HL, hsm], fun k hk => by rw [cn_TV]; rw [cn_HL, hsm] at hk; exact hT k hk, u2, fun j hj => u3 j (by rw [cn_NB] at hj; exact hj)⟩
      have hall := k_allBitsN (n := m) (cn_NB m) hOK hKC.2.2.2.2
      rw [cn_NB, cn_bits] at hall
      have hv : sm (fun j => cst (TV C) (sm (sz (TV C) (HL C) m) j) (sz (TV C) (HL C) m j)) m = v := by
        rw [← sz_all p7]
        exact sm_congr m (fun j _ => by rw [kS_sm])
      rw [hv] at hall
      rw [if_neg (show ¬ nI (NB C) = 0 by rw [n_l0, nI_eq (by omega) (by omega)]; exact h00), if_neg h00, if_pos rfl, ez, Option.bind_some, ek, Option.bind_some, e1, Option.bind_some, p1, n_l0, e2, Option.bind_some, e3, Option.bind_some, ew, Option.bind_some, p2, eu, Option.bind_some, u1, n_l5, hall, Option.bind_some]
      exact ⟨_, _, rfl, rfl, by show nI v = _; rw [← p3], MU_yes hc ek e5 hKC hOK e4, by rw [← p2]; exact hw2⟩
  · rw [r_isColO hv, Option.bind_some, if_pos (show nI 0 = 0 from rfl), k_withBlocksC hv, Option.bind_some, if_neg Bool.false_ne_true]
    exact ⟨_, _, rfl, rfl, rfl, MU_no h', hPl⟩
end QCut
