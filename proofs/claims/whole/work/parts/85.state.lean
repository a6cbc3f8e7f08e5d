/-! ===== a state as a picture; the ring of steps ===== -/
def COLc (b : Nat → Int32) (c : Nat) (v : CV4) : Prop := ∃ C, COL b (nI c) v.1 v.2.1 v.2.2.1 v.2.2.2 C
def SP (b : Nat → Int32) (v : SV) : Prop := b 2 = v.1 ∧ (∃ P tp, PD b v.2.1.1 v.2.1.2 P tp) ∧ COLc b 0 v.2.2.1 ∧ COLc b 1 v.2.2.2.1 ∧ COLc b 2 v.2.2.2.2
theorem COLc_cg {b b' : Nat → Int32} {c : Nat} {v : CV4} (hc : c < 3) (e : ∀ i, 2 ≤ i → i < 1095 → b' i = b i) (h : COLc b c v) : COLc b' c v := by
  obtain ⟨C, h1, h2, h3⟩ := h
  refine ⟨C, h1, h2, fun c' hc' e' => ?_⟩
  exact RC_now hc' h2 e (h3 c' hc' e')
theorem SP_cg {b b' : Nat → Int32} {v : SV} (e : ∀ i, 2 ≤ i → i < 1095 → b' i = b i) (h : SP b v) : SP b' v := by
  obtain ⟨h1, ⟨P, tp, p1, p2, p3, p4, p5⟩, h3, h4, h5⟩ := h
  refine ⟨(e 2 (by omega) (by omega)).trans h1, ⟨P, tp, p1, p2, p3, (e 3 (by omega) (by omega)).trans p4, fun k hk => ?_⟩, COLc_cg (by omega) e h3, COLc_cg (by omega) e h4, COLc_cg (by omega) e h5⟩
  rw [e (4 + k) (by omega) (by omega), e (20 + k) (by omega) (by omega)]
  exact p5 k hk
theorem COLc_mir {b : Nat → Int32} {c : Nat} {w : CV4} (b0 h0 : Int32) (t0 : Nat → Int64) (f0 : Nat → Int32) (h : COLc b c w) : ∃ z : CV4, pX0_mirror 128 128 b0 h0 t0 f0 w.1 w.2.1 w.2.2.1 w.2.2.2 = some z ∧ COLc b c z := by
  obtain ⟨C, ⟨e1, e2, h1⟩, h2, h3⟩ := h
  obtain ⟨t', f', e, hk⟩ := k_mirror (C := C) (tl := w.2.2.1) (fc := w.2.2.2) (b0 := b0) (h0 := h0) (t0 := t0) (f0 := f0) h2 ⟨rfl, rfl, h1⟩
  rw [e1, e2]
  exact ⟨_, e, C, hk, h2, h3⟩
theorem k_pmir {n P : Nat} {tp : Nat → Option Int32} {pt : Nat → Int64} (hn : n < 2 ^ 31) (hP : P ≤ n) (hT : ∀ k, k < P → pt k = enc (tp k)) (h0 : Int32) (t0 : Nat → Int64) : ∃ t', pX5_mirror n n h0 t0 (nI P) pt = some (nI P, t') ∧ ∀ k, k < P → t' k = enc (tp k) := by
  unfold pX5_mirror
  rw [show Int32.ofNat n = nI n from rfl, k_minN (by omega) (by omega), Option.bind_some, Nat.min_eq_left hP, n_l0, cpkN (by omega) (by omega) (by omega) (by omega), nI_clamp (by omega), nI_clamp (by omega)]
  refine ⟨_, rfl, fun k hk => ?_⟩
  show (if 0 ≤ k ∧ k < 0 + P then pt (0 + (k - 0)) else _) = _
  rw [if_pos (by omega), Nat.sub_zero, Nat.zero_add]
  exact hT k hk
theorem SP_mir {b : Nat → Int32} {w : SV} (v : SV) (h : SP b w) : ∃ z, mirV v w = some z ∧ SP b z := by
  obtain ⟨h1, ⟨P, tp, p1, p2, p3, p4, p5⟩, h3, h4, h5⟩ := h
  obtain ⟨z0, e0, g0⟩ := COLc_mir v.2.2.1.1 v.2.2.1.2.1 v.2.2.1.2.2.1 v.2.2.1.2.2.2 h3
  obtain ⟨z1, e1, g1⟩ := COLc_mir v.2.2.2.1.1 v.2.2.2.1.2.1 v.2.2.2.1.2.2.1 v.2.2.2.1.2.2.2 h4
  obtain ⟨z2, e2, g2⟩ := COLc_mir v.2.2.2.2.1 v.2.2.2.2.2.1 v.2.2.2.2.2.2.1 v.2.2.2.2.2.2.2 h5
  obtain ⟨t', e3, g3⟩ := k_pmir (n := 16) (by omega) p1 p3 v.2.1.1 v.2.1.2
  unfold mirV pX7_mirror
  rw [n_l0, n_l1, n_l2, ckN (by omega) (by omega), ckN (by omega) (by omega), e0, Option.bind_some, ckN (by omega) (by omega), ckN (by omega) (by omega), e1, Option.bind_some, ckN (by omega) (by omega), ckN (by omega) (by omega), e2, Option.bind_some, p2, e3, Option.bind_some]
  exact ⟨_, rfl, h1, ⟨P, tp, p1, rfl, g3, p4, p5⟩, g0, g1, g2⟩
/-- a slot of the ring, seen as what is now -/
def sv (a : Nat → Int32) (s : Nat) : Nat → Int32 := fun i => a (1095 + 1093 * s + (i - 2))
def RG (a : Nat → Int32) (f hh : Int32) (rows : Nat → Option RD) : Prop := ∃ fr fk h, fr < 20 ∧ fk < 20 ∧ h ≤ 20 ∧ a 0 = nI h ∧ a 1 = nI fr ∧ f = nI fk ∧ hh = nI h ∧ ∀ i, i < h → ∃ r, rows ((fk + i) % 20) = some r ∧ SP (sv a ((fr + i) % 20)) r.2.2
theorem RG_fr {a a' : Nat → Int32} {f hh : Int32} {rows : Nat → Option RD} (e : ∀ i, i < 2 ∨ (1095 ≤ i ∧ i < 22955) → a' i = a i) (h : RG a f hh rows) : RG a' f hh rows := by
  obtain ⟨fr, fk, n, h1, h2, h3, h4, h5, h6, h7, h8⟩ := h
  refine ⟨fr, fk, n, h1, h2, h3, (e 0 (by omega)).trans h4, (e 1 (by omega)).trans h5, h6, h7, fun i hi => ?_⟩
  obtain ⟨r, r1, r2⟩ := h8 i hi
  refine ⟨r, r1, SP_cg (fun j hj1 hj2 => ?_) r2⟩
  unfold sv
  exact e _ (by omega)
theorem fm20 : ∀ x, x < 60 → pJ9_floorMod_7cf53 (nI x) 20 = some (nI (x % 20)) := by decide +kernel
theorem kpF_n {f h : Nat} (hf : f < 20) (hh : h ≤ 20) : kpF (nI f) (nI h) = nI (rF f h) := by
  unfold kpF rF
  by_cases h1 : h = 20
  · subst h1
    rw [if_pos (show nI 20 = 20 from rfl), if_pos rfl]
    have e : nI (f + 1) - nI ((f + 1) / 20 * 20) = nI ((f + 1) % 20) := by
      rw [pk_sub (Nat.div_mul_le_self _ _)]
      exact congrArg nI (by omega)
    simp (disch := omega) only [n_l0, n_l1, n_l2, n_l3, n_l4, n_l5, n_l6, n_l7, n_l8, n_l9, n_l15, n_l16, n_l17, n_l20, n_l24, n_l31, n_l32, n_l33, n_l36, n_l48, n_l49, n_l97, n_l128, n_l129, n_l192, n_l225, n_l256, n_l353, n_l400, n_l512, n_l593, n_l621, n_l640, n_l857, n_l1093, n_l1095, n_l2048, n_l3225, n_l10000, n_l22955, n_l29988, n_l29989, n_l65536, n_l99999, n_l1000000000, n_l2147483647, nI_add, pk_mul, pk_sub, pk_div, nI_clamp, ckN, nI_leI, nI_ltI, nI_eq, nI_nm1, Nat.add_zero, nI_addneg, k_ush, true_or, or_true, false_or, or_false, true_and, and_true, false_and, and_false, not_true_eq_false, not_false_eq_true, if_true, if_false, if_pos, if_neg, Option.bind_some, e]
  · rw [if_neg (show ¬ nI h = 20 by rw [n_l20, nI_eq (by omega) (by omega)]; exact h1), if_neg h1]
theorem kpH_n {h : Nat} (hh : h ≤ 20) : kpH (nI h) = nI (rH h + 1) := by
  unfold kpH rH
  by_cases h1 : h = 20
  · subst h1
    rw [if_pos (show nI 20 = 20 from rfl), if_pos rfl]
    rfl
  · rw [if_neg (show ¬ nI h = 20 by rw [n_l20, nI_eq (by omega) (by omega)]; exact h1), if_neg h1, n_l1, nI_add]
theorem rF_lt {f h : Nat} (hf : f < 20) : rF f h < 20 := by unfold rF; split <;> omega
theorem rH_lt {h : Nat} (hh : h ≤ 20) : rH h < 20 := by unfold rH; split <;> omega
theorem kpS_n {f h : Nat} (hf : f < 20) (hh : h ≤ 20) : kpS (nI f) (nI h) = some (nI ((rF f h + rH h) % 20)) := by
  have h1 := rF_lt (h := h) hf
  have h2 := rH_lt hh
  unfold kpS
  rw [kpF_n hf hh, kpH_n hh, n_l1, pk_sub (by omega), Nat.add_sub_cancel, nI_add]
  exact fm20 _ (by omega)
/-- keep, ring against ring -/
theorem RG_keep {a : Nat → Int32} {f hh : Int32} {rows : Nat → Option RD} {vS : SV} (h : RG a f hh rows) (hS : SP a vS) :
    ∃ a1 k, pX10_keep a = some a1 ∧ k < 20 ∧ kpS f hh = some (nI k) ∧ (∀ i, 2 ≤ i → i < 1095 → a1 i = a i) ∧ ∀ (old : SV), ∃ vnew, mirV old vS = some vnew ∧ ∀ rows' : Nat → Option RD, (∃ r, rows' k = some r ∧ r.2.2 = vnew) → (∀ j, j ≠ k → rows' j = rows j) → RG a1 (kpF f hh) (kpH hh) rows' := by
  obtain ⟨fr, fk, n, h1, h2, h3, h4, h5, rfl, rfl, h8⟩ := h
  obtain ⟨a1, ek, k1, k2, k3, k4, k5⟩ := r_keep h4 h5 h3 h1
  have hrF := rF_lt (h := n) h2
  have hrF2 := rF_lt (h := n) h1
  have hrH := rH_lt h3
  refine ⟨a1, (rF fk n + rH n) % 20, ek, by omega, kpS_n h2 h3, k3, fun old => ?_⟩
  obtain ⟨vnew, e1, e2⟩ := SP_mir old hS
  refine ⟨vnew, e1, fun rows' hr1 hr2 => ?_⟩
  rw [kpF_n h2 h3, kpH_n h3]
  refine ⟨rF fr n, rF fk n, rH n + 1, hrF2, hrF, by omega, k1, k2, rfl, rfl, fun i hi => ?_⟩
  by_cases h9 : i = rH n
  · subst h9
    obtain ⟨r, q1, q2⟩ := hr1
    refine ⟨r, q1, ?_⟩
    rw [q2]
    refine SP_cg (fun j hj1 hj2 => ?_) e2
    unfold sv
    rw [k4 (j - 2) (by omega)]
    exact congrArg a (by omega)
  · have hi2 : i < rH n := by omega
    have hA : ∃ i', i' < n ∧ (rF fk n + i) % 20 = (fk + i') % 20 ∧ (rF fr n + i) % 20 = (fr + i') % 20 := by
      unfold rH at hi2
      unfold rF
      by_cases h7 : n = 20
      · rw [if_pos h7] at hi2
        rw [if_pos h7, if_pos h7]
        exact ⟨i + 1, by omega, by omega, by omega⟩
      · rw [if_neg h7] at hi2
        rw [if_neg h7, if_neg h7]
        exact ⟨i, hi2, rfl, rfl⟩
    obtain ⟨i', q1, q2, q3⟩ := hA
    obtain ⟨r, r1, r2⟩ := h8 i' q1
    refine ⟨r, ?_, ?_⟩
    · rw [hr2 _ (by omega), q2]; exact r1
    · refine SP_cg (fun j hj1 hj2 => ?_) r2
      rw [q3.symm]
      unfold sv
      exact k5 _ (by omega) (by omega) (j - 2) (by omega)
/-! undo -/
theorem r_undoN {v : Nat} (h1 : 1095 ≤ v) (h2 : v + 1093 ≤ 22955) (a : Nat → Int32) : ∃ r, lp (pX10_undo_b39 (nI v)) FU (nI 0, a) = some r ∧ ∀ j, r.2 j = if 2 ≤ j ∧ j < 1095 then a (v + (j - 2)) else a j := by
  refine lpE (body := pX10_undo_b39 (nI v)) (fun k s => s.1 = nI k ∧ ∀ j, s.2 j = if 2 ≤ j ∧ j < 2 + k then a (v + (j - 2)) else a j) (fun r => ∀ j, r.2 j = if 2 ≤ j ∧ j < 1095 then a (v + (j - 2)) else a j) 1093 (nI 0, a) ⟨rfl, fun j => by rw [if_neg (by omega)]⟩ (fun k s hk hI => ?_)
  obtain ⟨s1, s2⟩ := s
  obtain ⟨rfl, h⟩ := hI
  replace h : ∀ j, s2 j = if 2 ≤ j ∧ j < 2 + k then a (v + (j - 2)) else a j := h
  unfold pX10_undo_b39
  rcases Nat.lt_or_ge k 1093 with h9 | h9
  · refine Or.inl ?_
    rw [if_neg (show ¬ (1093 : Int32) ≤ nI k from fun q => by have := (nI_leI (a := 1093) (by omega) (by omega)).mp q; omega), show (2 : Int32) = nI 2 from rfl, nI_add, nI_add, ckN (by omega) (by omega), ckN (by omega) (by omega), nI_clamp (by omega), nI_clamp (by omega), show (1 : Int32) = nI 1 from rfl, nI_add]
    refine ⟨_, rfl, h9, rfl, fun j => ?_⟩
    show upd s2 (2 + k) (s2 (v + k)) j = _
    by_cases hj : j = 2 + k
    · subst hj
      rw [u_at, h, if_neg (by omega), if_pos (by omega), show 2 + k - 2 = k by omega]
    · rw [u_ne hj, h]
      by_cases hj2 : 2 ≤ j ∧ j < 2 + k
      · rw [if_pos hj2, if_pos (by omega)]
      · rw [if_neg hj2, if_neg (by omega)]
  · obtain rfl : k = 1093 := by omega
    exact Or.inr ⟨_, if_pos (show (1093 : Int32) ≤ nI 1093 by decide), h⟩
theorem r_undo0 {a : Nat → Int32} (h : a 0 = nI 0) : pX10_undo a = some (-1, a) := by
  unfold pX10_undo
  rw [n_l0, ckN (by omega) (by omega), nI_clamp (by omega), if_pos h]
theorem r_undo {a : Nat → Int32} {fr h : Nat} (h0 : a 0 = nI (h + 1)) (h1 : a 1 = nI fr) (hf : fr < 20) (hh : h < 20) : ∃ a', pX10_undo a = some (nI h, a') ∧ ∀ j, a' j = if 2 ≤ j ∧ j < 1095 then a (1095 + 1093 * ((fr + h) % 20) + (j - 2)) else if j = 0 then nI h else a j := by
  have hlt : (fr + h) % 20 < 20 := Nat.mod_lt _ (by omega)
  have e0 : nI (h + 1) - nI 1 = nI h := pk_sub (by omega)
  obtain ⟨r, er, hr⟩ := r_undoN (v := 1095 + 1093 * ((fr + h) % 20)) (by omega) (by omega) (upd a 0 (nI h))
  have hu : ∀ j, j ≠ 0 → upd a 0 (nI h) j = a j := fun j hj => u_ne hj
  unfold pX10_undo
  rw [n_l0, n_l1]
  rw [ckN (by omega) (by omega), nI_clamp (by omega), h0, if_neg (show ¬ nI (h + 1) = nI 0 by rw [nI_eq (by omega) (by omega)]; omega), ckN (by omega) (by omega), ckN (by omega) (by omega), ckN (by omega) (by omega), ckN (by omega) (by omega), nI_clamp (by omega), e0, u_at, hu 1 (by omega), h1, r_stepAt hf hh, Option.bind_some, er, Option.bind_some, ckN (by omega) (by omega)]
  have hr0 : r.2 0 = nI h := by rw [hr, if_neg (by omega)]; exact u_at _ _ _
  rw [hr0]
  refine ⟨r.2, rfl, fun j => ?_⟩
  rw [hr]
  by_cases hj : 2 ≤ j ∧ j < 1095
  · rw [if_pos hj, if_pos hj]; exact hu _ (by omega)
  · rw [if_neg hj, if_neg hj]
    by_cases hj0 : j = 0
    · subst hj0; rw [u_at, if_pos rfl]
    · rw [if_neg hj0]; exact hu j hj0
/-- undo, with a step to take back -/
theorem RG_undo {a : Nat → Int32} {f hh : Int32} {rows : Nat → Option RD} (hR : RG a f hh rows) (hne : ¬ hh = 0) : ∃ a' z k r, pX10_undo a = some (hh - 1, a') ∧ k < 20 ∧ rows k = some r ∧ pJ9_floorMod_7cf53 (f + (hh - 1)) 20 = some (nI k) ∧ (∀ now, ∃ v', mirV now r.2.2 = some v' ∧ SP a' v') ∧ RG a' f (hh - 1) rows ∧ z = hh - 1 := by
  obtain ⟨fr, fk, n, h1, h2, h3, h4, h5, rfl, rfl, h8⟩ := hR
  have hn : n ≠ 0 := fun q => hne (by rw [q]; rfl)
  obtain ⟨m, rfl⟩ : ∃ m, n = m + 1 := ⟨n - 1, by omega⟩
  obtain ⟨a', e1, e2⟩ := r_undo h4 h5 h1 (by omega)
  have es : nI (m + 1) - 1 = nI m := by rw [n_l1]; exact pk_sub (by omega)
  obtain ⟨r, r1, r2⟩ := h8 m (by omega)
  have hlt : (fr + m) % 20 < 20 := Nat.mod_lt _ (by omega)
  rw [es]
  refine ⟨a', nI m, (fk + m) % 20, r, e1, Nat.mod_lt _ (by omega), r1, ?_, fun now => ?_, ?_, rfl⟩
  · rw [nI_add]; exact fm20 _ (by omega)
  · obtain ⟨v', q1, q2⟩ := SP_mir now r2
    refine ⟨v', q1, SP_cg (fun i hi1 hi2 => ?_) q2⟩
    rw [e2, if_pos (by omega)]
    rfl
  · refine ⟨fr, fk, m, h1, h2, by omega, ?_, ?_, rfl, rfl, fun i hi => ?_⟩
    · rw [e2, if_neg (by omega), if_pos rfl]
    · rw [e2, if_neg (by omega), if_neg (by omega)]; exact h5
    · obtain ⟨r', q1, q2⟩ := h8 i (by omega)
      refine ⟨r', q1, SP_cg (fun j hj1 hj2 => ?_) q2⟩
      have : (fr + i) % 20 < 20 := Nat.mod_lt _ (by omega)
      unfold sv
      rw [e2, if_neg (by omega), if_neg (by omega)]
/-! image, back -/
theorem r_copyAll (a b : Nat → Int32) : ∃ b', pX10_copyAll 22955 22955 a b = some b' ∧ ∀ i, i < 22955 → b' i = a i := by
  obtain ⟨r, e, hr⟩ := lpE (body := pX10_copyAll_b2 22955 22955 a) (fun k s => s.1 = nI k ∧ ∀ i, i < k → s.2 i = a i) (fun r => ∀ i, i < 22955 → r.2 i = a i) 22955 (nI 0, b) ⟨rfl, fun i hi => absurd hi (Nat.not_lt_zero i)⟩ (fun k s hk hI => by
    obtain ⟨s1, s2⟩ := s
    obtain ⟨rfl, h⟩ := hI
    replace h : ∀ i, i < k → s2 i = a i := h
    unfold pX10_copyAll_b2
    rcases Nat.lt_or_ge k 22955 with h9 | h9
    · refine Or.inl ?_
      rw [if_neg (show ¬ (22955 : Int32) ≤ nI k from fun q => by have := (nI_leI (a := 22955) (by omega) (by omega)).mp q; omega), ckN (by omega) (by omega), ckN (by omega) (by omega), nI_clamp (by omega), n_l1, nI_add]
      refine ⟨_, rfl, h9, rfl, fun i hi => ?_⟩
      show upd s2 k (a k) i = _
      by_cases hj : i = k
      · subst hj; exact u_at _ _ _
      · rw [u_ne hj]; exact h i (by omega)
    · obtain rfl : k = 22955 := by omega
      exact Or.inr ⟨_, if_pos (show (22955 : Int32) ≤ nI 22955 by decide), h⟩)
  unfold pX10_copyAll
  rw [n_l0, e]
  exact ⟨_, rfl, hr⟩
theorem SP_all {a : Nat → Int32} {v : SV} (h : SP a v) : ∃ r, pX10_placesOfAll a = some r ∧ pX7_allPlaces v.2.2.1.2.1 v.2.2.2.1.2.1 v.2.2.2.2.2.1 = some r := by
  obtain ⟨_, _, ⟨C0, ⟨_, c0, _⟩, o0, r0⟩, ⟨C1, ⟨_, c1, _⟩, o1, r1⟩, ⟨C2, ⟨_, c2, _⟩, o2, r2⟩⟩ := h
  have e0 := r_places (show 0 < 3 by omega) (r0 0 (by omega) rfl) o0.1
  have e1 := r_places (show 1 < 3 by omega) (r1 1 (by omega) rfl) o1.1
  have e2 := r_places (show 2 < 3 by omega) (r2 2 (by omega) rfl) o2.1
  unfold pX10_placesOfAll pX7_allPlaces
  rw [n_l0, n_l1, n_l2, ckN (by omega) (by omega), ckN (by omega) (by omega), ckN (by omega) (by omega), e0, Option.bind_some, e1, Option.bind_some, e2, Option.bind_some, c0, c1, c2, nI_add, nI_add, nI_add, nI_add, nI_add, Nat.zero_add]
  exact ⟨_, rfl, rfl⟩
/-- a history made anew like another: its steps by age -/
theorem RG_mir {a : Nat → Int32} {f hh : Int32} {rows : Nat → Option RD} (hR : RG a f hh rows) (rowsI : Nat → Option RD) : ∃ (n : Nat) (slo : Nat → Nat) (new : Nat → SV), hh = nI n ∧ n ≤ 20 ∧ (∀ i, i < n → pJ9_floorMod_7cf53 (0 + nI i) 20 = some (nI i)) ∧ (∀ i, i < n → pJ9_floorMod_7cf53 (f + nI i) 20 = some (nI (slo i)) ∧ slo i < 20 ∧ ∃ r, rows (slo i) = some r ∧ mirV (match rowsI i with | none => SV0 | some r => r.2.2) r.2.2 = some (new i)) ∧
    ∀ (a' : Nat → Int32) (rows' : Nat → Option RD), (∀ i, i < 22955 → a' i = a i) → (∀ j, j < n → ∃ r, rows' j = some r ∧ r.2.2 = new j) → RG a' 0 (nI n) rows' := by
  obtain ⟨fr, fk, n, h1, h2, h3, h4, h5, rfl, rfl, h8⟩ := hR
  have key : ∀ i, ∃ v : SV, i < n → ∃ r, rows ((fk + i) % 20) = some r ∧ mirV (match rowsI i with | none => SV0 | some r => r.2.2) r.2.2 = some v ∧ SP (sv a ((fr + i) % 20)) v := fun i => by
    by_cases hi : i < n
    · obtain ⟨r, r1, r2⟩ := h8 i hi
      obtain ⟨v, q1, q2⟩ := SP_mir (match rowsI i with | none => SV0 | some r => r.2.2) r2
      exact ⟨v, fun _ => ⟨r, r1, q1, q2⟩⟩
    · exact ⟨SV0, fun q => absurd q hi⟩
  refine ⟨n, fun i => (fk + i) % 20, fun i => Classical.choose (key i), rfl, h3, fun i hi => ?_, fun i hi => ?_, fun a' rows' ha hr => ?_⟩
  · rw [n_l0, nI_add, Nat.zero_add, fm20 _ (by omega), Nat.mod_eq_of_lt (by omega)]
  · obtain ⟨r, q1, q2, q3⟩ := Classical.choose_spec (key i) hi
    refine ⟨?_, Nat.mod_lt _ (by omega), r, q1, q2⟩
    rw [nI_add]; exact fm20 _ (by omega)
  · refine ⟨fr, 0, n, h1, by omega, h3, (ha 0 (by omega)).trans h4, (ha 1 (by omega)).trans h5, rfl, rfl, fun i hi => ?_⟩
    obtain ⟨r, q1, q2⟩ := hr i hi
    obtain ⟨_, _, _, q3⟩ := Classical.choose_spec (key i) hi
    refine ⟨r, by rw [Nat.zero_add, Nat.mod_eq_of_lt (by omega)]; exact q1, ?_⟩
    rw [q2]
    refine SP_cg (fun j hj1 hj2 => ?_) q3
    have : (fr + i) % 20 < 20 := Nat.mod_lt _ (by omega)
    unfold sv
    exact ha _ (by omega)
/-- swap: the reference exchanges cells -/
theorem r_swapN {c d : Nat} (hc : c < 3) (hd : d < 3) (hne : c ≠ d) (a : Nat → Int32) : ∃ r, lp (pX10_swap_b27 (nI c) (nI d)) FU (nI 0, a) = some r ∧ ∀ j, r.2 j = if 36 + 353 * c ≤ j ∧ j < 36 + 353 * c + 353 then a (36 + 353 * d + (j - (36 + 353 * c))) else if 36 + 353 * d ≤ j ∧ j < 36 + 353 * d + 353 then a (36 + 353 * c + (j - (36 + 353 * d))) else a j := by
  refine lpE (body := pX10_swap_b27 (nI c) (nI d)) (fun k s => s.1 = nI k ∧ ∀ j, s.2 j = if 36 + 353 * c ≤ j ∧ j < 36 + 353 * c + k then a (36 + 353 * d + (j - (36 + 353 * c))) else if 36 + 353 * d ≤ j ∧ j < 36 + 353 * d + k then a (36 + 353 * c + (j - (36 + 353 * d))) else a j) (fun r => ∀ j, r.2 j = if 36 + 353 * c ≤ j ∧ j < 36 + 353 * c + 353 then a (36 + 353 * d + (j - (36 + 353 * c))) else if 36 + 353 * d ≤ j ∧ j < 36 + 353 * d + 353 then a (36 + 353 * c + (j - (36 + 353 * d))) else a j) 353 (nI 0, a) ⟨rfl, fun j => by rw [if_neg (by omega), if_neg (by omega)]⟩ (fun k s hk hI => ?_)
  obtain ⟨s1, s2⟩ := s
  obtain ⟨rfl, h⟩ := hI
  replace h : ∀ j, s2 j = if 36 + 353 * c ≤ j ∧ j < 36 + 353 * c + k then a (36 + 353 * d + (j - (36 + 353 * c))) else if 36 + 353 * d ≤ j ∧ j < 36 + 353 * d + k then a (36 + 353 * c + (j - (36 + 353 * d))) else a j := h
  have ac : pX10_at (nI c) = some (nI (36 + 353 * c)) := by unfold pX10_at; simp (disch := omega) only [n_l0, n_l1, n_l2, n_l3, n_l4, n_l5, n_l6, n_l7, n_l8, n_l9, n_l15, n_l16, n_l17, n_l20, n_l24, n_l31, n_l32, n_l33, n_l36, n_l48, n_l49, n_l97, n_l128, n_l129, n_l192, n_l225, n_l256, n_l353, n_l400, n_l512, n_l593, n_l621, n_l640, n_l857, n_l1093, n_l1095, n_l2048, n_l3225, n_l10000, n_l22955, n_l29988, n_l29989, n_l65536, n_l99999, n_l1000000000, n_l2147483647, nI_add, pk_mul, pk_sub, pk_div, nI_clamp, ckN, nI_leI, nI_ltI, nI_eq, nI_nm1, Nat.add_zero, nI_addneg, k_ush, true_or, or_true, false_or, or_false, true_and, and_true, false_and, and_false, not_true_eq_false, not_false_eq_true, if_true, if_false, if_pos, if_neg, Option.bind_some]
  have ad : pX10_at (nI d) = some (nI (36 + 353 * d)) := by unfold pX10_at; simp (disch := omega) only [n_l0, n_l1, n_l2, n_l3, n_l4, n_l5, n_l6, n_l7, n_l8, n_l9, n_l15, n_l16, n_l17, n_l20, n_l24, n_l31, n_l32, n_l33, n_l36, n_l48, n_l49, n_l97, n_l128, n_l129, n_l192, n_l225, n_l256, n_l353, n_l400, n_l512, n_l593, n_l621, n_l640, n_l857, n_l1093, n_l1095, n_l2048, n_l3225, n_l10000, n_l22955, n_l29988, n_l29989, n_l65536, n_l99999, n_l1000000000, n_l2147483647, nI_add, pk_mul, pk_sub, pk_div, nI_clamp, ckN, nI_leI, nI_ltI, nI_eq, nI_nm1, Nat.add_zero, nI_addneg, k_ush, true_or, or_true, false_or, or_false, true_and, and_true, false_and, and_false, not_true_eq_false, not_false_eq_true, if_true, if_false, if_pos, if_neg, Option.bind_some]
  unfold pX10_swap_b27
  rw [ac, ad]
  rcases Nat.lt_or_ge k 353 with h9 | h9
  · refine Or.inl ?_
    rw [if_neg (show ¬ (353 : Int32) ≤ nI k from fun q => by have := (nI_leI (a := 353) (by omega) (by omega)).mp q; omega)]
    simp only [Option.bind_some]
    rw [nI_add, nI_add, ckN (by omega) (by omega), ckN (by omega) (by omega), ckN (by omega) (by omega), ckN (by omega) (by omega), nI_clamp (by omega), nI_clamp (by omega), n_l1, nI_add]
    refine ⟨_, rfl, h9, rfl, fun j => ?_⟩
    show upd (upd s2 (36 + 353 * c + k) (s2 (36 + 353 * d + k))) (36 + 353 * d + k) (s2 (36 + 353 * c + k)) j = _
    have hcd : ¬ (36 + 353 * c ≤ 36 + 353 * d + k ∧ 36 + 353 * d + k < 36 + 353 * c + (k + 1)) := by omega
    have hdc : ¬ (36 + 353 * d ≤ 36 + 353 * c + k ∧ 36 + 353 * c + k < 36 + 353 * d + (k + 1)) := by omega
    by_cases hj : j = 36 + 353 * d + k
    · subst hj
      rw [u_at, h, if_neg (by omega), if_neg (by omega), if_neg hcd, if_pos (by omega)]
      exact congrArg a (by omega)
    · rw [u_ne hj]
      by_cases hj2 : j = 36 + 353 * c + k
      · subst hj2
        rw [u_at, h, if_neg (by omega), if_neg (by omega), if_pos (by omega)]
        exact congrArg a (by omega)
      · rw [u_ne hj2, h]
        by_cases q1 : 36 + 353 * c ≤ j ∧ j < 36 + 353 * c + k
        · rw [if_pos q1, if_pos (by omega)]
        · rw [if_neg q1, if_neg (show ¬ (36 + 353 * c ≤ j ∧ j < 36 + 353 * c + (k + 1)) by omega)]
          by_cases q2 : 36 + 353 * d ≤ j ∧ j < 36 + 353 * d + k
          · rw [if_pos q2, if_pos (by omega)]
          · rw [if_neg q2, if_neg (by omega)]
  · obtain rfl : k = 353 := by omega
    exact Or.inr ⟨_, if_pos (show (353 : Int32) ≤ nI 353 by decide), h⟩
