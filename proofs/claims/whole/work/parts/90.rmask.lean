/-! ===== opening: the reference's mask ===== -/
section OpenR
variable {T : Nat} {tw : Nat → Int32}
theorem r_fine0 : pX10_isFine 0 = some 1 := rfl
theorem r_fineO {x : Int32} (h : ¬ x = 0) : pX10_isFine x = some 0 := if_neg h
theorem r_maskZ {R n : Nat} (h : R + n ≤ 128) (rd : Nat → Int32) : ∃ r, lp (pX10_readsMask_b10 (nI R) (nI n)) FU (nI 0, rd) = some r ∧ ∀ j, r.2 j = if 225 + R ≤ j ∧ j < 225 + R + n then nI 0 else rd j := by
  refine lpE (body := pX10_readsMask_b10 (nI R) (nI n)) (fun k s => s.1 = nI k ∧ ∀ j, s.2 j = if 225 + R ≤ j ∧ j < 225 + R + k then nI 0 else rd j) (fun r => ∀ j, r.2 j = if 225 + R ≤ j ∧ j < 225 + R + n then nI 0 else rd j) n (nI 0, rd) ⟨rfl, fun j => by rw [if_neg (by omega)]⟩ (fun k s hk hI => ?_)
  obtain ⟨s1, s2⟩ := s
  obtain ⟨rfl, hI⟩ := hI
  replace hI : ∀ j, s2 j = if 225 + R ≤ j ∧ j < 225 + R + k then nI 0 else rd j := hI
  unfold pX10_readsMask_b10
  rcases Nat.lt_or_ge k n with h9 | h9
  · refine Or.inl ?_
    rw [if_neg (show ¬ nI n ≤ nI k by rw [nI_leI (by omega) (by omega)]; omega), n_l225, nI_add, nI_add, ckN (by omega) (by omega), nI_clamp (by omega), n_l1, nI_add]
    refine ⟨_, rfl, h9, rfl, fun j => ?_⟩
    show upd s2 (225 + R + k) (nI 0) j = _
    by_cases hj : j = 225 + R + k
    · subst hj; rw [u_at, if_pos (by omega)]
    · rw [u_ne hj, hI]
      by_cases h2 : 225 + R ≤ j ∧ j < 225 + R + k
      · rw [if_pos h2, if_pos (by omega)]
      · rw [if_neg h2, if_neg (by omega)]
  · obtain rfl : k = n := by omega
    exact Or.inr ⟨_, if_pos (Int32.le_refl _), hI⟩
theorem num_1 (tw : Nat → Int32) (p : Nat) : num tw p 1 = if tb tw p then 1 else 0 := by
  rw [num_s, Nat.add_zero]
  show 0 ||| (if tb tw p = true then 2 ^ 0 else 0) = _
  rw [Nat.zero_or]
theorem mV_s (tw : Nat → Int32) (p k : Nat) : mV tw p (k + 1) = mV tw p k + (if mE tw p k then 1 else 0) := rfl
theorem r_next1 {p : Nat} {fp : Int32} (hT : T ≤ 400) (hp : p + 1 ≤ 32 * T) : pX10_next 1 (nI T) (nI p) 0 fp tw = some (lN (num tw p 1), nI (p + 1), 0, fp) := by
  rw [n_l1, r_next hT (by omega) (by omega), if_pos hp]
theorem r_maskL {p n R : Nat} {fp : Int32} (hT : T ≤ 400) (hp : p + 32 ≤ 32 * T) (hn : n ≤ 16) (hR : R + n ≤ 128) (hf : mF tw p = 1) (rd : Nat → Int32) :
    ∃ r, lp (pX10_readsMask_b63 1 (nI T) (nI R) (nI n) tw) FU (nI 0, nI (p + 5), 0, fp, nI n, rd) = some r ∧ r.2.1 = nI (p + 5 + n) ∧ r.2.2.1 = 0 ∧ r.2.2.2.1 = fp ∧ r.2.2.2.2.1 = nI (n - mV tw p n) ∧ ∀ j, r.2.2.2.2.2 j = if 225 + R ≤ j ∧ j < 225 + R + n ∧ mE tw p (j - (225 + R)) then nI 1 else rd j := by
  refine lpE (body := pX10_readsMask_b63 1 (nI T) (nI R) (nI n) tw) (fun k s => s.1 = nI k ∧ s.2.1 = nI (p + 5 + k) ∧ s.2.2.1 = 0 ∧ s.2.2.2.1 = fp ∧ s.2.2.2.2.1 = nI (n - mV tw p k) ∧ ∀ j, s.2.2.2.2.2 j = if 225 + R ≤ j ∧ j < 225 + R + k ∧ mE tw p (j - (225 + R)) then nI 1 else rd j) _ n (nI 0, nI (p + 5), 0, fp, nI n, rd) ⟨rfl, rfl, rfl, rfl, rfl, fun j => by rw [if_neg (by omega)]⟩ (fun k s hk hI => ?_)
  obtain ⟨s1, s2, s3, s4, s5, s6⟩ := s
  obtain ⟨g1, g2, g3, g4, g5, g6⟩ := hI
  replace g1 : s1 = nI k := g1
  replace g2 : s2 = nI (p + 5 + k) := g2
  replace g3 : s3 = 0 := g3
  replace g4 : s4 = fp := g4
  replace g5 : s5 = nI (n - mV tw p k) := g5
  replace g6 : ∀ j, s6 j = if 225 + R ≤ j ∧ j < 225 + R + k ∧ mE tw p (j - (225 + R)) then nI 1 else rd j := g6
  subst g1 g2 g3 g4 g5
  have hle := mV_le tw p k
  unfold pX10_readsMask_b63 pX10_readsMask_b63j121
  rcases Nat.lt_or_ge k n with h9 | h9
  · refine Or.inl ?_
    rw [if_neg (show ¬ nI n ≤ nI k by rw [nI_leI (by omega) (by omega)]; omega), if_neg (show ¬ (1 : Int32) = 0 by decide)]
    dsimp only
    rw [r_fine0, Option.bind_some, if_neg (show ¬ (1 : Int32) = 0 by decide), r_next1 hT (by omega), Option.bind_some]
    dsimp only
    rw [num_1]
    by_cases ht : tb tw (p + 5 + k) = true
    · rw [if_pos ht, if_neg (show ¬ lg_cmp (lN 1) 0 = 0 by rw [lg_cmp_eq]; decide), n_l225, nI_add, nI_add, ckN (by omega) (by omega), nI_clamp (by omega), n_l1, nI_add, pk_sub (by omega)]
      have hm : mE tw p k := ⟨hf, ht⟩
      refine ⟨_, rfl, h9, rfl, rfl, rfl, rfl, ?_, fun j => ?_⟩
      · show nI (n - mV tw p k - 1) = _
        rw [mV_s, if_pos hm]; rfl
      · show upd s6 (225 + R + k) (nI 1) j = _
        by_cases hj : j = 225 + R + k
        · subst hj
          rw [u_at, if_pos]
          exact ⟨by omega, by omega, by rw [show 225 + R + k - (225 + R) = k by omega]; exact hm⟩
        · rw [u_ne hj, g6]
          by_cases h2 : 225 + R ≤ j ∧ j < 225 + R + k ∧ mE tw p (j - (225 + R))
          · rw [if_pos h2, if_pos ⟨h2.1, by omega, h2.2.2⟩]
          · rw [if_neg h2, if_neg (fun q => h2 ⟨q.1, by have := q.2.1; omega, q.2.2⟩)]
    · rw [if_neg ht, if_pos (show lg_cmp (lN 0) 0 = 0 by rw [lg_cmp_eq]; rfl), n_l1, nI_add]
      have hm : ¬ mE tw p k := fun q => ht q.2
      refine ⟨_, rfl, h9, rfl, rfl, rfl, rfl, ?_, fun j => ?_⟩
      · show nI (n - mV tw p k) = _
        rw [mV_s, if_neg hm]; rfl
      · show s6 j = _
        rw [g6]
        by_cases h2 : 225 + R ≤ j ∧ j < 225 + R + k ∧ mE tw p (j - (225 + R))
        · rw [if_pos h2, if_pos ⟨h2.1, by omega, h2.2.2⟩]
        · rw [if_neg h2, if_neg (fun q => h2 ⟨q.1, by
            rcases Nat.lt_or_ge j (225 + R + k) with h3 | h3
            · exact h3
            · exact absurd (show mE tw p k by have e := q.2.2; rw [show j - (225 + R) = k by omega] at e; exact e) hm, q.2.2⟩)]
  · obtain rfl : k = n := by omega
    refine Or.inr ?_
    rw [if_pos (Int32.le_refl _)]
    exact ⟨_, rfl, rfl, rfl, rfl, rfl, g6⟩
theorem r_mask {p n R : Nat} {fp : Int32} (hT : T ≤ 400) (hp : p + 32 ≤ 32 * T) (h1 : 1 ≤ n) (hn : n ≤ 16) (hR : R + n ≤ 128) (rv : Int32) (rd : Nat → Int32) :
    ∃ z, pX10_readsMask (nI T) (nI (p + 4)) (nI R) 0 fp (nI n) rv tw rd = some z ∧ ((mF tw p = 1 ∧ mV tw p n = 0 ∧ z.1 = 0 ∧ z.2.2.1 = 6 ∧ z.2.2.2.1 = nI (p + 5)) ∨ (¬ (mF tw p = 1 ∧ mV tw p n = 0) ∧ z.1 = 1 ∧ z.2.1 = nI (mQ tw p n) ∧ z.2.2.1 = 0 ∧ z.2.2.2.1 = fp ∧ z.2.2.2.2.1 = nI (n - mV tw p n) ∧ ∀ j, z.2.2.2.2.2 j = if 225 + R ≤ j ∧ j < 225 + R + n then (if mE tw p (j - (225 + R)) then nI 1 else nI 0) else rd j)) := by
  have hle := mV_le tw p n
  obtain ⟨r0, e0, q0⟩ := r_maskZ (n := n) hR rd
  have e1 : pX10_next 1 (nI T) (nI (p + 4)) 0 fp tw = some (lN (mF tw p), nI (p + 5), 0, fp) := r_next1 hT (by omega)
  unfold pX10_readsMask
  have e0' : lp (pX10_readsMask_b10 (nI R) (nI n)) FU (0, rd) = some r0 := e0
  rw [e0', Option.bind_some, e1, Option.bind_some]
  dsimp only
  rcases mF_01 tw p with h | h
  · have hz := mV_z (n := n) h
    have hl : lp (pX10_readsMask_b63 0 (nI T) (nI R) (nI n) tw) FU (0, nI (p + 5), 0, fp, nI n, r0.2) = some (0, nI (p + 5), 0, fp, nI n, r0.2) := by
      obtain ⟨r, e, hr⟩ := lpE (body := pX10_readsMask_b63 0 (nI T) (nI R) (nI n) tw) (fun _ s => s = (0, nI (p + 5), 0, fp, nI n, r0.2)) (fun r => r = (0, nI (p + 5), 0, fp, nI n, r0.2)) 1 (0, nI (p + 5), 0, fp, nI n, r0.2) rfl (fun k s hk hI => by
        subst hI
        refine Or.inr ?_
        unfold pX10_readsMask_b63
        exact ⟨_, by dsimp only; rw [if_neg (show ¬ nI n ≤ 0 by rw [n_l0, nI_leI (by omega) (by omega)]; omega), if_pos rfl], rfl⟩)
      rw [e, hr]
    unfold pX10_readsMask_j55
    rw [if_neg (show ¬ lg_cmp (lN (mF tw p)) 1 = 0 by rw [h, lg_cmp_eq]; decide), hl, Option.bind_some]
    dsimp only
    rw [r_fine0, Option.bind_some, if_neg (show ¬ (1 : Int32) = 0 by decide), if_pos rfl]
    refine ⟨_, rfl, Or.inr ⟨fun q => by omega, rfl, ?_, rfl, rfl, ?_, fun j => ?_⟩⟩
    · show nI (p + 5) = _
      unfold mQ; rw [if_neg (by omega)]
    · show nI n = _
      rw [hz]; rfl
    · show r0.2 j = _
      rw [q0]
      by_cases h2 : 225 + R ≤ j ∧ j < 225 + R + n
      · rw [if_pos h2, if_pos h2, if_neg (fun q => by have := q.1; omega)]
      · rw [if_neg h2, if_neg h2]
  · obtain ⟨r, er, r1, r2, r3, r4, r5⟩ := r_maskL (fp := fp) hT hp hn hR h r0.2
    have er' : lp (pX10_readsMask_b63 1 (nI T) (nI R) (nI n) tw) FU (0, nI (p + 5), 0, fp, nI n, r0.2) = some r := er
    unfold pX10_readsMask_j55
    rw [if_pos (show lg_cmp (lN (mF tw p)) 1 = 0 by rw [h, lg_cmp_eq]; rfl), er', Option.bind_some, r2, r_fine0, Option.bind_some, if_neg (show ¬ (1 : Int32) = 0 by decide), if_neg (show ¬ (1 : Int32) = 0 by decide), r4]
    by_cases hz : mV tw p n = 0
    · unfold pX10_wrong
      rw [hz, Nat.sub_zero, if_neg (i_irr _), Option.bind_some, if_pos rfl]
      exact ⟨_, rfl, Or.inl ⟨h, rfl, rfl, rfl, rfl⟩⟩
    · rw [if_pos (nI_lt (show n - mV tw p n < n by omega) (by omega))]
      refine ⟨_, rfl, Or.inr ⟨fun q => hz q.2, rfl, ?_, rfl, r3, rfl, fun j => ?_⟩⟩
      · show r.2.1 = _
        rw [r1]; unfold mQ; rw [if_pos h]
      · show r.2.2.2.2.2 j = _
        rw [r5, q0]
        by_cases h2 : 225 + R ≤ j ∧ j < 225 + R + n
        · rw [if_pos h2, if_pos h2]
          by_cases h3 : mE tw p (j - (225 + R))
          · rw [if_pos ⟨h2.1, h2.2, h3⟩, if_pos h3]
          · rw [if_neg (fun q => h3 q.2.2), if_neg h3]
        · rw [if_neg (fun q => h2 ⟨q.1, q.2.1⟩), if_neg h2, if_neg h2]
end OpenR
