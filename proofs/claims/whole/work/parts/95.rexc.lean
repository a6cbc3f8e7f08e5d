/-! ===== opening: the exceptions, in the reference ===== -/
section RExc
variable {T : Nat} {tw : Nat → Int32} {pc wd e : Nat} {P0 : Nat → Nat}
/-- the reference's state against what was read -/
def RE (st : ES) (fp0 : Int32) (pc : Nat) (l pos f fp : Int32) (ps : Nat → Int64) : Prop := match st with
  | .inl x => f = nI x.1 ∧ ¬ f = 0 ∧ fp = nI x.2
  | .inr y => f = 0 ∧ fp = fp0 ∧ l = la y.1 ∧ pos = nI y.2.1 ∧ ∀ j, j < pc → ps j = lN (y.2.2 j)
theorem r_j102O {v1 v2 v4 pos f fp : Int32} {ps : Nat → Int64} (h : ¬ f = 0) : pX10_readsParts_b45j102 v1 v2 v4 (nI T) pos f fp (nI wd) ps tw = some (.inl (v4, v2 + 1, pos, f, fp, ps)) := by
  unfold pX10_readsParts_b45j102 pX10_readsParts_b45j145 pX10_readsParts_b45j169
  rw [r_nextO h, Option.bind_some]
  dsimp only
  rw [r_fineO h, Option.bind_some, if_pos rfl, Option.bind_some, if_pos rfl]
theorem r_exc {fp : Int32} {ps : Nat → Int64} {ex : Nat} (hT : T ≤ 400) (hpc : pc ≤ 16) (hwd : ex = 0 ∨ wd < 32) (hex : ex ≤ 15) (he : e ≤ 32 * T) (hk : ∀ j, j < pc → ps j = lN (P0 j)) :
    ∃ r, lp (pX10_readsParts_b45 (nI pc) (nI T) (nI wd) (nI ex) tw) FU (-1, 0, nI e, 0, fp, ps) = some r ∧ (match r with
      | .inl s => RE (eRun T tw pc wd e P0 ex) fp pc s.1 s.2.2.1 s.2.2.2.1 s.2.2.2.2.1 s.2.2.2.2.2
      | .inr z => z.1 = 0 ∧ ∃ l ps', RE (eRun T tw pc wd e P0 ex) fp pc l z.2.1 z.2.2.1 z.2.2.2.1 ps' ∧ ¬ z.2.2.1 = 0) := by
  refine lpE (body := pX10_readsParts_b45 (nI pc) (nI T) (nI wd) (nI ex) tw) (fun k s => s.2.1 = nI k ∧ RE (eRun T tw pc wd e P0 k) fp pc s.1 s.2.2.1 s.2.2.2.1 s.2.2.2.2.1 s.2.2.2.2.2) _ ex (-1, 0, nI e, 0, fp, ps) ⟨rfl, rfl, rfl, rfl, rfl, hk⟩ (fun k s hk hI => ?_)
  obtain ⟨s1, s2, s3, s4, s5, s6⟩ := s
  obtain ⟨g1, g2⟩ := hI
  replace g1 : s2 = nI k := g1
  replace g2 : RE (eRun T tw pc wd e P0 k) fp pc s1 s3 s4 s5 s6 := g2
  subst g1
  unfold pX10_readsParts_b45
  rcases Nat.lt_or_ge k ex with h9 | h9
  · rw [if_neg (show ¬ nI ex ≤ nI k by rw [nI_leI (by omega) (by omega)]; omega)]
    dsimp only
    have hs := eR_s (T := T) (tw := tw) (pc := pc) (wd := wd) (e := e) (P0 := P0) k
    cases hE : eRun T tw pc wd e P0 k with
    | inl x =>
      rw [hE] at g2
      obtain ⟨q1, q2, q3⟩ := g2
      refine Or.inr ?_
      rw [r_fineO q2, Option.bind_some, if_pos rfl]
      refine ⟨_, rfl, ?_⟩
      show RE (eRun T tw pc wd e P0 ex) fp pc s1 s3 s4 s5 s6
      rw [eR_bad ex (by omega) hE]
      exact ⟨q1, q2, q3⟩
    | inr y =>
      rw [hE] at g2 hs
      obtain ⟨rfl, rfl, rfl, rfl, g3⟩ := g2
      obtain ⟨i1, i2, _⟩ := eR_ok k y hE
      replace hs : eRun T tw pc wd e P0 (k + 1) = eStep T tw pc wd y.1 y.2.1 y.2.2 := hs
      unfold eStep at hs
      have hpos := i2 he
      have hx := num_lt tw y.2.1 4
      obtain ⟨la1, la2⟩ := la_lt (l := y.1) (x := num tw y.2.1 4) (by omega) (by omega)
      have m1 := r_next (T := T) (tw := tw) (p := y.2.1) (n := 4) (fp := s5) hT (by omega) hpos
      rw [← n_l4] at m1
      have h1O : ¬ (1 : Int32) = 0 := by decide
      have h5O : ¬ (5 : Int32) = 0 := by decide
      rw [r_fine0, Option.bind_some, if_neg h1O, m1, Option.bind_some]
      by_cases b1 : y.2.1 + 4 ≤ 32 * T
      · rw [if_pos b1] at hs
        rw [if_pos b1]
        dsimp only
        rw [r_fine0, Option.bind_some, if_neg h1O, lN_i32]
        by_cases b2 : num tw y.2.1 4 < pc ∧ y.1 ≤ num tw y.2.1 4
        · rw [if_pos b2] at hs
          rw [if_neg (show ¬ nI pc ≤ nI (num tw y.2.1 4) by rw [nI_leI (by omega) (by omega)]; omega), if_pos (la1.mpr b2.2)]
          unfold pX10_readsParts_b45j102
          have m2 := r_next (T := T) (tw := tw) (p := y.2.1 + 4) (n := 32 - wd) (fp := s5) hT (by omega) b1
          rw [n_l32, pk_sub (by omega), m2, Option.bind_some]
          by_cases b3 : y.2.1 + 4 + (32 - wd) ≤ 32 * T
          · rw [if_pos b3] at hs
            rw [if_pos b3]
            dsimp only
            rw [r_fine0, Option.bind_some, if_neg h1O]
            have hh := num_lt tw (y.2.1 + 4) (32 - wd)
            have hh2 : num tw (y.2.1 + 4) (32 - wd) < 2 ^ 32 := Nat.lt_of_lt_of_le hh (Nat.pow_le_pow_right (by omega) (by omega))
            by_cases b4 : num tw (y.2.1 + 4) (32 - wd) = 0
            · rw [if_pos b4] at hs
              refine Or.inr ?_
              unfold pX10_wrong
              rw [if_pos (show lg_cmp (lN (num tw (y.2.1 + 4) (32 - wd))) 0 = 0 by rw [lg_cmp_eq, b4]; rfl), Option.bind_some]
              refine ⟨_, rfl, rfl, la 0, s6, ?_, (by decide : ¬ (6 : Int32) = 0)⟩
              rw [eR_bad ex (by omega) hs]
              exact ⟨rfl, (by decide : ¬ (6 : Int32) = 0), rfl⟩
            · rw [if_neg b4] at hs
              refine Or.inl ?_
              have hnz : ¬ lg_cmp (lN (num tw (y.2.1 + 4) (32 - wd))) 0 = 0 := fun q => b4 ((lN_0 (by omega)).mp ((lg_cmp_eq _ _).mp q))
              unfold pX10_readsParts_b45j145 pX10_readsParts_b45j169
              rw [if_neg hnz, r_fine0, Option.bind_some, if_neg h1O, ckN (by omega) (by omega), ckN (by omega) (by omega), nI_clamp (by omega), g3 _ b2.1, l_shlN hh2 (by omega), lN_or]
              refine ⟨_, rfl, h9, by show nI k + nI 1 = _; rw [nI_add], ?_⟩
              rw [hs]
              refine ⟨rfl, rfl, (la_s _).symm, rfl, fun j hj => ?_⟩
              show vp_updL s6 (num tw y.2.1 4) _ j = lN (ud y.2.2 (num tw y.2.1 4) _ j)
              by_cases hj2 : j = num tw y.2.1 4
              · rw [hj2, ul_at, ud_at]
              · rw [ul_ne hj2, ud_ne hj2]; exact g3 j hj
          · rw [if_neg b3] at hs
            rw [if_neg b3]
            dsimp only
            unfold pX10_readsParts_b45j145 pX10_readsParts_b45j169
            rw [r_fineO h1O, Option.bind_some, if_pos rfl, Option.bind_some, if_pos rfl]
            refine Or.inl ⟨_, rfl, h9, by show nI k + nI 1 = _; rw [nI_add], ?_⟩
            rw [hs]
            exact ⟨rfl, h1O, rfl⟩
        · rw [if_neg b2] at hs
          have bad5 : pX10_readsParts_b45j95 (la y.1) (nI k) (nI y.2.1) (nI (y.2.1 + 4)) 0 s5 s6 = some (.inr (.inr (0, nI (y.2.1 + 4), 5, nI y.2.1, s6))) := rfl
          refine Or.inr ?_
          by_cases b6 : pc ≤ num tw y.2.1 4
          · rw [if_pos (nI_le b6 (by omega)), bad5]
            refine ⟨_, rfl, rfl, la 0, s6, ?_, h5O⟩
            rw [eR_bad ex (by omega) hs]
            exact ⟨rfl, h5O, rfl⟩
          · rw [if_neg (show ¬ nI pc ≤ nI (num tw y.2.1 4) by rw [nI_leI (by omega) (by omega)]; exact b6), if_neg (fun q => b2 ⟨by omega, la1.mp q⟩), bad5]
            refine ⟨_, rfl, rfl, la 0, s6, ?_, h5O⟩
            rw [eR_bad ex (by omega) hs]
            exact ⟨rfl, h5O, rfl⟩
      · rw [if_neg b1] at hs
        rw [if_neg b1]
        dsimp only
        rw [r_fineO h1O, Option.bind_some, if_pos rfl, r_j102O h1O]
        refine Or.inl ⟨_, rfl, h9, by show nI k + nI 1 = _; rw [nI_add], ?_⟩
        rw [hs]
        exact ⟨rfl, h1O, rfl⟩
  · obtain rfl : k = ex := by omega
    refine Or.inr ?_
    rw [if_pos (Int32.le_refl _)]
    exact ⟨_, rfl, g2⟩
end RExc
