/-! ===== opening: the parts ===== -/
section Parts
variable {T : Nat} {tw hw : Nat → Int32}
/-- the low bits of a part -/
def lo (tw : Nat → Int32) (e wd k : Nat) : Nat := num tw (e + wd * k) wd
theorem q_parts {pc wd e : Nat} {fp wh : Int32} {ps : Nat → Int64} {ks : Nat → Int32} (hT : T ≤ 400) (hw_ : TW T tw hw) (hpc : pc ≤ 16) (hwd : wd ≤ 32) (he : e ≤ 32 * T) :
    ∃ r r2, lp (pX10_readsParts_b2 (nI pc) (nI T) (nI wd) tw) FU (nI 0, nI e, 0, fp, ps) = some r ∧ lp (pX4_openParts_b2 (nI wd) (nI pc) (nI T) hw) FU (nI 0, 0, wh, nI e, ks) = some r2 ∧
      ((FLT r.2.2.1 r.2.2.2.1 r2.2.1 r2.2.2.1) ∨ (e + wd * pc ≤ 32 * T ∧ r.2.1 = nI (e + wd * pc) ∧ r.2.2.1 = 0 ∧ r.2.2.2.1 = fp ∧ r2.2.1 = 0 ∧ r2.2.2.1 = wh ∧ r2.2.2.2.1 = nI (e + wd * pc) ∧ (∀ j, j < pc → r.2.2.2.2 j = lN (lo tw e wd j)) ∧ ∀ j, j < pc → r2.2.2.2.2 j = nI (lo tw e wd j))) := by
  refine lp2S (body := pX10_readsParts_b2 (nI pc) (nI T) (nI wd) tw) (body2 := pX4_openParts_b2 (nI wd) (nI pc) (nI T) hw)
    (fun k s s2 => s.1 = nI k ∧ s2.1 = nI k ∧ ((FLT s.2.2.1 s.2.2.2.1 s2.2.1 s2.2.2.1) ∨ (e + wd * k ≤ 32 * T ∧ s.2.1 = nI (e + wd * k) ∧ s.2.2.1 = 0 ∧ s.2.2.2.1 = fp ∧ s2.2.1 = 0 ∧ s2.2.2.1 = wh ∧ s2.2.2.2.1 = nI (e + wd * k) ∧ (∀ j, j < k → s.2.2.2.2 j = lN (lo tw e wd j)) ∧ ∀ j, j < k → s2.2.2.2.2 j = nI (lo tw e wd j))))
    _ pc (nI 0, nI e, 0, fp, ps) (nI 0, 0, wh, nI e, ks) ⟨rfl, rfl, Or.inr ⟨he, rfl, rfl, rfl, rfl, rfl, rfl, fun j hj => absurd hj (Nat.not_lt_zero j), fun j hj => absurd hj (Nat.not_lt_zero j)⟩⟩ (fun k s s2 hk hJ => ?_)
  obtain ⟨s1, s2', s3, s4, s5⟩ := s
  obtain ⟨t1, t2, t3, t4, t5⟩ := s2
  obtain ⟨g1, g2, g⟩ := hJ
  replace g1 : s1 = nI k := g1
  replace g2 : t1 = nI k := g2
  subst g1 g2
  replace g : FLT s3 s4 t2 t3 ∨ (e + wd * k ≤ 32 * T ∧ s2' = nI (e + wd * k) ∧ s3 = 0 ∧ s4 = fp ∧ t2 = 0 ∧ t3 = wh ∧ t4 = nI (e + wd * k) ∧ (∀ j, j < k → s5 j = lN (lo tw e wd j)) ∧ ∀ j, j < k → t5 j = nI (lo tw e wd j)) := g
  unfold pX10_readsParts_b2 pX10_readsParts_b2j34 pX4_openParts_b2
  rcases Nat.lt_or_ge k pc with h9 | h9
  · refine Or.inl ?_
    rw [if_neg (show ¬ nI pc ≤ nI k by rw [nI_leI (by omega) (by omega)]; omega), if_neg (show ¬ nI pc ≤ nI k by rw [nI_leI (by omega) (by omega)]; omega), if_neg (show ¬ (16 : Int32) ≤ nI k by rw [n_l16, nI_leI (by omega) (by omega)]; omega)]
    have hcl : (nI k).toNatClampNeg = k := nI_clamp (by omega)
    have hck : ∀ {α : Type} (x : Option α), ck (nI k) 16 x = x := fun x => ckN (by omega) (by omega)
    simp only [hck, hcl]
    rcases g with g | ⟨g3, rfl, rfl, rfl, rfl, rfl, rfl, g4, g5⟩
    · have hO : ¬ t2 = 0 := by rw [g.2.1]; exact g.1
      rw [k_numberO hO, Option.bind_some]
      by_cases hz : nI wd = 0
      · rw [if_pos hz]
        exact ⟨_, _, rfl, rfl, h9, by show nI k + nI 1 = _; rw [nI_add], by show nI k + nI 1 = _; rw [nI_add], Or.inl g⟩
      · rw [if_neg hz, r_nextO g.1, Option.bind_some]
        exact ⟨_, _, rfl, rfl, h9, by show nI k + nI 1 = _; rw [nI_add], by show nI k + nI 1 = _; rw [nI_add], Or.inl g⟩
    · have hk1 : e + wd * (k + 1) = e + wd * k + wd := by rw [Nat.mul_succ]; omega
      have m1 := k_number (T := T) (tw := hw) (p := e + wd * k) (n := wd) (wh := t3) hT hwd g3
      rw [m1, Option.bind_some]
      by_cases g1 : e + wd * k + wd ≤ 32 * T
      · rw [if_pos g1, num_TW hw_ g1]
        dsimp only
        by_cases hz : wd = 0
        · rw [if_pos (show nI wd = 0 by rw [hz]; rfl)]
          refine ⟨_, _, rfl, rfl, h9, by show nI k + nI 1 = _; rw [nI_add], by show nI k + nI 1 = _; rw [nI_add], Or.inr ⟨by omega, ?_, rfl, rfl, rfl, rfl, by rw [hk1], fun j hj => ?_, fun j hj => ?_⟩⟩
          · show nI (e + wd * k) = _
            rw [hk1]; exact congrArg nI (by omega)
          · show vp_updL s5 k 0 j = _
            by_cases hj2 : j = k
            · subst hj2; rw [ul_at]; unfold lo; rw [hz]; rfl
            · rw [ul_ne hj2]; exact g4 j (by omega)
          · show upd t5 k (nI (num tw (e + wd * k) wd)) j = _
            by_cases hj2 : j = k
            · subst hj2; rw [u_at]; rfl
            · rw [u_ne hj2]; exact g5 j (by omega)
        · have n1 := r_next (T := T) (tw := tw) (p := e + wd * k) (n := wd) (fp := s4) hT hwd g3
          rw [if_pos g1] at n1
          rw [if_neg (show ¬ nI wd = 0 by rw [n_l0, nI_eq (by omega) (by omega)]; exact hz), n1, Option.bind_some]
          refine ⟨_, _, rfl, rfl, h9, by show nI k + nI 1 = _; rw [nI_add], by show nI k + nI 1 = _; rw [nI_add], Or.inr ⟨by omega, by rw [hk1], rfl, rfl, rfl, rfl, by rw [hk1], fun j hj => ?_, fun j hj => ?_⟩⟩
          · show vp_updL s5 k (lN (num tw (e + wd * k) wd)) j = _
            by_cases hj2 : j = k
            · subst hj2; rw [ul_at]; rfl
            · rw [ul_ne hj2]; exact g4 j (by omega)
          · show upd t5 k (nI (num tw (e + wd * k) wd)) j = _
            by_cases hj2 : j = k
            · subst hj2; rw [u_at]; rfl
            · rw [u_ne hj2]; exact g5 j (by omega)
      · have n1 := r_next (T := T) (tw := tw) (p := e + wd * k) (n := wd) (fp := s4) hT hwd g3
        rw [if_neg g1] at n1
        rw [if_neg g1]
        dsimp only
        rw [if_neg (show ¬ nI wd = 0 by rw [n_l0, nI_eq (by omega) (by omega)]; omega), n1, Option.bind_some]
        exact ⟨_, _, rfl, rfl, h9, by show nI k + nI 1 = _; rw [nI_add], by show nI k + nI 1 = _; rw [nI_add], Or.inl ⟨(by decide : ¬ (1 : Int32) = 0), rfl, rfl⟩⟩
  · obtain rfl : k = pc := by omega
    refine Or.inr ?_
    rw [if_pos (Int32.le_refl _), if_pos (Int32.le_refl _)]
    exact ⟨_, _, rfl, rfl, g⟩
end Parts
