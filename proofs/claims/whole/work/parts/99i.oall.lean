/-! ===== opening: all blocks ===== -/
section OAll
variable {T : Nat} {tw hw : Nat → Int32}
theorem q_openLoop {fp wh : Int32} {a2 a7 a8 a9 a10 a11 a12 a13 a14 c5 c6 c7 c8 c9 c10 c11 c12 c13 c14 c15 : Int32} {ps tl : Nat → Int64} {rd ks fc : Nat → Int32} {C0 : AC} (hT : T ≤ 400) (hw_ : TW T tw hw) (h0 : OKC C0) (hn0 : NB C0 = 0) (hR0 : RCa (vR rd) 0 C0) (hK0 : KC 0 0 tl fc C0) :
    ∃ r r2, lp (pX10_open_b54 (nI T) tw) FU (1, a2, 0, 0, 0, fp, a7, a8, a9, a10, a11, a12, a13, a14, ps, rd) = some r ∧ lp (pX4_openAll_b21 128 (nI T) hw) FU (0, 0, wh, 0, c5, c6, c7, c8, c9, c10, c11, c12, c13, c14, c15, ks, 0, 0, tl, fc) = some r2 ∧ ((r.1 = 0 ∧ FLT r.2.2.2.2.1 r.2.2.2.2.2.1 r2.2.1 r2.2.2.1) ∨ (r.1 = 1 ∧ r.2.2.2.2.1 = 0 ∧ r.2.2.2.2.2.1 = fp ∧ r2.2.1 = 0 ∧ r2.2.2.1 = wh ∧ ∃ C p, OKC C ∧ RCa (vR r.2.2.2.2.2.2.2.2.2.2.2.2.2.2.2) 0 C ∧ KC r2.2.2.2.2.2.2.2.2.2.2.2.2.2.2.2.2.1 r2.2.2.2.2.2.2.2.2.2.2.2.2.2.2.2.2.2.1 r2.2.2.2.2.2.2.2.2.2.2.2.2.2.2.2.2.2.2.1 r2.2.2.2.2.2.2.2.2.2.2.2.2.2.2.2.2.2.2.2 C ∧ r.2.2.1 = nI p ∧ r2.2.2.2.1 = nI p ∧ p % 32 = 0 ∧ p ≤ 32 * T ∧ r.2.2.2.1 = nI (HL C))) := by
  have hl0 : HL C0 = 0 := by unfold HL; rw [hn0]; rfl
  refine lp2S (body := pX10_open_b54 (nI T) tw) (body2 := pX4_openAll_b21 128 (nI T) hw)
    (fun k s s2 => s2.1 = nI k ∧ ((s.1 = 0 ∧ FLT s.2.2.2.2.1 s.2.2.2.2.2.1 s2.2.1 s2.2.2.1) ∨ (s.1 = 1 ∧ s.2.2.2.2.1 = 0 ∧ s.2.2.2.2.2.1 = fp ∧ s2.2.1 = 0 ∧ s2.2.2.1 = wh ∧ ∃ C p, OKC C ∧ RCa (vR s.2.2.2.2.2.2.2.2.2.2.2.2.2.2.2) 0 C ∧ KC s2.2.2.2.2.2.2.2.2.2.2.2.2.2.2.2.2.1 s2.2.2.2.2.2.2.2.2.2.2.2.2.2.2.2.2.2.1 s2.2.2.2.2.2.2.2.2.2.2.2.2.2.2.2.2.2.2.1 s2.2.2.2.2.2.2.2.2.2.2.2.2.2.2.2.2.2.2.2 C ∧ s.2.2.1 = nI p ∧ s2.2.2.2.1 = nI p ∧ p % 32 = 0 ∧ p ≤ 32 * T ∧ s.2.2.2.1 = nI (HL C) ∧ NB C = k))) _ 26 _ _ ⟨rfl, Or.inr ⟨rfl, rfl, rfl, rfl, rfl, C0, 0, h0, hR0, hK0, rfl, rfl, rfl, Nat.zero_le _, by rw [hl0]; rfl, hn0⟩⟩ (fun k s s2 hk hJ => ?_)
  obtain ⟨s1, s2', s3, s4, s5, s6, s7, s8, s9, s10, s11, s12, s13, s14, s15, s16⟩ := s
  obtain ⟨t1, t2, t3, t4, t5, t6, t7, t8, t9, t10, t11, t12, t13, t14, t15, t16, t17, t18, t19, t20⟩ := s2
  obtain ⟨g1, g⟩ := hJ
  replace g1 : t1 = nI k := g1
  subst g1
  unfold pX10_open_b54 pX4_openAll_b21 pX4_endOfTape
  dsimp only
  rw [Option.bind_some]
  rcases g with ⟨e1, hf⟩ | ⟨e1, e2, e3, e4, e5, C, p, q1, q2, q3, q4, q5, q6, q7, q8, q9⟩
  · replace e1 : s1 = 0 := e1
    replace hf : FLT s5 s6 t2 t3 := hf
    have hO : ¬ t2 = 0 := by rw [hf.2.1]; exact hf.1
    refine Or.inr ?_
    rw [if_pos e1, if_neg hO]
    by_cases g2 : (24 : Int32) < nI k
    · rw [if_pos g2]
      exact ⟨_, _, rfl, rfl, Or.inl ⟨e1, hf⟩⟩
    · rw [if_neg g2]
      by_cases g3 : nI T * 32 ≤ t4
      · rw [if_pos g3]
        exact ⟨_, _, rfl, rfl, Or.inl ⟨e1, hf⟩⟩
      · rw [if_neg g3]
        exact ⟨_, _, rfl, rfl, Or.inl ⟨e1, hf⟩⟩
  · replace e1 : s1 = 1 := e1
    replace e2 : s5 = 0 := e2
    replace e3 : s6 = fp := e3
    replace e4 : t2 = 0 := e4
    replace e5 : t3 = wh := e5
    replace q2 : RCa (vR s16) 0 C := q2
    replace q3 : KC t17 t18 t19 t20 C := q3
    replace q4 : s3 = nI p := q4
    replace q5 : t4 = nI p := q5
    replace q8 : s4 = nI (HL C) := q8
    subst e1 e2 e3 e4 e5 q4 q5 q8
    have hk24 : k ≤ 24 := by rw [← q9]; exact q1.1
    obtain ⟨rfl, rfl, q3'⟩ := q3
    rw [if_neg (show ¬ (1 : Int32) = 0 by decide), if_neg (show ¬ (24 : Int32) < nI k by rw [n_l24, nI_ltI (by omega) (by omega)]; omega), n_l32, pk_mul, pk_mul]
    by_cases g3 : 32 * T ≤ p
    · refine Or.inr ?_
      rw [if_pos (nI_le g3 (by omega)), if_pos (nI_le (show T * 32 ≤ p by omega) (by omega))]
      exact ⟨_, _, rfl, rfl, Or.inr ⟨rfl, rfl, rfl, rfl, rfl, C, p, q1, q2, ⟨rfl, rfl, q3'⟩, rfl, rfl, q6, q7, rfl⟩⟩
    · refine Or.inl ?_
      rw [if_neg (show ¬ nI (32 * T) ≤ nI p by rw [nI_leI (by omega) (by omega)]; exact g3), if_neg (show ¬ nI (T * 32) ≤ nI p by rw [nI_leI (by omega) (by omega)]; omega), if_pos rfl]
      obtain ⟨z, w, ez, ew, hz⟩ := q_blk (T := T) (tw := tw) (hw := hw) (C := C) (p := p) (xp := s2') (fp := s6) (wh := t3) (s0 := t5) (a0 := s7) (a1 := s8) (a2 := s9) (a3 := s10) (b0 := s11) (b1 := s12) (b2 := s13) (b3 := s14) (c := t9) (c' := t10) (c0 := t11) (c1 := t12) (c2 := t13) (c3 := t14) (c4 := t15) (pl := t6) (mk := t7) (vl := t8) (rd := s16) (ks := t16) (fc := t20) (ps := s15) (tl := t19) hT hw_ (by omega) q6 q1 ⟨rfl, rfl, q3'⟩ q2
      rw [ez, ew, Option.bind_some, Option.bind_some]
      rcases hz with ⟨z1, hz⟩ | ⟨z1, z2, z3, w1, w2, C', p', o1, o2, o3, o4, o5, o6, o7, o8, o9, o10⟩
      · exact ⟨_, _, rfl, rfl, by omega, by show nI k + nI 1 = _; rw [nI_add], Or.inl ⟨z1, hz⟩⟩
      · exact ⟨_, _, rfl, rfl, by omega, by show nI k + nI 1 = _; rw [nI_add], Or.inr ⟨z1, z2, z3, w1, w2, C', p', o1, o3, o4, o5, o6, o7, o9, o10, by rw [o2, q9]⟩⟩
end OAll
