/-! ===== opening: one block ===== -/
section OBlk2
variable {T : Nat} {tw hw : Nat → Int32}
theorem q_blk {C : AC} {p : Nat} {xp fp wh s0 a0 a1 a2 a3 b0 b1 b2 b3 c c' c0 c1 c2 c3 c4 pl mk vl : Int32} {rd ks fc : Nat → Int32} {ps tl : Nat → Int64} (hT : T ≤ 400) (hw_ : TW T tw hw) (hp : p + 32 ≤ 32 * T) (hp2 : p % 32 = 0) (hC : OKC C) (hK : KC (nI (NB C)) (nI (HL C)) tl fc C) (hR : RCa (vR rd) 0 C) :
    ∃ z w, pX10_readsBlock xp (nI T) (nI p) (nI (HL C)) 0 fp a0 a1 a2 a3 b0 b1 b2 b3 ps tw rd = some z ∧ pX4_openBlock 128 0 wh (nI p) s0 pl mk vl c c' c0 c1 c2 c3 c4 (nI T) hw ks (nI (NB C)) (nI (HL C)) tl fc = some w ∧ ((z.1 = 0 ∧ FLT z.2.2.2.2.1 z.2.2.2.2.2.1 w.1 w.2.1) ∨ (z.1 = 1 ∧ z.2.2.2.2.1 = 0 ∧ z.2.2.2.2.2.1 = fp ∧ w.1 = 0 ∧ w.2.1 = wh ∧ ∃ C' p', OKC C' ∧ NB C' = NB C + 1 ∧ RCa (vR z.2.2.2.2.2.2.2.2.2.2.2.2.2.2.2) 0 C' ∧ KC w.2.2.2.2.2.2.2.2.2.2.2.2.2.2.2.1 w.2.2.2.2.2.2.2.2.2.2.2.2.2.2.2.2.1 w.2.2.2.2.2.2.2.2.2.2.2.2.2.2.2.2.2.1 w.2.2.2.2.2.2.2.2.2.2.2.2.2.2.2.2.2.2 C' ∧ z.2.2.1 = nI p' ∧ w.2.2.1 = nI p' ∧ p' % 32 = 0 ∧ p < p' ∧ p' ≤ 32 * T ∧ z.2.2.2.1 = nI (HL C'))) := by
  obtain ⟨hr0, hr1, hr2⟩ := vR_RC.mp hR
  obtain ⟨z, u, w, ez, eu, ew, h⟩ := q_head (T := T) (tw := tw) (hw := hw) (p := p) (R := HL C) (b := NB C) (xp := xp) (fp := fp) (wh := wh) (a0 := a0) (a1 := a1) (a2 := a2) (a3 := a3) (b0 := b0) (b1 := b1) (b2 := b2) (b3 := b3) (c := c) (c' := c') (c0 := c0) (c1 := c1) (c2 := c2) (c3 := c3) (c4 := c4) (pl := pl) (mk := mk) (vl := vl) (rd := rd) hT hw_ hp hC.2.1 hC.1 hr0
  unfold pX10_readsBlock pX4_openBlock
  rw [ez, eu, Option.bind_some, Option.bind_some, ew, Option.bind_some]
  rcases h with ⟨z1, hz⟩ | ⟨n, rd', hn, hRn, hb, hmm, ⟨pc, fm, wd, ex, bs, st, ba, e, rfl, rfl, h1, h2, h3, h4, h5, h6, h7, h8, h9, h10, h11, h12⟩, u4, u5, u6, hrd⟩
  · have hO : ¬ w.1 = 0 := by rw [hz.2.1]; exact hz.1
    rw [if_pos z1, if_neg hO]
    obtain ⟨x, ex, x1, x2⟩ := k_j28O (T := T) (hw := hw) (kd := w.1) (wh := w.2.1) (a1 := w.2.2.1) (a2 := nI p) (a3 := u.2.2.2.1) (a4 := u.2.2.2.2.1) (a5 := u.2.2.2.2.2) (a6 := w.2.2.2.1) (a7 := w.2.2.2.2.1) (a8 := w.2.2.2.2.2.1) (a9 := w.2.2.2.2.2.2.1) (a10 := w.2.2.2.2.2.2.2.1) (a11 := w.2.2.2.2.2.2.2.2.1) (a12 := w.2.2.2.2.2.2.2.2.2) (hd := nI (HL C)) (bk := nI (NB C)) (ks := ks) (fc := fc) (tl := tl) hO
    exact ⟨_, x, rfl, ex, Or.inl ⟨rfl, hz.1, x1.trans hz.2.1, x2.trans hz.2.2⟩⟩
  · have hn4 := num_lt tw p 4
    have hle := mV_le tw p n
    have hn16 : n ≤ 16 := by omega
    have hpc : pcn fm (n - mV tw p n) = pc := h7.symm
    have hpc16 : pc ≤ 16 := by rw [h7]; split <;> omega
    obtain ⟨y, x, ey, ex_, hyx⟩ := q_allParts (T := T) (tw := tw) (hw := hw) (pc := pc) (wd := wd) (e := e) (ex := ex) (fp := fp) (wh := wh) (ps := ps) (ks := ks) hT hw_ hpc16 h3 h6 h5 h8
    dsimp only
    rw [if_neg (show ¬ (1 : Int32) = 0 by decide), if_pos rfl, ey, Option.bind_some, ex_, Option.bind_some]
    rcases hyx with ⟨x0, y1, hy⟩ | ⟨x0, v, ev, hv⟩
    · rw [if_pos y1]
      obtain ⟨q, eq, q1, q2⟩ := k_j28O (T := T) (hw := hw) (kd := x.1) (wh := x.2.1) (a1 := x.2.2.1) (a2 := nI p) (a3 := u.2.2.2.1) (a4 := u.2.2.2.2.1) (a5 := u.2.2.2.2.2) (a6 := nI fm) (a7 := nI wd) (a8 := nI ex) (a9 := nI bs) (a10 := nI ba) (a11 := nI st) (a12 := nI pc) (hd := nI (HL C)) (bk := nI (NB C)) (ks := x.2.2.2) (fc := fc) (tl := tl) x0
      exact ⟨_, q, rfl, eq, Or.inl ⟨rfl, hy.1, q1.trans hy.2.1, q2.trans hy.2.2⟩⟩
    · unfold pX4_openBlock_j28
      rw [if_pos x0, ev, Option.bind_some]
      rcases hv with ⟨v0, y1, hy⟩ | ⟨S, hE, hS, y1, y2, y3, y4, v1, v2, v3, y5, v4⟩
      · rw [if_pos y1]
        obtain ⟨q, eq, q1, q2⟩ := k_j39O (T := T) (hw := hw) (kd := v.1) (wh := v.2.1) (a1 := v.2.2.1) (a2 := nI p) (a3 := u.2.2.2.1) (a4 := u.2.2.2.2.1) (a5 := u.2.2.2.2.2) (a6 := nI fm) (a7 := nI wd) (a8 := nI ex) (a9 := nI bs) (a10 := nI ba) (a11 := nI st) (a12 := nI pc) (hd := nI (HL C)) (bk := nI (NB C)) (ks := v.2.2.2) (fc := fc) (tl := tl) v0
        exact ⟨_, q, rfl, eq, Or.inl ⟨rfl, hy.1, q1.trans hy.2.1, q2.trans hy.2.2⟩⟩
      · obtain ⟨s1, s2, s3⟩ := eR_end h3 (fun j _ => lo_lt tw e wd j) hS
        have hat : S.2.1 = p + tot n (n - mV tw p n) fm wd pc ex := by rw [s3, h9]; exact tot_at hmm
        have hS32 : S.2.1 ≤ 32 * T := (eR_ok ex S hS).2.1 hE
        have hPl : ∀ j, j < pcn fm (n - mV tw p n) → S.2.2 j < 2 ^ 32 := fun j hj => s2 j (by rw [hpc] at hj; exact hj)
        obtain ⟨zk, ek, hzk⟩ := k_vals (T := T) (tw := tw) (hw := hw) (b := NB C) (p := p) (n := n) (R := HL C) (fm := fm) (wd := wd) (ex := ex) (at_ := S.2.1) (wh := wh) (B := nI bs) (S := nI st) (ba := nI ba) (P := S.2.2) (ks := v.2.2.2) (tl := tl) (fc := fc) hT hw_ hb (by omega) hS32 hn16 hRn h1 (fun j hj => v4 j (by rw [hpc] at hj; exact hj)) hPl
        obtain ⟨zr, er, hzr⟩ := r_vals (tw := tw) (p := p) (n := n) (R := HL C) (fm := fm) (fp := fp) (B := nI bs) (S := nI st) (ba := nI ba) (P := S.2.2) (ps := y.2.2.2.2) (rd := rd') hn16 hRn h1 (fun j hj => y5 j (by rw [hpc] at hj; exact hj)) hPl (fun i hi => by rw [hrd, if_pos (by omega), show 225 + HL C + i - (225 + HL C) = i by omega])
        unfold pX4_openBlock_j39
        rw [v1, if_pos rfl, v2, v3, u4, u5, u6, ek, Option.bind_some, if_neg (show ¬ y.1 = 0 by rw [y1]; decide), y3, y4, er, Option.bind_some]
        rcases hzk with ⟨hB, k1, k2⟩ | ⟨hB, k1, k2, k3, k4, k5, k6, k7⟩
        · rcases hzr with ⟨_, g1, g2, g3⟩ | ⟨hB', _⟩
          · rw [if_pos g1]
            exact ⟨_, _, rfl, rfl, Or.inl ⟨rfl, by rw [g2]; decide, by rw [g2]; exact k1, by rw [g3]; exact k2⟩⟩
          · exact absurd hB' hB
        · rcases hzr with ⟨hB', _⟩ | ⟨_, g1, g2, g3, g4, g5⟩
          · exact absurd hB hB'
          · rw [if_neg (show ¬ zr.1 = 0 by rw [g1]; decide)]
            have hz0 : zr.2.2.2 ((0 : Int32).toNatClampNeg) = nI (NB C) := by
              show zr.2.2.2 0 = _
              rw [g5 0 (by omega), hrd, if_neg (by omega)]; exact hr0
            have hi : ∀ k : Nat, (1 + (4 * nI (NB C))) + nI k = nI (1 + 4 * NB C + k) := fun k => by rw [n_l4, pk_mul, n_l1, nI_add, nI_add]
            have i0 : (1 + (4 * nI (NB C))) + 0 = nI (1 + 4 * NB C + 0) := hi 0
            have i1 : (1 + (4 * nI (NB C))) + 1 = nI (1 + 4 * NB C + 1) := hi 1
            have i2 : (1 + (4 * nI (NB C))) + 2 = nI (1 + 4 * NB C + 2) := hi 2
            have i3 : (1 + (4 * nI (NB C))) + 3 = nI (1 + 4 * NB C + 3) := hi 3
            have hck0 : ∀ {α : Type} (x : Option α), ck 0 353 x = x := fun x => ckN (n := 0) (by omega) (by omega)
            have hck : ∀ {α : Type} (k : Nat) (x : Option α), k < 4 → ck (nI (1 + 4 * NB C + k)) 353 x = x := fun k x hk => ckN (by omega) (by omega)
            have hnext := (r_blkEnd (T := T) (tw := tw) (b := NB C) (e := S.2.1) (fp := fp) (n := 0) (fm := 0) (wd := 0) (st := 0) (rd := rd) hT hb hr0 hS32).1
            rw [hz0, i0, i1, i2, i3, hck0, hck 0 _ (by omega), hck 1 _ (by omega), hck 2 _ (by omega), hck 3 _ (by omega), hck0, hck0, y2, g2, g3, hnext, Option.bind_some, nI_clamp (show 1 + 4 * NB C + 0 < 2 ^ 31 by omega), nI_clamp (show 1 + 4 * NB C + 1 < 2 ^ 31 by omega), nI_clamp (show 1 + 4 * NB C + 2 < 2 ^ 31 by omega), nI_clamp (show 1 + 4 * NB C + 3 < 2 ^ 31 by omega)]
            dsimp only
            have hx2 : num tw S.2.1 (pd S.2.1) < 2 ^ 63 := Nat.lt_of_lt_of_le (num_lt tw S.2.1 (pd S.2.1)) (Nat.pow_le_pow_right (by omega) (by have := pd_lt S.2.1; omega))
            by_cases hpad : num tw S.2.1 (pd S.2.1) = 0
            · rw [if_pos hpad] at k1
              rw [if_pos (show lg_cmp (lN (num tw S.2.1 (pd S.2.1))) 0 = 0 by rw [hpad, lg_cmp_eq]; rfl)]
              rw [show (0 : Int32).toNatClampNeg = 0 from rfl]
              obtain ⟨o1, o2, o3, o4⟩ := op_facts (tw := tw) (C := C) (t := tE tw p (gv fm (nI bs) (nI st) S.2.2)) (n := n) (fm := fm) (wd := wd) (st := nI st) (p := p) (B := nI bs) (P := S.2.2) (ex := ex) h1 hPl (by rw [hpc]; exact s1) hB h2 rfl
              obtain ⟨f0, f1, f2, f3, f4, f5, f6, f7, f8⟩ := k7
              have hOK : OKC (opC C (tE tw p (gv fm (nI bs) (nI st) S.2.2)) n fm wd (nI st)) := op_OK hC (by omega) hn16 hRn hb h1 h3 (by rw [o1]; exact h2) (by rw [o2]; exact h5) (fun q => by rw [h10 q]; rfl)
              have hKC := op_KC (t := tE tw p (gv fm (nI bs) (nI st) S.2.2)) (n := n) (fm := fm) (wd := wd) (st := nI st) hK k5 k6 f0 (by rw [o1]; exact f1) f2 f3 (by rw [o2]; exact f4) (by rw [o3, f5, hpc]; exact congrArg nI (by omega)) (by rw [o4]; exact f6) f7 f8
              obtain ⟨d1, d2⟩ := pd_in hS32
              refine ⟨_, _, rfl, rfl, Or.inr ⟨rfl, rfl, rfl, k1.1, k1.2, opC C (tE tw p (gv fm (nI bs) (nI st) S.2.2)) n fm wd (nI st), S.2.1 + pd S.2.1, hOK, op_NB, ?_, ?_, rfl, k2, d2, ?_, d1, ?_⟩⟩
              · refine op_RC (rd := rd) hC hR hb hRn ?_ ?_ ?_ ?_ ?_ (fun i hi => ⟨?_, ?_⟩) (fun j q1 q2 => ?_) (fun j hj => ⟨?_, ?_⟩)
                · dsimp only
                  rw [u_at, u_ne (by omega), u_ne (by omega), u_ne (by omega), u_ne (by omega)]
                  show zr.2.2.2 0 + nI 1 = _
                  rw [show zr.2.2.2 0 = nI (NB C) from hz0, nI_add]
                · dsimp only
                  rw [u_ne (by omega), u_ne (by omega), u_ne (by omega), u_ne (by omega)]; exact u_at _ _ _
                · dsimp only
                  rw [u_ne (by omega), u_ne (by omega), u_ne (by omega), u_at]
                · dsimp only
                  rw [u_ne (by omega), u_ne (by omega), u_at]
                · dsimp only
                  rw [u_ne (by omega), u_at]
                · dsimp only
                  rw [u_ne (by omega), u_ne (by omega), u_ne (by omega), u_ne (by omega), u_ne (by omega)]
                  exact g4 i hi
                · dsimp only
                  rw [u_ne (by omega), u_ne (by omega), u_ne (by omega), u_ne (by omega), u_ne (by omega), g5 _ (by omega), hrd, if_pos (by omega), show 225 + HL C + i - (225 + HL C) = i by omega]
                  unfold tE
                  by_cases hm : mE tw p i
                  · rw [if_pos hm, if_pos hm]; rfl
                  · rw [if_neg hm, if_neg hm]; rfl
                · dsimp only
                  rw [u_ne (by omega), u_ne (by omega), u_ne (by omega), u_ne (by omega), u_ne (by omega), g5 _ (by omega), hrd, if_neg (by omega)]
                · dsimp only
                  rw [u_ne (by omega), u_ne (by omega), u_ne (by omega), u_ne (by omega), u_ne (by omega), g5 _ (by omega), hrd, if_neg (by omega)]
                · dsimp only
                  rw [u_ne (by omega), u_ne (by omega), u_ne (by omega), u_ne (by omega), u_ne (by omega), g5 _ (by omega), hrd, if_neg (by omega)]
              · show KC zk.2.2.2.1 zk.2.2.2.2.1 zk.2.2.2.2.2.1 zk.2.2.2.2.2.2 _
                rw [k3, k4]; exact hKC
              · have : 49 ≤ tot n (n - mV tw p n) fm wd pc ex := by unfold tot; omega
                omega
              · show nI (HL C) + nI n = _
                rw [nI_add, op_HL]
            · rw [if_neg hpad] at k1
              unfold pX10_wrong
              rw [if_neg (show ¬ lg_cmp (lN (num tw S.2.1 (pd S.2.1))) 0 = 0 from fun q => hpad ((lN_0 hx2).mp ((lg_cmp_eq _ _).mp q))), Option.bind_some, if_pos rfl]
              exact ⟨_, _, rfl, rfl, Or.inl ⟨rfl, (by decide : ¬ (7 : Int32) = 0), k1.1, k1.2⟩⟩
end OBlk2
