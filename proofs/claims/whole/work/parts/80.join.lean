/-! ===== join ===== -/
def jnP (p : Nat → Nat) (b : Nat) : Nat → Nat := delN (ud p b (p b + p (b + 1))) (b + 1) 1
theorem jn_lo {p : Nat → Nat} {b j : Nat} (h : j < b) : jnP p b j = p j := by unfold jnP; rw [del_lo (by omega), ud_ne (by omega)]
theorem jn_at {p : Nat → Nat} {b : Nat} : jnP p b b = p b + p (b + 1) := by unfold jnP; rw [del_lo (by omega), ud_at]
theorem jn_hi {p : Nat → Nat} {b j : Nat} (h : b < j) : jnP p b j = p (j + 1) := by unfold jnP; rw [del_hi (by omega), ud_ne (by omega)]
theorem jn_sm_lo {p : Nat → Nat} {b j : Nat} (h : j ≤ b) : sm (jnP p b) j = sm p j := sm_congr j (fun i hi => jn_lo (by omega))
theorem jn_sm_hi {p : Nat → Nat} {b : Nat} : ∀ j, b < j → sm (jnP p b) j = sm p (j + 1) := by
  intro j
  induction j with
  | zero => intro h; omega
  | succ k ih =>
    intro h
    show sm (jnP p b) k + jnP p b k = sm p (k + 1) + p (k + 1)
    rcases Nat.lt_or_ge b k with h1 | h1
    · rw [ih h1, jn_hi h1]
    · obtain rfl : k = b := by omega
      rw [jn_sm_lo (Nat.le_refl _), jn_at]
      show _ = sm p k + p k + p (k + 1)
      omega
def jnC (C : AC) (b : Nat) : AC := (NB C - 1, jnP (PL C) b, TV C, delN (FM C) (b + 1) 1, delN (WD C) (b + 1) 1, delN (ST C) (b + 1) 1)
section Jn
variable {C : AC} {b : Nat}
theorem jnC_NB : NB (jnC C b) = NB C - 1 := rfl
theorem jnC_TV : TV (jnC C b) = TV C := rfl
theorem jnC_PL : PL (jnC C b) = jnP (PL C) b := rfl
theorem jnC_HL (hb : b + 1 < NB C) : HL (jnC C b) = HL C := by
  show sm (jnP (PL C) b) (NB C - 1) = sm (PL C) (NB C)
  rw [jn_sm_hi _ (by omega), show NB C - 1 + 1 = NB C by omega]
theorem jnC_lo {j : Nat} (h : j < b) : BL (jnC C b) j C j := by
  refine ⟨jn_lo h, del_lo (by omega), del_lo (by omega), del_lo (by omega), fun r hr => ?_⟩
  show TV C (sm (jnP (PL C) b) j + r) = _
  rw [jn_sm_lo (by omega)]
theorem jnC_hi {j : Nat} (h : b < j) : BL (jnC C b) j C (j + 1) := by
  refine ⟨jn_hi h, del_hi (by omega), del_hi (by omega), del_hi (by omega), fun r hr => ?_⟩
  show TV C (sm (jnP (PL C) b) j + r) = _
  rw [jn_sm_hi j h]
/-- whether two are joined -/
def jnD (C : AC) (b : Nat) : Prop := PL C b + PL C (b + 1) ≤ 16 ∧ eB C (sm (PL C) b) (PL C b + PL C (b + 1)) < ct C b + ct C (b + 1)
theorem jn_OK (ho : OKC C) (hb : b + 1 < NB C) (h : PL C b + PL C (b + 1) ≤ 16) : OKC (tlC (jnC C b) b) := by
  have o1 := (ho.2.2 b (by omega)).1
  refine okC_one (by rw [jnC_NB]; have := ho.1; omega) (by rw [jnC_HL hb]; exact ho.2.1) (by rw [jnC_PL, jn_at]; omega) (by rw [jnC_PL, jn_at]; exact h) (fun j hjb hj => ?_)
  rw [jnC_NB] at hj
  rcases Nat.lt_or_ge j b with h1 | h1
  · exact BL_okb (jnC_lo h1) (ho.2.2 j (by omega))
  · exact BL_okb (jnC_hi (show b < j by omega)) (ho.2.2 (j + 1) (by omega))
variable {c : Nat} {a : Nat → Int32} {tl : Nat → Int64} {fc : Nat → Int32}
theorem sm_two (hb : b + 1 < NB C) : sm (PL C) b + (PL C b + PL C (b + 1)) ≤ HL C := by
  have := sm_lt2 hb
  have hs : sm (PL C) (b + 1) = sm (PL C) b + PL C b := rfl
  omega
theorem r_canJoin (xv xw xp xs xf xu xt xb : Int32) (vs : Nat → Int32) (ps : Nat → Int64) (hc : c < 3) (hR : RCa a c C) (ho : OKC C) (hb : b + 1 < NB C) : ∃ z, pX10_canJoin (nI c) (nI b) xv xw xp xs xf xu xt xb a vs ps = some z ∧ ((jnD C b ∧ z.1 = nI 1) ∨ (¬ jnD C b ∧ z.1 = nI 0)) := by
  have hn := ho.1
  have hl := ho.2.1
  have o2 := (ho.2.2 b (by omega)).2.1
  have o2' := (ho.2.2 (b + 1) hb).2.1
  have h2 := sm_two hb
  have hof : pX10_ofBlock (nI c) (nI b) 0 a = some (nI (PL C b)) := r_ofPl hc hR (by omega) hn
  have hof1 : pX10_ofBlock (nI c) (nI (b + 1)) 0 a = some (nI (PL C (b + 1))) := r_ofPl hc hR hb hn
  unfold pX10_canJoin
  rw [hof, Option.bind_some, show (1 : Int32) = nI 1 from rfl, nI_add, hof1, Option.bind_some, nI_add]
  by_cases h16 : PL C b + PL C (b + 1) ≤ 16
  · obtain ⟨x, ex, hx⟩ := r_bestOf xv xw xp xs vs ps xf xu xt xb hc hR hl h2 h16
    obtain ⟨y, ey, hy⟩ := r_bitsOfBlock x.2.1 x.2.2.1 x.2.2.2.1 x.2.2.2.2.1 x.2.2.2.2.2.2.2.2.2.1 x.2.2.2.2.2.2.2.2.2.2 hc hR ho (b := b) (by omega)
    obtain ⟨z, ez, hz⟩ := r_bitsOfBlock y.2.1 y.2.2.1 y.2.2.2.1 y.2.2.2.2.1 y.2.2.2.2.2.1 y.2.2.2.2.2.2 hc hR ho (b := b + 1) hb
    have l1 := ct_lt (ho.2.2 b (by omega))
    have l2 := ct_lt (ho.2.2 (b + 1) hb)
    have l3 := eB_le C (f := sm (PL C) b) h16
    rw [if_neg (show ¬ (16 : Int32) < nI (PL C b + PL C (b + 1)) from fun q => by have := (nI_ltI (a := 16) (by omega) (by omega)).mp q; omega), r_firstOf hc hR (by omega) hn, Option.bind_some, ex, Option.bind_some, ey, Option.bind_some, ez, Option.bind_some, hx, hy, hz, nI_add]
    rw [show (bst (PL C b + PL C (b + 1)) (cnt (TV C) (sm (PL C) b) (PL C b + PL C (b + 1))) (val (TV C) (sm (PL C) b) (PL C b + PL C (b + 1)))).2.2 = eB C (sm (PL C) b) (PL C b + PL C (b + 1)) from rfl]
    by_cases hlt : ct C b + ct C (b + 1) ≤ eB C (sm (PL C) b) (PL C b + PL C (b + 1))
    · rw [if_pos (nI_le hlt (by omega))]
      exact ⟨_, rfl, Or.inr ⟨fun q => by have := q.2; omega, rfl⟩⟩
    · rw [if_neg (fun q => hlt ((nI_leI (by omega) (by omega)).mp q))]
      exact ⟨_, rfl, Or.inl ⟨⟨h16, by omega⟩, rfl⟩⟩
  · rw [if_pos (show (16 : Int32) < nI (PL C b + PL C (b + 1)) from nI_lt (a := 16) (by omega) (by omega))]
    exact ⟨_, rfl, Or.inr ⟨fun q => h16 q.1, rfl⟩⟩
theorem k_shouldJoin (m1 m2 m3 m4 m5 m6 m7 m8 m9 m10 m11 : Int32) (n1 n2 n3 : Nat → Int32) (ho : OKC C) (hT : KT tl C) (hP : KP fc C) (hF : ∀ j, j < NB C → KF fc C j) (hb : b + 1 < NB C) : ∃ z, pX0_shouldJoin 128 (nI b) (nI (NB C)) (nI (HL C)) tl fc m1 m2 m3 m4 m5 m6 m7 m8 m9 m10 m11 n1 n2 n3 = some z ∧ ((jnD C b ∧ z.1 = nI 1) ∨ (¬ jnD C b ∧ z.1 = nI 0)) := by
  have hn := ho.1
  have hl := ho.2.1
  have hb0 : b < NB C := by omega
  have o2 := (ho.2.2 b hb0).2.1
  have o2' := (ho.2.2 (b + 1) hb).2.1
  have h2 := sm_two hb
  have fa := k_fact (fc := fc) hb0 hn (show 0 < 8 by omega)
  rw [Nat.add_zero, hP b hb0] at fa
  have fb := k_fact (fc := fc) hb hn (show 0 < 8 by omega)
  rw [Nat.add_zero ((b + 1) * 8), hP (b + 1) hb] at fb
  have f5 := k_fact (fc := fc) hb0 hn (show 5 < 8 by omega)
  rw [(hF b hb0).2.2.2.2.1] at f5
  have f5b := k_fact (fc := fc) hb hn (show 5 < 8 by omega)
  rw [(hF (b + 1) hb).2.2.2.2.1] at f5b
  unfold pX0_shouldJoin
  rw [show (0 : Int32) = nI 0 from rfl, fa, Option.bind_some, show (1 : Int32) = nI 1 from rfl, nI_add, fb, Option.bind_some, k_hasBlock hb (by omega), Option.bind_some, if_neg (show ¬ nI 1 = nI 0 by decide), nI_add]
  by_cases h16 : PL C b + PL C (b + 1) ≤ 16
  · obtain ⟨g, eg, hg⟩ := k_loadH (C := C) hl hT m1 m2 n1 h2 h16
    have hcl := cnt_le (TV C) (sm (PL C) b) (PL C b + PL C (b + 1))
    obtain ⟨y, ey, hy⟩ := k_choose (n := PL C b + PL C (b + 1)) (m := cnt (TV C) (sm (PL C) b) (PL C b + PL C (b + 1))) h16 (by omega) m3 m4 m5 m6 m7 m8 m9 m10 m11 g n2 n3
    rw [bst_congr hg] at hy
    have y4 : y.2.2.2.2.2.2.1 = nI (eB C (sm (PL C) b) (PL C b + PL C (b + 1))) := hy.2.2.2.1
    have l1 := ct_lt (ho.2.2 b hb0)
    have l2 := ct_lt (ho.2.2 (b + 1) hb)
    have l3 := eB_le C (f := sm (PL C) b) h16
    rw [if_pos (show nI (PL C b + PL C (b + 1)) ≤ (16 : Int32) from nI_le (b := 16) h16 (by omega)), k_firstOf hn hP (by omega), Option.bind_some, eg, Option.bind_some]
    dsimp only
    rw [ey, Option.bind_some, show (5 : Int32) = nI 5 from rfl, f5, Option.bind_some, f5b, Option.bind_some, y4, nI_add]
    by_cases hlt : ct C b + ct C (b + 1) ≤ eB C (sm (PL C) b) (PL C b + PL C (b + 1))
    · rw [if_pos (nI_le hlt (by omega))]
      exact ⟨_, rfl, Or.inr ⟨fun q => by have := q.2; omega, rfl⟩⟩
    · rw [if_neg (fun q => hlt ((nI_leI (by omega) (by omega)).mp q))]
      exact ⟨_, rfl, Or.inl ⟨⟨h16, by omega⟩, rfl⟩⟩
  · rw [if_neg (show ¬ nI (PL C b + PL C (b + 1)) ≤ (16 : Int32) from fun q => by have := (nI_leI (b := 16) (by omega) (by omega)).mp q; omega)]
    exact ⟨_, rfl, Or.inr ⟨fun q => h16 q.1, rfl⟩⟩
/-- the reference joins -/
theorem r_joinB (xv xw xp xs xf xu xt xb : Int32) (vs : Nat → Int32) (ps : Nat → Int64) (hc : c < 3) (hR : RCa a c C) (ho : OKC C) (hb : b + 1 < NB C) (h16 : PL C b + PL C (b + 1) ≤ 16) : ∃ a1 a2 z, pX10_putBlock (nI c) (nI b) 0 (nI (PL C b + PL C (b + 1))) a = some a1 ∧ pX10_shutBlock (nI c) (nI (b + 1)) a1 = some a2 ∧ pX10_tellBlock (nI c) (nI b) xv xw xp xs xf xu xt xb a2 vs ps = some z ∧ RCa z.2.2.2.2.2.2.2.2.1 c (tlC (jnC C b) b) ∧ FR c a z.2.2.2.2.2.2.2.2.1 := by
  have hn := ho.1
  have hl := ho.2.1
  have hB1 := r_putPl (n := PL C b + PL C (b + 1)) hc (RC_BV.mp hR).1 (show b < NB C by omega) hn
  obtain ⟨a2, e1, e2, e3, e4⟩ := r_shutBlock hc hB1 hn hb
  have hR2 : RCa a2 c (jnC C b) := by
    refine RC_BV.mpr ⟨e2, ?_⟩
    show RV a2 c (HL (jnC C b)) (TV C)
    rw [jnC_HL hb]
    exact RV_fr hl (RC_BV.mp hR).2 (fun i h1 h2 => by rw [e3 i h1 h2, u_ne (by omega)])
  obtain ⟨z, ez, z1, z2⟩ := r_tell (C := jnC C b) xv xw xp xs xf xu xt xb vs ps hc hR2 (by rw [jnC_NB]; omega) (by rw [jnC_HL hb]; exact hl) (b := b) (by rw [jnC_NB]; omega) (by rw [jnC_PL, jn_at]; exact h16)
  exact ⟨_, a2, z, r_putBlock0 hc (by omega) _, e1, ez, z1, FR_tr (FR_u (by unfold inC; omega) _ _) (FR_tr e4 z2)⟩
theorem k_joinB (m1 m2 m3 m4 m5 m6 m7 m8 m9 m10 m11 : Int32) (n1 n2 n3 : Nat → Int32) (ho : OKC C) (hT : KT tl C) (hP : KP fc C) (hF : ∀ j, j < NB C → KF fc C j) (hb : b + 1 < NB C) (h16 : PL C b + PL C (b + 1) ≤ 16) : ∃ f1 f2 z, pX0_closeSlot (nI (b + 1)) (nI (NB C)) fc = some (nI (NB C - 1), f1) ∧ pX0_keepFact (nI b) (nI 0) (nI (PL C b + PL C (b + 1))) (nI (NB C - 1)) f1 = some f2 ∧ pX0_retell 128 (nI b) (nI (NB C - 1)) (nI (HL C)) tl f2 m1 m2 m3 m4 m5 m6 m7 m8 m9 m10 m11 n1 n2 n3 = some z ∧ KC (nI (NB C - 1)) (nI (HL C)) tl z.1 (tlC (jnC C b) b) := by
  have hn := ho.1
  have hl := ho.2.1
  have hlo : ∀ j w, j < b → w < 8 → upd (va_cpy fc fc ((b + 1) * 8 + 8) ((b + 1) * 8) ((NB C - 1 - (b + 1)) * 8)) (b * 8 + 0) (nI (PL C b + PL C (b + 1))) (j * 8 + w) = fc (j * 8 + w) := fun j w hj hw => by
    rw [u_ne (by omega)]
    show (if (b + 1) * 8 ≤ j * 8 + w ∧ _ then _ else _) = _
    rw [if_neg (by omega)]
  have hhi : ∀ j w, b < j → j < NB C - 1 → w < 8 → upd (va_cpy fc fc ((b + 1) * 8 + 8) ((b + 1) * 8) ((NB C - 1 - (b + 1)) * 8)) (b * 8 + 0) (nI (PL C b + PL C (b + 1))) (j * 8 + w) = fc ((j + 1) * 8 + w) := fun j w hj hj2 hw => by
    rw [u_ne (by omega)]
    show (if (b + 1) * 8 ≤ j * 8 + w ∧ j * 8 + w < (b + 1) * 8 + (NB C - 1 - (b + 1)) * 8 then fc ((b + 1) * 8 + 8 + (j * 8 + w - (b + 1) * 8)) else _) = _
    rw [if_pos (by omega)]
    exact congrArg fc (by omega)
  have hP2 : KP (upd (va_cpy fc fc ((b + 1) * 8 + 8) ((b + 1) * 8) ((NB C - 1 - (b + 1)) * 8)) (b * 8 + 0) (nI (PL C b + PL C (b + 1)))) (jnC C b) := fun j hj => by
    rw [jnC_NB] at hj
    rw [jnC_PL]
    rcases Nat.lt_or_ge j b with h1 | h1
    · have := hlo j 0 h1 (by omega)
      rw [Nat.add_zero (j * 8)] at this
      rw [this, jn_lo h1]; exact hP j (by omega)
    · rcases Nat.lt_or_ge b j with h2 | h2
      · have := hhi j 0 h2 hj (by omega)
        rw [Nat.add_zero (j * 8), Nat.add_zero ((j + 1) * 8)] at this
        rw [this, jn_hi h2]; exact hP (j + 1) (by omega)
      · obtain rfl : j = b := by omega
        rw [jn_at]; exact u_at _ _ _
  obtain ⟨z, ez, z1, z2, z3, _⟩ := k_retellN (C := jnC C b) (fc := upd (va_cpy fc fc ((b + 1) * 8 + 8) ((b + 1) * 8) ((NB C - 1 - (b + 1)) * 8)) (b * 8 + 0) (nI (PL C b + PL C (b + 1)))) (tl := tl) m1 m2 m3 m4 m5 m6 m7 m8 m9 m10 m11 n1 n2 n3 (n := NB C - 1) (H := HL C) jnC_NB (by omega) (by rw [jnC_HL hb]; exact Nat.le_refl _) hl (by rw [jnC_TV]; exact hT) hP2 (b := b) (by omega) (by rw [jnC_PL, jn_at]; exact h16)
  refine ⟨_, _, z, k_closeSlot hb hn, k_keepFact (show b < NB C - 1 by omega) (by omega) (by omega) _, ez, by rw [tl_NB, jnC_NB], by rw [tl_HL, jnC_HL hb], fun k hk => ?_, z1, fun j hj => ?_⟩
  · rw [tl_TV, jnC_TV]; exact hT k (by rw [tl_HL, jnC_HL hb] at hk; exact hk)
  · rw [tl_NB, jnC_NB] at hj
    by_cases hjb : j = b
    · subst hjb; exact z2
    · refine z3 j hjb hj ?_
      rcases Nat.lt_or_ge j b with h1 | h1
      · exact BL_KF (jnC_lo h1) (fun w hw => hlo j w h1 hw) (hF j (by omega))
      · exact BL_KF (jnC_hi (show b < j by omega)) (fun w hw => hhi j w (by omega) hj hw) (hF (j + 1) (by omega))
end Jn
section Q
variable {c : Nat} {a : Nat → Int32} {v1 bk hd : Int32} {tl : Nat → Int64} {fc : Nat → Int32} {C : AC} {xc : Nat → Option Nat}
theorem q_join (xv xw xp xs xf xu xt xb : Int32) (vs : Nat → Int32) (ps : Nat → Int64) (m1 m2 m3 m4 m5 m6 m7 m8 m9 m10 m11 : Int32) (n1 n2 n3 : Nat → Int32) {f h0 : Nat} (ha0 : a 0 = nI h0) (ha1 : a 1 = nI f) (hh : h0 ≤ 20) (hf : f < 20) (h : COL a v1 bk hd tl fc C) :
    ∃ z w, pX10_join v1 xv xw xp xs xf xu xt xb a vs ps = some z ∧ pX9_join 16 128 v1 xc m1 m2 m3 m4 m5 m6 m7 m8 m9 m10 m11 n1 n2 n3 bk hd tl fc = some w ∧ w.1 = z.1 ∧ MU a v1 w.2.1 z.2.2.2.2.2.2.2.2.2.1 w.2.2.2.2.2.2.2.2.2.2.2.2.2.2.2.2.1 hd tl w.2.2.2.2.2.2.2.2.2.2.2.2.2.2.2.2.2 := by
  have h' := h
  obtain ⟨⟨rfl, rfl, hT, hP, hF⟩, ho, hr⟩ := h
  have hn := ho.1
  have hl := ho.2.1
  have hH : ∀ k, k < HL C → tl k = enc (TV C k) := hT
  unfold pX10_join pX9_join pX0_joinBlocks
  rcases col_cases v1 with ⟨c, hc, rfl⟩ | hv
  · have hR := hr c hc rfl
    obtain ⟨a1, ek, hK⟩ := r_keep ha0 ha1 hh hf
    have hR1 := RC_now hc ho hK.2.2.1 hR
    obtain ⟨r, r2, e1, e2, C', p1, p2, p3, p4, p5, p6⟩ := lp2S (body := pX10_join_b21 (nI c)) (body2 := pX0_joinBlocks_b10 128 (nI (NB C)) (nI (HL C)) tl)
      (fun k s s2 => ∃ C' b, RCa s.2.2.2.2.2.2.2.2.2.1 c C' ∧ FR c a1 s.2.2.2.2.2.2.2.2.2.1 ∧ OKC C' ∧ KC (nI (NB C')) (nI (HL C)) tl s2.2.2.2.1 C' ∧ NB C' ≤ NB C ∧ b + NB C = k + NB C' ∧ (NB C = 0 ∨ 1 ≤ NB C') ∧ s.1 = nI b ∧ s2.1 = nI b ∧ s2.2.1 = nI (k + 1) ∧ s2.2.2.1 = nI (NB C'))
      (fun r r2 => ∃ C', RCa r.2.2.2.2.2.2.2.2.2.1 c C' ∧ FR c a1 r.2.2.2.2.2.2.2.2.2.1 ∧ OKC C' ∧ KC (nI (NB C')) (nI (HL C)) tl r2.2.2.2.1 C' ∧ NB C' ≤ NB C ∧ r2.2.2.1 = nI (NB C')) (NB C - 1) (nI 0, xv, xw, xp, xs, xf, xu, xt, xb, a1, vs, ps) (nI 0, nI 1, nI (NB C), fc, m1, m2, m3, m4, m5, m6, m7, m8, m9, m10, m11, n1, n2, n3) ⟨C, 0, hR1, FR_rf c a1, ho, ⟨rfl, rfl, hT, hP, hF⟩, Nat.le_refl _, by omega, by omega, rfl, rfl, rfl, rfl⟩ (fun k s s2 hk hJ => by
      obtain ⟨s1, s2', s3, s4, s5, s6, s7, s8, s9, s10, s11, s12⟩ := s
      obtain ⟨u1, u2, u3, u4, t1, t2, t3, t4, t5, t6, t7, t8, t9, t10, t11, t12, t13, t14⟩ := s2
      obtain ⟨C', b, q1, q2, q3, q4, q5, q6, q7, h1, h2, h3, h4⟩ := hJ
      replace q1 : RCa s10 c C' := q1
      replace q2 : FR c a1 s10 := q2
      replace q4 : KC (nI (NB C')) (nI (HL C)) tl u4 C' := q4
      replace h1 : s1 = nI b := h1
      replace h2 : u1 = nI b := h2
      replace h3 : u2 = nI (k + 1) := h3
      replace h4 : u3 = nI (NB C') := h4
      subst h1 h2 h3 h4
      have hn' := q3.1
      obtain ⟨_, kh, kT, kP, kF⟩ := q4
      have hHL : HL C' = HL C := by
        have := q3.2.1
        exact ((nI_eq (by omega) (by omega)).mp kh).symm
      unfold pX10_join_b21 pX0_joinBlocks_b10 pX0_joinBlocks_b10j69
      rw [r_blocks hc q1, Option.bind_some, show (1 : Int32) = nI 1 from rfl, nI_add]
      rcases Nat.lt_or_ge k (NB C - 1) with h9 | h9
      · refine Or.inl ?_
        have hb : b + 1 < NB C' := by omega
        obtain ⟨z, ez, hz⟩ := r_canJoin s2' s3 s4 s5 s6 s7 s8 s9 s11 s12 hc q1 q3 hb
        obtain ⟨w, ew, hw⟩ := k_shouldJoin (tl := tl) (fc := u4) t1 t2 t3 t4 t5 t6 t7 t8 t9 t10 t11 t12 t13 t14 q3 kT kP kF hb
        rw [hHL] at ew
        rw [if_neg (show ¬ nI (NB C') ≤ nI (b + 1) by rw [nI_leI (by omega) (by omega)]; omega), ez, Option.bind_some, if_neg (show ¬ nI (NB C) ≤ nI (k + 1) by rw [nI_leI (by omega) (by omega)]; omega), ew, Option.bind_some]
        rcases hz with ⟨d1, z1⟩ | ⟨d1, z1⟩
        · rcases hw with ⟨_, w1⟩ | ⟨d2, _⟩
          · obtain ⟨x1, x2, x, ex1, ex2, ex3, x4, x5⟩ := r_joinB z.2.1 z.2.2.1 z.2.2.2.1 z.2.2.2.2.1 z.2.2.2.2.2.1 z.2.2.2.2.2.2.1 z.2.2.2.2.2.2.2.1 z.2.2.2.2.2.2.2.2.1 z.2.2.2.2.2.2.2.2.2.1 z.2.2.2.2.2.2.2.2.2.2 hc q1 q3 hb d1.1
            obtain ⟨f1, f2, y, ey1, ey2, ey3, y4⟩ := k_joinB (tl := tl) (fc := u4) w.2.1 w.2.2.1 w.2.2.2.1 w.2.2.2.2.1 w.2.2.2.2.2.1 w.2.2.2.2.2.2.1 w.2.2.2.2.2.2.2.1 w.2.2.2.2.2.2.2.2.1 w.2.2.2.2.2.2.2.2.2.1 w.2.2.2.2.2.2.2.2.2.2.1 w.2.2.2.2.2.2.2.2.2.2.2.1 w.2.2.2.2.2.2.2.2.2.2.2.2.1 w.2.2.2.2.2.2.2.2.2.2.2.2.2.1 w.2.2.2.2.2.2.2.2.2.2.2.2.2.2 q3 kT kP kF hb d1.1
            rw [hHL] at ey3 y4
            have hof : pX10_ofBlock (nI c) (nI b) 0 s10 = some (nI (PL C' b)) := r_ofPl hc q1 (by omega) hn'
            have hof1 : pX10_ofBlock (nI c) (nI (b + 1)) 0 s10 = some (nI (PL C' (b + 1))) := r_ofPl hc q1 hb hn'
            have fa := k_fact (fc := u4) (show b < NB C' by omega) hn' (show 0 < 8 by omega)
            rw [Nat.add_zero, kP b (by omega)] at fa
            have fb := k_fact (fc := u4) hb hn' (show 0 < 8 by omega)
            rw [Nat.add_zero ((b + 1) * 8), kP (b + 1) hb] at fb
            rw [z1, if_neg (show ¬ nI 1 = 0 by decide), hof, Option.bind_some, hof1, Option.bind_some, nI_add, ex1, Option.bind_some, ex2, Option.bind_some, ex3, Option.bind_some, w1, if_neg (show ¬ nI 1 = 0 by decide), show (0 : Int32) = nI 0 from rfl, fa, Option.bind_some, fb, Option.bind_some, ey1, Option.bind_some, nI_add, ey2, Option.bind_some, ey3, Option.bind_some, nI_add]
            have hNB : NB (tlC (jnC C' b) b) = NB C' - 1 := by rw [tl_NB, jnC_NB]
            refine ⟨_, _, rfl, rfl, h9, tlC (jnC C' b) b, b, x4, FR_tr q2 x5, jn_OK q3 hb d1.1, ?_, by rw [hNB]; omega, by rw [hNB]; omega, Or.inr (by rw [hNB]; omega), rfl, rfl, rfl, by rw [hNB]⟩
            rw [hNB]; exact y4
          · exact absurd d1 d2
        · rcases hw with ⟨d2, _⟩ | ⟨_, w1⟩
          · exact absurd d2 d1
          · rw [z1, if_pos (show nI 0 = 0 from rfl), w1, if_pos (show nI 0 = 0 from rfl), nI_add]
            exact ⟨_, _, rfl, rfl, h9, C', b + 1, q1, q2, q3, ⟨rfl, kh, kT, kP, kF⟩, q5, by omega, q7, rfl, rfl, rfl, rfl⟩
      · obtain rfl : k = NB C - 1 := by omega
        refine Or.inr ?_
        rw [if_pos (nI_le (show NB C' ≤ b + 1 by omega) (by omega)), if_pos (nI_le (show NB C ≤ NB C - 1 + 1 by omega) (by omega))]
        exact ⟨_, _, rfl, rfl, C', q1, q2, q3, ⟨rfl, kh, kT, kP, kF⟩, q5, rfl⟩)
    rw [r_isCol hc, Option.bind_some, if_neg (show ¬ nI 1 = 0 by decide), ek, Option.bind_some, r_blocks hc hR1, Option.bind_some, n_l0, e1, Option.bind_some, r_blocks hc p1, Option.bind_some, k_col hc, Option.bind_some, if_pos rfl, show (1 : Int32) = nI 1 from rfl, e2, Option.bind_some, Option.bind_some, p6]
    exact ⟨_, _, rfl, rfl, rfl, MU_yes hc ek p2 p4 p3 p1⟩
  · simp (disch := omega) only [n_l0, n_l1, n_l2, n_l3, n_l4, n_l5, n_l6, n_l7, n_l8, n_l9, n_l15, n_l16, n_l17, n_l20, n_l24, n_l31, n_l32, n_l33, n_l36, n_l48, n_l49, n_l97, n_l128, n_l129, n_l192, n_l225, n_l256, n_l353, n_l400, n_l512, n_l593, n_l621, n_l640, n_l857, n_l1093, n_l1095, n_l2048, n_l3225, n_l10000, n_l22955, n_l29988, n_l29989, n_l65536, n_l99999, n_l1000000000, n_l2147483647, nI_add, pk_mul, pk_sub, pk_div, nI_clamp, ckN, nI_leI, nI_ltI, nI_eq, nI_nm1, Nat.add_zero, nI_addneg, k_ush, true_or, or_true, false_or, or_false, true_and, and_true, false_and, and_false, not_true_eq_false, not_false_eq_true, if_true, if_false, if_pos, if_neg, Option.bind_some, r_isColO hv, k_colO hv, Bool.false_eq_true]
    exact ⟨_, _, rfl, rfl, rfl, MU_no h'⟩
end Q
