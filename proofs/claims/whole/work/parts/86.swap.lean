/-! ===== swap, about ===== -/
def colV (v : SV) (c : Nat) : CV4 := if c = 0 then v.2.2.1 else if c = 1 then v.2.2.2.1 else v.2.2.2.2
theorem SP_col {b : Nat → Int32} {v : SV} (h : SP b v) {c : Nat} (hc : c < 3) : COLc b c (colV v c) := by
  obtain ⟨_, _, h0, h1, h2⟩ := h
  rcases (show c = 0 ∨ c = 1 ∨ c = 2 by omega) with rfl | rfl | rfl
  · exact h0
  · exact h1
  · exact h2
theorem SP_of {b : Nat → Int32} {v : SV} (h1 : b 2 = v.1) (h2 : ∃ P tp, PD b v.2.1.1 v.2.1.2 P tp) (h : ∀ c, c < 3 → COLc b c (colV v c)) : SP b v := ⟨h1, h2, h 0 (by omega), h 1 (by omega), h 2 (by omega)⟩
def pvV (p : Nat → Nat) (v : SV) : SV := (v.1, v.2.1, colV v (p 0), colV v (p 1), colV v (p 2))
theorem pv_col (p : Nat → Nat) (v : SV) {c : Nat} (hc : c < 3) : colV (pvV p v) c = colV v (p c) := by
  rcases (show c = 0 ∨ c = 1 ∨ c = 2 by omega) with rfl | rfl | rfl <;> rfl
def swP (c d i : Nat) : Nat := if i = c then d else if i = d then c else i
theorem RC_move {a a' : Nat → Int32} {c d : Nat} {C : AC} (ho : OKC C) (e : ∀ i, i < 353 → a' (36 + 353 * c + i) = a (36 + 353 * d + i)) (h : RCa a d C) : RCa a' c C := by
  have hn := ho.1
  have hl := ho.2.1
  obtain ⟨h1, h2, h3⟩ := h
  refine ⟨(e 0 (by omega)).trans h1, fun b hb => ?_, fun k hk => ?_⟩
  · obtain ⟨g1, g2, g3, g4⟩ := h2 b hb
    have q0 := e (1 + 4 * b) (by omega)
    have q1 := e (1 + 4 * b + 1) (by omega)
    have q2 := e (1 + 4 * b + 2) (by omega)
    have q3 := e (1 + 4 * b + 3) (by omega)
    rw [← Nat.add_assoc, ← Nat.add_assoc] at q0
    rw [← Nat.add_assoc, ← Nat.add_assoc, ← Nat.add_assoc, ← Nat.add_assoc] at q1 q2 q3
    exact ⟨q0.trans g1, q1.trans g2, q2.trans g3, q3.trans g4⟩
  · have hk' : k < HL C := hk
    obtain ⟨g1, g2⟩ := h3 k hk
    have q0 := e (97 + k) (by omega)
    have q1 := e (225 + k) (by omega)
    rw [← Nat.add_assoc, ← Nat.add_assoc] at q0 q1
    exact ⟨q0.trans g1, q1.trans g2⟩
theorem COLc_move {a a' : Nat → Int32} {c d : Nat} (hc : c < 3) (hd : d < 3) {v : CV4} (e : ∀ i, i < 353 → a' (36 + 353 * c + i) = a (36 + 353 * d + i)) (h : COLc a d v) : COLc a' c v := by
  obtain ⟨C, h1, h2, h3⟩ := h
  refine ⟨C, h1, h2, fun c' hc' e' => ?_⟩
  obtain rfl : c = c' := (nI_eq (by omega) (by omega)).mp e'
  exact RC_move h2 e (h3 d hd rfl)
theorem q_swap {a : Nat → Int32} {v : SV} {v1 v2 : Int32} {xc : Nat → Option Nat} {ac1 ac2 : Nat} {f h0 : Nat} (ha0 : a 0 = nI h0) (ha1 : a 1 = nI f) (hh : h0 ≤ 20) (hf : f < 20) (h : SP a v) :
    ∃ z w, pX10_swap v1 v2 a = some z ∧ pX9_swap 16 128 128 ac1 ac2 v1 v2 xc = some w ∧ w.1 = z.1 ∧ ((w.2.1 = false ∧ z.2 = a ∧ w.2.2 = xc) ∨ ∃ c d a1, c < 3 ∧ d < 3 ∧ c ≠ d ∧ v1 = nI c ∧ v2 = nI d ∧ w.2.1 = true ∧ w.2.2 = va_up (va_up xc c (some ac2)) d (some ac1) ∧ pX10_keep a = some a1 ∧ (∀ i, i < 36 ∨ 1095 ≤ i → z.2 i = a1 i) ∧ SP z.2 (pvV (swP c d) v)) := by
  unfold pX10_swap pX9_swap
  rcases col_cases v1 with ⟨c, hc, rfl⟩ | hv
  · rw [r_isCol hc, Option.bind_some, if_neg (show ¬ nI 1 = 0 by decide), k_col hc, Option.bind_some, if_pos rfl]
    rcases col_cases v2 with ⟨d, hd, rfl⟩ | hv
    · rw [r_isCol hd, Option.bind_some, if_neg (show ¬ nI 1 = 0 by decide), k_col hd, Option.bind_some, if_pos rfl]
      by_cases hcd : c = d
      · subst hcd
        rw [if_pos rfl, if_pos rfl]
        exact ⟨_, _, rfl, rfl, rfl, Or.inl ⟨rfl, rfl, rfl⟩⟩
      · have hne : ¬ nI c = nI d := by rw [nI_eq (by omega) (by omega)]; exact hcd
        obtain ⟨a1, ek, k1, k2, k3, _⟩ := r_keep ha0 ha1 hh hf
        obtain ⟨r, er, hr⟩ := r_swapN hc hd hcd a1
        have hS1 : SP a1 v := SP_cg k3 h
        unfold pX7_exchange
        rw [if_neg hne, if_neg hne, ek, Option.bind_some, n_l0, n_l3, er, Option.bind_some, if_neg (show ¬ nI c < nI 0 by rw [nI_ltI (by omega) (by omega)]; omega), if_neg (show ¬ nI 3 ≤ nI c by rw [nI_leI (by omega) (by omega)]; omega), if_neg (show ¬ nI d < nI 0 by rw [nI_ltI (by omega) (by omega)]; omega), if_neg (show ¬ nI 3 ≤ nI d by rw [nI_leI (by omega) (by omega)]; omega), ckN (by omega) (by omega), ckN (by omega) (by omega), ckN (by omega) (by omega), ckN (by omega) (by omega), nI_clamp (by omega), nI_clamp (by omega), Option.bind_some]
        refine ⟨_, _, rfl, rfl, rfl, Or.inr ⟨c, d, a1, hc, hd, hcd, rfl, rfl, rfl, rfl, rfl, fun i hi => ?_, ?_⟩⟩
        · show r.2 i = _
          rw [hr, if_neg (by omega), if_neg (by omega)]
        · have hlo : ∀ i, i < 36 → r.2 i = a1 i := fun i hi => by rw [hr, if_neg (by omega), if_neg (by omega)]
          obtain ⟨p1, ⟨P, tp, o1, o2, o3, o4, o5⟩, _⟩ := hS1
          refine SP_of ((hlo 2 (by omega)).trans p1) ⟨P, tp, o1, o2, o3, (hlo 3 (by omega)).trans o4, fun k hk => ?_⟩ (fun q hq => ?_)
          · show r.2 (4 + k) = _ ∧ r.2 (20 + k) = _
            rw [hlo (4 + k) (by omega), hlo (20 + k) (by omega)]
            exact o5 k hk
          · rw [pv_col _ _ hq]
            have hp : swP c d q < 3 := by unfold swP; split; exact hd; split; exact hc; exact hq
            refine COLc_move hq hp (fun i hi => ?_) (SP_col (SP_cg k3 h) hp)
            show r.2 _ = _
            rw [hr]
            unfold swP
            by_cases e1 : q = c
            · subst e1
              rw [if_pos (by omega), if_pos rfl]
              exact congrArg a1 (by omega)
            · rw [if_neg e1, if_neg (by omega)]
              by_cases e2 : q = d
              · subst e2
                rw [if_pos (by omega), if_pos rfl]
                exact congrArg a1 (by omega)
              · rw [if_neg e2, if_neg (by omega)]
    · rw [r_isColO hv, Option.bind_some, if_pos (show nI 0 = 0 from rfl), k_colO hv, Option.bind_some, if_neg Bool.false_ne_true]
      exact ⟨_, _, rfl, rfl, rfl, Or.inl ⟨rfl, rfl, rfl⟩⟩
  · rw [r_isColO hv, Option.bind_some, if_pos (show nI 0 = 0 from rfl), k_colO hv, Option.bind_some, if_neg Bool.false_ne_true]
    exact ⟨_, _, rfl, rfl, rfl, Or.inl ⟨rfl, rfl, rfl⟩⟩
theorem q_about {a : Nat → Int32} {v : SV} {v1 f hh tp : Int32} {rows : Nat → Option RD} (h : SP a v) (hR : RG a f hh rows) : ∃ r, pX10_about v1 tp a = some r ∧ pX9_about v1 v.1 v.2.1.1 hh tp = some r := by
  obtain ⟨h1, ⟨P, t, o1, o2, o3, o4, o5⟩, _⟩ := h
  obtain ⟨fr, fk, n, _, _, _, h4, h5, _, h7, _⟩ := hR
  unfold pX10_about pX9_about
  rw [n_l0, n_l1, n_l2, n_l3, ckN (by omega) (by omega), ckN (by omega) (by omega), ckN (by omega) (by omega), nI_clamp (by omega), nI_clamp (by omega), nI_clamp (by omega), h1, h4, o4, o2, h7]
  by_cases c0 : v1 = nI 0
  · rw [if_pos c0]; exact ⟨_, rfl, rfl⟩
  · rw [if_neg c0]
    by_cases c1 : v1 = nI 1
    · rw [if_pos c1]; exact ⟨_, rfl, rfl⟩
    · rw [if_neg c1]
      by_cases c2 : v1 = nI 2
      · rw [if_pos c2]; exact ⟨_, rfl, rfl⟩
      · rw [if_neg c2]
        by_cases c3 : v1 = nI 3
        · rw [if_pos c3]; exact ⟨_, rfl, rfl⟩
        · rw [if_neg c3]; exact ⟨_, rfl, rfl⟩
