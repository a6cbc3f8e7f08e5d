/-! ===== flush and walk, over the state and the ring ===== -/
theorem MX_step {E : Nat → Prop} (hE : ∀ i, E i → 2 ≤ i ∧ i < 36) {a a' : Nat → Int32} {v : SV} {c : Nat} {kp : Bool} {f hh bk hd x' ph' : Int32} {pt' : Nat → Int64} {tl : Nat → Int64} {fc : Nat → Int32} {rows : Nat → Option RD} (hc : c < 3) (hS : SP a v) (hG : RG a f hh rows) (hM : MX E a (nI c) kp a' bk hd tl fc) (hx : a' 2 = x') (hp : ∃ P tp, PD a' ph' pt' P tp) :
    SP a' (setV (x', (ph', pt'), v.2.2) c (bk, hd, tl, fc)) ∧ ((kp = false ∧ RG a' f hh rows) ∨ (kp = true ∧ ∃ k, k < 20 ∧ kpS f hh = some (nI k) ∧ ∀ old : SV, ∃ vnew, mirV old v = some vnew ∧ ∀ rows' : Nat → Option RD, (∃ r, rows' k = some r ∧ r.2.2 = vnew) → (∀ j, j ≠ k → rows' j = rows j) → RG a' (kpF f hh) (kpH hh) rows')) := by
  obtain ⟨C', hCol, h⟩ := hM
  have core : ∀ a1 : Nat → Int32, SP a1 v → (∀ i, ¬ inC c i → ¬ E i → a' i = a1 i) → SP a' (setV (x', (ph', pt'), v.2.2) c (bk, hd, tl, fc)) := fun a1 h1 hF => by
    obtain ⟨s1, s2⟩ := setV_1 ((x', (ph', pt'), v.2.2) : SV) (c := c) (bk, hd, tl, fc)
    refine SP_of (by rw [s1]; exact hx) (by rw [s2]; exact hp) (fun d hd' => ?_)
    rw [setV_col _ _ hc hd']
    by_cases e : d = c
    · rw [if_pos e, e]; exact ⟨C', hCol⟩
    · rw [if_neg e]
      exact COLc_move hd' hd' (fun i hi => hF _ (by unfold inC; omega) (fun q => by have := hE _ q; omega)) (SP_col h1 hd')
  rcases h with ⟨rfl, rfl⟩ | ⟨rfl, c2, a1, hc2, e, ek, hF⟩
  · exact ⟨core _ hS (fun _ _ _ => rfl), Or.inl ⟨rfl, hG⟩⟩
  · obtain rfl : c = c2 := (nI_eq (by omega) (by omega)).mp e
    obtain ⟨a1', k, ek', hk, hkS, hlo, hr⟩ := RG_keep hG hS
    rw [ek] at ek'
    cases ek'
    refine ⟨core _ (SP_cg hlo hS) hF, Or.inr ⟨rfl, k, hk, hkS, fun old => ?_⟩⟩
    obtain ⟨vnew, e1, e2⟩ := hr old
    exact ⟨vnew, e1, fun rows' q1 q2 => RG_fr (fun i hi => hF i (by unfold inC; omega) (fun q => by have := hE _ q; omega)) (e2 rows' q1 q2)⟩
