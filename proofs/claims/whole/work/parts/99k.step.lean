/-! ===== a change of one column, over the state and the ring ===== -/
def setV (v : SV) (c : Nat) (x : CV4) : SV := if c = 0 then (v.1, v.2.1, x, v.2.2.2.1, v.2.2.2.2) else if c = 1 then (v.1, v.2.1, v.2.2.1, x, v.2.2.2.2) else (v.1, v.2.1, v.2.2.1, v.2.2.2.1, x)
theorem setV_col (v : SV) {c d : Nat} (x : CV4) (hc : c < 3) (hd : d < 3) : colV (setV v c x) d = if d = c then x else colV v d := by
  rcases (show c = 0 ∨ c = 1 ∨ c = 2 by omega) with rfl | rfl | rfl <;> rcases (show d = 0 ∨ d = 1 ∨ d = 2 by omega) with rfl | rfl | rfl <;> rfl
theorem setV_1 (v : SV) {c : Nat} (x : CV4) : (setV v c x).1 = v.1 ∧ (setV v c x).2.1 = v.2.1 := by
  unfold setV
  split
  · exact ⟨rfl, rfl⟩
  · split <;> exact ⟨rfl, rfl⟩
theorem COLc_other {a a' : Nat → Int32} {c d : Nat} {x : CV4} (hne : c ≠ d) (hd : d < 3) (hF : FR c a a') (h : COLc a d x) : COLc a' d x := by
  obtain ⟨C, h1, h2, h3⟩ := h
  refine ⟨C, h1, h2, fun c2 hc2 e => ?_⟩
  obtain rfl : d = c2 := (nI_eq (by omega) (by omega)).mp e
  exact RC_other h2 hne hF (h3 d hc2 rfl)
theorem SP_set {a a' : Nat → Int32} {v : SV} {c : Nat} {x : CV4} (hc : c < 3) (h : SP a v) (hF : FR c a a') (hx : COLc a' c x) : SP a' (setV v c x) := by
  obtain ⟨s1, s2⟩ := setV_1 v (c := c) x
  have hS := h
  obtain ⟨h1, ⟨P, tp, p1, p2, p3, p4, p5⟩, _⟩ := h
  have lo : ∀ i, i < 36 → a' i = a i := fun i hi => hF i (by unfold inC; omega)
  refine SP_of (by rw [s1, lo 2 (by omega)]; exact h1) ⟨P, tp, p1, by rw [s2]; exact p2, by rw [s2]; exact p3, by rw [lo 3 (by omega)]; exact p4, fun k hk => by rw [lo _ (by omega), lo _ (by omega)]; exact p5 k hk⟩ (fun d hd => ?_)
  rw [setV_col v x hc hd]
  by_cases e : d = c
  · rw [if_pos e, e]; exact hx
  · rw [if_neg e]; exact COLc_other (fun q => e q.symm) hd hF (SP_col hS hd)
/-- in range: a mutator of one column keeps the picture -/
theorem MU_step {a a' : Nat → Int32} {v : SV} {c : Nat} {kp : Bool} {f hh bk hd : Int32} {tl : Nat → Int64} {fc : Nat → Int32} {rows : Nat → Option RD} (hc : c < 3) (hS : SP a v) (hG : RG a f hh rows) (hM : MU a (nI c) kp a' bk hd tl fc) :
    SP a' (setV v c (bk, hd, tl, fc)) ∧ ((kp = false ∧ RG a' f hh rows) ∨ (kp = true ∧ ∃ k, k < 20 ∧ kpS f hh = some (nI k) ∧ ∀ old : SV, ∃ vnew, mirV old v = some vnew ∧ ∀ rows' : Nat → Option RD, (∃ r, rows' k = some r ∧ r.2.2 = vnew) → (∀ j, j ≠ k → rows' j = rows j) → RG a' (kpF f hh) (kpH hh) rows')) := by
  obtain ⟨C', hCol, h⟩ := hM
  rcases h with ⟨rfl, rfl⟩ | ⟨rfl, c2, a1, hc2, e, ek, hF⟩
  · exact ⟨SP_set hc hS (FR_rf c _) ⟨C', hCol⟩, Or.inl ⟨rfl, hG⟩⟩
  · obtain rfl : c = c2 := (nI_eq (by omega) (by omega)).mp e
    obtain ⟨a1', k, ek', hk, hkS, hlo, hr⟩ := RG_keep hG hS
    rw [ek] at ek'
    cases ek'
    refine ⟨SP_set hc (SP_cg hlo hS) hF ⟨C', hCol⟩, Or.inr ⟨rfl, k, hk, hkS, fun old => ?_⟩⟩
    obtain ⟨vnew, e1, e2⟩ := hr old
    exact ⟨vnew, e1, fun rows' q1 q2 => RG_fr (fun i hi => hF i (by unfold inC; omega)) (e2 rows' q1 q2)⟩
