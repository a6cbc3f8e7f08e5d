/-! ===== opening: parts and exceptions together ===== -/
section AllParts
variable {T : Nat} {tw hw : Nat → Int32}
theorem r_excO {pc wd ex pos f fp : Int32} {ps : Nat → Int64} (h : ¬ f = 0) : lp (pX10_readsParts_b45 pc (nI T) wd ex tw) FU (-1, 0, pos, f, fp, ps) = some (.inl (-1, 0, pos, f, fp, ps)) := by
  obtain ⟨r, e, hr⟩ := lpE (body := pX10_readsParts_b45 pc (nI T) wd ex tw) (fun _ s => s = (-1, 0, pos, f, fp, ps)) (fun r => r = .inl (-1, 0, pos, f, fp, ps)) 1 (-1, 0, pos, f, fp, ps) rfl (fun k s hk hI => by
    subst hI
    refine Or.inr ?_
    unfold pX10_readsParts_b45
    by_cases h1 : ex ≤ 0
    · exact ⟨_, if_pos h1, rfl⟩
    · exact ⟨_, by dsimp only; rw [if_neg h1, r_fineO h, Option.bind_some, if_pos rfl], rfl⟩)
  rw [e, hr]
theorem q_allParts {pc wd e ex : Nat} {fp wh : Int32} {ps : Nat → Int64} {ks : Nat → Int32} (hT : T ≤ 400) (hw_ : TW T tw hw) (hpc : pc ≤ 16) (hwd : wd ≤ 32) (hx : ex = 0 ∨ wd < 32) (hex : ex ≤ 15) (he : e ≤ 32 * T) :
    ∃ z y, pX10_readsParts (nI pc) (nI T) (nI e) 0 fp (nI wd) (nI ex) ps tw = some z ∧ pX4_openParts 0 wh (nI e) (nI wd) (nI pc) (nI T) hw ks = some y ∧ ((¬ y.1 = 0 ∧ z.1 = 0 ∧ FLT z.2.2.1 z.2.2.2.1 y.1 y.2.1) ∨ (y.1 = 0 ∧ ∃ x, pX4_openExceptions y.1 y.2.1 y.2.2.1 (nI wd) (nI ex) (nI pc) (nI T) hw y.2.2.2 = some x ∧ ((¬ x.1 = 0 ∧ z.1 = 0 ∧ FLT z.2.2.1 z.2.2.2.1 x.1 x.2.1) ∨ ∃ st : Nat × Nat × (Nat → Nat), e + wd * pc ≤ 32 * T ∧ eRun T tw pc wd (e + wd * pc) (lo tw e wd) ex = .inr st ∧ z.1 = 1 ∧ z.2.1 = nI st.2.1 ∧ z.2.2.1 = 0 ∧ z.2.2.2.1 = fp ∧ x.1 = 0 ∧ x.2.1 = wh ∧ x.2.2.1 = nI st.2.1 ∧ (∀ j, j < pc → z.2.2.2.2 j = lN (st.2.2 j)) ∧ ∀ j, j < pc → x.2.2.2 j = nI (st.2.2 j)))) := by
  obtain ⟨r, r2, e1, e2, h⟩ := q_parts (T := T) (tw := tw) (hw := hw) (pc := pc) (wd := wd) (e := e) (fp := fp) (wh := wh) (ps := ps) (ks := ks) hT hw_ hpc hwd he
  have e1' : lp (pX10_readsParts_b2 (nI pc) (nI T) (nI wd) tw) FU (0, nI e, 0, fp, ps) = some r := e1
  have e2' : lp (pX4_openParts_b2 (nI wd) (nI pc) (nI T) hw) FU (0, 0, wh, nI e, ks) = some r2 := e2
  unfold pX10_readsParts pX4_openParts
  rw [e1', e2', Option.bind_some, Option.bind_some]
  rcases h with h | ⟨h1, h2, h3, h4, h5, h6, h7, h8, h9⟩
  · rw [r_excO h.1, Option.bind_some]
    show ∃ z y, (pX10_isFine r.2.2.1).bind _ = some z ∧ _
    rw [r_fineO h.1, Option.bind_some]
    exact ⟨_, _, rfl, rfl, Or.inl ⟨by show ¬ r2.2.1 = 0; rw [h.2.1]; exact h.1, rfl, h⟩⟩
  · obtain ⟨x, ex_, l, hx_⟩ := k_exc (T := T) (tw := tw) (hw := hw) (pc := pc) (wd := wd) (e := e + wd * pc) (P0 := lo tw e wd) (wh := wh) (ks := r2.2.2.2.2) (ex := ex) hT hw_ hpc hx hex h1 h9
    obtain ⟨q, eq, hq⟩ := r_exc (T := T) (tw := tw) (pc := pc) (wd := wd) (e := e + wd * pc) (P0 := lo tw e wd) (fp := fp) (ps := r.2.2.2.2) (ex := ex) hT hpc hx hex h1 h8
    rw [h2, h3, h4, eq, Option.bind_some, h5, h6, h7]
    cases q with
    | inl s =>
      replace hq : RE (eRun T tw pc wd (e + wd * pc) (lo tw e wd) ex) fp pc s.1 s.2.2.1 s.2.2.2.1 s.2.2.2.2.1 s.2.2.2.2.2 := hq
      show ∃ z y, (pX10_isFine s.2.2.2.1).bind _ = some z ∧ _
      cases hE : eRun T tw pc wd (e + wd * pc) (lo tw e wd) ex with
      | inl b =>
        rw [hE] at hq hx_
        obtain ⟨a1, a2, a3⟩ := hq
        obtain ⟨b1, b2, b3⟩ := hx_
        rw [r_fineO a2, Option.bind_some]
        exact ⟨_, _, rfl, rfl, Or.inr ⟨rfl, x, ex_, Or.inl ⟨b2, rfl, a2, by rw [b1]; exact a1.symm, by rw [b3]; exact a3.symm⟩⟩⟩
      | inr st =>
        rw [hE] at hq hx_
        obtain ⟨a1, a2, a3, a4, a5⟩ := hq
        obtain ⟨b1, b2, b3, b4, b5⟩ := hx_
        rw [a1, r_fine0, Option.bind_some]
        exact ⟨_, _, rfl, rfl, Or.inr ⟨rfl, x, ex_, Or.inr ⟨st, h1, rfl, rfl, a4, rfl, a2, b1, b2, b4, a5, b5⟩⟩⟩
    | inr z =>
      obtain ⟨z1, l', ps', hz, hz2⟩ := hq
      show ∃ z_1 y, some z = some z_1 ∧ _
      cases hE : eRun T tw pc wd (e + wd * pc) (lo tw e wd) ex with
      | inl b =>
        rw [hE] at hz hx_
        obtain ⟨a1, a2, a3⟩ := hz
        obtain ⟨b1, b2, b3⟩ := hx_
        exact ⟨_, _, rfl, rfl, Or.inr ⟨rfl, x, ex_, Or.inl ⟨b2, z1, a2, by rw [b1]; exact a1.symm, by rw [b3]; exact a3.symm⟩⟩⟩
      | inr st =>
        rw [hE] at hz
        exact absurd hz.1 hz2
end AllParts
