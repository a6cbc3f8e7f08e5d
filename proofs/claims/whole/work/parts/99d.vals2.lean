/-! ===== opening: values and base, both sides ===== -/
section Vals2
variable {T : Nat} {tw hw : Nat → Int32}
/-- the base is the least value, where the form asks it -/
def BOK (fm V : Nat) (B S : Int32) (P : Nat → Nat) : Prop := fm = 0 → lv (gv fm B S P) V = B
theorem k_vals {b p n R fm wd ex at_ : Nat} {wh B S ba : Int32} {P : Nat → Nat} {ks : Nat → Int32} {tl : Nat → Int64} {fc : Nat → Int32} (hT : T ≤ 400) (hw_ : TW T tw hw) (hb : b < 24) (hp : p ≤ at_) (ha : at_ ≤ 32 * T) (hn : n ≤ 16) (hR : R + n ≤ 128) (hf : fm ≤ 2) (hk : ∀ j, j < pcn fm (n - mV tw p n) → ks j = nI (P j)) (hP : ∀ j, j < pcn fm (n - mV tw p n) → P j < 2 ^ 32) :
    ∃ z, pX4_takeValues 128 0 wh (nI at_) (nI p) (nI n) (nI (mM tw p n)) (nI (n - mV tw p n)) (nI fm) (nI wd) (nI ex) B ba S (nI T) hw ks (nI b) (nI R) tl fc = some z ∧ ((¬ BOK fm (n - mV tw p n) B S P ∧ z.1 = 6 ∧ z.2.1 = ba) ∨ (BOK fm (n - mV tw p n) B S P ∧ (if num tw at_ (pd at_) = 0 then z.1 = 0 ∧ z.2.1 = wh else z.1 = 7 ∧ z.2.1 = nI at_) ∧ z.2.2.1 = nI (at_ + pd at_) ∧ z.2.2.2.1 = nI (b + 1) ∧ z.2.2.2.2.1 = nI (R + n) ∧ (∀ j, j < R → z.2.2.2.2.2.1 j = tl j) ∧ (∀ i, i < n → z.2.2.2.2.2.1 (R + i) = enc (tE tw p (gv fm B S P) i)) ∧ z.2.2.2.2.2.2 (b * 8) = nI n ∧ z.2.2.2.2.2.2 (b * 8 + 1) = nI (n - mV tw p n) ∧ z.2.2.2.2.2.2 (b * 8 + 2) = nI fm ∧ z.2.2.2.2.2.2 (b * 8 + 3) = nI wd ∧ z.2.2.2.2.2.2 (b * 8 + 4) = nI ex ∧ z.2.2.2.2.2.2 (b * 8 + 5) = nI (at_ - p) ∧ z.2.2.2.2.2.2 (b * 8 + 6) = B ∧ z.2.2.2.2.2.2 (b * 8 + 7) = S ∧ ∀ j, j < b * 8 → z.2.2.2.2.2.2 j = fc j)) := by
  obtain ⟨r, er, r1, r2, r3, r4⟩ := k_take (tw := tw) (p := p) (n := n) (R := R) (fm := fm) (B := B) (S := S) (P := P) (ks := ks) (tl := tl) hn hR hf hk hP
  have er' : lp (pX4_takeValues_b14 128 (nI n) (nI (mM tw p n)) (nI fm) B S ks) FU (0, B, 2147483647, 0, nI R, tl) = some r := er
  have good : BOK fm (n - mV tw p n) B S P → ∃ z, pX4_takeValues_j130 128 0 wh (nI at_) (nI p) (nI n) (nI (n - mV tw p n)) (nI fm) (nI wd) (nI ex) B S (nI T) hw (nI b) r.2.2.2.2.1 r.2.2.2.2.2 fc = some z ∧ ((¬ BOK fm (n - mV tw p n) B S P ∧ z.1 = 6 ∧ z.2.1 = ba) ∨ (BOK fm (n - mV tw p n) B S P ∧ (if num tw at_ (pd at_) = 0 then z.1 = 0 ∧ z.2.1 = wh else z.1 = 7 ∧ z.2.1 = nI at_) ∧ z.2.2.1 = nI (at_ + pd at_) ∧ z.2.2.2.1 = nI (b + 1) ∧ z.2.2.2.2.1 = nI (R + n) ∧ (∀ j, j < R → z.2.2.2.2.2.1 j = tl j) ∧ (∀ i, i < n → z.2.2.2.2.2.1 (R + i) = enc (tE tw p (gv fm B S P) i)) ∧ z.2.2.2.2.2.2 (b * 8) = nI n ∧ z.2.2.2.2.2.2 (b * 8 + 1) = nI (n - mV tw p n) ∧ z.2.2.2.2.2.2 (b * 8 + 2) = nI fm ∧ z.2.2.2.2.2.2 (b * 8 + 3) = nI wd ∧ z.2.2.2.2.2.2 (b * 8 + 4) = nI ex ∧ z.2.2.2.2.2.2 (b * 8 + 5) = nI (at_ - p) ∧ z.2.2.2.2.2.2 (b * 8 + 6) = B ∧ z.2.2.2.2.2.2 (b * 8 + 7) = S ∧ ∀ j, j < b * 8 → z.2.2.2.2.2.2 j = fc j)) := fun hB => by
    obtain ⟨f', kd, wh', e, h1, h2⟩ := k_j130 (T := T) (tw := tw) (hw := hw) (b := b) (p := p) (n := n) (V := n - mV tw p n) (fm := fm) (wd := wd) (ex := ex) (at_ := at_) (wh := wh) (B := B) (S := S) (hd := r.2.2.2.2.1) (tl := r.2.2.2.2.2) (fc := fc) hT hw_ hb hp ha
    exact ⟨_, e, Or.inr ⟨hB, h1, rfl, rfl, r2, r3, r4, h2⟩⟩
  have bad : ¬ BOK fm (n - mV tw p n) B S P → ∃ z, (pX4_refuse 6 ba 0 wh).bind (fun k127 => pX4_takeValues_j130 128 k127.1 k127.2 (nI at_) (nI p) (nI n) (nI (n - mV tw p n)) (nI fm) (nI wd) (nI ex) B S (nI T) hw (nI b) r.2.2.2.2.1 r.2.2.2.2.2 fc) = some z ∧ z.1 = 6 ∧ z.2.1 = ba := fun hB => by
    unfold pX4_refuse
    rw [if_pos rfl, Option.bind_some]
    exact k_j130O hb hp (by omega) (show ¬ (6 : Int32) = 0 by decide)
  unfold pX4_takeValues pX4_takeValues_j117
  rw [er', Option.bind_some]
  by_cases f0 : fm = 0
  · rw [if_pos (show nI fm = 0 by rw [f0]; rfl)]
    have hle := mV_le tw p n
    by_cases v0 : n - mV tw p n = 0
    · rw [if_pos (show nI (n - mV tw p n) ≤ 0 by rw [v0]; decide)]
      by_cases hB : B = 0
      · rw [if_pos hB]
        exact good (fun _ => by rw [v0, hB]; rfl)
      · rw [if_neg hB]
        have hnb : ¬ BOK fm (n - mV tw p n) B S P := fun q => hB (by have := q f0; rw [v0] at this; exact this.symm)
        obtain ⟨z, e, z1, z2⟩ := bad hnb
        exact ⟨z, e, Or.inl ⟨hnb, z1, z2⟩⟩
    · rw [if_neg (show ¬ nI (n - mV tw p n) ≤ 0 by rw [n_l0, nI_leI (by omega) (by omega)]; omega), r1]
      obtain ⟨d, hd⟩ : ∃ d, n - mV tw p n = d + 1 := ⟨n - mV tw p n - 1, by omega⟩
      have hmn : mnS (gv fm B S P) (n - mV tw p n) = lv (gv fm B S P) (n - mV tw p n) := by rw [hd, mnS_1]; rfl
      rw [hmn]
      by_cases hB : B = lv (gv fm B S P) (n - mV tw p n)
      · rw [if_pos hB]
        exact good (fun _ => hB.symm)
      · rw [if_neg hB]
        have hnb : ¬ BOK fm (n - mV tw p n) B S P := fun q => hB (q f0).symm
        obtain ⟨z, e, z1, z2⟩ := bad hnb
        exact ⟨z, e, Or.inl ⟨hnb, z1, z2⟩⟩
  · rw [if_neg (show ¬ nI fm = 0 by rw [n_l0, nI_eq (by omega) (by omega)]; exact f0)]
    exact good (fun q => absurd q f0)
theorem r_vals {p n R fm : Nat} {fp B S ba : Int32} {P : Nat → Nat} {ps : Nat → Int64} {rd : Nat → Int32} (hn : n ≤ 16) (hR : R + n ≤ 128) (hf : fm ≤ 2) (hk : ∀ j, j < pcn fm (n - mV tw p n) → ps j = lN (P j)) (hP : ∀ j, j < pcn fm (n - mV tw p n) → P j < 2 ^ 32) (hrd : ∀ i, i < n → rd (225 + R + i) = if mE tw p i then nI 1 else nI 0) :
    ∃ z, pX10_laysValues (nI R) 0 fp (nI n) (nI (n - mV tw p n)) (nI fm) B S ba ps rd = some z ∧ ((¬ BOK fm (n - mV tw p n) B S P ∧ z.1 = 0 ∧ z.2.1 = 6 ∧ z.2.2.1 = ba) ∨ (BOK fm (n - mV tw p n) B S P ∧ z.1 = 1 ∧ z.2.1 = 0 ∧ z.2.2.1 = fp ∧ (∀ i, i < n → z.2.2.2 (97 + R + i) = vv (tE tw p (gv fm B S P) i)) ∧ ∀ j, ¬ (97 + R ≤ j ∧ j < 97 + R + n) → z.2.2.2 j = rd j)) := by
  have hle := mV_le tw p n
  have main : ∀ t0 : Int32, (fm = 0 → ((¬ t0 = 0) ↔ (n - mV tw p n = 0 ∧ B = 0))) → ∃ z, pX10_laysValues_j26 B 0 t0 (nI R) 0 fp (nI n) (nI fm) B S ba ps rd = some z ∧ ((¬ BOK fm (n - mV tw p n) B S P ∧ z.1 = 0 ∧ z.2.1 = 6 ∧ z.2.2.1 = ba) ∨ (BOK fm (n - mV tw p n) B S P ∧ z.1 = 1 ∧ z.2.1 = 0 ∧ z.2.2.1 = fp ∧ (∀ i, i < n → z.2.2.2 (97 + R + i) = vv (tE tw p (gv fm B S P) i)) ∧ ∀ j, ¬ (97 + R ≤ j ∧ j < 97 + R + n) → z.2.2.2 j = rd j)) := fun t0 ht => by
    obtain ⟨r, er, r1, r2, r3, r4⟩ := r_lays (tw := tw) (p := p) (n := n) (R := R) (fm := fm) (B := B) (S := S) (t0 := t0) (P := P) (ps := ps) (rd := rd) hn hR hf hk hP hrd
    have er' : lp (pX10_laysValues_b36 (nI R) (nI n) (nI fm) B S ps) FU (B, 0, t0, 0, nI R, rd) = some r := er
    unfold pX10_laysValues_j26 pX10_laysValues_j219 pX10_wrong
    rw [er', Option.bind_some]
    by_cases f0 : fm = 0
    · rw [if_neg (show ¬ (0 : Int32) < nI fm by rw [f0]; decide)]
      have hiff : BOK fm (n - mV tw p n) B S P ↔ (¬ r.2.2.1 = 0 ∧ r.2.2.2.1 = 0) := by
        rw [r1, r2]
        have ht' := ht f0
        cases hv : n - mV tw p n with
        | zero =>
          rw [hv] at ht'
          constructor
          · intro q
            have hB : B = 0 := (q f0).symm
            exact ⟨fun g => (ht'.mpr ⟨rfl, hB⟩) g.1, fun j hj => absurd hj (Nat.not_lt_zero j)⟩
          · intro ⟨q, _⟩ _
            have : ¬ t0 = 0 := fun g => q ⟨g, fun j hj => absurd hj (Nat.not_lt_zero j)⟩
            show (0 : Int32) = B
            exact (ht'.mp this).2.symm
        | succ d =>
          rw [hv] at ht'
          have hz : t0 = 0 := by
            by_cases g : t0 = 0
            · exact g
            · exact absurd (ht'.mp g).1 (Nat.succ_ne_zero d)
          have hl := lvs_iff (gv fm B S P) d B
          constructor
          · intro q
            obtain ⟨⟨j, j1, j2⟩, hB⟩ := hl.mp (q f0)
            exact ⟨fun g => g.2 j j1 j2, hB⟩
          · intro ⟨q1, q2⟩ _
            refine hl.mpr ⟨?_, q2⟩
            by_cases hex : ∃ j, j < d + 1 ∧ gv fm B S P j = B
            · exact hex
            · exact absurd ⟨hz, fun j j1 j2 => hex ⟨j, j1, j2⟩⟩ q1
      by_cases g3 : r.2.2.1 = 0
      · rw [if_pos g3, Option.bind_some, if_pos rfl]
        exact ⟨_, rfl, Or.inl ⟨fun q => (hiff.mp q).1 g3, rfl, rfl, rfl⟩⟩
      · rw [if_neg g3]
        by_cases g4 : r.2.2.2.1 = 0
        · rw [if_pos g4]
          exact ⟨_, rfl, Or.inr ⟨hiff.mpr ⟨g3, g4⟩, rfl, rfl, rfl, r3, r4⟩⟩
        · rw [if_neg g4, Option.bind_some, if_pos rfl]
          exact ⟨_, rfl, Or.inl ⟨fun q => g4 (hiff.mp q).2, rfl, rfl, rfl⟩⟩
    · rw [if_pos (show (0 : Int32) < nI fm from nI_lt (a := 0) (by omega) (by omega))]
      exact ⟨_, rfl, Or.inr ⟨fun q => absurd q f0, rfl, rfl, rfl, r3, r4⟩⟩
  unfold pX10_laysValues pX10_laysValues_j25
  by_cases v0 : n - mV tw p n = 0
  · rw [if_pos (show nI (n - mV tw p n) = 0 by rw [v0]; rfl)]
    by_cases hB : B = 0
    · rw [if_pos hB]
      exact main 1 (fun _ => ⟨fun _ => ⟨v0, hB⟩, fun _ => by decide⟩)
    · rw [if_neg hB]
      exact main 0 (fun _ => ⟨fun q => absurd rfl q, fun q => absurd q.2 hB⟩)
  · rw [if_neg (show ¬ nI (n - mV tw p n) = 0 by rw [n_l0, nI_eq (by omega) (by omega)]; exact v0)]
    exact main 0 (fun _ => ⟨fun q => absurd rfl q, fun q => absurd q.1 v0⟩)
end Vals2
