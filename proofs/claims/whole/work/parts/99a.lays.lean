/-! ===== opening: the values, in the reference ===== -/
theorem lvs_min (g : Nat → Int32) : ∀ k, (∀ j, j ≤ k → lvs g k ≤ g j) ∧ ∃ j, j ≤ k ∧ g j = lvs g k := by
  intro k
  induction k with
  | zero => exact ⟨fun j hj => by rw [show j = 0 by omega]; exact Int32.le_refl _, 0, Nat.le_refl _, rfl⟩
  | succ m ih =>
    obtain ⟨i1, j, i2, i3⟩ := ih
    have e : lvs g (m + 1) = if lvs g m ≤ g (m + 1) then lvs g m else g (m + 1) := rfl
    rw [e]
    by_cases h : lvs g m ≤ g (m + 1)
    · rw [if_pos h]
      refine ⟨fun q hq => ?_, j, by omega, i3⟩
      by_cases hq2 : q = m + 1
      · rw [hq2]; exact h
      · exact i1 q (by omega)
    · rw [if_neg h]
      have h' : g (m + 1) ≤ lvs g m := by
        rw [Int32.le_iff_toInt_le] at h ⊢
        omega
      refine ⟨fun q hq => ?_, m + 1, Nat.le_refl _, rfl⟩
      by_cases hq2 : q = m + 1
      · rw [hq2]; exact Int32.le_refl _
      · exact Int32.le_trans h' (i1 q (by omega))
theorem lvs_iff (g : Nat → Int32) (k : Nat) (B : Int32) : lvs g k = B ↔ ((∃ j, j < k + 1 ∧ g j = B) ∧ ∀ j, j < k + 1 → B ≤ g j) := by
  obtain ⟨h1, j, h2, h3⟩ := lvs_min g k
  constructor
  · intro h
    rw [h] at h1 h3
    exact ⟨⟨j, by omega, h3⟩, fun q hq => h1 q (by omega)⟩
  · intro ⟨⟨q, hq, e⟩, hB⟩
    have a1 := h1 q (by omega)
    rw [e] at a1
    have a2 := hB j (by omega)
    rw [h3] at a2
    rw [Int32.le_iff_toInt_le] at a1 a2
    exact Int32.toInt_inj.mp (by omega)
section LaysR
variable {tw : Nat → Int32}
def s3 (v3 val B : Int32) : Int32 := if v3 = 0 then (if val = B then 1 else 0) else 1
def s4 (v4 val B : Int32) : Int32 := if v4 = 0 then (if B ≤ val then 0 else 1) else 1
theorem r_j145 {c q : Nat} {val v3 v4 B : Int32} {rd : Nat → Int32} (hq : q < 128) : pX10_laysValues_b36j145 val (nI c) v3 v4 (nI q) B rd = some (.inl (val, nI (c + 1), s3 v3 val B, s4 v4 val B, nI (q + 1), upd rd (97 + q) val)) := by
  unfold pX10_laysValues_b36j145 pX10_laysValues_b36j168 pX10_laysValues_b36j173 pX10_laysValues_b36j187 pX10_laysValues_b36j192 pX10_laysValues_b36j197 s3 s4
  rw [n_l97, nI_add, ckN (by omega) (by omega), nI_clamp (by omega), n_l1, nI_add, nI_add]
  by_cases h1 : v3 = 0
  · rw [if_pos h1, if_pos h1]
    by_cases h2 : val = B
    · rw [if_pos h2, if_pos h2]
      by_cases h3 : v4 = 0
      · rw [if_pos h3, if_pos h3]
        by_cases h4 : B ≤ val
        · rw [if_pos h4, if_pos h4]
        · rw [if_neg h4, if_neg h4]
      · rw [if_neg h3, if_neg h3]
    · rw [if_neg h2, if_neg h2]
      by_cases h3 : v4 = 0
      · rw [if_pos h3, if_pos h3]
        by_cases h4 : B ≤ val
        · rw [if_pos h4, if_pos h4]
        · rw [if_neg h4, if_neg h4]
      · rw [if_neg h3, if_neg h3]
  · rw [if_neg h1, if_neg h1]
    by_cases h3 : v4 = 0
    · rw [if_pos h3, if_pos h3]
      by_cases h4 : B ≤ val
      · rw [if_pos h4, if_pos h4]
      · rw [if_neg h4, if_neg h4]
    · rw [if_neg h3, if_neg h3]
theorem s3_0 {v3 val B : Int32} : s3 v3 val B = 0 ↔ v3 = 0 ∧ ¬ val = B := by
  unfold s3
  by_cases h1 : v3 = 0
  · rw [if_pos h1]
    by_cases h2 : val = B
    · rw [if_pos h2]; exact ⟨fun q => absurd q (by decide), fun q => absurd h2 q.2⟩
    · rw [if_neg h2]; exact ⟨fun _ => ⟨h1, h2⟩, fun _ => rfl⟩
  · rw [if_neg h1]; exact ⟨fun q => absurd q (by decide), fun q => absurd q.1 h1⟩
theorem s4_0 {v4 val B : Int32} : s4 v4 val B = 0 ↔ v4 = 0 ∧ B ≤ val := by
  unfold s4
  by_cases h1 : v4 = 0
  · rw [if_pos h1]
    by_cases h2 : B ≤ val
    · rw [if_pos h2]; exact ⟨fun _ => ⟨h1, h2⟩, fun _ => rfl⟩
    · rw [if_neg h2]; exact ⟨fun q => absurd q (by decide), fun q => absurd q.2 h2⟩
  · rw [if_neg h1]; exact ⟨fun q => absurd q (by decide), fun q => absurd q.1 h1⟩
theorem r_lays {p n R fm : Nat} {B S t0 : Int32} {P : Nat → Nat} {ps : Nat → Int64} {rd : Nat → Int32} (hn : n ≤ 16) (hR : R + n ≤ 128) (hf : fm ≤ 2) (hk : ∀ j, j < pcn fm (n - mV tw p n) → ps j = lN (P j)) (hP : ∀ j, j < pcn fm (n - mV tw p n) → P j < 2 ^ 32) (hrd : ∀ i, i < n → rd (225 + R + i) = if mE tw p i then nI 1 else nI 0) :
    ∃ r, lp (pX10_laysValues_b36 (nI R) (nI n) (nI fm) B S ps) FU (B, nI 0, t0, 0, nI R, rd) = some r ∧ (r.2.2.1 = 0 ↔ t0 = 0 ∧ ∀ j, j < n - mV tw p n → ¬ gv fm B S P j = B) ∧ (r.2.2.2.1 = 0 ↔ ∀ j, j < n - mV tw p n → B ≤ gv fm B S P j) ∧ (∀ i, i < n → r.2.2.2.2.2 (97 + R + i) = vv (tE tw p (gv fm B S P) i)) ∧ ∀ j, ¬ (97 + R ≤ j ∧ j < 97 + R + n) → r.2.2.2.2.2 j = rd j := by
  refine lpE (body := pX10_laysValues_b36 (nI R) (nI n) (nI fm) B S ps) (fun k s => (k - mV tw p k = 0 → s.1 = B) ∧ (∀ d, k - mV tw p k = d + 1 → s.1 = gv fm B S P d) ∧ s.2.1 = nI (k - mV tw p k) ∧ (s.2.2.1 = 0 ↔ t0 = 0 ∧ ∀ j, j < k - mV tw p k → ¬ gv fm B S P j = B) ∧ (s.2.2.2.1 = 0 ↔ ∀ j, j < k - mV tw p k → B ≤ gv fm B S P j) ∧ s.2.2.2.2.1 = nI (R + k) ∧ (∀ i, i < k → s.2.2.2.2.2 (97 + R + i) = vv (tE tw p (gv fm B S P) i)) ∧ ∀ j, ¬ (97 + R ≤ j ∧ j < 97 + R + k) → s.2.2.2.2.2 j = rd j) _ n (B, nI 0, t0, 0, nI R, rd) ⟨fun _ => rfl, fun d h => absurd h (by have : mV tw p 0 = 0 := rfl; omega), rfl, ⟨fun q => ⟨q, fun j hj => absurd hj (by omega)⟩, fun q => q.1⟩, ⟨fun _ j hj => absurd hj (by omega), fun _ => rfl⟩, rfl, fun i hi => absurd hi (Nat.not_lt_zero i), fun _ _ => rfl⟩ (fun k s hk9 hI => ?_)
  obtain ⟨w1, w2, w3, w4, w5, w6⟩ := s
  obtain ⟨g0, g1, g2, g3, g4, g5, g6, g7⟩ := hI
  replace g0 : k - mV tw p k = 0 → w1 = B := g0
  replace g1 : ∀ d, k - mV tw p k = d + 1 → w1 = gv fm B S P d := g1
  replace g2 : w2 = nI (k - mV tw p k) := g2
  replace g3 : w3 = 0 ↔ t0 = 0 ∧ ∀ j, j < k - mV tw p k → ¬ gv fm B S P j = B := g3
  replace g4 : w4 = 0 ↔ ∀ j, j < k - mV tw p k → B ≤ gv fm B S P j := g4
  replace g5 : w5 = nI (R + k) := g5
  replace g6 : ∀ i, i < k → w6 (97 + R + i) = vv (tE tw p (gv fm B S P) i) := g6
  replace g7 : ∀ j, ¬ (97 + R ≤ j ∧ j < 97 + R + k) → w6 j = rd j := g7
  subst g2 g5
  have hle := mV_le tw p k
  unfold pX10_laysValues_b36
  rcases Nat.lt_or_ge k n with h9 | h9
  · refine Or.inl ?_
    have hcell : upd w6 (97 + (R + k)) 0 (225 + (R + k)) = if mE tw p k then nI 1 else nI 0 := by
      rw [u_ne (by omega), g7 _ (by omega), ← Nat.add_assoc, hrd k h9]
    dsimp only
    rw [nI_add, if_neg (show ¬ nI (R + n) ≤ nI (R + k) by rw [nI_leI (by omega) (by omega)]; omega), n_l97, n_l225, nI_add, nI_add, ckN (by omega) (by omega), ckN (by omega) (by omega), nI_clamp (by omega), nI_clamp (by omega), hcell]
    by_cases hm : mE tw p k
    · rw [if_pos hm, if_pos (show nI 1 = 1 from rfl)]
      unfold pX10_laysValues_b36j197
      have hs : k + 1 - mV tw p (k + 1) = k - mV tw p k := by rw [mV_s, if_pos hm]; omega
      refine ⟨_, rfl, h9, ?_⟩
      rw [hs]
      refine ⟨g0, g1, rfl, g3, g4, by show nI (R + k) + nI 1 = _; rw [nI_add]; rfl, fun i hi => ?_, fun j hj => ?_⟩
      · show upd w6 (97 + (R + k)) 0 (97 + R + i) = _
        by_cases hi2 : i = k
        · rw [hi2, Nat.add_assoc, u_at]; unfold tE; rw [if_pos hm]; rfl
        · rw [u_ne (by omega)]; exact g6 i (by omega)
      · show upd w6 (97 + (R + k)) 0 j = _
        rw [u_ne (by omega)]; exact g7 j (by omega)
    · have hc := mV_in (n := n) h9 hm
      have hval : (if nI fm = 0 then ck (nI (k - mV tw p k)) 16 (pX10_laysValues_b36j145 (B + (ps (nI (k - mV tw p k)).toNatClampNeg).toInt32) (nI (k - mV tw p k)) w3 w4 (nI (R + k)) B (upd w6 (97 + (R + k)) 0)) else if nI (k - mV tw p k) ≤ 0 then pX10_laysValues_b36j145 w1 (nI (k - mV tw p k)) w3 w4 (nI (R + k)) B (upd w6 (97 + (R + k)) 0) else if nI fm = 1 then ck (nI (k - mV tw p k) - 1) 16 ((pX10_unfolded (ps (nI (k - mV tw p k) - 1).toNatClampNeg)).bind (fun k123 => pX10_laysValues_b36j143 w1 (nI (k - mV tw p k)) w3 w4 (nI (R + k)) w1 k123 B (upd w6 (97 + (R + k)) 0))) else ck (nI (k - mV tw p k) - 1) 16 (pX10_laysValues_b36j143 w1 (nI (k - mV tw p k)) w3 w4 (nI (R + k)) w1 (S + (ps (nI (k - mV tw p k) - 1).toNatClampNeg).toInt32) B (upd w6 (97 + (R + k)) 0))) = pX10_laysValues_b36j145 (gv fm B S P (k - mV tw p k)) (nI (k - mV tw p k)) w3 w4 (nI (R + k)) B (upd w6 (97 + (R + k)) 0) := by
        generalize hcc : k - mV tw p k = c at *
        by_cases f0 : fm = 0
        · rw [if_pos (show nI fm = 0 by rw [f0]; rfl), ckN (by omega) (by omega), nI_clamp (by omega), hk c (by unfold pcn; rw [if_pos f0]; exact hc), lN_i32, f0, gv_0]
        · rw [if_neg (show ¬ nI fm = 0 by rw [n_l0, nI_eq (by omega) (by omega)]; exact f0)]
          cases c with
          | zero => rw [if_pos (show nI 0 ≤ 0 by decide), g0 rfl, gv_f f0]
          | succ d =>
            have hd : d < pcn fm (n - mV tw p n) := by unfold pcn; rw [if_neg f0]; omega
            unfold pX10_laysValues_b36j143
            rw [if_neg (show ¬ nI (d + 1) ≤ 0 by rw [n_l0, nI_leI (by omega) (by omega)]; omega), n_l1, pk_sub (by omega), Nat.add_sub_cancel, nI_clamp (by omega), hk d hd, r_unf (hP d hd), Option.bind_some, lN_i32, ckN (by omega) (by omega), ckN (by omega) (by omega), g1 d rfl, gv_s f0]
            by_cases f1 : fm = 1
            · rw [if_pos (show nI fm = nI 1 by rw [f1]), if_pos f1]
            · rw [if_neg (show ¬ nI fm = nI 1 by rw [nI_eq (by omega) (by omega)]; exact f1), if_neg f1, Int32.add_comm S]
      rw [if_neg hm, if_neg (show ¬ nI 0 = 1 by decide), hval, r_j145 (by omega)]
      have hs : k + 1 - mV tw p (k + 1) = k - mV tw p k + 1 := by rw [mV_s, if_neg hm]; omega
      refine ⟨_, rfl, h9, ?_⟩
      rw [hs]
      refine ⟨fun q => absurd q (by omega), fun d hd => by rw [show d = k - mV tw p k by omega], rfl, ?_, ?_, rfl, fun i hi => ?_, fun j hj => ?_⟩
      · show s3 w3 _ B = 0 ↔ _
        rw [s3_0, g3]
        constructor
        · intro ⟨⟨a, b⟩, c⟩
          refine ⟨a, fun j hj => ?_⟩
          by_cases hj2 : j = k - mV tw p k
          · rw [hj2]; exact c
          · exact b j (by omega)
        · intro ⟨a, b⟩
          exact ⟨⟨a, fun j hj => b j (by omega)⟩, b _ (by omega)⟩
      · show s4 w4 _ B = 0 ↔ _
        rw [s4_0, g4]
        constructor
        · intro ⟨b, c⟩ j hj
          by_cases hj2 : j = k - mV tw p k
          · rw [hj2]; exact c
          · exact b j (by omega)
        · intro b
          exact ⟨fun j hj => b j (by omega), b _ (by omega)⟩
      · show upd (upd w6 (97 + (R + k)) 0) (97 + (R + k)) _ (97 + R + i) = _
        by_cases hi2 : i = k
        · rw [hi2, Nat.add_assoc, u_at]; unfold tE; rw [if_neg hm]; rfl
        · rw [u_ne (by omega), u_ne (by omega)]; exact g6 i (by omega)
      · show upd (upd w6 (97 + (R + k)) 0) (97 + (R + k)) _ j = _
        rw [u_ne (by omega), u_ne (by omega)]; exact g7 j (by omega)
  · obtain rfl : k = n := by omega
    refine Or.inr ?_
    dsimp only
    rw [nI_add, if_pos (Int32.le_refl _)]
    exact ⟨_, rfl, g3, g4, g6, g7⟩
end LaysR
