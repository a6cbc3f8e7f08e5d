/-! ===== opening: the picture holds on both sides ===== -/
section OpC
variable {C : AC} {t : Nat → Option Int32} {n fm wd V ex bits : Nat} {st B : Int32}
theorem op_OK (hC : OKC C) (h1 : 1 ≤ n) (h2 : n ≤ 16) (h3 : HL C + n ≤ 128) (h4 : NB C < 24) (h5 : fm ≤ 2) (h6 : wd ≤ 32) (h7 : fm = 0 ∨ 2 ≤ cm (opC C t n fm wd st) (NB C)) (h8 : ce (opC C t n fm wd st) (NB C) ≤ 15) (h9 : fm ≠ 2 → st = 0) : OKC (opC C t n fm wd st) := by
  refine ⟨by rw [op_NB]; omega, by rw [op_HL]; exact h3, fun j hj => ?_⟩
  rw [op_NB] at hj
  by_cases h : j = NB C
  · subst h
    refine ⟨?_, ?_, ?_, ?_, ?_, h8, ?_⟩
    · rw [op_PLn]; exact h1
    · rw [op_PLn]; exact h2
    · rw [op_FM]; exact h5
    · rw [op_WD]; exact h6
    · rw [op_FM]; exact h7
    · rw [op_FM, op_ST]; exact h9
  · exact BL_okb (op_BL (by omega)) (hC.2.2 j (by omega))
theorem op_KC {tl tl' : Nat → Int64} {fc f' : Nat → Int32} (hK : KC (nI (NB C)) (nI (HL C)) tl fc C) (e1 : ∀ j, j < HL C → tl' j = tl j) (e2 : ∀ i, i < n → tl' (HL C + i) = enc (t i)) (g0 : f' (NB C * 8) = nI n) (g1 : f' (NB C * 8 + 1) = nI (cm (opC C t n fm wd st) (NB C))) (g2 : f' (NB C * 8 + 2) = nI fm) (g3 : f' (NB C * 8 + 3) = nI wd) (g4 : f' (NB C * 8 + 4) = nI (ce (opC C t n fm wd st) (NB C))) (g5 : f' (NB C * 8 + 5) = nI (ct (opC C t n fm wd st) (NB C))) (g6 : f' (NB C * 8 + 6) = cb (opC C t n fm wd st) (NB C)) (g7 : f' (NB C * 8 + 7) = st) (g8 : ∀ j, j < NB C * 8 → f' j = fc j) : KC (nI (NB C + 1)) (nI (HL C + n)) tl' f' (opC C t n fm wd st) := by
  obtain ⟨_, _, hT, hP, hF⟩ := hK
  refine ⟨rfl, by rw [op_HL], fun k hk => ?_, fun j hj => ?_, fun j hj => ?_⟩
  · rw [op_HL] at hk
    rw [op_TV]
    by_cases h : k < HL C
    · rw [e1 k h, apT_lo h]; exact hT k h
    · obtain ⟨i, rfl⟩ : ∃ i, k = HL C + i := ⟨k - HL C, by omega⟩
      rw [e2 i (by omega), apT_hi]
  · rw [op_NB] at hj
    by_cases h : j = NB C
    · subst h; rw [op_PLn]; exact g0
    · rw [g8 _ (by omega), hP j (by omega)]
      exact congrArg nI (op_BL (t := t) (n := n) (fm := fm) (wd := wd) (st := st) (show j < NB C by omega)).1.symm
  · rw [op_NB] at hj
    by_cases h : j = NB C
    · subst h
      unfold KF
      rw [op_FM, op_WD, op_ST]
      exact ⟨g1, g2, g3, g4, g5, g6, g7⟩
    · exact BL_KF (op_BL (by omega)) (fun w hw => g8 _ (by omega)) (hF j (by omega))
/-- the reference's array read, as a column -/
def vR (rd : Nat → Int32) (j : Nat) : Int32 := rd (j - 36)
theorem vR_at (rd : Nat → Int32) (i : Nat) : vR rd (36 + 353 * 0 + i) = rd i := by unfold vR; exact congrArg rd (by omega)
theorem vR_RC {rd : Nat → Int32} : RCa (vR rd) 0 C ↔ (rd 0 = nI (NB C) ∧ (∀ b, b < NB C → rd (1 + 4 * b) = nI (PL C b) ∧ rd (1 + 4 * b + 1) = nI (FM C b) ∧ rd (1 + 4 * b + 2) = nI (WD C b) ∧ rd (1 + 4 * b + 3) = ST C b) ∧ ∀ k, k < HL C → rd (97 + k) = vv (TV C k) ∧ rd (225 + k) = ee (TV C k)) := by
  have e : ∀ i j, i = 36 + j → vR rd i = rd j := fun i j h => by unfold vR; exact congrArg rd (by omega)
  constructor
  · intro ⟨h1, h2, h3⟩
    refine ⟨(e _ 0 (by omega)).symm.trans h1, fun b hb => ?_, fun k hk => ?_⟩
    · obtain ⟨a1, a2, a3, a4⟩ := h2 b hb
      exact ⟨(e _ _ (by omega)).symm.trans a1, (e _ _ (by omega)).symm.trans a2, (e _ _ (by omega)).symm.trans a3, (e _ _ (by omega)).symm.trans a4⟩
    · obtain ⟨a1, a2⟩ := h3 k hk
      exact ⟨(e _ _ (by omega)).symm.trans a1, (e _ _ (by omega)).symm.trans a2⟩
  · intro ⟨h1, h2, h3⟩
    refine ⟨(e _ 0 (by omega)).trans h1, fun b hb => ?_, fun k hk => ?_⟩
    · obtain ⟨a1, a2, a3, a4⟩ := h2 b hb
      exact ⟨(e _ _ (by omega)).trans a1, (e _ _ (by omega)).trans a2, (e _ _ (by omega)).trans a3, (e _ _ (by omega)).trans a4⟩
    · obtain ⟨a1, a2⟩ := h3 k hk
      exact ⟨(e _ _ (by omega)).trans a1, (e _ _ (by omega)).trans a2⟩
/-- what the reference writes behind a block -/
theorem op_RC {rd r3 : Nat → Int32} (hC : OKC C) (hR : RCa (vR rd) 0 C) (h4 : NB C < 24) (h3 : HL C + n ≤ 128) (g0 : r3 0 = nI (NB C + 1)) (g1 : r3 (1 + 4 * NB C) = nI n) (g2 : r3 (1 + 4 * NB C + 1) = nI fm) (g3 : r3 (1 + 4 * NB C + 2) = nI wd) (g4 : r3 (1 + 4 * NB C + 3) = st) (g5 : ∀ i, i < n → r3 (97 + HL C + i) = vv (t i) ∧ r3 (225 + HL C + i) = ee (t i)) (g6 : ∀ j, 1 ≤ j → j < 1 + 4 * NB C → r3 j = rd j) (g7 : ∀ j, j < HL C → r3 (97 + j) = rd (97 + j) ∧ r3 (225 + j) = rd (225 + j)) : RCa (vR r3) 0 (opC C t n fm wd st) := by
  obtain ⟨_, a2, a3⟩ := vR_RC.mp hR
  refine vR_RC.mpr ⟨g0, fun b hb => ?_, fun k hk => ?_⟩
  · rw [op_NB] at hb
    by_cases h : b = NB C
    · subst h
      rw [op_PLn, op_FM, op_WD, op_ST]
      exact ⟨g1, g2, g3, g4⟩
    · obtain ⟨e1, e2, e3, e4, _⟩ := op_BL (t := t) (n := n) (fm := fm) (wd := wd) (st := st) (show b < NB C by omega)
      rw [e1, e2, e3, e4, g6 _ (by omega) (by omega), g6 _ (by omega) (by omega), g6 _ (by omega) (by omega), g6 _ (by omega) (by omega)]
      exact a2 b (by omega)
  · rw [op_HL] at hk
    rw [op_TV]
    by_cases h : k < HL C
    · rw [(g7 k h).1, (g7 k h).2, apT_lo h]; exact a3 k h
    · obtain ⟨i, rfl⟩ : ∃ i, k = HL C + i := ⟨k - HL C, by omega⟩
      rw [apT_hi, ← Nat.add_assoc, ← Nat.add_assoc]
      exact g5 i (by omega)
end OpC
