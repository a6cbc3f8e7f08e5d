/-! ===== opening: how many parts are wide ===== -/
section Cnt
variable {T : Nat} {tw : Nat → Int32} {pc wd e : Nat} {P0 : Nat → Nat}
theorem exc_flat {w : Nat} {q : Nat → Nat} {l : Nat} : ∀ n, l ≤ n → (∀ j, l ≤ j → j < n → q j < 2 ^ w) → exc w q n = exc w q l := by
  intro n
  induction n with
  | zero => intro h _; rw [show l = 0 by omega]
  | succ m ih =>
    intro h1 h2
    by_cases h : l = m + 1
    · rw [h]
    · rw [exc_s, if_pos ((bl_le _ _).mpr (h2 m (by omega) (by omega))), Nat.add_zero, ih (by omega) (fun j a b => h2 j a (by omega))]
theorem eR_cnt (hwd : wd ≤ 32) (h0 : ∀ j, j < pc → P0 j < 2 ^ wd) : ∀ k y, eRun T tw pc wd e P0 k = .inr y → (∀ j, y.1 ≤ j → y.2.2 j = P0 j) ∧ exc wd y.2.2 y.1 = k ∧ (∀ j, j < pc → y.2.2 j < 2 ^ 32) ∧ y.2.1 = e + k * (36 - wd) ∧ y.1 ≤ pc := by
  have hp : 2 ^ wd ≤ 2 ^ 32 := Nat.pow_le_pow_right (by omega) hwd
  intro k
  induction k with
  | zero => intro y h; cases h; exact ⟨fun _ _ => rfl, rfl, fun j hj => Nat.lt_of_lt_of_le (h0 j hj) hp, by show e = _; omega, Nat.zero_le _⟩
  | succ m ih =>
    intro y h
    rw [eR_s] at h
    cases hm : eRun T tw pc wd e P0 m with
    | inl x => rw [hm] at h; cases h
    | inr y' =>
      rw [hm] at h
      obtain ⟨i1, i2, i3, i4, i5⟩ := ih y' hm
      replace h : eStep T tw pc wd y'.1 y'.2.1 y'.2.2 = .inr y := h
      unfold eStep at h
      by_cases g1 : y'.2.1 + 4 ≤ 32 * T
      · rw [if_pos g1] at h
        by_cases g2 : num tw y'.2.1 4 < pc ∧ y'.1 ≤ num tw y'.2.1 4
        · rw [if_pos g2] at h
          by_cases g3 : y'.2.1 + 4 + (32 - wd) ≤ 32 * T
          · rw [if_pos g3] at h
            by_cases g4 : num tw (y'.2.1 + 4) (32 - wd) = 0
            · rw [if_pos g4] at h; cases h
            · rw [if_neg g4] at h
              cases h
              have hx := num_lt tw (y'.2.1 + 4) (32 - wd)
              have hlow := h0 _ g2.1
              have hPx : y'.2.2 (num tw y'.2.1 4) = P0 (num tw y'.2.1 4) := i1 _ g2.2
              generalize num tw y'.2.1 4 = x at *
              generalize num tw (y'.2.1 + 4) (32 - wd) = hh at *
              have hor : P0 x ||| hh * 2 ^ wd = hh * 2 ^ wd + P0 x := by
                rw [Nat.or_comm, Nat.mul_comm hh, ← Nat.two_pow_add_eq_or_of_lt hlow]
              have hge : ¬ (P0 x ||| hh * 2 ^ wd) < 2 ^ wd := by
                rw [hor]
                have : 1 * 2 ^ wd ≤ hh * 2 ^ wd := Nat.mul_le_mul_right _ (by omega)
                omega
              have hlt : (P0 x ||| hh * 2 ^ wd) < 2 ^ 32 := by
                rw [hor]
                have h32 : 2 ^ (32 - wd) * 2 ^ wd = 2 ^ 32 := by rw [← Nat.pow_add]; congr 1; omega
                have : (hh + 1) * 2 ^ wd ≤ 2 ^ (32 - wd) * 2 ^ wd := Nat.mul_le_mul_right _ hx
                rw [Nat.add_mul, Nat.one_mul] at this
                omega
              refine ⟨fun j hj => ?_, ?_, fun j hj => ?_, ?_, g2.1⟩
              · have hj' : x + 1 ≤ j := hj
                show ud y'.2.2 x _ j = _
                rw [ud_ne (by omega)]; exact i1 j (by omega)
              · show exc wd (ud y'.2.2 x (y'.2.2 x ||| hh * 2 ^ wd)) (x + 1) = m + 1
                rw [exc_s, ud_at, hPx, if_neg (fun q => hge ((bl_le _ _).mp q)), exc_congr (r := y'.2.2) x (fun i hi => ud_ne (by omega)), exc_flat x g2.2 (fun j a b => by rw [i1 j a]; exact h0 j (by omega)), i2]
              · show ud y'.2.2 x (y'.2.2 x ||| hh * 2 ^ wd) j < _
                by_cases hj2 : j = x
                · rw [hj2, ud_at, hPx]; exact hlt
                · rw [ud_ne hj2]; exact i3 j hj
              · show y'.2.1 + 4 + (32 - wd) = _
                rw [i4, Nat.succ_mul]
                omega
          · rw [if_neg g3] at h; cases h
        · rw [if_neg g2] at h; cases h
      · rw [if_neg g1] at h; cases h
theorem eR_end (hwd : wd ≤ 32) (h0 : ∀ j, j < pc → P0 j < 2 ^ wd) {k : Nat} {y : Nat × Nat × (Nat → Nat)} (h : eRun T tw pc wd e P0 k = .inr y) : exc wd y.2.2 pc = k ∧ (∀ j, j < pc → y.2.2 j < 2 ^ 32) ∧ y.2.1 = e + k * (36 - wd) := by
  obtain ⟨a1, a2, a3, a4, a5⟩ := eR_cnt hwd h0 k y h
  exact ⟨by rw [exc_flat pc a5 (fun j q1 q2 => by rw [a1 j q1]; exact h0 j q2), a2], a3, a4⟩
theorem lo_lt (tw : Nat → Int32) (e wd k : Nat) : lo tw e wd k < 2 ^ wd := num_lt _ _ _
end Cnt
