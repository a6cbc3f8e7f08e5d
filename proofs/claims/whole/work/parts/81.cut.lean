/-! ===== cut anew: the fewest bits, as numbers ===== -/
def omn : Option Nat → Option Nat → Option Nat
  | none, y => y
  | some a, none => some a
  | some a, some b => some (if a ≤ b then a else b)
def mnO (f : Nat → Option Nat) : Nat → Option Nat
  | 0 => none
  | n + 1 => omn (mnO f n) (f (n + 1))
theorem mn_s (f : Nat → Option Nat) (n : Nat) : mnO f (n + 1) = omn (mnO f n) (f (n + 1)) := rfl
theorem omn_le {x y : Option Nat} {v : Nat} (h : omn x y = some v) : (x = some v ∨ y = some v) := by
  cases x with
  | none => exact Or.inr h
  | some a =>
    cases y with
    | none => exact Or.inl h
    | some b =>
      have h' : (if a ≤ b then a else b) = v := Option.some.inj h
      split at h'
      · exact Or.inl (by rw [h'])
      · exact Or.inr (by rw [h'])
theorem mn_ex {f : Nat → Option Nat} : ∀ n v, mnO f n = some v → ∃ j, 1 ≤ j ∧ j ≤ n ∧ f j = some v := by
  intro n
  induction n with
  | zero => intro v h; cases h
  | succ k ih =>
    intro v h
    rcases omn_le h with h1 | h1
    · obtain ⟨j, a, b, c⟩ := ih v h1; exact ⟨j, a, by omega, c⟩
    · exact ⟨k + 1, by omega, Nat.le_refl _, h1⟩
theorem mn_some {f : Nat → Option Nat} : ∀ n j v, 1 ≤ j → j ≤ n → f j = some v → ∃ w, mnO f n = some w := by
  intro n
  induction n with
  | zero => intro j v h1 h2; omega
  | succ k ih =>
    intro j v h1 h2 h3
    rw [mn_s]
    rcases Nat.lt_or_ge j (k + 1) with h4 | h4
    · obtain ⟨w, hw⟩ := ih j v h1 (by omega) h3
      rw [hw]
      cases f (k + 1) with
      | none => exact ⟨w, rfl⟩
      | some b => exact ⟨_, rfl⟩
    · rw [show k + 1 = j by omega, h3]
      cases mnO f k with
      | none => exact ⟨v, rfl⟩
      | some a => exact ⟨_, rfl⟩
/-- bits of places as a block by best -/
def cst (T : Nat → Option Int32) (f n : Nat) : Nat := (bst n (cnt T f n) (val T f n)).2.2
theorem cst_le (T : Nat → Option Int32) {f n : Nat} (h : n ≤ 16) : cst T f n ≤ 2000 := Nat.le_of_lt (bst_lt h (Nat.le_trans (cnt_le _ _ _) h))
/-- fewest bits from a place on, in just so many blocks -/
def fw (T : Nat → Option Int32) (H : Nat) : Nat → Nat → Option Nat
  | 0, k => if k = H then some 0 else none
  | m + 1, k => mnO (fun n => (fw T H m (k + n)).map (fun v => v + cst T k n)) (min 16 (H - k))
def fwn (T : Nat → Option Int32) (H m k n : Nat) : Option Nat := (fw T H m (k + n)).map (fun v => v + cst T k n)
theorem fw_s (T : Nat → Option Int32) (H m k : Nat) : fw T H (m + 1) k = mnO (fwn T H m k) (min 16 (H - k)) := rfl
theorem fwn_some {T : Nat → Option Int32} {H m k n v : Nat} (h : fwn T H m k n = some v) : ∃ w, fw T H m (k + n) = some w ∧ v = w + cst T k n := by
  unfold fwn at h
  cases hx : fw T H m (k + n) with
  | none => rw [hx] at h; cases h
  | some w => rw [hx] at h; exact ⟨w, rfl, (Option.some.inj h).symm⟩
theorem fw_range {T : Nat → Option Int32} {H : Nat} : ∀ m k v, fw T H m k = some v → k + m ≤ H ∧ H ≤ k + 16 * m ∧ v ≤ 2000 * m := by
  intro m
  induction m with
  | zero =>
    intro k v h
    unfold fw at h
    split at h
    · have := Option.some.inj h; omega
    · cases h
  | succ n ih =>
    intro k v h
    rw [fw_s] at h
    obtain ⟨j, h1, h2, h3⟩ := mn_ex _ _ h
    obtain ⟨w, h4, h5⟩ := fwn_some h3
    obtain ⟨i1, i2, i3⟩ := ih _ _ h4
    have := cst_le T (f := k) (n := j) (by omega)
    omega
theorem fw_ex {T : Nat → Option Int32} {H : Nat} : ∀ m k, k + m ≤ H → H ≤ k + 16 * m → ∃ v, fw T H m k = some v := by
  intro m
  induction m with
  | zero =>
    intro k h1 h2
    refine ⟨0, ?_⟩
    unfold fw
    exact if_pos (by omega)
  | succ n ih =>
    intro k h1 h2
    rw [fw_s]
    obtain ⟨v, hv⟩ := ih (k + max 1 (H - k - 16 * n)) (by omega) (by omega)
    refine mn_some _ (max 1 (H - k - 16 * n)) (v + cst T k (max 1 (H - k - 16 * n))) (by omega) (by omega) ?_
    unfold fwn
    rw [hv]; rfl
/-- the number of blocks, the bits -/
def bC (T : Nat → Option Int32) (H : Nat) : Nat → Option (Nat × Nat)
  | 0 => none
  | k + 1 => match fw T H (k + 1) 0 with
    | none => bC T H k
    | some v => match bC T H k with
      | none => some (k + 1, v)
      | some x => if v < x.2 then some (k + 1, v) else some x
theorem bC_s (T : Nat → Option Int32) (H k : Nat) : bC T H (k + 1) = match fw T H (k + 1) 0 with
    | none => bC T H k
    | some v => match bC T H k with
      | none => some (k + 1, v)
      | some x => if v < x.2 then some (k + 1, v) else some x := rfl
theorem bC_ok {T : Nat → Option Int32} {H : Nat} : ∀ k x, bC T H k = some x → 1 ≤ x.1 ∧ x.1 ≤ k ∧ fw T H x.1 0 = some x.2 := by
  intro k
  induction k with
  | zero => intro x h; cases h
  | succ n ih =>
    intro x h
    rw [bC_s] at h
    cases hf : fw T H (n + 1) 0 with
    | none =>
      rw [hf] at h
      obtain ⟨a, b, c⟩ := ih x h
      exact ⟨a, by omega, c⟩
    | some v =>
      rw [hf] at h
      cases hb : bC T H n with
      | none =>
        rw [hb] at h
        have e := Option.some.inj h
        rw [← e]; exact ⟨by show 1 ≤ n + 1; omega, Nat.le_refl _, hf⟩
      | some y =>
        rw [hb] at h
        replace h : (if v < y.2 then some (n + 1, v) else some y) = some x := h
        split at h
        · have e := Option.some.inj h
          rw [← e]; exact ⟨by show 1 ≤ n + 1; omega, Nat.le_refl _, hf⟩
        · obtain ⟨a, b, c⟩ := ih y hb
          rw [← Option.some.inj h]; exact ⟨a, by omega, c⟩
theorem bC_keep {T : Nat → Option Int32} {H k : Nat} {x : Nat × Nat} (h : bC T H k = some x) : ∃ y, bC T H (k + 1) = some y := by
  rw [bC_s, h]
  cases fw T H (k + 1) 0 with
  | none => exact ⟨x, rfl⟩
  | some v =>
    show ∃ y, (if v < x.2 then some (k + 1, v) else some x) = some y
    split
    · exact ⟨_, rfl⟩
    · exact ⟨_, rfl⟩
theorem bC_ex {T : Nat → Option Int32} {H : Nat} (h1 : 1 ≤ H) (h2 : H ≤ 128) : ∃ x, bC T H 24 = some x := by
  have h8 : ∃ x, bC T H ((H + 15) / 16) = some x := by
    obtain ⟨m, hm⟩ : ∃ m, (H + 15) / 16 = m + 1 := ⟨(H + 15) / 16 - 1, by omega⟩
    obtain ⟨v, hv⟩ := fw_ex (T := T) (H := H) ((H + 15) / 16) 0 (by omega) (by omega)
    rw [hm] at hv ⊢
    rw [bC_s, hv]
    cases bC T H m with
    | none => exact ⟨_, rfl⟩
    | some x =>
      show ∃ y, (if v < x.2 then some (m + 1, v) else some x) = some y
      split
      · exact ⟨_, rfl⟩
      · exact ⟨_, rfl⟩
  have up : ∀ n, (∃ x, bC T H n = some x) → ∀ j, ∃ x, bC T H (n + j) = some x := fun n hn j => by
    induction j with
    | zero => exact hn
    | succ i ih => obtain ⟨x, hx⟩ := ih; exact bC_keep hx
  have := up _ h8 (24 - (H + 15) / 16)
  rw [show (H + 15) / 16 + (24 - (H + 15) / 16) = 24 by omega] at this
  exact this
/-- the least that has it -/
def fnd (f : Nat → Option Nat) (v : Option Nat) : Nat → Nat
  | 0 => 0
  | n + 1 => if fnd f v n = 0 then (if f (n + 1) = v then n + 1 else 0) else fnd f v n
theorem fnd_s (f : Nat → Option Nat) (v : Option Nat) (n : Nat) : fnd f v (n + 1) = if fnd f v n = 0 then (if f (n + 1) = v then n + 1 else 0) else fnd f v n := rfl
theorem fnd_ok {f : Nat → Option Nat} {v : Option Nat} : ∀ n, (fnd f v n = 0 ∧ ∀ j, 1 ≤ j → j ≤ n → f j ≠ v) ∨ (1 ≤ fnd f v n ∧ fnd f v n ≤ n ∧ f (fnd f v n) = v ∧ ∀ j, 1 ≤ j → j < fnd f v n → f j ≠ v) := by
  intro n
  induction n with
  | zero => exact Or.inl ⟨rfl, fun j h1 h2 => by omega⟩
  | succ k ih =>
    rw [fnd_s]
    rcases ih with ⟨h1, h2⟩ | ⟨h1, h2, h3, h4⟩
    · rw [if_pos h1]
      by_cases hf : f (k + 1) = v
      · rw [if_pos hf]
        exact Or.inr ⟨by omega, Nat.le_refl _, hf, fun j q1 q2 => h2 j q1 (by omega)⟩
      · rw [if_neg hf]
        refine Or.inl ⟨rfl, fun j q1 q2 => ?_⟩
        rcases Nat.lt_or_ge j (k + 1) with q3 | q3
        · exact h2 j q1 (by omega)
        · rw [show j = k + 1 by omega]; exact hf
    · rw [if_neg (by omega)]
      exact Or.inr ⟨h1, by omega, h3, h4⟩
/-- how many places come first, left blocks being left -/
def lst (T : Nat → Option Int32) (H left k : Nat) : Nat := fnd (fwn T H (left - 1) k) (fw T H left k) 16
theorem lst_ok {T : Nat → Option Int32} {H left k v : Nat} (hl : 1 ≤ left) (h : fw T H left k = some v) : 1 ≤ lst T H left k ∧ lst T H left k ≤ min 16 (H - k) ∧ fwn T H (left - 1) k (lst T H left k) = some v ∧ ∀ j, 1 ≤ j → j < lst T H left k → fwn T H (left - 1) k j ≠ some v := by
  obtain ⟨m, rfl⟩ : ∃ m, left = m + 1 := ⟨left - 1, by omega⟩
  have h' := h
  rw [fw_s] at h'
  obtain ⟨j, j1, j2, j3⟩ := mn_ex _ _ h'
  unfold lst
  rw [h, Nat.add_sub_cancel]
  rcases fnd_ok (f := fwn T H m k) (v := some v) 16 with ⟨h1, h2⟩ | ⟨h1, h2, h3, h4⟩
  · exact absurd j3 (h2 j j1 (by omega))
  · refine ⟨h1, ?_, h3, h4⟩
    obtain ⟨w, q1, q2⟩ := fwn_some h3
    have := (fw_range _ _ _ q1).1
    omega
/-- where the blocks begin -/
def kS (T : Nat → Option Int32) (H m : Nat) : Nat → Nat
  | 0 => 0
  | i + 1 => kS T H m i + lst T H (m - i) (kS T H m i)
def sz (T : Nat → Option Int32) (H m i : Nat) : Nat := lst T H (m - i) (kS T H m i)
theorem kS_s (T : Nat → Option Int32) (H m i : Nat) : kS T H m (i + 1) = kS T H m i + sz T H m i := rfl
theorem kS_ok {T : Nat → Option Int32} {H m v : Nat} (h : fw T H m 0 = some v) : ∀ i, i ≤ m → ∃ w, fw T H (m - i) (kS T H m i) = some w := by
  intro i
  induction i with
  | zero => intro _; exact ⟨v, h⟩
  | succ n ih =>
    intro hi
    obtain ⟨w, hw⟩ := ih (by omega)
    obtain ⟨_, _, h3, _⟩ := lst_ok (show 1 ≤ m - n by omega) hw
    obtain ⟨x, hx, _⟩ := fwn_some h3
    refine ⟨x, ?_⟩
    rw [show m - (n + 1) = m - n - 1 by omega]
    exact hx
theorem sz_ok {T : Nat → Option Int32} {H m v i : Nat} (h : fw T H m 0 = some v) (hi : i < m) : ∃ w, fw T H (m - i) (kS T H m i) = some w ∧ 1 ≤ sz T H m i ∧ sz T H m i ≤ 16 ∧ kS T H m i + sz T H m i ≤ H ∧ fwn T H (m - i - 1) (kS T H m i) (sz T H m i) = some w ∧ ∀ j, 1 ≤ j → j < sz T H m i → fwn T H (m - i - 1) (kS T H m i) j ≠ some w := by
  obtain ⟨w, hw⟩ := kS_ok h i (by omega)
  obtain ⟨h1, h2, h3, h4⟩ := lst_ok (show 1 ≤ m - i by omega) hw
  have h2' : sz T H m i ≤ min 16 (H - kS T H m i) := h2
  have h1' : 1 ≤ sz T H m i := h1
  exact ⟨w, hw, h1, by omega, by omega, h3, h4⟩
theorem kS_sm (T : Nat → Option Int32) (H m : Nat) : ∀ i, sm (sz T H m) i = kS T H m i := by
  intro i
  induction i with
  | zero => rfl
  | succ n ih => rw [kS_s, ← ih]; rfl
theorem kS_end {T : Nat → Option Int32} {H m v : Nat} (h : fw T H m 0 = some v) : kS T H m m = H := by
  obtain ⟨w, hw⟩ := kS_ok h m (Nat.le_refl _)
  have := fw_range _ _ _ hw
  omega
/-- the bits of all -/
theorem sz_bits {T : Nat → Option Int32} {H m v : Nat} (h : fw T H m 0 = some v) : ∀ i, i ≤ m → ∃ w, fw T H (m - i) (kS T H m i) = some w ∧ sm (fun j => cst T (kS T H m j) (sz T H m j)) i + w = v := by
  intro i
  induction i with
  | zero => intro _; exact ⟨v, h, by show 0 + v = v; omega⟩
  | succ n ih =>
    intro hi
    obtain ⟨w, hw, e⟩ := ih (by omega)
    obtain ⟨w', hw', _, _, _, h3, _⟩ := sz_ok h (show n < m by omega)
    rw [hw] at hw'
    cases hw'
    obtain ⟨x, hx, hx2⟩ := fwn_some h3
    refine ⟨x, ?_, ?_⟩
    · rw [show m - (n + 1) = m - n - 1 by omega]; exact hx
    · show sm (fun j => cst T (kS T H m j) (sz T H m j)) n + cst T (kS T H m n) (sz T H m n) + x = v
      omega
theorem sz_all {T : Nat → Option Int32} {H m v : Nat} (h : fw T H m 0 = some v) : sm (fun j => cst T (kS T H m j) (sz T H m j)) m = v := by
  obtain ⟨w, hw, e⟩ := sz_bits h m (Nat.le_refl _)
  have := fw_range _ _ _ hw
  omega
