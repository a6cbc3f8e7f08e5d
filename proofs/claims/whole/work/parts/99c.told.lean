/-! ===== opening: the class tells a block as it was read ===== -/
section Told
variable {T : Nat} {tw hw : Nat → Int32}
theorem k_j166 {b p n V fm wd ex at_ : Nat} {kd wh a2 B S hd : Int32} {tl : Nat → Int64} {fc : Nat → Int32} (hb : b < 24) (hp : p ≤ at_) :
    ∃ f', pX4_takeValues_j166 128 (nI at_) kd wh a2 (nI p) (nI n) (nI V) (nI fm) (nI wd) (nI ex) B S (nI b) hd tl fc = some (kd, wh, a2, nI (b + 1), hd, tl, f') ∧ f' (b * 8) = nI n ∧ f' (b * 8 + 1) = nI V ∧ f' (b * 8 + 2) = nI fm ∧ f' (b * 8 + 3) = nI wd ∧ f' (b * 8 + 4) = nI ex ∧ f' (b * 8 + 5) = nI (at_ - p) ∧ f' (b * 8 + 6) = B ∧ f' (b * 8 + 7) = S ∧ ∀ j, j < b * 8 → f' j = fc j := by
  have kf : ∀ {w : Nat} (hw : w < 8) (v : Int32) (g : Nat → Int32), pX0_keepFact (nI b) (nI w) v (nI (b + 1)) g = some (upd g (b * 8 + w) v) := fun hw v g => k_keepFact (by omega) (by omega) hw v
  unfold pX4_takeValues_j166 pX0_addTold pX0_baseTheLast
  rw [if_neg (show ¬ (24 : Int32) ≤ nI b by rw [n_l24, nI_leI (by omega) (by omega)]; omega), n_l0, n_l1, n_l2, n_l3, n_l4, n_l5, n_l6, n_l7, nI_add, pk_sub (by omega), Nat.add_sub_cancel, kf (by omega), Option.bind_some, kf (by omega), Option.bind_some, kf (by omega), Option.bind_some, kf (by omega), Option.bind_some, kf (by omega), Option.bind_some, kf (by omega), Option.bind_some, Option.bind_some]
  dsimp only
  rw [pk_sub (show 1 ≤ b + 1 by omega), Nat.add_sub_cancel, kf (by omega), Option.bind_some, kf (by omega), Option.bind_some, Option.bind_some, pk_sub hp]
  refine ⟨_, rfl, ?_, ?_, ?_, ?_, ?_, ?_, ?_, ?_, fun j hj => ?_⟩
  · rw [u_ne (by omega), u_ne (by omega), u_ne (by omega), u_ne (by omega), u_ne (by omega), u_ne (by omega), u_ne (by omega)]; exact u_at _ _ _
  · rw [u_ne (by omega), u_ne (by omega), u_ne (by omega), u_ne (by omega), u_ne (by omega), u_ne (by omega), u_at]
  · rw [u_ne (by omega), u_ne (by omega), u_ne (by omega), u_ne (by omega), u_ne (by omega), u_at]
  · rw [u_ne (by omega), u_ne (by omega), u_ne (by omega), u_ne (by omega), u_at]
  · rw [u_ne (by omega), u_ne (by omega), u_ne (by omega), u_at]
  · rw [u_ne (by omega), u_ne (by omega), u_at]
  · rw [u_ne (by omega), u_at]
  · rw [u_at]
  · rw [u_ne (by omega), u_ne (by omega), u_ne (by omega), u_ne (by omega), u_ne (by omega), u_ne (by omega), u_ne (by omega), u_ne (by omega)]
/-- how many bits fill the word -/
def pd (e : Nat) : Nat := (e + 31) / 32 * 32 - e
theorem pd_lt (e : Nat) : pd e < 32 := by unfold pd; omega
theorem pd_in {e : Nat} (h : e ≤ 32 * T) : e + pd e ≤ 32 * T ∧ (e + pd e) % 32 = 0 := by unfold pd; omega
theorem k_wordsFor {e : Nat} (h : e < 2 ^ 20) : pX9_wordsFor (nI e) = some (nI ((e + 31) / 32)) := by
  unfold pX9_wordsFor
  simp (disch := omega) only [n_l0, n_l1, n_l2, n_l3, n_l4, n_l5, n_l6, n_l7, n_l8, n_l9, n_l15, n_l16, n_l17, n_l20, n_l24, n_l31, n_l32, n_l33, n_l36, n_l48, n_l49, n_l97, n_l128, n_l129, n_l192, n_l225, n_l256, n_l353, n_l400, n_l512, n_l593, n_l621, n_l640, n_l857, n_l1093, n_l1095, n_l2048, n_l3225, n_l10000, n_l22955, n_l29988, n_l29989, n_l65536, n_l99999, n_l1000000000, n_l2147483647, nI_add, pk_mul, pk_sub, pk_div, nI_clamp, ckN, nI_leI, nI_ltI, nI_eq, nI_nm1, Nat.add_zero, nI_addneg, k_ush, true_or, or_true, false_or, or_false, true_and, and_true, false_and, and_false, not_true_eq_false, not_false_eq_true, if_true, if_false, if_pos, if_neg, Option.bind_some]
  rw [show e + 32 - 1 = e + 31 by omega]
/-- the filling, then the facts -/
theorem k_j130 {b p n V fm wd ex at_ : Nat} {wh B S hd : Int32} {tl : Nat → Int64} {fc : Nat → Int32} (hT : T ≤ 400) (hw_ : TW T tw hw) (hb : b < 24) (hp : p ≤ at_) (ha : at_ ≤ 32 * T) :
    ∃ f' kd wh', pX4_takeValues_j130 128 0 wh (nI at_) (nI p) (nI n) (nI V) (nI fm) (nI wd) (nI ex) B S (nI T) hw (nI b) hd tl fc = some (kd, wh', nI (at_ + pd at_), nI (b + 1), hd, tl, f') ∧ (if num tw at_ (pd at_) = 0 then kd = 0 ∧ wh' = wh else kd = 7 ∧ wh' = nI at_) ∧ f' (b * 8) = nI n ∧ f' (b * 8 + 1) = nI V ∧ f' (b * 8 + 2) = nI fm ∧ f' (b * 8 + 3) = nI wd ∧ f' (b * 8 + 4) = nI ex ∧ f' (b * 8 + 5) = nI (at_ - p) ∧ f' (b * 8 + 6) = B ∧ f' (b * 8 + 7) = S ∧ ∀ j, j < b * 8 → f' j = fc j := by
  have hpd := pd_lt at_
  obtain ⟨hin, _⟩ := pd_in ha
  have hle : at_ ≤ (at_ + 31) / 32 * 32 := by omega
  have m1 := k_number (T := T) (tw := hw) (p := at_) (n := pd at_) (wh := wh) hT (by omega) ha
  rw [if_pos hin, num_TW hw_ hin] at m1
  have hx := num_lt tw at_ (pd at_)
  have hx2 : num tw at_ (pd at_) < 2 ^ 31 := Nat.lt_of_lt_of_le hx (Nat.pow_le_pow_right (by omega) (by omega))
  unfold pX4_takeValues_j130
  rw [k_wordsFor (by omega), Option.bind_some, n_l32, pk_mul, pk_sub hle, show (at_ + 31) / 32 * 32 - at_ = pd at_ from rfl, m1, Option.bind_some]
  dsimp only
  by_cases h0 : num tw at_ (pd at_) = 0
  · obtain ⟨f', e, h⟩ := k_j166 (b := b) (p := p) (n := n) (V := V) (fm := fm) (wd := wd) (ex := ex) (at_ := at_) (kd := 0) (wh := wh) (a2 := nI (at_ + pd at_)) (B := B) (S := S) (hd := hd) (tl := tl) (fc := fc) hb hp
    rw [if_pos (show nI (num tw at_ (pd at_)) = 0 by rw [h0]; rfl), e]
    exact ⟨f', 0, wh, rfl, by rw [if_pos h0]; exact ⟨rfl, rfl⟩, h⟩
  · obtain ⟨f', e, h⟩ := k_j166 (b := b) (p := p) (n := n) (V := V) (fm := fm) (wd := wd) (ex := ex) (at_ := at_) (kd := 7) (wh := nI at_) (a2 := nI (at_ + pd at_)) (B := B) (S := S) (hd := hd) (tl := tl) (fc := fc) hb hp
    unfold pX4_refuse
    rw [if_neg (show ¬ nI (num tw at_ (pd at_)) = 0 by rw [n_l0, nI_eq hx2 (by omega)]; exact h0), if_pos rfl, Option.bind_some, e]
    exact ⟨f', 7, nI at_, rfl, by rw [if_neg h0]; exact ⟨rfl, rfl⟩, h⟩
theorem k_j130O {b p n V fm wd ex at_ : Nat} {kd wh B S hd : Int32} {tl : Nat → Int64} {fc : Nat → Int32} (hb : b < 24) (hp : p ≤ at_) (ha : at_ < 2 ^ 20) (h : ¬ kd = 0) :
    ∃ z, pX4_takeValues_j130 128 kd wh (nI at_) (nI p) (nI n) (nI V) (nI fm) (nI wd) (nI ex) B S (nI T) hw (nI b) hd tl fc = some z ∧ z.1 = kd ∧ z.2.1 = wh := by
  unfold pX4_takeValues_j130
  rw [k_wordsFor ha, Option.bind_some, k_numberO h, Option.bind_some]
  dsimp only
  obtain ⟨f', e, _⟩ := k_j166 (b := b) (p := p) (n := n) (V := V) (fm := fm) (wd := wd) (ex := ex) (at_ := at_) (kd := kd) (wh := wh) (a2 := nI at_) (B := B) (S := S) (hd := hd) (tl := tl) (fc := fc) hb hp
  rw [if_pos rfl, e]
  exact ⟨_, rfl, rfl, rfl⟩
end Told
