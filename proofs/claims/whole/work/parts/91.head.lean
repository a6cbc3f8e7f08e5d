/-! ===== opening: the head of a block ===== -/
/-- both refuse alike -/
def FLT (f fp k wh : Int32) : Prop := ¬ f = 0 ∧ k = f ∧ wh = fp
/-- two tapes alike -/
def TW (T : Nat) (tw hw : Nat → Int32) : Prop := ∀ i, i < T → hw i = tw i
theorem tb_TW {T : Nat} {tw hw : Nat → Int32} (h : TW T tw hw) {j : Nat} (hj : j < 32 * T) : tb hw j = tb tw j := by unfold tb; rw [h (j / 32) (by omega)]
theorem num_TW {T : Nat} {tw hw : Nat → Int32} (h : TW T tw hw) {p n : Nat} (hp : p + n ≤ 32 * T) : num hw p n = num tw p n := num_cg n (fun i hi => tb_TW h (by omega))
/-- what the head says -/
def HOK (T V q : Nat) (rwd rv fp wh : Int32) (rd : Nat → Int32) (z : Int32 × Int32 × Int32 × Int32 × Int32 × Int32 × Int32 × Int32 × Int32 × Int32 × Int32 × Int32 × Int32 × (Nat → Int32)) (w : Int32 × Int32 × Int32 × Int32 × Int32 × Int32 × Int32 × Int32 × Int32 × Int32) : Prop :=
  ∃ pc fm wd ex bs st ba e : Nat, z = (1, nI pc, nI e, 0, fp, rwd, rv, nI fm, nI wd, nI ex, nI bs, nI st, nI ba, rd) ∧ w = (0, wh, nI e, nI fm, nI wd, nI ex, nI bs, nI ba, nI st, nI pc) ∧ fm ≤ 2 ∧ (fm = 0 ∨ 2 ≤ V) ∧ wd ≤ 32 ∧ ex ≤ pc ∧ ex ≤ 15 ∧ (ex = 0 ∨ wd < 32) ∧ pc = (if fm = 0 then V else V - 1) ∧ e ≤ 32 * T ∧ e = q + 44 + (if fm = 2 then 32 else 0) ∧ (fm ≠ 2 → st = 0) ∧ bs < 2 ^ 32 ∧ st < 2 ^ 32
section Head
variable {T : Nat} {tw hw : Nat → Int32}
theorem r_nextO {v p f fp : Int32} (h : ¬ f = 0) : pX10_next v (nI T) p f fp tw = some (0, p, f, fp) := by
  unfold pX10_next
  rw [if_neg h]
theorem r_j245O {xp r f fp rwd rv fm rwi re rb rs ba : Int32} {rd : Nat → Int32} (h : ¬ f = 0) : ∃ z, pX10_readsHead_j245 xp (nI T) r f fp rwd rv fm rwi re rb rs ba tw rd = some z ∧ z.1 = 0 ∧ z.2.2.2.1 = f ∧ z.2.2.2.2.1 = fp := by
  unfold pX10_readsHead_j245 pX10_readsHead_j284
  rw [r_nextO h, Option.bind_some]
  dsimp only
  by_cases h2 : fm = 2
  · rw [if_pos h2, r_nextO h, Option.bind_some]
    dsimp only
    rw [r_fineO h]
    exact ⟨_, rfl, rfl, rfl, rfl⟩
  · rw [if_neg h2, r_fineO h]
    exact ⟨_, rfl, rfl, rfl, rfl⟩
/-- base and step -/
theorem q_base2 {V q pc fm wd ex r : Nat} {fp wh rwd rv b1 b2 b3 c1 c2 c3 : Int32} {rd : Nat → Int32} (hT : T ≤ 400) (hw_ : TW T tw hw) (hr : r ≤ 32 * T) (hq : r = q + 12) (h1 : fm ≤ 2) (h2 : fm = 0 ∨ 2 ≤ V) (h3 : wd ≤ 32) (h4 : ex ≤ pc) (h5 : ex ≤ 15) (h6 : ex = 0 ∨ wd < 32) (h7 : pc = if fm = 0 then V else V - 1) :
    ∃ z w, pX10_readsHead_j245 (nI pc) (nI T) (nI r) 0 fp rwd rv (nI fm) (nI wd) (nI ex) b1 b2 b3 tw rd = some z ∧ pX4_openHead_j144 0 wh (nI r) (nI fm) (nI wd) (nI ex) c1 c2 c3 (nI pc) (nI T) hw = some w ∧ ((z.1 = 0 ∧ FLT z.2.2.2.1 z.2.2.2.2.1 w.1 w.2.1) ∨ HOK T V q rwd rv fp wh rd z w) := by
  have n1 := r_next (T := T) (tw := tw) (p := r) (n := 32) (fp := fp) hT (by omega) hr
  have m1 := k_number (T := T) (tw := hw) (p := r) (n := 32) (wh := wh) hT (by omega) hr
  rw [← n_l32] at n1 m1
  unfold pX10_readsHead_j245 pX4_openHead_j144 pX10_readsHead_j284
  by_cases g1 : r + 32 ≤ 32 * T
  · rw [if_pos g1] at n1 m1
    rw [num_TW hw_ g1] at m1
    rw [n1, m1, Option.bind_some, Option.bind_some]
    dsimp only
    have hb := num_lt tw r 32
    by_cases g2 : fm = 2
    · have n2 := r_next (T := T) (tw := tw) (p := r + 32) (n := 32) (fp := fp) hT (by omega) g1
      have m2 := k_number (T := T) (tw := hw) (p := r + 32) (n := 32) (wh := wh) hT (by omega) g1
      rw [← n_l32] at n2 m2
      rw [if_pos (show nI fm = 2 by rw [g2]; rfl), if_pos (show nI fm = 2 by rw [g2]; rfl)]
      by_cases g3 : r + 32 + 32 ≤ 32 * T
      · rw [if_pos g3] at n2 m2
        rw [num_TW hw_ g3] at m2
        have hs := num_lt tw (r + 32) 32
        rw [n2, m2, Option.bind_some, Option.bind_some]
        dsimp only
        rw [r_fine0, Option.bind_some, lN_i32, lN_i32]
        exact ⟨_, _, rfl, rfl, Or.inr ⟨pc, fm, wd, ex, num tw r 32, num tw (r + 32) 32, r, r + 32 + 32, rfl, rfl, h1, h2, h3, h4, h5, h6, h7, g3, by rw [if_pos g2]; omega, fun q => absurd g2 q, hb, hs⟩⟩
      · rw [if_neg g3] at n2 m2
        rw [n2, m2, Option.bind_some, Option.bind_some]
        dsimp only
        rw [r_fineO (show ¬ (1 : Int32) = 0 by decide), Option.bind_some]
        exact ⟨_, _, rfl, rfl, Or.inl ⟨rfl, (by decide : ¬ (1 : Int32) = 0), rfl, rfl⟩⟩
    · have hne : ¬ nI fm = 2 := by rw [n_l2, nI_eq (by omega) (by omega)]; exact g2
      rw [if_neg hne, if_neg hne, r_fine0, Option.bind_some, lN_i32]
      exact ⟨_, _, rfl, rfl, Or.inr ⟨pc, fm, wd, ex, num tw r 32, 0, r, r + 32, rfl, rfl, h1, h2, h3, h4, h5, h6, h7, g1, by rw [if_neg g2]; omega, fun _ => rfl, hb, by omega⟩⟩
  · rw [if_neg g1] at n1 m1
    rw [n1, m1, Option.bind_some, Option.bind_some]
    dsimp only
    have hO : ¬ (1 : Int32) = 0 := by decide
    rw [r_nextO hO, k_numberO hO, Option.bind_some, Option.bind_some, r_fineO hO]
    by_cases g2 : nI fm = 2
    · rw [if_pos g2, if_pos g2]
      exact ⟨_, _, rfl, rfl, Or.inl ⟨rfl, hO, rfl, rfl⟩⟩
    · rw [if_neg g2, if_neg g2]
      exact ⟨_, _, rfl, rfl, Or.inl ⟨rfl, hO, rfl, rfl⟩⟩
/-- exceptions -/
theorem q_exc {V q t fm wd s : Nat} {xp fp wh rwd rv b0 b1 b2 b3 c0 c1 c2 c3 c4 : Int32} {rd : Nat → Int32} (hT : T ≤ 400) (hw_ : TW T tw hw) (hr : s ≤ 32 * T) (hq : s = q + 8) (h1 : fm ≤ 2) (h2 : fm = 0 ∨ 2 ≤ V) (h3 : wd ≤ 32) (h7 : t = if fm = 0 then V else V - 1) (ht : t ≤ 16) :
    ∃ z w, pX10_readsHead_j186 (nI t) xp (nI T) (nI s) 0 fp rwd rv (nI fm) (nI wd) b0 b1 b2 b3 tw rd = some z ∧ pX4_openHead_j94 (nI t) 0 wh (nI s) (nI fm) (nI wd) c0 c1 c2 c3 c4 (nI T) hw = some w ∧ ((z.1 = 0 ∧ FLT z.2.2.2.1 z.2.2.2.2.1 w.1 w.2.1) ∨ HOK T V q rwd rv fp wh rd z w) := by
  have n1 := r_next (T := T) (tw := tw) (p := s) (n := 4) (fp := fp) hT (by omega) hr
  have m1 := k_number (T := T) (tw := hw) (p := s) (n := 4) (wh := wh) hT (by omega) hr
  rw [← n_l4] at n1 m1
  unfold pX10_readsHead_j186 pX4_openHead_j94
  by_cases g1 : s + 4 ≤ 32 * T
  · rw [if_pos g1] at n1 m1
    rw [num_TW hw_ g1] at m1
    have hx := num_lt tw s 4
    rw [n1, m1, Option.bind_some, Option.bind_some]
    dsimp only
    rw [r_fine0, Option.bind_some, if_neg (show ¬ (1 : Int32) = 0 by decide), lN_i32]
    have bad : ∀ b0, ∃ z w, pX10_readsHead_j238 (nI s) (nI t) (nI (s + 4)) 0 fp rwd rv (nI fm) (nI wd) b0 b1 b2 b3 rd = some z ∧ pX4_openHead_j138 (nI s) 0 wh (nI (s + 4)) (nI fm) (nI wd) b0 c1 c2 c3 (nI t) (nI T) hw = some w ∧ ((z.1 = 0 ∧ FLT z.2.2.2.1 z.2.2.2.2.1 w.1 w.2.1) ∨ HOK T V q rwd rv fp wh rd z w) := fun b0 => by
      have hO : ¬ (4 : Int32) = 0 := by decide
      unfold pX10_readsHead_j238 pX10_wrong pX4_openHead_j138 pX4_refuse
      rw [if_pos rfl, Option.bind_some, Option.bind_some]
      obtain ⟨w, ew, w1, w2⟩ := k_j144O (T := T) (hw := hw) (kd := 4) (wh := nI s) (at_ := nI (s + 4)) (fm := nI fm) (wd := nI wd) (ex := b0) (bs := c1) (ba := c2) (st := c3) (pc := nI t) hO
      exact ⟨_, w, rfl, ew, Or.inl ⟨rfl, hO, w1, w2⟩⟩
    by_cases g2 : t < num tw s 4
    · rw [if_pos (nI_lt g2 (by omega)), if_pos (nI_lt g2 (by omega))]
      exact bad _
    · rw [if_neg (show ¬ nI t < nI (num tw s 4) by rw [nI_ltI (by omega) (by omega)]; exact g2), if_neg (show ¬ nI t < nI (num tw s 4) by rw [nI_ltI (by omega) (by omega)]; exact g2)]
      by_cases g3 : num tw s 4 = 0
      · rw [if_pos (show nI (num tw s 4) ≤ 0 by rw [g3]; decide), if_pos (show nI (num tw s 4) ≤ 0 by rw [g3]; decide)]
        exact q_base2 hT hw_ g1 (by omega) h1 h2 h3 (by omega) (by omega) (Or.inl g3) h7
      · have hne : ¬ nI (num tw s 4) ≤ 0 := by rw [n_l0, nI_leI (by omega) (by omega)]; omega
        rw [if_neg hne, if_neg hne]
        by_cases g4 : wd = 32
        · rw [if_pos (show nI wd = 32 by rw [g4]; rfl), if_pos (show nI wd = 32 by rw [g4]; rfl)]
          exact bad _
        · have hne2 : ¬ nI wd = 32 := by rw [n_l32, nI_eq (by omega) (by omega)]; exact g4
          rw [if_neg hne2, if_neg hne2]
          exact q_base2 hT hw_ g1 (by omega) h1 h2 h3 (by omega) (by omega) (Or.inr (by omega)) h7
  · rw [if_neg g1] at n1 m1
    rw [n1, m1, Option.bind_some, Option.bind_some]
    dsimp only
    have hO : ¬ (1 : Int32) = 0 := by decide
    rw [r_fineO hO, Option.bind_some, if_pos rfl]
    obtain ⟨z, ez, z1, z2, z3⟩ := r_j245O (T := T) (tw := tw) (xp := nI t) (r := nI s) (f := 1) (fp := nI s) (rwd := rwd) (rv := rv) (fm := nI fm) (rwi := nI wd) (re := (0 : Int64).toInt32) (rb := b1) (rs := b2) (ba := b3) (rd := rd) hO
    rw [if_neg (show ¬ nI t < 0 by rw [n_l0, nI_ltI (by omega) (by omega)]; omega), if_pos (Int32.le_refl 0)]
    obtain ⟨w, ew, w1, w2⟩ := k_j144O (T := T) (hw := hw) (kd := 1) (wh := nI s) (at_ := nI s) (fm := nI fm) (wd := nI wd) (ex := 0) (bs := c1) (ba := c2) (st := c3) (pc := nI t) hO
    exact ⟨z, w, ez, ew, Or.inl ⟨z1, by rw [z2]; exact hO, by rw [z2]; exact w1, by rw [z3]; exact w2⟩⟩
end Head
