/-! ===== opening: places and mask ===== -/
section OpenK
variable {T : Nat} {hw : Nat → Int32}
theorem k_bcEx (v : Int32) : ∃ r, pJ6_bitCount_0f7a4 v = some r := ⟨_, rfl⟩
theorem k_j91 (kd wh at_ pl mk vl : Int32) : ∃ u, pX4_openPlaces_j91 kd wh at_ pl mk vl = some u ∧ u.1 = kd ∧ u.2.1 = wh := by
  obtain ⟨r, e⟩ := k_bcEx mk
  unfold pX4_openPlaces_j91
  rw [e]
  exact ⟨_, rfl, rfl, rfl⟩
theorem k_j33O {kd wh at_ pl mk vl : Int32} (h : ¬ kd = 0) : ∃ u, pX4_openPlaces_j33 kd wh at_ pl mk vl (nI T) hw = some u ∧ u.1 = kd ∧ u.2.1 = wh := by
  unfold pX4_openPlaces_j33 pX4_openPlaces_j47 pX4_openPlaces_j70 pX4_refuse
  rw [k_numberO h, Option.bind_some]
  dsimp only
  rw [if_neg (show ¬ (0 : Int32) = 1 by decide), if_pos rfl, if_pos rfl]
  exact k_j91 _ _ _ _ _ _
theorem k_j144O {kd wh at_ fm wd ex bs ba st pc : Int32} (h : ¬ kd = 0) : ∃ w, pX4_openHead_j144 kd wh at_ fm wd ex bs ba st pc (nI T) hw = some w ∧ w.1 = kd ∧ w.2.1 = wh := by
  unfold pX4_openHead_j144
  rw [k_numberO h, Option.bind_some]
  by_cases h2 : fm = 2
  · rw [if_pos h2]
    dsimp only
    rw [k_numberO h, Option.bind_some]
    exact ⟨_, rfl, rfl, rfl⟩
  · rw [if_neg h2]
    exact ⟨_, rfl, rfl, rfl⟩
theorem k_j138O {v3 kd wh at_ fm wd ex bs ba st pc : Int32} (h : ¬ kd = 0) : ∃ w, pX4_openHead_j138 v3 kd wh at_ fm wd ex bs ba st pc (nI T) hw = some w ∧ w.1 = kd ∧ w.2.1 = wh := by
  unfold pX4_openHead_j138 pX4_refuse
  rw [if_neg h, Option.bind_some]
  exact k_j144O h
theorem k_j94O {t kd wh at_ fm wd ex bs ba st pc : Int32} (h : ¬ kd = 0) : ∃ w, pX4_openHead_j94 t kd wh at_ fm wd ex bs ba st pc (nI T) hw = some w ∧ w.1 = kd ∧ w.2.1 = wh := by
  unfold pX4_openHead_j94
  rw [k_numberO h, Option.bind_some]
  dsimp only
  by_cases h1 : t < 0
  · rw [if_pos h1]; exact k_j138O h
  · rw [if_neg h1, if_pos (Int32.le_refl 0)]; exact k_j144O h
theorem k_j73O {kd wh at_ vl fm wd ex bs ba st pc : Int32} (h : ¬ kd = 0) : ∃ w, pX4_openHead_j73 kd wh at_ vl fm wd ex bs ba st pc (nI T) hw = some w ∧ w.1 = kd ∧ w.2.1 = wh := by
  unfold pX4_openHead_j73
  by_cases h1 : fm = 0
  · rw [if_pos h1]; exact k_j94O h
  · rw [if_neg h1]; exact k_j94O h
theorem k_j43O {kd wh at_ vl fm wd ex bs ba st pc : Int32} (h : ¬ kd = 0) : ∃ w, pX4_openHead_j43 kd wh at_ vl fm wd ex bs ba st pc (nI T) hw = some w ∧ w.1 = kd ∧ w.2.1 = wh := by
  unfold pX4_openHead_j43
  rw [k_numberO h, Option.bind_some]
  dsimp only
  rw [if_pos (show (0 : Int32) ≤ 32 by decide)]
  exact k_j73O h
theorem k_headO {kd wh at_ vl fm wd ex bs ba st pc : Int32} (h : ¬ kd = 0) : ∃ w, pX4_openHead kd wh at_ vl fm wd ex bs ba st pc (nI T) hw = some w ∧ w.1 = kd ∧ w.2.1 = wh := by
  unfold pX4_openHead
  rw [k_numberO h, Option.bind_some]
  dsimp only
  rw [if_neg (show ¬ (3 : Int32) ≤ 0 by decide), if_pos (Int32.le_refl 0)]
  exact k_j43O h
/-- a block's places, in the class, that are empty: its bits in the mask -/
def mF (tw : Nat → Int32) (p : Nat) : Nat := num tw (p + 4) 1
abbrev mE (tw : Nat → Int32) (p i : Nat) : Prop := mF tw p = 1 ∧ tb tw (p + 5 + i) = true
def mV (tw : Nat → Int32) (p n : Nat) : Nat := sm (fun i => if mE tw p i then 1 else 0) n
def mQ (tw : Nat → Int32) (p n : Nat) : Nat := if mF tw p = 1 then p + 5 + n else p + 5
def mM (tw : Nat → Int32) (p n : Nat) : Nat := if mF tw p = 1 then num tw (p + 5) n else 0
theorem mF_01 (tw : Nat → Int32) (p : Nat) : mF tw p = 0 ∨ mF tw p = 1 := by
  have := num_lt tw (p + 4) 1
  unfold mF
  omega
theorem mV_le (tw : Nat → Int32) (p n : Nat) : mV tw p n ≤ n := by
  have := sm_le (p := fun i => if mE tw p i then 1 else 0) (B := 1) n (fun i _ => by split <;> omega)
  unfold mV
  omega
theorem mV_z {tw : Nat → Int32} {p n : Nat} (h : mF tw p = 0) : mV tw p n = 0 := by
  unfold mV
  have e := sm_congr (p := fun i => if mE tw p i then 1 else 0) (q := fun _ => 0) n (fun i _ => if_neg (fun q => by have := q.1; omega))
  rw [e]
  exact (sm_zero (b := fun _ => 0) (k := 0) n (Nat.zero_le _) (fun _ _ _ => rfl))
theorem mV_pc {tw : Nat → Int32} {p n : Nat} (hn : n ≤ 16) (h : mF tw p = 1) : pcN (num tw (p + 5) n) 16 = mV tw p n := by
  rw [pcN_num]
  unfold mV
  have e1 : sm (fun i => if i < n ∧ tb tw (p + 5 + i) = true then 1 else 0) 16 = sm (fun i => if i < n ∧ tb tw (p + 5 + i) = true then 1 else 0) n := sm_zero 16 hn (fun i h1 _ => if_neg (fun q => by have := q.1; omega))
  rw [e1]
  refine sm_congr n (fun i hi => ?_)
  by_cases ht : tb tw (p + 5 + i) = true
  · rw [if_pos (show i < n ∧ tb tw (p + 5 + i) = true from ⟨hi, ht⟩), if_pos (show mE tw p i from ⟨h, ht⟩)]
  · rw [if_neg (show ¬ (i < n ∧ tb tw (p + 5 + i) = true) from fun q => ht q.2), if_neg (show ¬ mE tw p i from fun q => ht q.2)]
theorem mM_0 {tw : Nat → Int32} {p n : Nat} (hn : n ≤ 16) (h : mF tw p = 1) : num tw (p + 5) n = 0 ↔ mV tw p n = 0 := by
  constructor
  · intro q
    rw [← mV_pc hn h, q]
    decide
  · intro q
    refine Nat.eq_of_testBit_eq (fun i => ?_)
    rw [num_tb, Nat.zero_testBit]
    by_cases hi : i < n
    · rw [decide_eq_true hi, Bool.true_and]
      cases ht : tb tw (p + 5 + i) with
      | false => rfl
      | true =>
        have h2 := sm_pos2 (b := fun i => if mE tw p i then 1 else 0) (n := n) (i := i) hi (by rw [if_pos (show mE tw p i from ⟨h, ht⟩)]; omega)
        unfold mV at q
        omega
    · rw [decide_eq_false hi, Bool.false_and]
theorem k_j33 {p n : Nat} {wh mk vl : Int32} (hT : T ≤ 400) (hp : p + 32 ≤ 32 * T) (hn : n ≤ 16) :
    (mF hw p = 1 ∧ mV hw p n = 0 ∧ ∃ u, pX4_openPlaces_j33 0 wh (nI (p + 4)) (nI n) mk vl (nI T) hw = some u ∧ u.1 = 6 ∧ u.2.1 = nI (p + 5)) ∨ (¬ (mF hw p = 1 ∧ mV hw p n = 0) ∧ pX4_openPlaces_j33 0 wh (nI (p + 4)) (nI n) mk vl (nI T) hw = some (0, wh, nI (mQ hw p n), nI n, nI (mM hw p n), nI (n - mV hw p n))) := by
  have e1 : pX4_number 1 0 wh (nI (p + 4)) (nI T) hw = some (nI (mF hw p), 0, wh, nI (p + 5)) := by
    rw [n_l1, k_number hT (by omega) (by omega), if_pos (by omega)]; rfl
  have hle := mV_le hw p n
  unfold pX4_openPlaces_j33
  rw [e1, Option.bind_some]
  dsimp only
  rcases mF_01 hw p with h | h
  · have hz := mV_z (n := n) h
    refine Or.inr ⟨fun q => by omega, ?_⟩
    have eb := k_bitCount (m := 0) (by omega)
    rw [h, if_neg (show ¬ nI 0 = 1 by decide)]
    unfold pX4_openPlaces_j47 pX4_openPlaces_j70 pX4_openPlaces_j91 mQ mM
    rw [if_pos rfl, if_pos rfl, n_l0, eb, Option.bind_some, show pcN 0 16 = 0 from by decide, pk_sub (by omega), hz, if_neg (by omega), if_neg (by omega)]
  · have e2 := k_number (T := T) (tw := hw) (p := p + 5) (n := n) (wh := wh) hT (by omega) (by omega)
    rw [if_pos (by omega)] at e2
    rw [h, if_pos (show nI 1 = 1 from rfl)]
    unfold pX4_openPlaces_j47 pX4_openPlaces_j70
    have hlt : num hw (p + 5) n < 65536 := Nat.lt_of_lt_of_le (num_lt _ _ _) (show 2 ^ n ≤ 2 ^ 16 from Nat.pow_le_pow_right (by omega) hn)
    rw [if_neg (show ¬ (1 : Int32) = 0 by decide), e2, Option.bind_some]
    dsimp only
    rw [if_neg (show ¬ (1 : Int32) = 0 by decide)]
    by_cases hz : mV hw p n = 0
    · refine Or.inl ⟨rfl, hz, ?_⟩
      rw [(mM_0 hn h).mpr hz, if_pos (show nI 0 = 0 from rfl)]
      unfold pX4_refuse
      rw [if_pos rfl, Option.bind_some]
      exact k_j91 _ _ _ _ _ _
    · refine Or.inr ⟨fun q => hz q.2, ?_⟩
      rw [if_neg (show ¬ nI (num hw (p + 5) n) = 0 by rw [n_l0, nI_eq (by omega) (by omega)]; exact fun q => hz ((mM_0 hn h).mp q))]
      unfold pX4_openPlaces_j91 mQ mM
      rw [k_bitCount hlt, Option.bind_some, mV_pc hn h, pk_sub hle, if_pos h, if_pos h]
end OpenK
