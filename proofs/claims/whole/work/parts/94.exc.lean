/-! ===== opening: the exceptions ===== -/
theorem l_shlN {h k : Nat} (hh : h < 2 ^ 32) (hk : k < 64) : lN h <<< ((nI k).toInt64 &&& 63) = lN (h * 2 ^ k) := by
  rw [wb_c k hk]
  refine Int64.toBitVec_inj.mp ?_
  show (BitVec.ofNat 64 h) <<< ((BitVec.ofNat 64 k).smod 64) = BitVec.ofNat 64 (h * 2 ^ k)
  rw [wb_sm k hk]
  show (BitVec.ofNat 64 h) <<< (BitVec.ofNat 64 k).toNat = BitVec.ofNat 64 (h * 2 ^ k)
  refine BitVec.eq_of_toNat_eq ?_
  rw [BitVec.toNat_shiftLeft, BitVec.toNat_ofNat, BitVec.toNat_ofNat, BitVec.toNat_ofNat, Nat.mod_eq_of_lt (show k < 2 ^ 64 by omega), Nat.mod_eq_of_lt (show h < 2 ^ 64 by omega), Nat.shiftLeft_eq]
theorem i_shlN {h k : Nat} (hh : h < 2 ^ 32) (hk : k < 32) : nI h <<< (nI k &&& 31) = nI (h * 2 ^ k) := by
  have e0 : nI k &&& 31 = nI k := (by decide +kernel : ∀ k, k < 32 → nI k &&& 31 = nI k) k hk
  have hsm : (BitVec.ofNat 32 k).smod 32 = BitVec.ofNat 32 k := (by decide +kernel : ∀ k, k < 32 → (BitVec.ofNat 32 k).smod 32 = BitVec.ofNat 32 k) k hk
  rw [e0]
  refine Int32.toBitVec_inj.mp ?_
  show (BitVec.ofNat 32 h) <<< ((BitVec.ofNat 32 k).smod 32) = BitVec.ofNat 32 (h * 2 ^ k)
  rw [hsm]
  show (BitVec.ofNat 32 h) <<< (BitVec.ofNat 32 k).toNat = BitVec.ofNat 32 (h * 2 ^ k)
  refine BitVec.eq_of_toNat_eq ?_
  rw [BitVec.toNat_shiftLeft, BitVec.toNat_ofNat, BitVec.toNat_ofNat, BitVec.toNat_ofNat, Nat.mod_eq_of_lt (show k < 2 ^ 32 by omega), Nat.mod_eq_of_lt hh, Nat.shiftLeft_eq]
/-- the index behind which the next one must lie -/
def la (l : Nat) : Int32 := if l = 0 then -1 else nI (l - 1)
theorem la_s (x : Nat) : la (x + 1) = nI x := by unfold la; rw [if_neg (by omega)]; rfl
theorem la_lt {l x : Nat} (hl : l < 2 ^ 20) (hx : x < 2 ^ 20) : (la l < nI x ↔ l ≤ x) ∧ (nI x ≤ la l ↔ x < l) := by
  unfold la
  by_cases h : l = 0
  · subst h
    rw [if_pos rfl]
    have h0 : (0 : Int32) ≤ nI x := nI_le (a := 0) (by omega) (by omega)
    constructor
    · exact ⟨fun _ => Nat.zero_le _, fun _ => Int32.lt_of_lt_of_le (by decide : (-1 : Int32) < 0) h0⟩
    · exact ⟨fun q => absurd (Int32.le_trans h0 q) (by decide), fun q => absurd q (Nat.not_lt_zero _)⟩
  · rw [if_neg h, nI_ltI (by omega) (by omega), nI_leI (by omega) (by omega)]
    exact ⟨by omega, by omega⟩
/-- exceptions read: the fault, or the least index next, the place on the tape, the parts -/
abbrev ES : Type := (Nat × Nat) ⊕ (Nat × Nat × (Nat → Nat))
def eStep (T : Nat) (tw : Nat → Int32) (pc wd : Nat) (l pos : Nat) (P : Nat → Nat) : ES :=
  if pos + 4 ≤ 32 * T then
    if num tw pos 4 < pc ∧ l ≤ num tw pos 4 then
      if pos + 4 + (32 - wd) ≤ 32 * T then
        if num tw (pos + 4) (32 - wd) = 0 then .inl (6, pos + 4)
        else .inr (num tw pos 4 + 1, pos + 4 + (32 - wd), ud P (num tw pos 4) (P (num tw pos 4) ||| num tw (pos + 4) (32 - wd) * 2 ^ wd))
      else .inl (1, pos + 4)
    else .inl (5, pos)
  else .inl (1, pos)
def eRun (T : Nat) (tw : Nat → Int32) (pc wd : Nat) (pos : Nat) (P : Nat → Nat) : Nat → ES
  | 0 => .inr (0, pos, P)
  | k + 1 => match eRun T tw pc wd pos P k with
    | .inl x => .inl x
    | .inr y => eStep T tw pc wd y.1 y.2.1 y.2.2
section Exc
variable {T : Nat} {tw hw : Nat → Int32} {pc wd e : Nat} {P0 : Nat → Nat}
theorem eR_s (k : Nat) : eRun T tw pc wd e P0 (k + 1) = match eRun T tw pc wd e P0 k with
    | .inl x => .inl x
    | .inr y => eStep T tw pc wd y.1 y.2.1 y.2.2 := rfl
theorem eR_bad {x : Nat × Nat} {k : Nat} : ∀ n, k ≤ n → eRun T tw pc wd e P0 k = .inl x → eRun T tw pc wd e P0 n = .inl x := by
  intro n
  induction n with
  | zero => intro h1 h2; rw [← h2, show k = 0 by omega]
  | succ m ih =>
    intro h1 h2
    by_cases h : k = m + 1
    · rw [← h]; exact h2
    · rw [eR_s, ih (by omega) h2]
/-- every state is well -/
theorem eR_ok : ∀ k y, eRun T tw pc wd e P0 k = .inr y → y.1 ≤ pc ∧ (e ≤ 32 * T → y.2.1 ≤ 32 * T) ∧ e ≤ y.2.1 := by
  intro k
  induction k with
  | zero => intro y h; cases h; exact ⟨Nat.zero_le _, fun q => q, Nat.le_refl _⟩
  | succ m ih =>
    intro y h
    rw [eR_s] at h
    cases hm : eRun T tw pc wd e P0 m with
    | inl x => rw [hm] at h; cases h
    | inr y' =>
      rw [hm] at h
      obtain ⟨i1, i2, i3⟩ := ih y' hm
      replace h : eStep T tw pc wd y'.1 y'.2.1 y'.2.2 = .inr y := h
      unfold eStep at h
      by_cases g1 : y'.2.1 + 4 ≤ 32 * T
      · rw [if_pos g1] at h
        by_cases g2 : num tw y'.2.1 4 < pc ∧ y'.1 ≤ num tw y'.2.1 4
        · rw [if_pos g2] at h
          by_cases g3 : y'.2.1 + 4 + (32 - wd) ≤ 32 * T
          · rw [if_pos g3] at h
            by_cases g4 : num tw (y'.2.1 + 4) (32 - wd) = 0
            · rw [if_pos g4] at h; cases h
            · rw [if_neg g4] at h
              cases h
              exact ⟨g2.1, fun _ => g3, by show e ≤ y'.2.1 + 4 + (32 - wd); omega⟩
          · rw [if_neg g3] at h; cases h
        · rw [if_neg g2] at h; cases h
      · rw [if_neg g1] at h; cases h
/-- the class -/
theorem k_j52O {v1 v2 v4 kd wh at_ : Int32} {ks : Nat → Int32} (h : ¬ kd = 0) : pX4_openExceptions_b4j52 v1 v2 v4 kd wh at_ (nI wd) (nI T) hw ks = some (.inl (v4, v2 + 1, kd, wh, at_, ks)) := by
  unfold pX4_openExceptions_b4j52 pX4_openExceptions_b4j84 pX4_openExceptions_b4j120 pX4_refuse
  rw [k_numberO h, Option.bind_some]
  dsimp only
  rw [if_pos rfl, if_neg h, Option.bind_some]
  dsimp only
  rw [if_neg h]
def KE (st : ES) (wh0 : Int32) (pc : Nat) (l kd wh at_ : Int32) (ks : Nat → Int32) : Prop := match st with
  | .inl x => kd = nI x.1 ∧ ¬ kd = 0 ∧ wh = nI x.2
  | .inr y => kd = 0 ∧ wh = wh0 ∧ l = la y.1 ∧ at_ = nI y.2.1 ∧ ∀ j, j < pc → ks j = nI (y.2.2 j)
theorem k_exc {wh : Int32} {ks : Nat → Int32} {ex : Nat} (hT : T ≤ 400) (hw_ : TW T tw hw) (hpc : pc ≤ 16) (hwd : ex = 0 ∨ wd < 32) (hex : ex ≤ 15) (he : e ≤ 32 * T) (hk : ∀ j, j < pc → ks j = nI (P0 j)) :
    ∃ z, pX4_openExceptions 0 wh (nI e) (nI wd) (nI ex) (nI pc) (nI T) hw ks = some z ∧ ∃ l, KE (eRun T tw pc wd e P0 ex) wh pc l z.1 z.2.1 z.2.2.1 z.2.2.2 := by
  obtain ⟨r, er, hr⟩ := lpE (body := pX4_openExceptions_b4 (nI wd) (nI ex) (nI pc) (nI T) hw) (fun k s => s.2.1 = nI k ∧ KE (eRun T tw pc wd e P0 k) wh pc s.1 s.2.2.1 s.2.2.2.1 s.2.2.2.2.1 s.2.2.2.2.2) (fun r => KE (eRun T tw pc wd e P0 ex) wh pc r.1 r.2.2.1 r.2.2.2.1 r.2.2.2.2.1 r.2.2.2.2.2) ex (-1, nI 0, 0, wh, nI e, ks) ⟨rfl, rfl, rfl, rfl, rfl, hk⟩ (fun k s hk hI => by
    obtain ⟨s1, s2, s3, s4, s5, s6⟩ := s
    obtain ⟨g1, g2⟩ := hI
    replace g1 : s2 = nI k := g1
    replace g2 : KE (eRun T tw pc wd e P0 k) wh pc s1 s3 s4 s5 s6 := g2
    subst g1
    unfold pX4_openExceptions_b4
    rcases Nat.lt_or_ge k ex with h9 | h9
    · rw [if_neg (show ¬ nI ex ≤ nI k by rw [nI_leI (by omega) (by omega)]; omega)]
      dsimp only
      have hs := eR_s (T := T) (tw := tw) (pc := pc) (wd := wd) (e := e) (P0 := P0) k
      cases hE : eRun T tw pc wd e P0 k with
      | inl x =>
        rw [hE] at g2
        obtain ⟨q1, q2, q3⟩ := g2
        refine Or.inr ?_
        rw [if_neg q2]
        refine ⟨_, rfl, ?_⟩
        rw [eR_bad ex (by omega) hE]
        exact ⟨q1, q2, q3⟩
      | inr y =>
        rw [hE] at g2 hs
        obtain ⟨rfl, rfl, rfl, rfl, g3⟩ := g2
        obtain ⟨i1, i2, _⟩ := eR_ok k y hE
        replace hs : eRun T tw pc wd e P0 (k + 1) = eStep T tw pc wd y.1 y.2.1 y.2.2 := hs
        unfold eStep at hs
        have hpos := i2 he
        have hx := num_lt tw y.2.1 4
        obtain ⟨la1, la2⟩ := la_lt (l := y.1) (x := num tw y.2.1 4) (by omega) (by omega)
        have m1 := k_number (T := T) (tw := hw) (p := y.2.1) (n := 4) (wh := s4) hT (by omega) hpos
        rw [← n_l4] at m1
        refine Or.inl ?_
        rw [if_pos rfl, m1, Option.bind_some]
        have h1O : ¬ (1 : Int32) = 0 := by decide
        have h5O : ¬ (5 : Int32) = 0 := by decide
        by_cases b1 : y.2.1 + 4 ≤ 32 * T
        · rw [if_pos b1] at hs
          rw [if_pos b1, num_TW hw_ b1]
          dsimp only
          have bad5 : pX4_openExceptions_b4j46 (la y.1) (nI k) (nI y.2.1) (nI (num tw y.2.1 4)) 0 s4 (nI (y.2.1 + 4)) (nI wd) (nI T) hw s6 = some (.inl (nI (num tw y.2.1 4), nI k + 1, 5, nI y.2.1, nI (y.2.1 + 4), s6)) := by
            unfold pX4_openExceptions_b4j46 pX4_refuse
            rw [if_pos rfl, Option.bind_some]
            exact k_j52O h5O
          by_cases b2 : num tw y.2.1 4 < pc ∧ y.1 ≤ num tw y.2.1 4
          · rw [if_pos b2] at hs
            rw [if_neg (show ¬ nI (num tw y.2.1 4) ≤ la y.1 from fun q => by have := la2.mp q; omega), if_pos (nI_lt b2.1 (by omega))]
            unfold pX4_openExceptions_b4j52
            have m2 := k_number (T := T) (tw := hw) (p := y.2.1 + 4) (n := 32 - wd) (wh := s4) hT (by omega) b1
            rw [n_l32, pk_sub (by omega), m2, Option.bind_some]
            by_cases b3 : y.2.1 + 4 + (32 - wd) ≤ 32 * T
            · rw [if_pos b3] at hs
              rw [if_pos b3, num_TW hw_ b3]
              dsimp only
              have hh := num_lt tw (y.2.1 + 4) (32 - wd)
              have hh2 : num tw (y.2.1 + 4) (32 - wd) < 2 ^ 32 := Nat.lt_of_lt_of_le hh (Nat.pow_le_pow_right (by omega) (by omega))
              by_cases b4 : num tw (y.2.1 + 4) (32 - wd) = 0
              · rw [if_pos b4] at hs
                unfold pX4_refuse pX4_openExceptions_b4j84 pX4_openExceptions_b4j120
                rw [b4, if_pos (show nI 0 = 0 from rfl), if_pos rfl, Option.bind_some]
                dsimp only
                rw [if_neg (show ¬ (6 : Int32) = 0 by decide)]
                refine ⟨_, rfl, h9, by show nI k + nI 1 = _; rw [nI_add], ?_⟩
                rw [hs]
                exact ⟨rfl, (by decide : ¬ (6 : Int32) = 0), rfl⟩
              · rw [if_neg b4] at hs
                have hnz : ¬ nI (num tw (y.2.1 + 4) (32 - wd)) = 0 := fun q => by
                  have q2 := congrArg (fun x : Int32 => x.toBitVec.toNat) q
                  replace q2 : (BitVec.ofNat 32 (num tw (y.2.1 + 4) (32 - wd))).toNat = (0#32).toNat := q2
                  rw [BitVec.toNat_ofNat, Nat.mod_eq_of_lt hh2] at q2
                  exact b4 q2
                unfold pX4_openExceptions_b4j84 pX4_openExceptions_b4j120
                rw [if_neg hnz, if_pos rfl, if_neg (show ¬ nI (num tw y.2.1 4) < 0 by rw [n_l0, nI_ltI (by omega) (by omega)]; omega), if_neg (show ¬ (16 : Int32) ≤ nI (num tw y.2.1 4) by rw [n_l16, nI_leI (by omega) (by omega)]; omega), ckN (by omega) (by omega), ckN (by omega) (by omega), nI_clamp (by omega), g3 _ b2.1, i_shlN hh2 (by omega), nI_or]
                refine ⟨_, rfl, h9, by show nI k + nI 1 = _; rw [nI_add], ?_⟩
                rw [hs]
                refine ⟨rfl, rfl, (la_s _).symm, rfl, fun j hj => ?_⟩
                show upd s6 (num tw y.2.1 4) _ j = nI (ud y.2.2 (num tw y.2.1 4) _ j)
                by_cases hj2 : j = num tw y.2.1 4
                · rw [hj2, u_at, ud_at]
                · rw [u_ne hj2, ud_ne hj2]; exact g3 j hj
            · rw [if_neg b3] at hs
              rw [if_neg b3]
              dsimp only
              unfold pX4_refuse pX4_openExceptions_b4j84 pX4_openExceptions_b4j120
              rw [if_pos rfl, if_neg h1O, Option.bind_some]
              dsimp only
              rw [if_neg h1O]
              refine ⟨_, rfl, h9, by show nI k + nI 1 = _; rw [nI_add], ?_⟩
              rw [hs]
              exact ⟨rfl, h1O, rfl⟩
          · rw [if_neg b2] at hs
            by_cases b5 : num tw y.2.1 4 < y.1
            · rw [if_pos (la2.mpr b5), bad5]
              refine ⟨_, rfl, h9, by show nI k + nI 1 = _; rw [nI_add], ?_⟩
              rw [hs]
              exact ⟨rfl, h5O, rfl⟩
            · rw [if_neg (fun q => b5 (la2.mp q)), if_neg (show ¬ nI (num tw y.2.1 4) < nI pc by rw [nI_ltI (by omega) (by omega)]; omega), bad5]
              refine ⟨_, rfl, h9, by show nI k + nI 1 = _; rw [nI_add], ?_⟩
              rw [hs]
              exact ⟨rfl, h5O, rfl⟩
        · rw [if_neg b1] at hs
          rw [if_neg b1]
          dsimp only
          have bad1 : pX4_openExceptions_b4j46 (la y.1) (nI k) (nI y.2.1) 0 1 (nI y.2.1) (nI y.2.1) (nI wd) (nI T) hw s6 = some (.inl (0, nI k + 1, 1, nI y.2.1, nI y.2.1, s6)) := by
            unfold pX4_openExceptions_b4j46 pX4_refuse
            rw [if_neg h1O, Option.bind_some]
            exact k_j52O h1O
          rw [bad1, k_j52O h1O, ite_self, ite_self]
          refine ⟨_, rfl, h9, by show nI k + nI 1 = _; rw [nI_add], ?_⟩
          rw [hs]
          exact ⟨rfl, h1O, rfl⟩
    · obtain rfl : k = ex := by omega
      refine Or.inr ?_
      rw [if_pos (Int32.le_refl _)]
      exact ⟨_, rfl, g2⟩)
  have er' : lp (pX4_openExceptions_b4 (nI wd) (nI ex) (nI pc) (nI T) hw) FU (-1, 0, 0, wh, nI e, ks) = some r := er
  unfold pX4_openExceptions
  rw [er', Option.bind_some]
  exact ⟨_, rfl, _, hr⟩
end Exc
