/-! ===== opening: the values ===== -/
def gv (fm : Nat) (B S : Int32) (P : Nat → Nat) : Nat → Int32
  | 0 => if fm = 0 then B + nI (P 0) else B
  | j + 1 => if fm = 0 then B + nI (P (j + 1)) else gv fm B S P j + (if fm = 1 then un (P j) else nI (P j) + S)
theorem gv_0 {B S : Int32} {P : Nat → Nat} (j : Nat) : gv 0 B S P j = B + nI (P j) := by cases j <;> rfl
theorem gv_s {fm : Nat} {B S : Int32} {P : Nat → Nat} (h : ¬ fm = 0) (j : Nat) : gv fm B S P (j + 1) = gv fm B S P j + (if fm = 1 then un (P j) else nI (P j) + S) := if_neg h
theorem gv_f {fm : Nat} {B S : Int32} {P : Nat → Nat} (h : ¬ fm = 0) : gv fm B S P 0 = B := if_neg h
theorem i_addsub (x y : Int32) : x + y - x = y := by rw [Int32.add_comm, Int32.add_sub_cancel]
/-- the parts of the values are what was read -/
theorem gv_qs {fm V : Nat} {B S : Int32} {P : Nat → Nat} (hf : fm ≤ 2) (hP : ∀ j, j < pcn fm V → P j < 2 ^ 32) (hb : fm = 0 → lv (gv fm B S P) V = B) {j : Nat} (hj : j < pcn fm V) : qs fm S (gv fm B S P) V j = P j := by
  unfold qs pt
  rcases (show fm = 0 ∨ fm = 1 ∨ fm = 2 by omega) with rfl | rfl | rfl
  · show u32 (gv 0 B S P j - lv (gv 0 B S P) V) = _
    rw [hb rfl, gv_0, i_addsub]; exact u32_nI (hP j hj)
  · show u32 (fo (gv 1 B S P (j + 1) - gv 1 B S P j)) = _
    rw [gv_s (by omega), if_pos rfl, i_addsub]; exact fo_un (hP j hj)
  · show u32 (gv 2 B S P (j + 1) - gv 2 B S P j - S) = _
    rw [gv_s (by omega), if_neg (by omega), i_addsub, Int32.add_sub_cancel]; exact u32_nI (hP j hj)
theorem k_vb {fm V c : Nat} {B S pv : Int32} {P : Nat → Nat} {ks : Nat → Int32} (hf : fm ≤ 2) (hV : V ≤ 16) (hc : c < V) (hk : ∀ j, j < pcn fm V → ks j = nI (P j)) (hP : ∀ j, j < pcn fm V → P j < 2 ^ 32) (hp : ∀ d, c = d + 1 → pv = gv fm B S P d) : pX4_valueBehind pv (nI c) (nI fm) B S ks = some (gv fm B S P c) := by
  unfold pX4_valueBehind
  by_cases h0 : fm = 0
  · subst h0
    rw [if_pos (show nI 0 = 0 from rfl), if_neg (show ¬ (16 : Int32) ≤ nI c by rw [n_l16, nI_leI (by omega) (by omega)]; omega), ckN (by omega) (by omega), nI_clamp (by omega), hk c (by unfold pcn; rw [if_pos rfl]; exact hc), gv_0]
  · rw [if_neg (show ¬ nI fm = 0 by rw [n_l0, nI_eq (by omega) (by omega)]; exact h0)]
    cases c with
    | zero => rw [if_pos (show nI 0 = 0 from rfl), gv_f h0]
    | succ d =>
      have hd : d < pcn fm V := by unfold pcn; rw [if_neg h0]; omega
      rw [if_neg (show ¬ nI (d + 1) = 0 by rw [n_l0, nI_eq (by omega) (by omega)]; omega), if_pos (show nI (d + 1) ≤ 16 from nI_le (b := 16) (by omega) (by omega)), n_l1, pk_sub (by omega), Nat.add_sub_cancel, ckN (by omega) (by omega), nI_clamp (by omega), hk d hd, hp d rfl, gv_s h0]
      by_cases h2 : fm = 2
      · rw [if_pos (show nI fm = 2 by rw [h2]; rfl), if_neg (by omega)]
      · rw [if_neg (show ¬ nI fm = 2 by rw [n_l2, nI_eq (by omega) (by omega)]; exact h2), k_unf (hP d hd), Option.bind_some, if_pos (by omega)]
/-- which value a place has -/
def tE (tw : Nat → Int32) (p : Nat) (g : Nat → Int32) (i : Nat) : Option Int32 := if mE tw p i then none else some (g (i - mV tw p i))
theorem nI_bt {m k : Nat} (hk : k < 32) : bt (nI m) k = m.testBit k := by
  unfold bt
  show (BitVec.ofNat 32 m).getLsbD k = _
  rw [BitVec.getLsbD_ofNat, decide_eq_true hk, Bool.true_and]
theorem mM_bit {tw : Nat → Int32} {p n i : Nat} (hi : i < n) (hn : n ≤ 16) : (((nI (mM tw p n)).toUInt32 >>> ((nI i).toUInt32 &&& Int32.toUInt32 31)).toInt32 &&& 1) = if mE tw p i then nI 1 else nI 0 := by
  rw [n_l1, k_bit1 (by omega), nI_bt (by omega)]
  unfold mM
  by_cases h : mF tw p = 1
  · rw [if_pos h, num_tb, decide_eq_true hi, Bool.true_and]
    by_cases ht : tb tw (p + 5 + i) = true
    · rw [if_pos ht, if_pos (show mE tw p i from ⟨h, ht⟩)]
    · rw [if_neg ht, if_neg (show ¬ mE tw p i from fun q => ht q.2)]
  · rw [if_neg h, Nat.zero_testBit, if_neg Bool.false_ne_true, if_neg (show ¬ mE tw p i from fun q => h q.1)]
theorem mV_mono (tw : Nat → Int32) (p : Nat) {i n : Nat} (h : i ≤ n) : mV tw p i ≤ mV tw p n := sm_mono h
theorem mV_in {tw : Nat → Int32} {p i n : Nat} (h : i < n) (hm : ¬ mE tw p i) : i - mV tw p i < n - mV tw p n := by
  have h1 := mV_le tw p i
  have key : ∀ d, mV tw p (i + 1 + d) ≤ mV tw p (i + 1) + d := by
    intro d
    induction d with
    | zero => exact Nat.le_refl _
    | succ e ih =>
      rw [show i + 1 + (e + 1) = i + 1 + e + 1 by omega, mV_s]
      split <;> omega
  have h2 := key (n - (i + 1))
  rw [show i + 1 + (n - (i + 1)) = n by omega, mV_s, if_neg hm, Nat.add_zero] at h2
  omega
/-- the least so far, as the class keeps it -/
def mnS (g : Nat → Int32) (c : Nat) : Int32 := if c = 0 then 2147483647 else lvs g (c - 1)
theorem mnS_1 (g : Nat → Int32) (c : Nat) : mnS g (c + 1) = lvs g c := if_neg (Nat.succ_ne_zero c)
theorem mnS_0 (g : Nat → Int32) : mnS g 0 = 2147483647 := if_pos rfl
theorem mnS_s (g : Nat → Int32) (c : Nat) : (if mnS g c ≤ g c then mnS g c else g c) = mnS g (c + 1) := by
  cases c with
  | zero =>
    rw [mnS_1, mnS_0]
    show _ = g 0
    have hb := i32_lt (g 0)
    by_cases h : (2147483647 : Int32) ≤ g 0
    · rw [if_pos h]
      have h2 := Int32.le_iff_toInt_le.mp h
      have e : (2147483647 : Int32).toInt = 2147483647 := by decide
      exact Int32.toInt_inj.mp (by rw [e] at h2 ⊢; omega)
    · rw [if_neg h]
  | succ d =>
    rw [mnS_1, mnS_1]
    rfl
section TakeK
variable {tw : Nat → Int32}
theorem k_app {L : Nat} {tl : Nat → Int64} (hL : L < 128) (v : Int64) : pX5_append 128 v (nI L) tl = some (1, nI (L + 1), vp_updL tl L v) := by
  unfold pX5_append
  rw [show Int32.ofNat 128 = nI 128 from rfl, if_pos (nI_lt hL (by omega)), ckN (by omega) (by omega), nI_clamp (by omega), n_l1, nI_add]
/-- the class takes the values -/
theorem k_take {p n R fm : Nat} {B S : Int32} {P : Nat → Nat} {ks : Nat → Int32} {tl : Nat → Int64} (hn : n ≤ 16) (hR : R + n ≤ 128) (hf : fm ≤ 2) (hk : ∀ j, j < pcn fm (n - mV tw p n) → ks j = nI (P j)) (hP : ∀ j, j < pcn fm (n - mV tw p n) → P j < 2 ^ 32) :
    ∃ r, lp (pX4_takeValues_b14 128 (nI n) (nI (mM tw p n)) (nI fm) B S ks) FU (nI 0, B, 2147483647, nI 0, nI R, tl) = some r ∧ r.2.2.1 = mnS (gv fm B S P) (n - mV tw p n) ∧ r.2.2.2.2.1 = nI (R + n) ∧ (∀ j, j < R → r.2.2.2.2.2 j = tl j) ∧ ∀ i, i < n → r.2.2.2.2.2 (R + i) = enc (tE tw p (gv fm B S P) i) := by
  refine lpE (body := pX4_takeValues_b14 128 (nI n) (nI (mM tw p n)) (nI fm) B S ks) (fun k s => s.1 = nI (k - mV tw p k) ∧ (∀ d, k - mV tw p k = d + 1 → s.2.1 = gv fm B S P d) ∧ s.2.2.1 = mnS (gv fm B S P) (k - mV tw p k) ∧ s.2.2.2.1 = nI k ∧ s.2.2.2.2.1 = nI (R + k) ∧ (∀ j, j < R → s.2.2.2.2.2 j = tl j) ∧ ∀ i, i < k → s.2.2.2.2.2 (R + i) = enc (tE tw p (gv fm B S P) i)) _ n (nI 0, B, 2147483647, nI 0, nI R, tl) ⟨rfl, fun d h => absurd h (by have : mV tw p 0 = 0 := rfl; omega), (mnS_0 _).symm, rfl, rfl, fun _ _ => rfl, fun i hi => absurd hi (Nat.not_lt_zero i)⟩ (fun k s hk9 hI => ?_)
  obtain ⟨s1, s2, s3, s4, s5, s6⟩ := s
  obtain ⟨g1, g2, g3, g4, g5, g6, g7⟩ := hI
  replace g1 : s1 = nI (k - mV tw p k) := g1
  replace g2 : ∀ d, k - mV tw p k = d + 1 → s2 = gv fm B S P d := g2
  replace g3 : s3 = mnS (gv fm B S P) (k - mV tw p k) := g3
  replace g4 : s4 = nI k := g4
  replace g5 : s5 = nI (R + k) := g5
  replace g6 : ∀ j, j < R → s6 j = tl j := g6
  replace g7 : ∀ i, i < k → s6 (R + i) = enc (tE tw p (gv fm B S P) i) := g7
  subst g1 g3 g4 g5
  have hle := mV_le tw p k
  unfold pX4_takeValues_b14 pX4_takeValues_b14j41 pX4_takeValues_b14j66 pX4_takeValues_b14j83
  rcases Nat.lt_or_ge k n with h9 | h9
  · refine Or.inl ?_
    have hbit := mM_bit (tw := tw) (p := p) h9 hn
    rw [if_neg (show ¬ nI n ≤ nI k by rw [nI_leI (by omega) (by omega)]; omega)]
    dsimp only
    by_cases hm : mE tw p k
    · rw [if_pos hm] at hbit
      rw [if_pos (show _ = (1 : Int32) from hbit), if_neg (show ¬ (1 : Int32) = 0 by decide), if_neg (show ¬ (1 : Int32) = 0 by decide), k_app (by omega), Option.bind_some]
      have hs : k + 1 - mV tw p (k + 1) = k - mV tw p k := by rw [mV_s, if_pos hm]; omega
      refine ⟨_, rfl, h9, by rw [hs], by rw [hs]; exact g2, by rw [hs], by show nI k + nI 1 = _; rw [nI_add], rfl, fun j hj => ?_, fun i hi => ?_⟩
      · show vp_updL s6 (R + k) _ j = _
        rw [ul_ne (by omega)]; exact g6 j hj
      · show vp_updL s6 (R + k) 4294967296 (R + i) = _
        by_cases hi2 : i = k
        · rw [hi2, ul_at]; unfold tE; rw [if_pos hm]; rfl
        · rw [ul_ne (by omega)]; exact g7 i (by omega)
    · rw [if_neg hm] at hbit
      have hc := mV_in (n := n) h9 hm
      have hvb := k_vb (fm := fm) (V := n - mV tw p n) (c := k - mV tw p k) (B := B) (S := S) (pv := s2) (P := P) (ks := ks) hf (by omega) hc hk hP g2
      rw [if_neg (show ¬ _ = (1 : Int32) from fun q => absurd (hbit.symm.trans q) (by decide)), if_pos rfl, hvb, Option.bind_some, k_min, Option.bind_some, if_pos rfl, k_app (by omega), Option.bind_some, mnS_s]
      have hs : k + 1 - mV tw p (k + 1) = k - mV tw p k + 1 := by rw [mV_s, if_neg hm]; omega
      refine ⟨_, rfl, h9, by rw [hs]; show nI _ + nI 1 = _; rw [nI_add], ?_, by rw [hs], by show nI k + nI 1 = _; rw [nI_add], rfl, fun j hj => ?_, fun i hi => ?_⟩
      · rw [hs]
        intro d hd
        have : d = k - mV tw p k := by omega
        rw [this]
      · show vp_updL s6 (R + k) _ j = _
        rw [ul_ne (by omega)]; exact g6 j hj
      · show vp_updL s6 (R + k) _ (R + i) = _
        by_cases hi2 : i = k
        · rw [hi2, ul_at]; unfold tE; rw [if_neg hm]; rfl
        · rw [ul_ne (by omega)]; exact g7 i (by omega)
  · obtain rfl : k = n := by omega
    refine Or.inr ?_
    rw [if_pos (Int32.le_refl _)]
    exact ⟨_, rfl, rfl, rfl, g6, g7⟩
end TakeK
