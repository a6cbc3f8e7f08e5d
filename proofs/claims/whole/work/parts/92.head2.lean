/-! ===== opening: the head as a whole ===== -/
section Head2
variable {T : Nat} {tw hw : Nat → Int32}
theorem q_prt {V q fm wd s : Nat} {xp fp wh rwd b0 b1 b2 b3 c0 c1 c2 c3 c4 : Int32} {rd : Nat → Int32} (hT : T ≤ 400) (hw_ : TW T tw hw) (hr : s ≤ 32 * T) (hq : s = q + 8) (h1 : fm ≤ 2) (h2 : fm = 0 ∨ 2 ≤ V) (h3 : wd ≤ 32) (hV : V ≤ 16) :
    ∃ z w, pX10_readsHead_j165 xp (nI T) (nI s) 0 fp rwd (nI V) (nI fm) (nI wd) b0 b1 b2 b3 tw rd = some z ∧ pX4_openHead_j73 0 wh (nI s) (nI V) (nI fm) (nI wd) c0 c1 c2 c3 c4 (nI T) hw = some w ∧ ((z.1 = 0 ∧ FLT z.2.2.2.1 z.2.2.2.2.1 w.1 w.2.1) ∨ HOK T V q rwd (nI V) fp wh rd z w) := by
  unfold pX10_readsHead_j165 pX4_openHead_j73
  by_cases h : fm = 0
  · rw [if_pos (show nI fm = 0 by rw [h]; rfl), if_pos (show nI fm = 0 by rw [h]; rfl)]
    exact q_exc hT hw_ hr hq h1 h2 h3 (by rw [if_pos h]) hV
  · have hne : ¬ nI fm = 0 := by rw [n_l0, nI_eq (by omega) (by omega)]; exact h
    rw [if_neg hne, if_neg hne, n_l1, pk_sub (by omega)]
    exact q_exc hT hw_ hr hq h1 h2 h3 (by rw [if_neg h]) (by omega)
theorem q_wid {V q fm s : Nat} {xp fp wh rwd a0 b0 b1 b2 b3 c c0 c1 c2 c3 c4 : Int32} {rd : Nat → Int32} (hT : T ≤ 400) (hw_ : TW T tw hw) (hr : s + 6 ≤ 32 * T) (hq : s = q + 2) (h1 : fm ≤ 2) (h2 : fm = 0 ∨ 2 ≤ V) (hV : V ≤ 16) :
    ∃ z w, pX10_readsHead_j126 xp (nI T) (nI s) 0 fp rwd (nI V) (nI fm) a0 b0 b1 b2 b3 tw rd = some z ∧ pX4_openHead_j43 0 wh (nI s) (nI V) (nI fm) c c0 c1 c2 c3 c4 (nI T) hw = some w ∧ ((z.1 = 0 ∧ FLT z.2.2.2.1 z.2.2.2.2.1 w.1 w.2.1) ∨ HOK T V q rwd (nI V) fp wh rd z w) := by
  have n1 := r_next (T := T) (tw := tw) (p := s) (n := 6) (fp := fp) hT (by omega) (by omega)
  have m1 := k_number (T := T) (tw := hw) (p := s) (n := 6) (wh := wh) hT (by omega) (by omega)
  rw [← n_l6, if_pos hr] at n1 m1
  rw [num_TW hw_ hr] at m1
  have hx := num_lt tw s 6
  unfold pX10_readsHead_j126 pX4_openHead_j43
  rw [n1, m1, Option.bind_some, Option.bind_some]
  dsimp only
  rw [r_fine0, Option.bind_some, if_neg (show ¬ (1 : Int32) = 0 by decide), lN_i32]
  by_cases g : num tw s 6 ≤ 32
  · have hg : nI (num tw s 6) ≤ 32 := nI_le (b := 32) g (by omega)
    rw [if_pos hg, if_pos hg]
    exact q_prt hT hw_ hr (by omega) h1 h2 g hV
  · have hg : ¬ nI (num tw s 6) ≤ 32 := by rw [n_l32, nI_leI (by omega) (by omega)]; exact g
    have hO : ¬ (3 : Int32) = 0 := by decide
    unfold pX10_wrong pX4_refuse
    rw [if_neg hg, if_neg hg, if_pos rfl, Option.bind_some, Option.bind_some]
    obtain ⟨w, ew, w1, w2⟩ := k_j73O (T := T) (hw := hw) (kd := 3) (wh := nI s) (at_ := nI (s + 6)) (vl := nI V) (fm := nI fm) (wd := nI (num tw s 6)) (ex := c0) (bs := c1) (ba := c2) (st := c3) (pc := c4) hO
    exact ⟨_, w, rfl, ew, Or.inl ⟨rfl, hO, w1, w2⟩⟩
/-- from the form on: what the reference does behind the mask, as a function of its own -/
theorem q_form {V q n R : Nat} {xp fp wh rv a0 a1 b0 b1 b2 b3 c c' c0 c1 c2 c3 c4 ps : Int32} {rd : Nat → Int32} {k66 : Int32 × Int32 × Int32 × Int32 × Int32 × (Nat → Int32)} (hT : T ≤ 400) (hw_ : TW T tw hw) (hr : q + 8 ≤ 32 * T) (hV : V ≤ 16)
    (em : pX10_readsMask (nI T) ps (nI R) 0 fp (nI n) rv tw rd = some k66) (k1 : k66.1 = 1) (k2 : k66.2.1 = nI q) (k3 : k66.2.2.1 = 0) (k4 : k66.2.2.2.1 = fp) (k5 : k66.2.2.2.2.1 = nI V) :
    ∃ z w, pX10_readsHead_j58 xp (nI T) ps (nI R) 0 fp (nI n) rv a0 a1 b0 b1 b2 b3 tw rd = some z ∧ pX4_openHead 0 wh (nI q) (nI V) c c' c0 c1 c2 c3 c4 (nI T) hw = some w ∧ ((z.1 = 0 ∧ FLT z.2.2.2.1 z.2.2.2.2.1 w.1 w.2.1) ∨ HOK T V q (nI n) (nI V) fp wh k66.2.2.2.2.2 z w) := by
  have n1 := r_next (T := T) (tw := tw) (p := q) (n := 2) (fp := fp) hT (by omega) (by omega)
  have m1 := k_number (T := T) (tw := hw) (p := q) (n := 2) (wh := wh) hT (by omega) (by omega)
  rw [← n_l2, if_pos (by omega)] at n1 m1
  rw [num_TW hw_ (by omega)] at m1
  have hx := num_lt tw q 2
  unfold pX10_readsHead_j58 pX4_openHead
  rw [r_fine0, Option.bind_some, if_neg (show ¬ (1 : Int32) = 0 by decide), em, Option.bind_some, k1, if_neg (show ¬ (1 : Int32) = 0 by decide), k2, k3, k4, k5, n1, m1, Option.bind_some, Option.bind_some]
  dsimp only
  rw [r_fine0, Option.bind_some, if_neg (show ¬ (1 : Int32) = 0 by decide), lN_i32]
  have bad : ∀ b, ∃ z w, pX10_readsHead_j119 (nI q) xp (nI (q + 2)) 0 fp (nI n) (nI V) b a1 b0 b1 b2 b3 k66.2.2.2.2.2 = some z ∧ pX4_openHead_j37 (nI q) 0 wh (nI (q + 2)) (nI V) b c' c0 c1 c2 c3 c4 (nI T) hw = some w ∧ ((z.1 = 0 ∧ FLT z.2.2.2.1 z.2.2.2.2.1 w.1 w.2.1) ∨ HOK T V q (nI n) (nI V) fp wh k66.2.2.2.2.2 z w) := fun b => by
    have hO : ¬ (2 : Int32) = 0 := by decide
    unfold pX10_readsHead_j119 pX10_wrong pX4_openHead_j37 pX4_refuse
    rw [if_pos rfl, Option.bind_some, Option.bind_some]
    obtain ⟨w, ew, w1, w2⟩ := k_j43O (T := T) (hw := hw) (kd := 2) (wh := nI q) (at_ := nI (q + 2)) (vl := nI V) (fm := b) (wd := c') (ex := c0) (bs := c1) (ba := c2) (st := c3) (pc := c4) hO
    exact ⟨_, w, rfl, ew, Or.inl ⟨rfl, hO, w1, w2⟩⟩
  by_cases g3 : num tw q 2 = 3
  · rw [if_pos (show nI (num tw q 2) = 3 by rw [g3]; rfl), if_pos (show (3 : Int32) ≤ nI (num tw q 2) by rw [g3]; decide)]
    exact bad _
  · rw [if_neg (show ¬ nI (num tw q 2) = 3 by rw [n_l3, nI_eq (by omega) (by omega)]; exact g3), if_neg (show ¬ (3 : Int32) ≤ nI (num tw q 2) by rw [n_l3, nI_leI (by omega) (by omega)]; omega)]
    by_cases g0 : num tw q 2 = 0
    · rw [if_pos (show nI (num tw q 2) ≤ 0 by rw [g0]; decide), if_pos (show nI (num tw q 2) ≤ 0 by rw [g0]; decide)]
      exact q_wid hT hw_ (by omega) (by omega) (by omega) (Or.inl g0) hV
    · have hne : ¬ nI (num tw q 2) ≤ 0 := by rw [n_l0, nI_leI (by omega) (by omega)]; omega
      rw [if_neg hne, if_neg hne]
      by_cases g2 : 2 ≤ V
      · rw [if_pos (show (2 : Int32) ≤ nI V from nI_le (a := 2) g2 (by omega)), if_pos (show (2 : Int32) ≤ nI V from nI_le (a := 2) g2 (by omega))]
        exact q_wid hT hw_ (by omega) (by omega) (by omega) (Or.inr g2) hV
      · have hne2 : ¬ (2 : Int32) ≤ nI V := by rw [n_l2, nI_leI (by omega) (by omega)]; exact g2
        rw [if_neg hne2, if_neg hne2]
        exact bad _
theorem mF_TW (h : TW T tw hw) {p : Nat} (hp : p + 5 ≤ 32 * T) : mF hw p = mF tw p := num_TW h (by omega)
theorem mV_TW (h : TW T tw hw) {p n : Nat} (hp : p + 5 + n ≤ 32 * T) : mV hw p n = mV tw p n := by
  unfold mV
  refine sm_congr n (fun i hi => ?_)
  have e1 := mF_TW h (p := p) (by omega)
  have e2 := tb_TW h (j := p + 5 + i) (by omega)
  by_cases q : mE tw p i
  · rw [if_pos q, if_pos (show mE hw p i from ⟨e1.trans q.1, e2.trans q.2⟩)]
  · rw [if_neg q, if_neg (show ¬ mE hw p i from fun g => q ⟨e1.symm.trans g.1, e2.symm.trans g.2⟩)]
theorem mQ_TW (h : TW T tw hw) {p n : Nat} (hp : p + 5 ≤ 32 * T) : mQ hw p n = mQ tw p n := by unfold mQ; rw [mF_TW h hp]
theorem mM_TW (h : TW T tw hw) {p n : Nat} (hp : p + 5 + n ≤ 32 * T) : mM hw p n = mM tw p n := by unfold mM; rw [mF_TW h (by omega), num_TW h (by omega)]
/-- how the head reads -/
def HDS (T p R b : Nat) (tw : Nat → Int32) (fp wh : Int32) (rd : Nat → Int32) (z : Int32 × Int32 × Int32 × Int32 × Int32 × Int32 × Int32 × Int32 × Int32 × Int32 × Int32 × Int32 × Int32 × (Nat → Int32)) (u : Int32 × Int32 × Int32 × Int32 × Int32 × Int32) (w : Int32 × Int32 × Int32 × Int32 × Int32 × Int32 × Int32 × Int32 × Int32 × Int32) : Prop :=
  ∃ n rd', n = num tw p 4 + 1 ∧ R + n ≤ 128 ∧ b < 24 ∧ (mF tw p = 1 → mV tw p n ≠ 0) ∧ HOK T (n - mV tw p n) (mQ tw p n) (nI n) (nI (n - mV tw p n)) fp wh rd' z w ∧ u.2.2.2.1 = nI n ∧ u.2.2.2.2.1 = nI (mM tw p n) ∧ u.2.2.2.2.2 = nI (n - mV tw p n) ∧ ∀ j, rd' j = if 225 + R ≤ j ∧ j < 225 + R + n then (if mE tw p (j - (225 + R)) then nI 1 else nI 0) else rd j
theorem q_head {p R b : Nat} {xp fp wh a0 a1 a2 a3 b0 b1 b2 b3 c c' c0 c1 c2 c3 c4 pl mk vl : Int32} {rd : Nat → Int32} (hT : T ≤ 400) (hw_ : TW T tw hw) (hp : p + 32 ≤ 32 * T) (hR : R ≤ 128) (hb : b ≤ 24) (h0 : rd 0 = nI b) :
    ∃ z u w, pX10_readsHead xp (nI T) (nI p) (nI R) 0 fp a0 a1 a2 a3 b0 b1 b2 b3 tw rd = some z ∧ pX4_openPlaces 0 wh (nI p) (nI p) pl mk vl (nI T) hw (nI b) (nI R) = some u ∧ pX4_openHead u.1 u.2.1 u.2.2.1 u.2.2.2.2.2 c c' c0 c1 c2 c3 c4 (nI T) hw = some w ∧ ((z.1 = 0 ∧ FLT z.2.2.2.1 z.2.2.2.2.1 w.1 w.2.1) ∨ HDS T p R b tw fp wh rd z u w) := by
  have n1 := r_next (T := T) (tw := tw) (p := p) (n := 4) (fp := fp) hT (by omega) (by omega)
  have m1 := k_number (T := T) (tw := hw) (p := p) (n := 4) (wh := wh) hT (by omega) (by omega)
  rw [← n_l4, if_pos (by omega)] at n1 m1
  rw [num_TW hw_ (by omega)] at m1
  have hx := num_lt tw p 4
  unfold pX10_readsHead pX4_openPlaces
  rw [n1, m1, Option.bind_some, Option.bind_some]
  dsimp only
  rw [r_fine0, Option.bind_some, if_neg (show ¬ (1 : Int32) = 0 by decide), lN_i32, n_l0, ckN (by omega) (by omega), nI_clamp (by omega), h0, n_l1, nI_add, nI_add]
  generalize hn : num tw p 4 + 1 = n at *
  have hle := mV_le tw p n
  have hroom : pX0_hasRoom (nI n) (nI 1) (nI b) (nI R) = some (if R + n ≤ 128 ∧ b < 24 then nI 1 else nI 0) := by
    unfold pX0_hasRoom
    by_cases q1 : R + n ≤ 128
    · by_cases q2 : b < 24
      · rw [if_pos (show R + n ≤ 128 ∧ b < 24 from ⟨q1, q2⟩), nI_add, nI_add, if_neg (show ¬ (128 : Int32) < nI (R + n) by rw [n_l128, nI_ltI (by omega) (by omega)]; omega), if_neg (show ¬ (24 : Int32) < nI (b + 1) by rw [n_l24, nI_ltI (by omega) (by omega)]; omega)]
        rfl
      · rw [if_neg (show ¬ (R + n ≤ 128 ∧ b < 24) from fun q => q2 q.2), nI_add, nI_add, if_neg (show ¬ (128 : Int32) < nI (R + n) by rw [n_l128, nI_ltI (by omega) (by omega)]; omega), if_pos (show (24 : Int32) < nI (b + 1) from nI_lt (a := 24) (by omega) (by omega))]
        rfl
    · rw [if_neg (show ¬ (R + n ≤ 128 ∧ b < 24) from fun q => q1 q.1), nI_add, if_pos (show (128 : Int32) < nI (R + n) from nI_lt (a := 128) (by omega) (by omega))]
      rfl
  rw [hroom, Option.bind_some]
  have bad : ∀ (a1 : Int32), ∃ z u w, pX10_readsHead_j50 (nI p) xp (nI (p + 4)) (nI 0) fp (nI n) a1 a2 a3 b0 b1 b2 b3 rd = some z ∧ (pX4_refuse 8 (nI p) (nI 0) wh).bind (fun k30 => pX4_openPlaces_j33 k30.1 k30.2 (nI (p + 4)) (nI n) mk vl (nI T) hw) = some u ∧ pX4_openHead u.1 u.2.1 u.2.2.1 u.2.2.2.2.2 c c' c0 c1 c2 c3 c4 (nI T) hw = some w ∧ ((z.1 = 0 ∧ FLT z.2.2.2.1 z.2.2.2.2.1 w.1 w.2.1) ∨ HDS T p R b tw fp wh rd z u w) := fun a1 => by
    have hO : ¬ (8 : Int32) = 0 := by decide
    unfold pX10_readsHead_j50 pX10_wrong pX4_refuse
    rw [if_pos (show nI 0 = 0 from rfl), Option.bind_some, Option.bind_some]
    obtain ⟨u, eu, u1, u2⟩ := k_j33O (T := T) (hw := hw) (kd := 8) (wh := nI p) (at_ := nI (p + 4)) (pl := nI n) (mk := mk) (vl := vl) hO
    obtain ⟨w, ew, w1, w2⟩ := k_headO (T := T) (hw := hw) (kd := u.1) (wh := u.2.1) (at_ := u.2.2.1) (vl := u.2.2.2.2.2) (fm := c) (wd := c') (ex := c0) (bs := c1) (ba := c2) (st := c3) (pc := c4) (by rw [u1]; exact hO)
    exact ⟨_, u, w, rfl, eu, ew, Or.inl ⟨rfl, hO, w1.trans u1, w2.trans u2⟩⟩
  by_cases q2 : b < 24
  · rw [if_neg (show ¬ nI b = 24 by rw [n_l24, nI_eq (by omega) (by omega)]; omega)]
    by_cases q1 : R + n ≤ 128
    · rw [if_pos (show nI (R + n) ≤ 128 from nI_le (b := 128) q1 (by omega)), if_pos (show R + n ≤ 128 ∧ b < 24 from ⟨q1, q2⟩), if_neg (show ¬ nI 1 = nI 0 by decide)]
      obtain ⟨zm, em, hm⟩ := r_mask (T := T) (tw := tw) (p := p) (n := n) (R := R) (fp := fp) hT hp (by omega) (by omega) q1 a1 rd
      have hk := k_j33 (T := T) (hw := hw) (p := p) (n := n) (wh := wh) (mk := mk) (vl := vl) hT hp (by omega)
      rw [mF_TW hw_ (by omega), mV_TW hw_ (by omega), mQ_TW hw_ (by omega), mM_TW hw_ (by omega)] at hk
      rcases hm with ⟨d1, d2, z1, z2, z3⟩ | ⟨d, z1, z2, z3, z4, z5, z6⟩
      · rcases hk with ⟨_, _, u, eu, u1, u2⟩ | ⟨d', _⟩
        · have hO : ¬ (6 : Int32) = 0 := by decide
          obtain ⟨w, ew, w1, w2⟩ := k_headO (T := T) (hw := hw) (kd := u.1) (wh := u.2.1) (at_ := u.2.2.1) (vl := u.2.2.2.2.2) (fm := c) (wd := c') (ex := c0) (bs := c1) (ba := c2) (st := c3) (pc := c4) (by rw [u1]; exact hO)
          unfold pX10_readsHead_j58
          have em' : pX10_readsMask (nI T) (nI (p + 4)) (nI R) (nI 0) fp (nI n) a1 tw rd = some zm := em
          rw [show pX10_isFine (nI 0) = some 1 from rfl, Option.bind_some, if_neg (show ¬ (1 : Int32) = 0 by decide), em', Option.bind_some, z1, if_pos rfl]
          refine ⟨_, u, w, rfl, eu, ew, Or.inl ⟨rfl, ?_, ?_, ?_⟩⟩
          · show ¬ zm.2.2.1 = 0
            rw [z2]; exact hO
          · show w.1 = zm.2.2.1
            rw [z2, w1, u1]
          · show w.2.1 = zm.2.2.2.1
            rw [z3, w2, u2]
        · exact absurd ⟨d1, d2⟩ d'
      · rcases hk with ⟨d1, d2, _⟩ | ⟨_, eu⟩
        · exact absurd ⟨d1, d2⟩ d
        · have hq : mQ tw p n + 8 ≤ 32 * T := by unfold mQ; split <;> omega
          obtain ⟨z, w, ez, ew, hz⟩ := q_form (T := T) (tw := tw) (hw := hw) (V := n - mV tw p n) (q := mQ tw p n) (n := n) (R := R) (xp := xp) (fp := fp) (wh := wh) (rv := a1) (a0 := a2) (a1 := a3) (b0 := b0) (b1 := b1) (b2 := b2) (b3 := b3) (c := c) (c' := c') (c0 := c0) (c1 := c1) (c2 := c2) (c3 := c3) (c4 := c4) (ps := nI (p + 4)) (rd := rd) (k66 := zm) hT hw_ hq (by omega) em z1 z2 z3 z4 z5
          refine ⟨z, _, w, ez, eu, ew, ?_⟩
          rcases hz with hz | hz
          · exact Or.inl hz
          · exact Or.inr ⟨n, zm.2.2.2.2.2, hn.symm, q1, q2, fun g1 g2 => d ⟨g1, g2⟩, hz, rfl, rfl, rfl, z6⟩
    · rw [if_neg (show ¬ nI (R + n) ≤ 128 by rw [n_l128, nI_leI (by omega) (by omega)]; exact q1), if_neg (show ¬ (R + n ≤ 128 ∧ b < 24) from fun q => q1 q.1), if_pos rfl]
      exact bad _
  · rw [if_pos (show nI b = 24 by rw [show b = 24 by omega]; rfl), if_neg (show ¬ (R + n ≤ 128 ∧ b < 24) from fun q => q2 q.2), if_pos rfl]
    exact bad _
end Head2
