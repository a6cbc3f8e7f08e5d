/-! ===== blocks come behind ===== -/
theorem ud_ud {α : Type} (f : Nat → α) (k : Nat) (x y : α) : ud (ud f k x) k y = ud f k y := by
  funext j
  unfold ud
  split <;> rfl
def apC (C : AC) (n f0 w0 : Nat) (s0 : Int32) : AC := (NB C + 1, ud (PL C) (NB C) n, TV C, ud (FM C) (NB C) f0, ud (WD C) (NB C) w0, ud (ST C) (NB C) s0)
def abC (C : AC) (n : Nat) : AC := tlC (apC C n 0 0 0) (NB C)
section Ab
variable {C : AC} {n f0 w0 : Nat} {s0 : Int32}
theorem ap_NB : NB (apC C n f0 w0 s0) = NB C + 1 := rfl
theorem ap_PL : PL (apC C n f0 w0 s0) = ud (PL C) (NB C) n := rfl
theorem ap_TV : TV (apC C n f0 w0 s0) = TV C := rfl
theorem ap_sm {j : Nat} (h : j ≤ NB C) : sm (PL (apC C n f0 w0 s0)) j = sm (PL C) j := by rw [ap_PL]; exact ud_sm_lo h
theorem ap_HL : HL (apC C n f0 w0 s0) = HL C + n := by
  show sm (ud (PL C) (NB C) n) (NB C) + ud (PL C) (NB C) n (NB C) = _
  rw [ud_sm_lo (Nat.le_refl _), ud_at]; rfl
theorem ap_PLn : PL (apC C n f0 w0 s0) (NB C) = n := ud_at _ _ _
theorem ap_cm : cm (apC C n f0 w0 s0) (NB C) = cnt (TV C) (HL C) n ∧ cg (apC C n f0 w0 s0) (NB C) = val (TV C) (HL C) n := by
  unfold cm cg
  rw [ap_PLn, ap_sm (Nat.le_refl _), ap_TV]
  exact ⟨rfl, rfl⟩
theorem ap_bt3 : bt3 (apC C n f0 w0 s0) (NB C) = bst n (cnt (TV C) (HL C) n) (val (TV C) (HL C) n) := by
  unfold bt3
  rw [ap_cm.1, ap_cm.2, ap_PLn]
theorem ab_eq : tlC (apC C n f0 w0 s0) (NB C) = abC C n := by
  unfold abC
  show (NB C + 1, ud (PL C) (NB C) n, TV C, ud (ud (FM C) (NB C) f0) (NB C) (bt3 (apC C n f0 w0 s0) (NB C)).1, ud (ud (WD C) (NB C) w0) (NB C) (bt3 (apC C n f0 w0 s0) (NB C)).2.1, ud (ud (ST C) (NB C) s0) (NB C) (if (bt3 (apC C n f0 w0 s0) (NB C)).1 = 2 then stp (cg (apC C n f0 w0 s0) (NB C)) (cm (apC C n f0 w0 s0) (NB C)) else 0)) = (NB C + 1, ud (PL C) (NB C) n, TV C, ud (ud (FM C) (NB C) 0) (NB C) (bt3 (apC C n 0 0 0) (NB C)).1, ud (ud (WD C) (NB C) 0) (NB C) (bt3 (apC C n 0 0 0) (NB C)).2.1, ud (ud (ST C) (NB C) 0) (NB C) (if (bt3 (apC C n 0 0 0) (NB C)).1 = 2 then stp (cg (apC C n 0 0 0) (NB C)) (cm (apC C n 0 0 0) (NB C)) else 0))
  rw [ud_ud, ud_ud, ud_ud, ud_ud, ud_ud, ud_ud, ap_bt3, ap_bt3, ap_cm.1, ap_cm.2, ap_cm.1, ap_cm.2]
theorem ab_NB : NB (abC C n) = NB C + 1 := by unfold abC; rw [tl_NB, ap_NB]
theorem ab_TV : TV (abC C n) = TV C := by unfold abC; rw [tl_TV, ap_TV]
theorem ab_HL : HL (abC C n) = HL C + n := by unfold abC; rw [tl_HL, ap_HL]
theorem ab_PL : PL (abC C n) = ud (PL C) (NB C) n := by unfold abC; rw [tl_PL, ap_PL]
theorem ap_BL {j : Nat} (h : j < NB C) : BL (apC C n f0 w0 s0) j C j := by
  refine ⟨ud_ne (by omega), ud_ne (by omega), ud_ne (by omega), ud_ne (by omega), fun r hr => ?_⟩
  rw [ap_sm (by omega), ap_TV]
theorem ab_okb {j : Nat} (h1 : 1 ≤ n) (h2 : n ≤ 16) (hj : j < NB C + 1) (ho : ∀ i, i < NB C → okb C i) : okb (abC C n) j := by
  unfold abC
  by_cases h : j = NB C
  · subst h
    exact tl_okb (by rw [ap_PLn]; exact h1) (by rw [ap_PLn]; exact h2)
  · exact tl_okbn h (BL_okb (ap_BL (by omega)) (ho j (by omega)))
theorem ab_OK (h1 : 1 ≤ n) (h2 : n ≤ 16) (hn : NB C < 24) (hl : HL C + n ≤ 128) (ho : OKC C) : OKC (abC C n) := ⟨by rw [ab_NB]; omega, by rw [ab_HL]; exact hl, fun j hj => ab_okb h1 h2 (by rw [ab_NB] at hj; exact hj) ho.2.2⟩
end Ab
theorem RB_cg {a : Nat → Int32} {c nb : Nat} {pl pl' fm fm' wd wd' : Nat → Nat} {st st' : Nat → Int32} (h : RB a c nb pl fm wd st) (e : ∀ j, j < nb → pl' j = pl j ∧ fm' j = fm j ∧ wd' j = wd j ∧ st' j = st j) : RB a c nb pl' fm' wd' st' := ⟨h.1, fun b hb => by
  obtain ⟨e1, e2, e3, e4⟩ := e b hb
  rw [e1, e2, e3, e4]; exact h.2 b hb⟩
/-- a block more, in the reference: its places are told already -/
theorem r_add (xv xw xp xs xf xu xt xb : Int32) (vs : Nat → Int32) (ps : Nat → Int64) {c : Nat} {a : Nat → Int32} {C : AC} (hc : c < 3) (hB : RB a c (NB C) (PL C) (FM C) (WD C) (ST C)) {n : Nat} (hV : RV a c (HL C + n) (TV C)) (hn : NB C < 24) (hl : HL C + n ≤ 128) (h2 : n ≤ 16) :
    ∃ a2 z, pX10_openBlock (nI c) (nI (NB C)) (nI n) a = some a2 ∧ a2 (36 + 353 * c) = nI (NB C + 1) ∧ pX10_tellBlock (nI c) (nI (NB C)) xv xw xp xs xf xu xt xb a2 vs ps = some z ∧ RCa z.2.2.2.2.2.2.2.2.1 c (abC C n) ∧ FR c a z.2.2.2.2.2.2.2.2.1 := by
  obtain ⟨a2, f0, w0, s0, e1, e2, e3, e4⟩ := r_openBlock hc hB hn (b := NB C) (Nat.le_refl _) n
  have hR2 : RCa a2 c (apC C n f0 w0 s0) := by
    refine RC_BV.mpr ⟨RB_cg e2 (fun j hj => ?_), ?_⟩
    · have hj' : j < NB C + 1 := hj
      by_cases h : j = NB C
      · subst h
        rw [ins_at, ins_at, ins_at, ins_at]
        exact ⟨ud_at _ _ _, ud_at _ _ _, ud_at _ _ _, ud_at _ _ _⟩
      · rw [ins_lo (by omega), ins_lo (by omega), ins_lo (by omega), ins_lo (by omega)]
        exact ⟨ud_ne h, ud_ne h, ud_ne h, ud_ne h⟩
    · show RV a2 c (HL (apC C n f0 w0 s0)) (TV (apC C n f0 w0 s0))
      rw [ap_HL, ap_TV]
      exact RV_fr hl hV e3
  obtain ⟨z, ez, z1, z2⟩ := r_tell (C := apC C n f0 w0 s0) xv xw xp xs xf xu xt xb vs ps hc hR2 (by rw [ap_NB]; omega) (by rw [ap_HL]; exact hl) (b := NB C) (by rw [ap_NB]; omega) (by rw [ap_PLn]; exact h2)
  rw [ab_eq] at z1
  exact ⟨a2, z, e1, e2.1, ez, z1, FR_tr e4 z2⟩
/-- in the class -/
theorem k_add (m1 m2 m3 m4 m5 m6 m7 m8 m9 m10 m11 : Int32) (n1 n2 n3 : Nat → Int32) {tl : Nat → Int64} {fc : Nat → Int32} {C : AC} {H n : Nat} (hn : NB C < 24) (hl : HL C + n ≤ H) (hH : H ≤ 128) (hT : ∀ k, k < H → tl k = enc (TV C k)) (hP : KP fc C) (hF : ∀ j, j < NB C → KF fc C j) (h2 : n ≤ 16) :
    ∃ z, pX0_addBlock 128 (nI n) (nI (NB C)) (nI H) tl fc m1 m2 m3 m4 m5 m6 m7 m8 m9 m10 m11 n1 n2 n3 = some z ∧ z.1 = nI (NB C + 1) ∧ KP z.2.1 (abC C n) ∧ ∀ j, j < NB C + 1 → KF z.2.1 (abC C n) j := by
  have hP3 : KP (upd fc (NB C * 8 + 0) (nI n)) (apC C n 0 0 0) := fun j hj => by
    have hj' : j < NB C + 1 := hj
    rw [ap_PL]
    by_cases h : j = NB C
    · subst h; rw [ud_at]; exact u_at _ _ _
    · rw [ud_ne h, u_ne (by omega)]; exact hP j (by omega)
  obtain ⟨w, ew, w1, w2, w3, _⟩ := k_retellN (C := apC C n 0 0 0) (fc := upd fc (NB C * 8 + 0) (nI n)) (tl := tl) m1 m2 m3 m4 m5 m6 m7 m8 m9 m10 m11 n1 n2 n3 (n := NB C + 1) (H := H) ap_NB (by omega) (by rw [ap_HL]; exact hl) hH (by rw [ap_TV]; exact hT) hP3 (b := NB C) (by omega) (by rw [ap_PLn]; exact h2)
  unfold pX0_addBlock
  rw [if_neg (show ¬ (24 : Int32) ≤ nI (NB C) from fun q => by have := (nI_leI (a := 24) (by omega) (by omega)).mp q; omega), show (1 : Int32) = nI 1 from rfl, nI_add, pk_sub (by omega), Nat.add_sub_cancel, show (0 : Int32) = nI 0 from rfl, k_keepFact (show NB C < NB C + 1 by omega) (by omega) (by omega), Option.bind_some, ew, Option.bind_some]
  refine ⟨_, rfl, rfl, w1, fun j hj => ?_⟩
  by_cases h : j = NB C
  · subst h; exact w2
  · exact w3 j h hj (BL_KF (ap_BL (by omega)) (fun q hq => u_ne (by omega)) (hF j (by omega)))
/-- blocks of 16, the last one of what is left, up to a length -/
def slN (C : AC) (L : Nat) : Nat → AC
  | 0 => C
  | k + 1 => abC (slN C L k) (min 16 (L - HL (slN C L k)))
theorem sl_s (C : AC) (L k : Nat) : slN C L (k + 1) = abC (slN C L k) (min 16 (L - HL (slN C L k))) := rfl
theorem sl_NB (C : AC) (L : Nat) : ∀ k, NB (slN C L k) = NB C + k := by
  intro k
  induction k with
  | zero => rfl
  | succ n ih => rw [sl_s, ab_NB, ih]; omega
theorem sl_TV (C : AC) (L : Nat) : ∀ k, TV (slN C L k) = TV C := by
  intro k
  induction k with
  | zero => rfl
  | succ n ih => rw [sl_s, ab_TV, ih]
theorem sl_HL {C : AC} {L : Nat} (h : HL C ≤ L) : ∀ k, HL (slN C L k) = min L (HL C + 16 * k) := by
  intro k
  induction k with
  | zero => show HL C = _; omega
  | succ n ih => rw [sl_s, ab_HL, ih]; omega
theorem sl_OK {C : AC} {L : Nat} (h : HL C ≤ L) (hL : L ≤ 128) (ho : OKC C) : ∀ k, NB C + k ≤ 24 → HL C + 16 * k < L + 16 → OKC (slN C L k) := by
  intro k
  induction k with
  | zero => intro _ _; exact ho
  | succ n ih =>
    intro h1 h2
    have i1 := ih (by omega) (by omega)
    have i2 := sl_HL h n
    have i3 := sl_NB C L n
    rw [sl_s]
    exact ab_OK (by rw [i2]; omega) (by omega) (by rw [i3]; omega) (by rw [i2]; omega) i1
section Seal
variable {tl : Nat → Int64} {fc : Nat → Int32} {C : AC}
theorem k_seal (m1 m2 m3 m4 m5 m6 m7 m8 m9 m10 m11 : Int32) (n1 n2 n3 : Nat → Int32) {L m : Nat} (hl : HL C ≤ L) (hL : L ≤ 128) (hm : m = (L - HL C + 15) / 16) (hn : NB C + m ≤ 24) (hT : ∀ k, k < L → tl k = enc (TV C k)) (hP : KP fc C) (hF : ∀ j, j < NB C → KF fc C j) :
    ∃ z, pX0_seal 128 (nI (NB C)) (nI L) tl fc m1 m2 m3 m4 m5 m6 m7 m8 m9 m10 m11 n1 n2 n3 = some z ∧ z.1 = nI m ∧ z.2.1 = nI (NB C + m) ∧ KP z.2.2.1 (slN C L m) ∧ ∀ j, j < NB C + m → KF z.2.2.1 (slN C L m) j := by
  obtain ⟨r, e, r1, r2, r3⟩ := lpE (body := pX0_seal_b11 128 (nI L) tl) (fun k s => s.1 = nI (HL C + 16 * k) ∧ s.2.1 = nI (NB C + k) ∧ KP s.2.2.1 (slN C L k) ∧ ∀ j, j < NB C + k → KF s.2.2.1 (slN C L k) j) (fun r => r.2.1 = nI (NB C + m) ∧ KP r.2.2.1 (slN C L m) ∧ ∀ j, j < NB C + m → KF r.2.2.1 (slN C L m) j) m (nI (HL C), nI (NB C), fc, m1, m2, m3, m4, m5, m6, m7, m8, m9, m10, m11, n1, n2, n3) ⟨rfl, rfl, hP, hF⟩ (fun k s hk hI => by
    obtain ⟨s1, s2, s3, t1, t2, t3, t4, t5, t6, t7, t8, t9, t10, t11, t12, t13, t14⟩ := s
    obtain ⟨h1, h2, h3, h4⟩ := hI
    replace h1 : s1 = nI (HL C + 16 * k) := h1
    replace h2 : s2 = nI (NB C + k) := h2
    replace h3 : KP s3 (slN C L k) := h3
    replace h4 : ∀ j, j < NB C + k → KF s3 (slN C L k) j := h4
    subst h1 h2
    have i2 := sl_HL hl k
    have i3 := sl_NB C L k
    unfold pX0_seal_b11
    rcases Nat.lt_or_ge k m with h9 | h9
    · refine Or.inl ?_
      have hlt : HL C + 16 * k < L := by omega
      have i4 : HL (slN C L k) = HL C + 16 * k := by omega
      obtain ⟨z, ez, z1, z2, z3⟩ := k_add (C := slN C L k) (fc := s3) (tl := tl) t1 t2 t3 t4 t5 t6 t7 t8 t9 t10 t11 t12 t13 t14 (H := L) (n := min 16 (L - HL (slN C L k))) (by rw [i3]; omega) (by omega) hL (by rw [sl_TV]; exact hT) h3 (by rw [i3]; exact h4) (by omega)
      rw [i3] at ez z1 z3
      rw [i4] at ez
      rw [if_neg (show ¬ nI L ≤ nI (HL C + 16 * k) by rw [nI_leI (by omega) (by omega)]; omega), pk_sub (by omega), show (16 : Int32) = nI 16 from rfl, k_minN (by omega) (by omega), Option.bind_some, ez, Option.bind_some, nI_add]
      exact ⟨_, rfl, h9, by show nI (HL C + 16 * k + 16) = _; exact congrArg nI (by omega), z1, z2, z3⟩
    · obtain rfl : k = m := by omega
      refine Or.inr ?_
      rw [if_pos (nI_le (show L ≤ HL C + 16 * k by omega) (by omega))]
      exact ⟨_, rfl, rfl, h3, h4⟩)
  have hall := k_all (fc := fc) (w := 0) (n := NB C) (f := PL C) (by omega) (by omega) (fun b hb => by rw [Nat.add_zero]; exact hP b hb)
  unfold pX0_seal
  rw [show (0 : Int32) = nI 0 from rfl, hall, Option.bind_some, eHL, e, Option.bind_some, r1, pk_sub (by omega), Nat.add_sub_cancel_left]
  exact ⟨_, rfl, rfl, rfl, r2, r3⟩
end Seal
/-- told anew beyond what it has -/
def reT (C : AC) (T : Nat → Option Int32) : AC := (NB C, PL C, T, FM C, WD C, ST C)
section Re
variable {C : AC} {T : Nat → Option Int32} (hT : ∀ k, k < HL C → T k = TV C k)
theorem re_NB : NB (reT C T) = NB C := rfl
theorem re_PL : PL (reT C T) = PL C := rfl
theorem re_HL : HL (reT C T) = HL C := rfl
theorem re_TV : TV (reT C T) = T := rfl
theorem re_BL (hT : ∀ k, k < HL C → T k = TV C k) {j : Nat} (h : j < NB C) : BL (reT C T) j C j := by
  refine ⟨rfl, rfl, rfl, rfl, fun r hr => ?_⟩
  have := sm_lt2 h
  show T (sm (PL C) j + r) = _
  exact hT _ (by omega)
theorem re_OK (hT : ∀ k, k < HL C → T k = TV C k) (ho : OKC C) : OKC (reT C T) := ⟨ho.1, ho.2.1, fun j hj => BL_okb (re_BL hT hj) (ho.2.2 j hj)⟩
theorem re_KF (hT : ∀ k, k < HL C → T k = TV C k) {fc : Nat → Int32} (hF : ∀ j, j < NB C → KF fc C j) : ∀ j, j < NB C → KF fc (reT C T) j := fun j hj => BL_KF (re_BL hT hj) (fun _ _ => rfl) (hF j hj)
theorem re_RB {a : Nat → Int32} {c : Nat} (h : RCa a c C) : RB a c (NB (reT C T)) (PL (reT C T)) (FM (reT C T)) (WD (reT C T)) (ST (reT C T)) := (RC_BV.mp h).1
end Re
/-- rows one behind the other -/
def apT (T : Nat → Option Int32) (H : Nat) (S : Nat → Option Int32) (k : Nat) : Option Int32 := if k < H then T k else S (k - H)
theorem apT_lo {T S : Nat → Option Int32} {H k : Nat} (h : k < H) : apT T H S k = T k := if_pos h
theorem apT_hi {T S : Nat → Option Int32} {H k : Nat} : apT T H S (H + k) = S k := by unfold apT; rw [if_neg (by omega), Nat.add_sub_cancel_left]
