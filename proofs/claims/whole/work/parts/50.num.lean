/-! ===== pure layer: numbers and loops ===== -/
theorem n_l0 : (0 : Int32) = nI 0 := rfl
theorem n_l1 : (1 : Int32) = nI 1 := rfl
theorem n_l2 : (2 : Int32) = nI 2 := rfl
theorem n_l3 : (3 : Int32) = nI 3 := rfl
theorem n_l4 : (4 : Int32) = nI 4 := rfl
theorem n_l5 : (5 : Int32) = nI 5 := rfl
theorem n_l6 : (6 : Int32) = nI 6 := rfl
theorem n_l7 : (7 : Int32) = nI 7 := rfl
theorem n_l8 : (8 : Int32) = nI 8 := rfl
theorem n_l9 : (9 : Int32) = nI 9 := rfl
theorem n_l15 : (15 : Int32) = nI 15 := rfl
theorem n_l16 : (16 : Int32) = nI 16 := rfl
theorem n_l17 : (17 : Int32) = nI 17 := rfl
theorem n_l20 : (20 : Int32) = nI 20 := rfl
theorem n_l24 : (24 : Int32) = nI 24 := rfl
theorem n_l31 : (31 : Int32) = nI 31 := rfl
theorem n_l32 : (32 : Int32) = nI 32 := rfl
theorem n_l33 : (33 : Int32) = nI 33 := rfl
theorem n_l36 : (36 : Int32) = nI 36 := rfl
theorem n_l48 : (48 : Int32) = nI 48 := rfl
theorem n_l49 : (49 : Int32) = nI 49 := rfl
theorem n_l97 : (97 : Int32) = nI 97 := rfl
theorem n_l128 : (128 : Int32) = nI 128 := rfl
theorem n_l129 : (129 : Int32) = nI 129 := rfl
theorem n_l192 : (192 : Int32) = nI 192 := rfl
theorem n_l225 : (225 : Int32) = nI 225 := rfl
theorem n_l256 : (256 : Int32) = nI 256 := rfl
theorem n_l353 : (353 : Int32) = nI 353 := rfl
theorem n_l400 : (400 : Int32) = nI 400 := rfl
theorem n_l512 : (512 : Int32) = nI 512 := rfl
theorem n_l593 : (593 : Int32) = nI 593 := rfl
theorem n_l621 : (621 : Int32) = nI 621 := rfl
theorem n_l640 : (640 : Int32) = nI 640 := rfl
theorem n_l857 : (857 : Int32) = nI 857 := rfl
theorem n_l1093 : (1093 : Int32) = nI 1093 := rfl
theorem n_l1095 : (1095 : Int32) = nI 1095 := rfl
theorem n_l2048 : (2048 : Int32) = nI 2048 := rfl
theorem n_l3225 : (3225 : Int32) = nI 3225 := rfl
theorem n_l10000 : (10000 : Int32) = nI 10000 := rfl
theorem n_l22955 : (22955 : Int32) = nI 22955 := rfl
theorem n_l29988 : (29988 : Int32) = nI 29988 := rfl
theorem n_l29989 : (29989 : Int32) = nI 29989 := rfl
theorem n_l65536 : (65536 : Int32) = nI 65536 := rfl
theorem n_l99999 : (99999 : Int32) = nI 99999 := rfl
theorem n_l1000000000 : (1000000000 : Int32) = nI 1000000000 := rfl
theorem n_l2147483647 : (2147483647 : Int32) = nI 2147483647 := rfl
theorem nI_nm1 {n : Nat} (h : n < 2 ^ 31) : (nI n = -nI 1) = False := by
  refine eq_false (fun e => ?_)
  have h1 := nI_toInt h
  rw [e] at h1
  have h2 : (-nI 1).toInt = -1 := by decide
  omega
theorem nI_addneg {a b : Nat} (h : b ≤ a) : nI a + -nI b = nI (a - b) := by rw [← pk_sub h, Int32.sub_eq_add_neg]
theorem k_ush {n k : Nat} (hn : n < 2 ^ 32) (hk : k < 32) : ((nI n).toUInt32 >>> ((nI k).toUInt32 &&& Int32.toUInt32 (nI 31))).toInt32 = nI (n / 2 ^ k) :=
  pk_ushrN hn (nI k) k ((by decide +kernel : ∀ k, k < 32 → (((nI k).toUInt32 &&& Int32.toUInt32 31).toBitVec % 32).toNat = k) k hk)
theorem ckN {α : Type} {n N : Nat} {x : Option α} (h : n < N) (hN : N < 2 ^ 31) : ck (nI n) N x = x := by
  unfold ck
  rw [if_neg (nI_in h hN)]
theorem lp_ex {σ ρ : Type} {body : σ → Option (σ ⊕ ρ)} {I : Nat → σ → Prop} {Q : ρ → Prop} (n : Nat)
    (hb : ∀ k s, k ≤ n → I k s → (∃ s', body s = some (.inl s') ∧ k < n ∧ I (k + 1) s') ∨ ∃ r, body s = some (.inr r) ∧ Q r) :
    ∀ (fuel k : Nat) (s : σ), n < fuel + k → k ≤ n → I k s → ∃ r, lp body fuel s = some r ∧ Q r := by
  intro fuel
  induction fuel with
  | zero => intro k s h1 h2; omega
  | succ f ih =>
    intro k s h1 h2 hI
    unfold lp
    rcases hb k s h2 hI with ⟨s', e, hk, hI'⟩ | ⟨r, e, hq⟩
    · rw [e]
      exact ih (k + 1) s' (by omega) (by omega) hI'
    · rw [e]
      exact ⟨r, rfl, hq⟩
theorem lpE {σ ρ : Type} {body : σ → Option (σ ⊕ ρ)} (I : Nat → σ → Prop) (Q : ρ → Prop) (n : Nat) (s : σ) (h0 : I 0 s)
    (hb : ∀ k s, k ≤ n → I k s → (∃ s', body s = some (.inl s') ∧ k < n ∧ I (k + 1) s') ∨ ∃ r, body s = some (.inr r) ∧ Q r)
    (hn : n < 100000 := by omega) : ∃ r, lp body FU s = some r ∧ Q r := lp_ex (I := I) n hb FU 0 s (by unfold FU; omega) (Nat.zero_le _) h0
/-- a loop whose state is a function of the count -/
theorem lpF {σ ρ : Type} {body : σ → Option (σ ⊕ ρ)} {r : ρ} (f : Nat → σ) (n : Nat) (s : σ) (h0 : s = f 0)
    (hs : ∀ k, k < n → body (f k) = some (.inl (f (k + 1)))) (he : body (f n) = some (.inr r)) (hn : n < 100000 := by omega) : lp body FU s = some r := by
  obtain ⟨r', h, e⟩ := lpE (body := body) (fun k s => s = f k) (fun r' => r' = r) n s h0 (fun k s hk hs' => by
    subst hs'
    rcases Nat.lt_or_ge k n with h | h
    · exact Or.inl ⟨_, hs k h, h, rfl⟩
    · obtain rfl : k = n := by omega
      exact Or.inr ⟨_, he, rfl⟩) hn
  rw [h, e]
/-- two loops side by side -/
theorem lp_sim {σ ρ σ2 ρ2 : Type} {body : σ → Option (σ ⊕ ρ)} {body2 : σ2 → Option (σ2 ⊕ ρ2)} {J : Nat → σ → σ2 → Prop} {Q : ρ → ρ2 → Prop} (n : Nat)
    (hb : ∀ k s s2, k ≤ n → J k s s2 → (∃ s' s2', body s = some (.inl s') ∧ body2 s2 = some (.inl s2') ∧ k < n ∧ J (k + 1) s' s2') ∨ ∃ r r2, body s = some (.inr r) ∧ body2 s2 = some (.inr r2) ∧ Q r r2) :
    ∀ (fuel k : Nat) (s : σ) (s2 : σ2), n < fuel + k → k ≤ n → J k s s2 → ∃ r r2, lp body fuel s = some r ∧ lp body2 fuel s2 = some r2 ∧ Q r r2 := by
  intro fuel
  induction fuel with
  | zero => intro k s s2 h1 h2; omega
  | succ f ih =>
    intro k s s2 h1 h2 hI
    unfold lp
    rcases hb k s s2 h2 hI with ⟨s', s2', e, e2, hk, hI'⟩ | ⟨r, r2, e, e2, hq⟩
    · rw [e, e2]
      exact ih (k + 1) s' s2' (by omega) (by omega) hI'
    · rw [e, e2]
      exact ⟨r, r2, rfl, rfl, hq⟩
theorem lp2S {σ ρ σ2 ρ2 : Type} {body : σ → Option (σ ⊕ ρ)} {body2 : σ2 → Option (σ2 ⊕ ρ2)} (J : Nat → σ → σ2 → Prop) (Q : ρ → ρ2 → Prop) (n : Nat) (s : σ) (s2 : σ2) (h0 : J 0 s s2)
    (hb : ∀ k s s2, k ≤ n → J k s s2 → (∃ s' s2', body s = some (.inl s') ∧ body2 s2 = some (.inl s2') ∧ k < n ∧ J (k + 1) s' s2') ∨ ∃ r r2, body s = some (.inr r) ∧ body2 s2 = some (.inr r2) ∧ Q r r2)
    (hn : n < 100000 := by omega) : ∃ r r2, lp body FU s = some r ∧ lp body2 FU s2 = some r2 ∧ Q r r2 := lp_sim (J := J) n hb FU 0 s s2 (by unfold FU; omega) (Nat.zero_le _) h0
/-! ===== the picture of a column ===== -/
/-- sums of a row of numbers -/
def sm (p : Nat → Nat) : Nat → Nat
  | 0 => 0
  | k + 1 => sm p k + p k
theorem sm_congr {p q : Nat → Nat} : ∀ n, (∀ i, i < n → p i = q i) → sm p n = sm q n := by
  intro n
  induction n with
  | zero => intro _; rfl
  | succ k ih => intro h; unfold sm; rw [ih (fun i hi => h i (by omega)), h k (by omega)]
theorem sm_mono {p : Nat → Nat} {a b : Nat} (h : a ≤ b) : sm p a ≤ sm p b := by
  induction b with
  | zero => have : a = 0 := by omega
            subst this; exact Nat.le_refl _
  | succ k ih =>
    rcases Nat.lt_or_ge a (k + 1) with h1 | h1
    · have := ih (by omega)
      show sm p a ≤ sm p k + p k
      omega
    · have : a = k + 1 := by omega
      subst this; exact Nat.le_refl _
theorem sm_lt {p : Nat → Nat} {n b : Nat} (h : b < n) : sm p b + p b ≤ sm p n := sm_mono (p := p) (a := b + 1) h
/-- how a place is told -/
def enc : Option Int32 → Int64
  | none => 4294967296
  | some v => v.toInt64
def vv : Option Int32 → Int32
  | none => 0
  | some v => v
def ee : Option Int32 → Int32
  | none => 1
  | some _ => 0
/-- blocks, places a block, what is told, form, width, step -/
abbrev AC : Type := Nat × (Nat → Nat) × (Nat → Option Int32) × (Nat → Nat) × (Nat → Nat) × (Nat → Int32)
/-- the reference's array holds a column's picture -/
def RC (a : Nat → Int32) (c : Nat) (nb : Nat) (pl : Nat → Nat) (tv : Nat → Option Int32) (fm wd : Nat → Nat) (st : Nat → Int32) : Prop :=
  a (36 + 353 * c) = nI nb ∧ (∀ b, b < nb → a (36 + 353 * c + 1 + 4 * b) = nI (pl b) ∧ a (36 + 353 * c + 1 + 4 * b + 1) = nI (fm b) ∧ a (36 + 353 * c + 1 + 4 * b + 2) = nI (wd b) ∧ a (36 + 353 * c + 1 + 4 * b + 3) = st b) ∧
  ∀ k, k < sm pl nb → a (36 + 353 * c + 97 + k) = vv (tv k) ∧ a (36 + 353 * c + 225 + k) = ee (tv k)
section Ref
variable {a : Nat → Int32} {c nb : Nat} {pl : Nat → Nat} {tv : Nat → Option Int32} {fm wd : Nat → Nat} {st : Nat → Int32}
theorem r_blocks (hc : c < 3) (h : RC a c nb pl tv fm wd st) : pX10_blocks (nI c) a = some (nI nb) := by
  unfold pX10_blocks pX10_at
  simp (disch := omega) only [n_l0, n_l1, n_l2, n_l3, n_l4, n_l5, n_l6, n_l7, n_l8, n_l9, n_l15, n_l16, n_l17, n_l20, n_l24, n_l31, n_l32, n_l33, n_l36, n_l48, n_l49, n_l97, n_l128, n_l129, n_l192, n_l225, n_l256, n_l353, n_l400, n_l512, n_l593, n_l621, n_l640, n_l857, n_l1093, n_l1095, n_l2048, n_l3225, n_l10000, n_l22955, n_l29988, n_l29989, n_l65536, n_l99999, n_l1000000000, n_l2147483647, nI_add, pk_mul, pk_sub, pk_div, nI_clamp, ckN, nI_leI, nI_ltI, nI_eq, nI_nm1, Nat.add_zero, nI_addneg, k_ush, true_or, or_true, false_or, or_false, true_and, and_true, false_and, and_false, not_true_eq_false, not_false_eq_true, if_true, if_false, if_pos, if_neg, Option.bind_some, h.1]
theorem r_ofPl (hc : c < 3) (h : RC a c nb pl tv fm wd st) {b : Nat} (hb : b < nb) (hn : nb ≤ 24) : pX10_ofBlock (nI c) (nI b) (nI 0) a = some (nI (pl b)) := by
  unfold pX10_ofBlock pX10_at
  simp (disch := omega) only [n_l0, n_l1, n_l2, n_l3, n_l4, n_l5, n_l6, n_l7, n_l8, n_l9, n_l15, n_l16, n_l17, n_l20, n_l24, n_l31, n_l32, n_l33, n_l36, n_l48, n_l49, n_l97, n_l128, n_l129, n_l192, n_l225, n_l256, n_l353, n_l400, n_l512, n_l593, n_l621, n_l640, n_l857, n_l1093, n_l1095, n_l2048, n_l3225, n_l10000, n_l22955, n_l29988, n_l29989, n_l65536, n_l99999, n_l1000000000, n_l2147483647, nI_add, pk_mul, pk_sub, pk_div, nI_clamp, ckN, nI_leI, nI_ltI, nI_eq, nI_nm1, Nat.add_zero, nI_addneg, k_ush, true_or, or_true, false_or, or_false, true_and, and_true, false_and, and_false, not_true_eq_false, not_false_eq_true, if_true, if_false, if_pos, if_neg, Option.bind_some, Nat.add_zero, (h.2.1 b hb).1]
theorem r_ofFm (hc : c < 3) (h : RC a c nb pl tv fm wd st) {b : Nat} (hb : b < nb) (hn : nb ≤ 24) : pX10_ofBlock (nI c) (nI b) (nI 1) a = some (nI (fm b)) := by
  unfold pX10_ofBlock pX10_at
  simp (disch := omega) only [n_l0, n_l1, n_l2, n_l3, n_l4, n_l5, n_l6, n_l7, n_l8, n_l9, n_l15, n_l16, n_l17, n_l20, n_l24, n_l31, n_l32, n_l33, n_l36, n_l48, n_l49, n_l97, n_l128, n_l129, n_l192, n_l225, n_l256, n_l353, n_l400, n_l512, n_l593, n_l621, n_l640, n_l857, n_l1093, n_l1095, n_l2048, n_l3225, n_l10000, n_l22955, n_l29988, n_l29989, n_l65536, n_l99999, n_l1000000000, n_l2147483647, nI_add, pk_mul, pk_sub, pk_div, nI_clamp, ckN, nI_leI, nI_ltI, nI_eq, nI_nm1, Nat.add_zero, nI_addneg, k_ush, true_or, or_true, false_or, or_false, true_and, and_true, false_and, and_false, not_true_eq_false, not_false_eq_true, if_true, if_false, if_pos, if_neg, Option.bind_some, (h.2.1 b hb).2.1]
theorem r_ofWd (hc : c < 3) (h : RC a c nb pl tv fm wd st) {b : Nat} (hb : b < nb) (hn : nb ≤ 24) : pX10_ofBlock (nI c) (nI b) (nI 2) a = some (nI (wd b)) := by
  unfold pX10_ofBlock pX10_at
  simp (disch := omega) only [n_l0, n_l1, n_l2, n_l3, n_l4, n_l5, n_l6, n_l7, n_l8, n_l9, n_l15, n_l16, n_l17, n_l20, n_l24, n_l31, n_l32, n_l33, n_l36, n_l48, n_l49, n_l97, n_l128, n_l129, n_l192, n_l225, n_l256, n_l353, n_l400, n_l512, n_l593, n_l621, n_l640, n_l857, n_l1093, n_l1095, n_l2048, n_l3225, n_l10000, n_l22955, n_l29988, n_l29989, n_l65536, n_l99999, n_l1000000000, n_l2147483647, nI_add, pk_mul, pk_sub, pk_div, nI_clamp, ckN, nI_leI, nI_ltI, nI_eq, nI_nm1, Nat.add_zero, nI_addneg, k_ush, true_or, or_true, false_or, or_false, true_and, and_true, false_and, and_false, not_true_eq_false, not_false_eq_true, if_true, if_false, if_pos, if_neg, Option.bind_some, (h.2.1 b hb).2.2.1]
theorem r_ofSt (hc : c < 3) (h : RC a c nb pl tv fm wd st) {b : Nat} (hb : b < nb) (hn : nb ≤ 24) : pX10_ofBlock (nI c) (nI b) (nI 3) a = some (st b) := by
  unfold pX10_ofBlock pX10_at
  simp (disch := omega) only [n_l0, n_l1, n_l2, n_l3, n_l4, n_l5, n_l6, n_l7, n_l8, n_l9, n_l15, n_l16, n_l17, n_l20, n_l24, n_l31, n_l32, n_l33, n_l36, n_l48, n_l49, n_l97, n_l128, n_l129, n_l192, n_l225, n_l256, n_l353, n_l400, n_l512, n_l593, n_l621, n_l640, n_l857, n_l1093, n_l1095, n_l2048, n_l3225, n_l10000, n_l22955, n_l29988, n_l29989, n_l65536, n_l99999, n_l1000000000, n_l2147483647, nI_add, pk_mul, pk_sub, pk_div, nI_clamp, ckN, nI_leI, nI_ltI, nI_eq, nI_nm1, Nat.add_zero, nI_addneg, k_ush, true_or, or_true, false_or, or_false, true_and, and_true, false_and, and_false, not_true_eq_false, not_false_eq_true, if_true, if_false, if_pos, if_neg, Option.bind_some, (h.2.1 b hb).2.2.2]
theorem r_firstOf (hc : c < 3) (h : RC a c nb pl tv fm wd st) {b : Nat} (hb : b ≤ nb) (hn : nb ≤ 24) : pX10_firstOf (nI c) (nI b) a = some (nI (sm pl b)) := by
  unfold pX10_firstOf
  have e := lpF (body := pX10_firstOf_b5 (nI c) (nI b) a) (r := (nI (sm pl b), nI b)) (fun k => (nI (sm pl k), nI k)) b (nI 0, nI 0) rfl
    (fun k hk => by
      unfold pX10_firstOf_b5
      simp (disch := omega) only [n_l0, n_l1, n_l2, n_l3, n_l4, n_l5, n_l6, n_l7, n_l8, n_l9, n_l15, n_l16, n_l17, n_l20, n_l24, n_l31, n_l32, n_l33, n_l36, n_l48, n_l49, n_l97, n_l128, n_l129, n_l192, n_l225, n_l256, n_l353, n_l400, n_l512, n_l593, n_l621, n_l640, n_l857, n_l1093, n_l1095, n_l2048, n_l3225, n_l10000, n_l22955, n_l29988, n_l29989, n_l65536, n_l99999, n_l1000000000, n_l2147483647, nI_add, pk_mul, pk_sub, pk_div, nI_clamp, ckN, nI_leI, nI_ltI, nI_eq, nI_nm1, Nat.add_zero, nI_addneg, k_ush, true_or, or_true, false_or, or_false, true_and, and_true, false_and, and_false, not_true_eq_false, not_false_eq_true, if_true, if_false, if_pos, if_neg, Option.bind_some, r_ofPl hc h (show k < nb by omega) hn, sm]) (by
      unfold pX10_firstOf_b5
      simp (disch := omega) only [n_l0, n_l1, n_l2, n_l3, n_l4, n_l5, n_l6, n_l7, n_l8, n_l9, n_l15, n_l16, n_l17, n_l20, n_l24, n_l31, n_l32, n_l33, n_l36, n_l48, n_l49, n_l97, n_l128, n_l129, n_l192, n_l225, n_l256, n_l353, n_l400, n_l512, n_l593, n_l621, n_l640, n_l857, n_l1093, n_l1095, n_l2048, n_l3225, n_l10000, n_l22955, n_l29988, n_l29989, n_l65536, n_l99999, n_l1000000000, n_l2147483647, nI_add, pk_mul, pk_sub, pk_div, nI_clamp, ckN, nI_leI, nI_ltI, nI_eq, nI_nm1, Nat.add_zero, nI_addneg, k_ush, true_or, or_true, false_or, or_false, true_and, and_true, false_and, and_false, not_true_eq_false, not_false_eq_true, if_true, if_false, if_pos, if_neg, Option.bind_some])
  simp (disch := omega) only [n_l0, n_l1, n_l2, n_l3, n_l4, n_l5, n_l6, n_l7, n_l8, n_l9, n_l15, n_l16, n_l17, n_l20, n_l24, n_l31, n_l32, n_l33, n_l36, n_l48, n_l49, n_l97, n_l128, n_l129, n_l192, n_l225, n_l256, n_l353, n_l400, n_l512, n_l593, n_l621, n_l640, n_l857, n_l1093, n_l1095, n_l2048, n_l3225, n_l10000, n_l22955, n_l29988, n_l29989, n_l65536, n_l99999, n_l1000000000, n_l2147483647, nI_add, pk_mul, pk_sub, pk_div, nI_clamp, ckN, nI_leI, nI_ltI, nI_eq, nI_nm1, Nat.add_zero, nI_addneg, k_ush, true_or, or_true, false_or, or_false, true_and, and_true, false_and, and_false, not_true_eq_false, not_false_eq_true, if_true, if_false, if_pos, if_neg, Option.bind_some, e]
theorem r_places (hc : c < 3) (h : RC a c nb pl tv fm wd st) (hn : nb ≤ 24) : pX10_places (nI c) a = some (nI (sm pl nb)) := by
  unfold pX10_places
  simp (disch := omega) only [n_l0, n_l1, n_l2, n_l3, n_l4, n_l5, n_l6, n_l7, n_l8, n_l9, n_l15, n_l16, n_l17, n_l20, n_l24, n_l31, n_l32, n_l33, n_l36, n_l48, n_l49, n_l97, n_l128, n_l129, n_l192, n_l225, n_l256, n_l353, n_l400, n_l512, n_l593, n_l621, n_l640, n_l857, n_l1093, n_l1095, n_l2048, n_l3225, n_l10000, n_l22955, n_l29988, n_l29989, n_l65536, n_l99999, n_l1000000000, n_l2147483647, nI_add, pk_mul, pk_sub, pk_div, nI_clamp, ckN, nI_leI, nI_ltI, nI_eq, nI_nm1, Nat.add_zero, nI_addneg, k_ush, true_or, or_true, false_or, or_false, true_and, and_true, false_and, and_false, not_true_eq_false, not_false_eq_true, if_true, if_false, if_pos, if_neg, Option.bind_some, r_blocks hc h, r_firstOf hc h (Nat.le_refl _) hn]
theorem r_value (hc : c < 3) (h : RC a c nb pl tv fm wd st) {k : Nat} (hk : k < sm pl nb) (hs : sm pl nb ≤ 128) : pX10_valueAt (nI c) (nI k) a = some (vv (tv k)) := by
  unfold pX10_valueAt pX10_at
  simp (disch := omega) only [n_l0, n_l1, n_l2, n_l3, n_l4, n_l5, n_l6, n_l7, n_l8, n_l9, n_l15, n_l16, n_l17, n_l20, n_l24, n_l31, n_l32, n_l33, n_l36, n_l48, n_l49, n_l97, n_l128, n_l129, n_l192, n_l225, n_l256, n_l353, n_l400, n_l512, n_l593, n_l621, n_l640, n_l857, n_l1093, n_l1095, n_l2048, n_l3225, n_l10000, n_l22955, n_l29988, n_l29989, n_l65536, n_l99999, n_l1000000000, n_l2147483647, nI_add, pk_mul, pk_sub, pk_div, nI_clamp, ckN, nI_leI, nI_ltI, nI_eq, nI_nm1, Nat.add_zero, nI_addneg, k_ush, true_or, or_true, false_or, or_false, true_and, and_true, false_and, and_false, not_true_eq_false, not_false_eq_true, if_true, if_false, if_pos, if_neg, Option.bind_some, (h.2.2 k hk).1]
theorem r_empty (hc : c < 3) (h : RC a c nb pl tv fm wd st) {k : Nat} (hk : k < sm pl nb) (hs : sm pl nb ≤ 128) : pX10_isEmpty (nI c) (nI k) a = some (ee (tv k)) := by
  unfold pX10_isEmpty pX10_at
  simp (disch := omega) only [n_l0, n_l1, n_l2, n_l3, n_l4, n_l5, n_l6, n_l7, n_l8, n_l9, n_l15, n_l16, n_l17, n_l20, n_l24, n_l31, n_l32, n_l33, n_l36, n_l48, n_l49, n_l97, n_l128, n_l129, n_l192, n_l225, n_l256, n_l353, n_l400, n_l512, n_l593, n_l621, n_l640, n_l857, n_l1093, n_l1095, n_l2048, n_l3225, n_l10000, n_l22955, n_l29988, n_l29989, n_l65536, n_l99999, n_l1000000000, n_l2147483647, nI_add, pk_mul, pk_sub, pk_div, nI_clamp, ckN, nI_leI, nI_ltI, nI_eq, nI_nm1, Nat.add_zero, nI_addneg, k_ush, true_or, or_true, false_or, or_false, true_and, and_true, false_and, and_false, not_true_eq_false, not_false_eq_true, if_true, if_false, if_pos, if_neg, Option.bind_some, (h.2.2 k hk).2]
  cases tv k <;> rfl
end Ref
