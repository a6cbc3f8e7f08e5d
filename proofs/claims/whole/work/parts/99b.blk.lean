/-! ===== opening: a block's picture ===== -/
section Blk
variable {tw : Nat → Int32}
theorem tE_cnt {p : Nat} {g : Nat → Int32} : ∀ k, cnt (tE tw p g) 0 k = k - mV tw p k ∧ ∀ i, i < k - mV tw p k → val (tE tw p g) 0 k i = g i := by
  intro k
  induction k with
  | zero => exact ⟨rfl, fun i hi => absurd hi (by omega)⟩
  | succ m ih =>
    obtain ⟨i1, i2⟩ := ih
    have hle := mV_le tw p m
    by_cases hm : mE tw p m
    · have hv : tE tw p g (0 + m) = none := by rw [Nat.zero_add]; exact if_pos hm
      obtain ⟨c1, c2⟩ := cnt_none hv
      have hs : m + 1 - mV tw p (m + 1) = m - mV tw p m := by rw [mV_s, if_pos hm]; omega
      rw [c1, c2, hs]
      exact ⟨i1, i2⟩
    · have hv : tE tw p g (0 + m) = some (g (m - mV tw p m)) := by rw [Nat.zero_add]; exact if_neg hm
      obtain ⟨c1, c2⟩ := cnt_some hv
      have hs : m + 1 - mV tw p (m + 1) = m - mV tw p m + 1 := by rw [mV_s, if_neg hm]; omega
      rw [c1, c2, hs, i1]
      refine ⟨rfl, fun i hi => ?_⟩
      unfold upd
      by_cases hi2 : i = m - mV tw p m
      · rw [if_pos hi2, hi2]
      · rw [if_neg hi2]; exact i2 i (by omega)
/-- the picture with the block that was read -/
def opC (C : AC) (t : Nat → Option Int32) (n fm wd : Nat) (st : Int32) : AC := apC (reT C (apT (TV C) (HL C) t)) n fm wd st
variable {C : AC} {t : Nat → Option Int32} {n fm wd : Nat} {st : Int32}
theorem op_NB : NB (opC C t n fm wd st) = NB C + 1 := rfl
theorem op_HL : HL (opC C t n fm wd st) = HL C + n := by unfold opC; rw [ap_HL, re_HL]
theorem op_TV : TV (opC C t n fm wd st) = apT (TV C) (HL C) t := rfl
theorem op_PLn : PL (opC C t n fm wd st) (NB C) = n := ud_at _ _ _
theorem op_FM : FM (opC C t n fm wd st) (NB C) = fm := ud_at _ _ _
theorem op_WD : WD (opC C t n fm wd st) (NB C) = wd := ud_at _ _ _
theorem op_ST : ST (opC C t n fm wd st) (NB C) = st := ud_at _ _ _
theorem op_sm : sm (PL (opC C t n fm wd st)) (NB C) = HL C := ud_sm_lo (Nat.le_refl _)
theorem op_cm : cm (opC C t n fm wd st) (NB C) = cnt t 0 n ∧ cg (opC C t n fm wd st) (NB C) = val t 0 n := by
  have e := cnt_congr (tv := apT (TV C) (HL C) t) (tw := t) (f := HL C) (g := 0) n (fun i _ => by rw [apT_hi, Nat.zero_add])
  unfold cm cg
  rw [op_TV, op_sm, op_PLn]
  exact e
theorem op_BL {j : Nat} (h : j < NB C) : BL (opC C t n fm wd st) j C j := by
  have h1 : j ≠ NB C := by omega
  have e : sm (PL (opC C t n fm wd st)) j = sm (PL C) j := ud_sm_lo (Nat.le_of_lt h)
  refine ⟨ud_ne h1, ud_ne h1, ud_ne h1, ud_ne h1, fun r hr => ?_⟩
  rw [e, op_TV]
  exact apT_lo (by have := sm_lt2 h; omega)
/-- of the block read: values, exceptions, bits, base -/
theorem op_facts {p : Nat} {B : Int32} {P : Nat → Nat} {ex : Nat} (hf : fm ≤ 2) (hP : ∀ j, j < pcn fm (n - mV tw p n) → P j < 2 ^ 32) (hex : exc wd P (pcn fm (n - mV tw p n)) = ex) (hb : fm = 0 → lv (gv fm B st P) (n - mV tw p n) = B) (hV : fm = 0 ∨ 2 ≤ n - mV tw p n) (ht : t = tE tw p (gv fm B st P)) :
    cm (opC C t n fm wd st) (NB C) = n - mV tw p n ∧ ce (opC C t n fm wd st) (NB C) = ex ∧ ct (opC C t n fm wd st) (NB C) = tot n (n - mV tw p n) fm wd (pcn fm (n - mV tw p n)) ex ∧ cb (opC C t n fm wd st) (NB C) = B := by
  obtain ⟨c1, c2⟩ := op_cm (C := C) (t := t) (n := n) (fm := fm) (wd := wd) (st := st)
  subst ht
  obtain ⟨d1, d2⟩ := tE_cnt (tw := tw) (p := p) (g := gv fm B st P) n
  rw [d1] at c1
  have hcp : cp (opC C (tE tw p (gv fm B st P)) n fm wd st) (NB C) = pcn fm (n - mV tw p n) := by unfold cp; rw [op_FM, c1]
  have hcq : ∀ j, j < pcn fm (n - mV tw p n) → cq (opC C (tE tw p (gv fm B st P)) n fm wd st) (NB C) j = P j := fun j hj => by
    unfold cq
    rw [op_FM, op_ST, c1, c2]
    have e := pt_congr (g := val (tE tw p (gv fm B st P)) 0 n) (h := gv fm B st P) fm st (n - mV tw p n) d2 j hj
    unfold qs
    rw [e]
    exact gv_qs hf hP hb hj
  have hce : ce (opC C (tE tw p (gv fm B st P)) n fm wd st) (NB C) = ex := by
    unfold ce
    rw [op_WD, hcp, exc_congr _ hcq, hex]
  refine ⟨c1, hce, ?_, ?_⟩
  · unfold ct
    rw [op_WD, op_FM, hce, hcp, c1, op_PLn]
  · unfold cb
    rw [op_FM, c1, c2]
    unfold bse
    by_cases h0 : fm = 0
    · rw [if_pos h0]
      have e : lv (val (tE tw p (gv fm B st P)) 0 n) (n - mV tw p n) = lv (gv fm B st P) (n - mV tw p n) := by
        cases hv : n - mV tw p n with
        | zero => rfl
        | succ k => exact lvs_congr k (fun i hi => d2 i (by omega))
      rw [e, hb h0]
    · rw [if_neg h0, d2 0 (by omega), gv_f h0]
end Blk
