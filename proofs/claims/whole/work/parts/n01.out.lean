section NO
variable {a : Nat → Int32} {v1 v2 v3 v4 bk hd bk2 hd2 bk3 hd3 : Int32} {tl tl2 tl3 : Nat → Int64} {fc fc2 fc3 : Nat → Int32} {xc : Nat → Option Nat}
theorem o_set {m1 : Int32} {m2 : Int32} {m3 : Int32} {m4 : Int32} {m5 : Int32} {m6 : Int32} {m7 : Int32} {m8 : Int32} {m9 : Int32} {m10 : Int32} {m11 : Int32} {n1 : Nat → Int32} {n2 : Nat → Int32} {n3 : Nat → Int32} {w} (hv : v1 < 0 ∨ nI 3 ≤ v1) (e : pX9_set 16 128 v1 v2 v3 xc m1 m2 m3 m4 m5 m6 m7 m8 m9 m10 m11 n1 n2 n3 bk hd tl fc = some w) : (bk, hd, w.2.2.2.2.2.2.2.2.2.2.2.2.2.2.2.2.1, w.2.2.2.2.2.2.2.2.2.2.2.2.2.2.2.2.2) = (bk, hd, tl, fc) ∧ w.2.1 = false := by
  unfold pX9_set pX9_change pX9_withPlace at e
  rw [k_colO hv, Option.bind_some, if_neg Bool.false_ne_true, Option.bind_some, if_neg Bool.false_ne_true, Option.bind_some] at e
  cases e
  exact ⟨rfl, rfl⟩
theorem o_clear {m1 : Int32} {m2 : Int32} {m3 : Int32} {m4 : Int32} {m5 : Int32} {m6 : Int32} {m7 : Int32} {m8 : Int32} {m9 : Int32} {m10 : Int32} {m11 : Int32} {n1 : Nat → Int32} {n2 : Nat → Int32} {n3 : Nat → Int32} {w} (hv : v1 < 0 ∨ nI 3 ≤ v1) (e : pX9_clear 16 128 v1 v2 xc m1 m2 m3 m4 m5 m6 m7 m8 m9 m10 m11 n1 n2 n3 bk hd tl fc = some w) : (bk, hd, w.2.2.2.2.2.2.2.2.2.2.2.2.2.2.2.2.1, w.2.2.2.2.2.2.2.2.2.2.2.2.2.2.2.2.2) = (bk, hd, tl, fc) ∧ w.2.1 = false := by
  unfold pX9_clear pX9_change pX9_withPlace at e
  rw [k_colO hv, Option.bind_some, if_neg Bool.false_ne_true, Option.bind_some, if_neg Bool.false_ne_true, Option.bind_some] at e
  cases e
  exact ⟨rfl, rfl⟩
theorem o_insert {m1 : Int32} {m2 : Int32} {m3 : Int32} {m4 : Int32} {m5 : Int32} {m6 : Int32} {m7 : Int32} {m8 : Int32} {m9 : Int32} {m10 : Int32} {m11 : Int32} {n1 : Nat → Int32} {n2 : Nat → Int32} {n3 : Nat → Int32} {w} (hv : v1 < 0 ∨ nI 3 ≤ v1) (e : pX9_insert 16 128 v1 v2 v3 xc m1 m2 m3 m4 m5 m6 m7 m8 m9 m10 m11 n1 n2 n3 bk hd tl fc = some w) : (w.2.2.2.2.2.2.2.2.2.2.2.2.2.2.2.2.1, w.2.2.2.2.2.2.2.2.2.2.2.2.2.2.2.2.2.1, w.2.2.2.2.2.2.2.2.2.2.2.2.2.2.2.2.2.2.1, w.2.2.2.2.2.2.2.2.2.2.2.2.2.2.2.2.2.2.2) = (bk, hd, tl, fc) ∧ w.2.1 = false := by
  unfold pX9_insert at e
  rw [k_colO hv, Option.bind_some, if_neg Bool.false_ne_true] at e
  cases e
  exact ⟨rfl, rfl⟩
theorem o_remove {m1 : Int32} {m2 : Int32} {m3 : Int32} {m4 : Int32} {m5 : Int32} {m6 : Int32} {m7 : Int32} {m8 : Int32} {m9 : Int32} {m10 : Int32} {m11 : Int32} {n1 : Nat → Int32} {n2 : Nat → Int32} {n3 : Nat → Int32} {w} (hv : v1 < 0 ∨ nI 3 ≤ v1) (e : pX9_remove 16 128 v1 v2 xc m1 m2 m3 m4 m5 m6 m7 m8 m9 m10 m11 n1 n2 n3 bk hd tl fc = some w) : (w.2.2.2.2.2.2.2.2.2.2.2.2.2.2.2.2.1, w.2.2.2.2.2.2.2.2.2.2.2.2.2.2.2.2.2.1, w.2.2.2.2.2.2.2.2.2.2.2.2.2.2.2.2.2.2.1, w.2.2.2.2.2.2.2.2.2.2.2.2.2.2.2.2.2.2.2) = (bk, hd, tl, fc) ∧ w.2.1 = false := by
  unfold pX9_remove at e
  rw [k_colO hv, Option.bind_some, if_neg Bool.false_ne_true] at e
  cases e
  exact ⟨rfl, rfl⟩
theorem o_split {m1 : Int32} {m2 : Int32} {m3 : Int32} {m4 : Int32} {m5 : Int32} {m6 : Int32} {m7 : Int32} {m8 : Int32} {m9 : Int32} {m10 : Int32} {m11 : Int32} {n1 : Nat → Int32} {n2 : Nat → Int32} {n3 : Nat → Int32} {w} (hv : v1 < 0 ∨ nI 3 ≤ v1) (e : pX9_split 16 128 v1 v2 v3 xc m1 m2 m3 m4 m5 m6 m7 m8 m9 m10 m11 n1 n2 n3 bk hd tl fc = some w) : (w.2.2.2.2.2.2.2.2.2.2.2.2.2.2.2.2.1, hd, tl, w.2.2.2.2.2.2.2.2.2.2.2.2.2.2.2.2.2) = (bk, hd, tl, fc) ∧ w.2.1 = false := by
  unfold pX9_split at e
  rw [k_colO hv, Option.bind_some, if_neg Bool.false_ne_true] at e
  cases e
  exact ⟨rfl, rfl⟩
theorem o_shift {m1 : Int32} {m2 : Int32} {m3 : Int32} {m4 : Int32} {m5 : Int32} {m6 : Int32} {m7 : Int32} {m8 : Int32} {m9 : Int32} {m10 : Int32} {m11 : Int32} {n1 : Nat → Int32} {n2 : Nat → Int32} {n3 : Nat → Int32} {w} (hv : v1 < 0 ∨ nI 3 ≤ v1) (e : pX9_shift 16 128 v1 v2 xc m1 m2 m3 m4 m5 m6 m7 m8 m9 m10 m11 n1 n2 n3 bk hd tl fc = some w) : (bk, hd, w.2.2.2.2.2.2.2.2.2.2.2.2.2.2.2.2.1, w.2.2.2.2.2.2.2.2.2.2.2.2.2.2.2.2.2) = (bk, hd, tl, fc) ∧ w.2.1 = false := by
  unfold pX9_shift at e
  rw [k_colO hv, Option.bind_some, if_neg Bool.false_ne_true] at e
  cases e
  exact ⟨rfl, rfl⟩
theorem o_drop  {w} (hv : v1 < 0 ∨ nI 3 ≤ v1) (e : pX9_drop 16 128 v1 v2 xc bk hd tl fc = some w) : (w.2.2.1, w.2.2.2.1, w.2.2.2.2.1, w.2.2.2.2.2) = (bk, hd, tl, fc) ∧ w.2.1 = false := by
  unfold pX9_drop at e
  rw [k_colO hv, Option.bind_some, if_neg Bool.false_ne_true] at e
  cases e
  exact ⟨rfl, rfl⟩
theorem o_join {m1 : Int32} {m2 : Int32} {m3 : Int32} {m4 : Int32} {m5 : Int32} {m6 : Int32} {m7 : Int32} {m8 : Int32} {m9 : Int32} {m10 : Int32} {m11 : Int32} {n1 : Nat → Int32} {n2 : Nat → Int32} {n3 : Nat → Int32} {w} (hv : v1 < 0 ∨ nI 3 ≤ v1) (e : pX9_join 16 128 v1 xc m1 m2 m3 m4 m5 m6 m7 m8 m9 m10 m11 n1 n2 n3 bk hd tl fc = some w) : (w.2.2.2.2.2.2.2.2.2.2.2.2.2.2.2.2.1, hd, tl, w.2.2.2.2.2.2.2.2.2.2.2.2.2.2.2.2.2) = (bk, hd, tl, fc) ∧ w.2.1 = false := by
  unfold pX9_join at e
  rw [k_colO hv, Option.bind_some, if_neg Bool.false_ne_true] at e
  cases e
  exact ⟨rfl, rfl⟩
theorem o_recut {m1 : Int32} {m2 : Int32} {m3 : Int32} {m4 : Int32} {m5 : Int32} {m6 : Int32} {m7 : Int32} {m8 : Int32} {m9 : Int32} {m10 : Int32} {m11 : Int32} {n1 : Nat → Int32} {n2 : Nat → Int32} {n3 : Nat → Int32} {cb_ : Int32} {cf : Int32} {ph : Int32} {cz : Nat → Int32} {cs : Nat → Int32} {re : Nat → Int32} {pt : Nat → Int64} {w} (hv : v1 < 0 ∨ nI 3 ≤ v1) (e : pX9_recut 16 128 128 v1 xc m1 m2 m3 m4 m5 m6 m7 m8 m9 m10 m11 n1 n2 n3 cb_ cf cz ph pt cs re bk hd tl fc = some w) : (w.2.2.2.2.2.2.2.2.2.2.2.2.2.2.2.2.2.2.2.2.2.2.2.1, hd, tl, w.2.2.2.2.2.2.2.2.2.2.2.2.2.2.2.2.2.2.2.2.2.2.2.2) = (bk, hd, tl, fc) ∧ w.2.1 = false := by
  unfold pX9_recut pX9_withBlocks at e
  rw [k_colO hv, Option.bind_some, if_neg Bool.false_ne_true, Option.bind_some, if_neg Bool.false_ne_true] at e
  cases e
  exact ⟨rfl, rfl⟩
theorem o_flush {m1 : Int32} {m2 : Int32} {m3 : Int32} {m4 : Int32} {m5 : Int32} {m6 : Int32} {m7 : Int32} {m8 : Int32} {m9 : Int32} {m10 : Int32} {m11 : Int32} {n1 : Nat → Int32} {n2 : Nat → Int32} {n3 : Nat → Int32} {ph : Int32} {ptl : Nat → Int64} {w} (hv : v1 < 0 ∨ nI 3 ≤ v1) (e : pX9_flush 16 128 v1 xc ph ptl m1 m2 m3 m4 m5 m6 m7 m8 m9 m10 m11 n1 n2 n3 bk hd tl fc = some w) : (w.2.2.2.2.2.2.2.2.2.2.2.2.2.2.2.2.2.1, w.2.2.2.2.2.2.2.2.2.2.2.2.2.2.2.2.2.2.1, w.2.2.2.2.2.2.2.2.2.2.2.2.2.2.2.2.2.2.2.1, w.2.2.2.2.2.2.2.2.2.2.2.2.2.2.2.2.2.2.2.2) = (bk, hd, tl, fc) ∧ w.2.1 = false := by
  unfold pX9_flush at e
  rw [k_colO hv, Option.bind_some, if_neg Bool.false_ne_true] at e
  cases e
  exact ⟨rfl, rfl⟩
theorem o_walk {m1 : Int32} {m2 : Int32} {m3 : Int32} {m4 : Int32} {m5 : Int32} {m6 : Int32} {m7 : Int32} {m8 : Int32} {m9 : Int32} {m10 : Int32} {m11 : Int32} {n1 : Nat → Int32} {n2 : Nat → Int32} {n3 : Nat → Int32} {x : Int32} {w} (hv : v1 < 0 ∨ nI 3 ≤ v1) (e : pX9_walk 16 128 v1 v2 v3 v4 x xc m1 m2 m3 m4 m5 m6 m7 m8 m9 m10 m11 n1 n2 n3 bk hd tl fc = some w) : (w.2.2.2.2.2.2.2.2.2.2.2.2.2.2.2.2.2.1, w.2.2.2.2.2.2.2.2.2.2.2.2.2.2.2.2.2.2.1, w.2.2.2.2.2.2.2.2.2.2.2.2.2.2.2.2.2.2.2.1, w.2.2.2.2.2.2.2.2.2.2.2.2.2.2.2.2.2.2.2.2) = (bk, hd, tl, fc) ∧ w.2.1 = false := by
  unfold pX9_walk at e
  rw [k_colO hv, Option.bind_some, if_neg Bool.false_ne_true] at e
  cases e
  exact ⟨rfl, rfl⟩
theorem o_open {T : Nat} {v1 : Int32} {op_ : Int32} {bk : Int32} {hd : Int32} {sb : Int32} {sh : Int32} {xc : Nat → Option Nat} {hw : Nat → Int32} {ks : Nat → Int32} {fc : Nat → Int32} {sf : Nat → Int32} {tl : Nat → Int64} {st_ : Nat → Int64} {k1 : Int32} {k2 : Int32} {k3 : Int32} {k4 : Int32} {k5 : Int32} {k6 : Int32} {k7 : Int32} {k8 : Int32} {k9 : Int32} {k10 : Int32} {k11 : Int32} {k12 : Int32} {k13 : Int32} {k14 : Int32} {w} (hv : v1 < 0 ∨ nI 3 ≤ v1) (e : pX9_open 16 128 128 v1 op_ xc (nI T) hw k1 k2 k3 k4 k5 k6 k7 k8 k9 k10 k11 k12 k13 k14 ks sb sh st_ sf bk hd tl fc = some w) : (w.2.2.2.2.2.2.2.2.2.2.2.2.2.2.2.2.2.2.2.2.2.2.2.1, w.2.2.2.2.2.2.2.2.2.2.2.2.2.2.2.2.2.2.2.2.2.2.2.2.1, w.2.2.2.2.2.2.2.2.2.2.2.2.2.2.2.2.2.2.2.2.2.2.2.2.2.1, w.2.2.2.2.2.2.2.2.2.2.2.2.2.2.2.2.2.2.2.2.2.2.2.2.2.2) = (bk, hd, tl, fc) ∧ w.2.1 = false := by
  unfold pX9_open at e
  rw [k_colO hv, Option.bind_some, if_neg Bool.false_ne_true] at e
  cases e
  exact ⟨rfl, rfl⟩
theorem o_copy {m1 : Int32} {m2 : Int32} {m3 : Int32} {m4 : Int32} {m5 : Int32} {m6 : Int32} {m7 : Int32} {m8 : Int32} {m9 : Int32} {m10 : Int32} {m11 : Int32} {n1 : Nat → Int32} {n2 : Nat → Int32} {n3 : Nat → Int32} {w} (hv : v4 < 0 ∨ nI 3 ≤ v4) (e : pX9_copy 16 128 128 v1 v2 v3 v4 xc m1 m2 m3 m4 m5 m6 m7 m8 m9 m10 m11 n1 n2 n3 hd tl bk2 hd2 tl2 fc2 = some w) : (w.2.2.2.2.2.2.2.2.2.2.2.2.2.2.2.2.1, w.2.2.2.2.2.2.2.2.2.2.2.2.2.2.2.2.2.1, w.2.2.2.2.2.2.2.2.2.2.2.2.2.2.2.2.2.2.1, w.2.2.2.2.2.2.2.2.2.2.2.2.2.2.2.2.2.2.2) = (bk2, hd2, tl2, fc2) ∧ w.2.1 = false := by
  unfold pX9_copy at e
  rcases col_cases v1 with ⟨c, hc, rfl⟩ | h1
  · rw [k_col hc, Option.bind_some, if_pos rfl, k_colO hv, Option.bind_some, if_neg Bool.false_ne_true] at e
    cases e
    exact ⟨rfl, rfl⟩
  · simp only [k_colO h1, k_colO hv, Option.bind_some, Bool.false_eq_true, if_false] at e
    cases e
    exact ⟨rfl, rfl⟩
theorem o_merge {m1 : Int32} {m2 : Int32} {m3 : Int32} {m4 : Int32} {m5 : Int32} {m6 : Int32} {m7 : Int32} {m8 : Int32} {m9 : Int32} {m10 : Int32} {m11 : Int32} {n1 : Nat → Int32} {n2 : Nat → Int32} {n3 : Nat → Int32} {sb : Int32} {sh : Int32} {st : Nat → Int64} {sf : Nat → Int32} {w} (hv : v3 < 0 ∨ nI 3 ≤ v3) (e : pX9_merge 16 128 128 128 128 v1 v2 v3 xc m1 m2 m3 m4 m5 m6 m7 m8 m9 m10 m11 n1 n2 n3 sb sh st sf bk hd tl fc bk2 hd2 tl2 fc2 bk3 hd3 tl3 fc3 = some w) : (w.2.2.2.2.2.2.2.2.2.2.2.2.2.2.2.2.2.2.2.2.1, w.2.2.2.2.2.2.2.2.2.2.2.2.2.2.2.2.2.2.2.2.2.1, w.2.2.2.2.2.2.2.2.2.2.2.2.2.2.2.2.2.2.2.2.2.2.1, w.2.2.2.2.2.2.2.2.2.2.2.2.2.2.2.2.2.2.2.2.2.2.2) = (bk3, hd3, tl3, fc3) ∧ w.2.1 = false := by
  unfold pX9_merge at e
  rcases col_cases v1 with ⟨c, hc, rfl⟩ | h1
  · rcases col_cases v2 with ⟨c2, hc2, rfl⟩ | h2
    · rw [k_col hc, Option.bind_some, if_pos rfl, k_col hc2, Option.bind_some, if_pos rfl, k_colO hv, Option.bind_some, if_neg Bool.false_ne_true] at e
      cases e
      exact ⟨rfl, rfl⟩
    · simp only [k_col hc, k_colO h2, k_colO hv, Option.bind_some, Bool.false_eq_true, if_false, if_true] at e
      cases e
      exact ⟨rfl, rfl⟩
  · rcases col_cases v2 with ⟨c2, hc2, rfl⟩ | h2
    · simp only [k_col hc2, k_colO h1, k_colO hv, Option.bind_some, Bool.false_eq_true, if_false, if_true] at e
      cases e
      exact ⟨rfl, rfl⟩
    · simp only [k_colO h1, k_colO h2, k_colO hv, Option.bind_some, Bool.false_eq_true, if_false, if_true] at e
      cases e
      exact ⟨rfl, rfl⟩
end NO
