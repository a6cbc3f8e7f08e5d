/-! ===== blocks alike; split, drop ===== -/
/-- a block of one picture is as a block of another -/
def BL (C2 : AC) (j : Nat) (C1 : AC) (i : Nat) : Prop := PL C2 j = PL C1 i ∧ FM C2 j = FM C1 i ∧ WD C2 j = WD C1 i ∧ ST C2 j = ST C1 i ∧ ∀ r, r < PL C1 i → TV C2 (sm (PL C2) j + r) = TV C1 (sm (PL C1) i + r)
section BLs
variable {C1 C2 : AC} {i j : Nat}
theorem BL_cm (h : BL C2 j C1 i) : cm C2 j = cm C1 i ∧ cg C2 j = cg C1 i := by
  obtain ⟨h1, _, _, _, h5⟩ := h
  unfold cm cg
  rw [h1]
  exact cnt_congr _ h5
theorem BL_all (h : BL C2 j C1 i) : cq C2 j = cq C1 i ∧ cp C2 j = cp C1 i ∧ ce C2 j = ce C1 i ∧ ct C2 j = ct C1 i ∧ cb C2 j = cb C1 i := by
  obtain ⟨e5, e6⟩ := BL_cm h
  obtain ⟨e4, e1, e2, e3, _⟩ := h
  have h1 : cq C2 j = cq C1 i := by unfold cq; rw [e1, e3, e5, e6]
  have h2 : cp C2 j = cp C1 i := by unfold cp; rw [e1, e5]
  have h3 : ce C2 j = ce C1 i := by unfold ce; rw [e2, h1, h2]
  refine ⟨h1, h2, h3, ?_, ?_⟩
  · unfold ct; rw [e4, e5, e1, e2, h2, h3]
  · unfold cb; rw [e1, e6, e5]
theorem BL_okb (h : BL C2 j C1 i) (ho : okb C1 i) : okb C2 j := by
  obtain ⟨_, _, h3, _, _⟩ := BL_all h
  obtain ⟨e5, _⟩ := BL_cm h
  obtain ⟨e4, e1, e2, e3, _⟩ := h
  unfold okb at ho ⊢
  rw [e1, e2, e3, e4, e5, h3]; exact ho
theorem BL_KF {f1 f2 : Nat → Int32} (h : BL C2 j C1 i) (e : ∀ w, w < 8 → f2 (j * 8 + w) = f1 (i * 8 + w)) (hF : KF f1 C1 i) : KF f2 C2 j := by
  obtain ⟨_, _, h3, h4, h5⟩ := BL_all h
  obtain ⟨e5, _⟩ := BL_cm h
  obtain ⟨_, e1, e2, e3, _⟩ := h
  obtain ⟨g1, g2, g3, g4, g5, g6, g7⟩ := hF
  unfold KF
  rw [e1, e2, e3, e5, h3, h4, h5, e 1 (by omega), e 2 (by omega), e 3 (by omega), e 4 (by omega), e 5 (by omega), e 6 (by omega), e 7 (by omega)]
  exact ⟨g1, g2, g3, g4, g5, g6, g7⟩
end BLs
/-! one or two blocks told anew -/
section Two
variable {C : AC} {b : Nat}
theorem okC_one (hn : NB C ≤ 24) (hl : HL C ≤ 128) (h1 : 1 ≤ PL C b) (h2 : PL C b ≤ 16) (h : ∀ j, j ≠ b → j < NB C → okb C j) : OKC (tlC C b) := ⟨hn, hl, fun j hj => by
  by_cases hjb : j = b
  · subst hjb; exact tl_okb h1 h2
  · exact tl_okbn hjb (h j hjb hj)⟩
theorem okC_two (hn : NB C ≤ 24) (hl : HL C ≤ 128) (h1 : 1 ≤ PL C b) (h2 : PL C b ≤ 16) (h3 : 1 ≤ PL C (b + 1)) (h4 : PL C (b + 1) ≤ 16) (h : ∀ j, j ≠ b → j ≠ b + 1 → j < NB C → okb C j) : OKC (tlC (tlC C b) (b + 1)) :=
  okC_one (C := tlC C b) hn hl h3 h4 (fun j hj hjn => by
    by_cases hjb : j = b
    · subst hjb; exact tl_okb h1 h2
    · exact tl_okbn hjb (h j hjb hj hjn))
theorem ud_comm {α : Type} (f : Nat → α) {i j : Nat} (h : i ≠ j) (x y : α) : ud (ud f i x) j y = ud (ud f j y) i x := by
  funext k
  unfold ud
  by_cases h1 : k = j
  · by_cases h2 : k = i
    · exact absurd (h2.symm.trans h1) h
    · rw [if_pos h1, if_neg h2, if_pos h1]
  · by_cases h2 : k = i
    · rw [if_neg h1, if_pos h2, if_pos h2]
    · rw [if_neg h1, if_neg h2, if_neg h2, if_neg h1]
theorem tl_comm {b' : Nat} (h : b ≠ b') : tlC (tlC C b) b' = tlC (tlC C b') b := by
  show (NB C, PL C, TV C, ud (ud (FM C) b (bt3 C b).1) b' (bt3 C b').1, ud (ud (WD C) b (bt3 C b).2.1) b' (bt3 C b').2.1, ud (ud (ST C) b _) b' _) = (NB C, PL C, TV C, ud (ud (FM C) b' (bt3 C b').1) b (bt3 C b).1, ud (ud (WD C) b' (bt3 C b').2.1) b (bt3 C b).2.1, ud (ud (ST C) b' _) b _)
  rw [ud_comm (FM C) h, ud_comm (WD C) h, ud_comm (ST C) h]
  rfl
variable {tl : Nat → Int64} {fc : Nat → Int32}
theorem k_two1 (m1 m2 m3 m4 m5 m6 m7 m8 m9 m10 m11 : Int32) (n1 n2 n3 : Nat → Int32) {H : Nat} (hn : NB C ≤ 24) (hl : HL C = H) (hH : H ≤ 128) (hT : ∀ k, k < H → tl k = enc (TV C k)) (hP : KP fc C) (hb : b + 1 < NB C) (hp : PL C b ≤ 16) (hp2 : PL C (b + 1) ≤ 16) (hF : ∀ j, j ≠ b → j ≠ b + 1 → j < NB C → KF fc C j) :
    ∃ w w2, pX0_retell 128 (nI b) (nI (NB C)) (nI H) tl fc m1 m2 m3 m4 m5 m6 m7 m8 m9 m10 m11 n1 n2 n3 = some w ∧ pX0_retell 128 (nI (b + 1)) (nI (NB C)) (nI H) tl w.1 w.2.1 w.2.2.1 w.2.2.2.1 w.2.2.2.2.1 w.2.2.2.2.2.1 w.2.2.2.2.2.2.1 w.2.2.2.2.2.2.2.1 w.2.2.2.2.2.2.2.2.1 w.2.2.2.2.2.2.2.2.2.1 w.2.2.2.2.2.2.2.2.2.2.1 w.2.2.2.2.2.2.2.2.2.2.2.1 w.2.2.2.2.2.2.2.2.2.2.2.2.1 w.2.2.2.2.2.2.2.2.2.2.2.2.2.1 w.2.2.2.2.2.2.2.2.2.2.2.2.2.2 = some w2 ∧ KP w2.1 (tlC (tlC C b) (b + 1)) ∧ ∀ j, j < NB C → KF w2.1 (tlC (tlC C b) (b + 1)) j := by
  obtain ⟨w, ew, w1, w2, w3, _⟩ := k_retell (C := C) (fc := fc) (tl := tl) m1 m2 m3 m4 m5 m6 m7 m8 m9 m10 m11 n1 n2 n3 (H := H) hn (by omega) hH hT hP (show b < NB C by omega) hp
  obtain ⟨y, ey, y1, y2, y3, _⟩ := k_retell (C := tlC C b) (fc := w.1) (tl := tl) w.2.1 w.2.2.1 w.2.2.2.1 w.2.2.2.2.1 w.2.2.2.2.2.1 w.2.2.2.2.2.2.1 w.2.2.2.2.2.2.2.1 w.2.2.2.2.2.2.2.2.1 w.2.2.2.2.2.2.2.2.2.1 w.2.2.2.2.2.2.2.2.2.2.1 w.2.2.2.2.2.2.2.2.2.2.2.1 w.2.2.2.2.2.2.2.2.2.2.2.2.1 w.2.2.2.2.2.2.2.2.2.2.2.2.2.1 w.2.2.2.2.2.2.2.2.2.2.2.2.2.2 (H := H) hn (by rw [tl_HL]; omega) hH hT w1 hb hp2
  rw [tl_NB] at ey y3
  refine ⟨w, y, ew, ey, y1, fun j hj => ?_⟩
  by_cases h1 : j = b + 1
  · subst h1; exact y2
  · refine y3 j h1 hj ?_
    by_cases h2 : j = b
    · subst h2; exact w2
    · exact w3 j h2 hj (hF j h2 h1 hj)
theorem k_two (m1 m2 m3 m4 m5 m6 m7 m8 m9 m10 m11 : Int32) (n1 n2 n3 : Nat → Int32) {H : Nat} (hn : NB C ≤ 24) (hl : HL C = H) (hH : H ≤ 128) (hT : ∀ k, k < H → tl k = enc (TV C k)) (hP : KP fc C) (hb : b + 1 < NB C) (hp : PL C b ≤ 16) (hp2 : PL C (b + 1) ≤ 16) (hF : ∀ j, j ≠ b → j ≠ b + 1 → j < NB C → KF fc C j) :
    ∃ w w2, pX0_retell 128 (nI b) (nI (NB C)) (nI H) tl fc m1 m2 m3 m4 m5 m6 m7 m8 m9 m10 m11 n1 n2 n3 = some w ∧ pX0_retell 128 (nI (b + 1)) (nI (NB C)) (nI H) tl w.1 w.2.1 w.2.2.1 w.2.2.2.1 w.2.2.2.2.1 w.2.2.2.2.2.1 w.2.2.2.2.2.2.1 w.2.2.2.2.2.2.2.1 w.2.2.2.2.2.2.2.2.1 w.2.2.2.2.2.2.2.2.2.1 w.2.2.2.2.2.2.2.2.2.2.1 w.2.2.2.2.2.2.2.2.2.2.2.1 w.2.2.2.2.2.2.2.2.2.2.2.2.1 w.2.2.2.2.2.2.2.2.2.2.2.2.2.1 w.2.2.2.2.2.2.2.2.2.2.2.2.2.2 = some w2 ∧ KC (nI (NB C)) (nI H) tl w2.1 (tlC (tlC C b) (b + 1)) := by
  obtain ⟨w, y, ew, ey, y1, y2⟩ := k_two1 m1 m2 m3 m4 m5 m6 m7 m8 m9 m10 m11 n1 n2 n3 hn hl hH hT hP hb hp hp2 hF
  refine ⟨w, y, ew, ey, by rw [tl_NB, tl_NB], by rw [tl_HL, tl_HL, hl], fun k hk => ?_, y1, fun j hj => y2 j ?_⟩
  · rw [tl_TV, tl_TV]; exact hT k (by rw [tl_HL, tl_HL, hl] at hk; exact hk)
  · rw [tl_NB, tl_NB] at hj; exact hj
end Two
