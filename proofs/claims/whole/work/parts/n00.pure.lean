/-! ===== set, clear; merge of columns that are alike; out of range ===== -/
section N0
variable {a : Nat → Int32} {v1 v2 v3 v4 bk hd bk2 hd2 bk3 hd3 : Int32} {tl tl2 tl3 : Nat → Int64} {fc fc2 fc3 : Nat → Int32} {C : AC} {xc : Nat → Option Nat}
theorem q_set (xv xw xp xs xf xu xt xb : Int32) (vs : Nat → Int32) (ps : Nat → Int64) (m1 m2 m3 m4 m5 m6 m7 m8 m9 m10 m11 : Int32) (n1 n2 n3 : Nat → Int32) {f h0 : Nat} (ha0 : a 0 = nI h0) (ha1 : a 1 = nI f) (hh : h0 ≤ 20) (hf : f < 20) (h : COL a v1 bk hd tl fc C) :
    ∃ z w, pX10_set v1 v2 v3 xv xw xp xs xf xu xt xb a vs ps = some z ∧ pX9_set 16 128 v1 v2 v3 xc m1 m2 m3 m4 m5 m6 m7 m8 m9 m10 m11 n1 n2 n3 bk hd tl fc = some w ∧ w.1 = z.1 ∧ MU a v1 w.2.1 z.2.2.2.2.2.2.2.2.2.1 bk hd w.2.2.2.2.2.2.2.2.2.2.2.2.2.2.2.2.1 w.2.2.2.2.2.2.2.2.2.2.2.2.2.2.2.2.2 := by
  obtain ⟨z, w, e1, e2, e3, e4⟩ := q_change (v2 := v2) (xc := xc) xv xw xp xs xf xu xt xb vs ps m1 m2 m3 m4 m5 m6 m7 m8 m9 m10 m11 n1 n2 n3 ha0 ha1 hh hf h (some v3)
  have e1' : pX10_changed v1 v2 v3 0 xv xw xp xs xf xu xt xb a vs ps = some z := e1
  have e2' : pX9_change 16 128 v1 v2 v3.toInt64 xc m1 m2 m3 m4 m5 m6 m7 m8 m9 m10 m11 n1 n2 n3 bk hd tl fc = some w := e2
  refine ⟨z, w, ?_, ?_, e3, e4⟩
  · unfold pX10_set; rw [e1']; rfl
  · unfold pX9_set; rw [e2']; rfl
theorem q_clear (xv xw xp xs xf xu xt xb : Int32) (vs : Nat → Int32) (ps : Nat → Int64) (m1 m2 m3 m4 m5 m6 m7 m8 m9 m10 m11 : Int32) (n1 n2 n3 : Nat → Int32) {f h0 : Nat} (ha0 : a 0 = nI h0) (ha1 : a 1 = nI f) (hh : h0 ≤ 20) (hf : f < 20) (h : COL a v1 bk hd tl fc C) :
    ∃ z w, pX10_clear v1 v2 xv xw xp xs xf xu xt xb a vs ps = some z ∧ pX9_clear 16 128 v1 v2 xc m1 m2 m3 m4 m5 m6 m7 m8 m9 m10 m11 n1 n2 n3 bk hd tl fc = some w ∧ w.1 = z.1 ∧ MU a v1 w.2.1 z.2.2.2.2.2.2.2.2.2.1 bk hd w.2.2.2.2.2.2.2.2.2.2.2.2.2.2.2.2.1 w.2.2.2.2.2.2.2.2.2.2.2.2.2.2.2.2.2 := by
  obtain ⟨z, w, e1, e2, e3, e4⟩ := q_change (v2 := v2) (xc := xc) xv xw xp xs xf xu xt xb vs ps m1 m2 m3 m4 m5 m6 m7 m8 m9 m10 m11 n1 n2 n3 ha0 ha1 hh hf h none
  have e1' : pX10_changed v1 v2 0 1 xv xw xp xs xf xu xt xb a vs ps = some z := e1
  have e2' : pX9_change 16 128 v1 v2 4294967296 xc m1 m2 m3 m4 m5 m6 m7 m8 m9 m10 m11 n1 n2 n3 bk hd tl fc = some w := e2
  refine ⟨z, w, ?_, ?_, e3, e4⟩
  · unfold pX10_clear; rw [e1']; rfl
  · unfold pX9_clear; rw [e2']; rfl
theorem mg_a (m1 m2 m3 m4 m5 m6 m7 m8 m9 m10 m11 : Int32) (n1 n2 n3 : Nat → Int32) {sb sh : Int32} {st : Nat → Int64} {sf : Nat → Int32} : pX9_merge_a 16 128 128 128 v1 v2 v3 xc m1 m2 m3 m4 m5 m6 m7 m8 m9 m10 m11 n1 n2 n3 sb sh st sf bk hd tl fc bk2 hd2 tl2 fc2 = pX9_merge 16 128 128 128 128 v1 v2 v3 xc m1 m2 m3 m4 m5 m6 m7 m8 m9 m10 m11 n1 n2 n3 sb sh st sf bk hd tl fc bk hd tl fc bk2 hd2 tl2 fc2 := rfl
theorem mg_b (m1 m2 m3 m4 m5 m6 m7 m8 m9 m10 m11 : Int32) (n1 n2 n3 : Nat → Int32) {sb sh : Int32} {st : Nat → Int64} {sf : Nat → Int32} : pX9_merge_b 16 128 128 128 v1 v2 v3 xc m1 m2 m3 m4 m5 m6 m7 m8 m9 m10 m11 n1 n2 n3 sb sh st sf bk hd tl fc bk2 hd2 tl2 fc2 = pX9_merge 16 128 128 128 128 v1 v2 v3 xc m1 m2 m3 m4 m5 m6 m7 m8 m9 m10 m11 n1 n2 n3 sb sh st sf bk hd tl fc bk2 hd2 tl2 fc2 bk hd tl fc := rfl
theorem mg_c (m1 m2 m3 m4 m5 m6 m7 m8 m9 m10 m11 : Int32) (n1 n2 n3 : Nat → Int32) {sb sh : Int32} {st : Nat → Int64} {sf : Nat → Int32} : pX9_merge_c 16 128 128 128 v1 v2 v3 xc m1 m2 m3 m4 m5 m6 m7 m8 m9 m10 m11 n1 n2 n3 sb sh st sf bk hd tl fc bk2 hd2 tl2 fc2 = pX9_merge 16 128 128 128 128 v1 v2 v3 xc m1 m2 m3 m4 m5 m6 m7 m8 m9 m10 m11 n1 n2 n3 sb sh st sf bk hd tl fc bk2 hd2 tl2 fc2 bk2 hd2 tl2 fc2 := rfl
theorem mg_d (m1 m2 m3 m4 m5 m6 m7 m8 m9 m10 m11 : Int32) (n1 n2 n3 : Nat → Int32) {sb sh : Int32} {st : Nat → Int64} {sf : Nat → Int32} : pX9_merge_d 16 128 128 v1 v2 v3 xc m1 m2 m3 m4 m5 m6 m7 m8 m9 m10 m11 n1 n2 n3 sb sh st sf bk hd tl fc = pX9_merge 16 128 128 128 128 v1 v2 v3 xc m1 m2 m3 m4 m5 m6 m7 m8 m9 m10 m11 n1 n2 n3 sb sh st sf bk hd tl fc bk hd tl fc bk hd tl fc := rfl
end N0
