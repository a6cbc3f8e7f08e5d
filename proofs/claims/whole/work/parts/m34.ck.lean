/-! ===== History.keep over all its rows ===== -/
theorem pX2_keep_eq (f hh : Int32) (v vS : SV) (z) (hz : pX7_mirror 128 128 128 16 128 128 128 16 (v.1) (v.2.2.1.1) (v.2.2.1.2.1) (v.2.2.1.2.2.1) (v.2.2.1.2.2.2) (v.2.2.2.1.1) (v.2.2.2.1.2.1) (v.2.2.2.1.2.2.1) (v.2.2.2.1.2.2.2) (v.2.2.2.2.1) (v.2.2.2.2.2.1) (v.2.2.2.2.2.2.1) (v.2.2.2.2.2.2.2) (v.2.1.1) (v.2.1.2) (vS.1) (vS.2.2.1.1) (vS.2.2.1.2.1) (vS.2.2.1.2.2.1) (vS.2.2.1.2.2.2) (vS.2.2.2.1.1) (vS.2.2.2.1.2.1) (vS.2.2.2.1.2.2.1) (vS.2.2.2.1.2.2.2) (vS.2.2.2.2.1) (vS.2.2.2.2.2.1) (vS.2.2.2.2.2.2.1) (vS.2.2.2.2.2.2.2) (vS.2.1.1) (vS.2.1.2) = some z) : pX2_keep 128 128 128 16 128 128 128 16 (f) (hh) (vS.1) (vS.2.2.1.1) (vS.2.2.1.2.1) (vS.2.2.1.2.2.1) (vS.2.2.1.2.2.2) (vS.2.2.2.1.1) (vS.2.2.2.1.2.1) (vS.2.2.2.1.2.2.1) (vS.2.2.2.1.2.2.2) (vS.2.2.2.2.1) (vS.2.2.2.2.2.1) (vS.2.2.2.2.2.2.1) (vS.2.2.2.2.2.2.2) (vS.2.1.1) (vS.2.1.2) (v.1) (v.2.2.1.1) (v.2.2.1.2.1) (v.2.2.1.2.2.1) (v.2.2.1.2.2.2) (v.2.2.2.1.1) (v.2.2.2.1.2.1) (v.2.2.2.1.2.2.1) (v.2.2.2.1.2.2.2) (v.2.2.2.2.1) (v.2.2.2.2.2.1) (v.2.2.2.2.2.2.1) (v.2.2.2.2.2.2.2) (v.2.1.1) (v.2.1.2) = some (kpF f hh, kpH hh, z.1, z.2.1, z.2.2.1, z.2.2.2.1, z.2.2.2.2.1, z.2.2.2.2.2.1, z.2.2.2.2.2.2.1, z.2.2.2.2.2.2.2.1, z.2.2.2.2.2.2.2.2.1, z.2.2.2.2.2.2.2.2.2.1, z.2.2.2.2.2.2.2.2.2.2.1, z.2.2.2.2.2.2.2.2.2.2.2.1, z.2.2.2.2.2.2.2.2.2.2.2.2.1, z.2.2.2.2.2.2.2.2.2.2.2.2.2.1, z.2.2.2.2.2.2.2.2.2.2.2.2.2.2) := by
  unfold pX2_keep kpF kpH
  by_cases h : hh = 20
  · simp only [if_pos h, hz, Option.bind_some]
  · simp only [if_neg h, hz, Option.bind_some]
def keepR (k : Nat) (rows : Nat → Option RD) (vnew : SV) (u : (Nat → Option RD) × (Nat → Option Nat)) : Prop := okRows u.1 u.2 ∧ (∃ r, u.1 k = some r ∧ r.2.2 = vnew) ∧ (∀ j, j ≠ k → u.1 j = rows j) ∧ nulls 20 u.1 ≤ nulls 20 rows
abbrev h2c (y : Nat → ClassId) (a ak : Nat) (f hh : Int32) (xk : Nat → Option Nat) : va_W := [(a, .inr (2, [.ref ak, .int f, .int hh])), (ak, .inl (y 4, 20, .inr (.inr (.inr (.inr xk)))))]
theorem upR_at (rows : Nat → Option RD) (k : Nat) (r : Option RD) : upR rows k r k = r := by unfold upR; rw [if_pos rfl]
theorem upR_ne (rows : Nat → Option RD) {k j : Nat} (h : j ≠ k) (r : Option RD) : upR rows k r j = rows j := by unfold upR; rw [if_neg h]
theorem kq1 {f hh : Int32} {k : Nat} (hq : kpS f hh = some (nI k)) : hh = 20 → pJ9_floorMod_7cf53 (((f + 1) - (f + 1) / 20 * 20) + (((hh - 1) + 1) - 1)) 20 = some (nI k) := fun h => by
  unfold kpS kpF kpH at hq
  rw [if_pos h, if_pos h] at hq
  exact hq
theorem kq2 {f hh : Int32} {k : Nat} (hq : kpS f hh = some (nI k)) : ¬ hh = 20 → pJ9_floorMod_7cf53 (f + ((hh + 1) - 1)) 20 = some (nI k) := fun h => by
  unfold kpS kpF kpH at hq
  rw [if_neg h, if_neg h] at hq
  exact hq
set_option maxRecDepth 100000 in
set_option maxHeartbeats 4000000 in
/-- a row that is there -/
theorem keep_A1 (l : Launch) (D : va_G) (y : Nat → ClassId) (a ak : Nat) (f hh : Int32) (xk : Nat → Option Nat) (r : RD) (hS : Nat → Nat) (xcS : Nat → Option Nat) (vS vnew : SV) (hx : HX hS xcS) (hxr : HX r.1 r.2.1) (k : Nat) (hk : k < 20) (hq : kpS f hh = some (nI k)) (hr : xk k = some (r.1 0)) (hm : mirV r.2.2 vS = some vnew) : CVM D y l yX2_keep (Cond.code yX2_keep cX2_keep 2 none :: tbG) { frames := 5, cells := 16, slots := 1200, locals := 110 } [.ref a, .ref (hS 0)] ((h2c y a ak f hh xk ++ stC y hS xcS vS) ++ stC y r.1 r.2.1 r.2.2) ((h2c y a ak (kpF f hh) (kpH hh) xk ++ stC y hS xcS vS) ++ stC y r.1 r.2.1 vnew) := by
  have hcl : (nI k).toNatClampNeg = k := nI_clamp (by omega)
  have hin : vp_in (nI k) 20 := vp_in_nI hk (by omega)
  obtain ⟨z, hz, rfl⟩ := mirV_some hm
  exact tX2_keep l D y a (hS 0) (r.1 0) ak (hS 1) (hS 14) (hS 2) (hS 3) (hS 5) (hS 4) (hS 6) (hS 7) (hS 9) (hS 8) (hS 10) (hS 11) (hS 13) (hS 12) (hS 15) (r.1 1) (r.1 14) (r.1 2) (r.1 3) (r.1 5) (r.1 4) (r.1 6) (r.1 7) (r.1 9) (r.1 8) (r.1 10) (r.1 11) (r.1 13) (r.1 12) (r.1 15) 128 128 128 16 128 128 128 16 (f) (hh) (xk) (vS.1) (xcS) (vS.2.2.1.1) (vS.2.2.1.2.1) (vS.2.2.1.2.2.1) (vS.2.2.1.2.2.2) (vS.2.2.2.1.1) (vS.2.2.2.1.2.1) (vS.2.2.2.1.2.2.1) (vS.2.2.2.1.2.2.2) (vS.2.2.2.2.1) (vS.2.2.2.2.2.1) (vS.2.2.2.2.2.2.1) (vS.2.2.2.2.2.2.2) (vS.2.1.1) (vS.2.1.2) (r.2.2.1) (r.2.1) (r.2.2.2.2.1.1) (r.2.2.2.2.1.2.1) (r.2.2.2.2.1.2.2.1) (r.2.2.2.2.1.2.2.2) (r.2.2.2.2.2.1.1) (r.2.2.2.2.2.1.2.1) (r.2.2.2.2.2.1.2.2.1) (r.2.2.2.2.2.1.2.2.2) (r.2.2.2.2.2.2.1) (r.2.2.2.2.2.2.2.1) (r.2.2.2.2.2.2.2.2.1) (r.2.2.2.2.2.2.2.2.2) (r.2.2.2.1.1) (r.2.2.2.1.2) (nI k) hin (by rw [hcl]; exact hr) (kq1 hq) (kq2 hq) hx.1 hx.2.1 hx.2.2 hxr.1 hxr.2.1 hxr.2.2 _ (pX2_keep_eq f hh r.2.2 vS z hz)
set_option maxRecDepth 100000 in
set_option maxHeartbeats 4000000 in
/-- a row that must be made -/
theorem keep_B1 (l : Launch) (D : va_G) (y : Nat → ClassId) (a ak : Nat) (f hh : Int32) (xk : Nat → Option Nat) (hS : Nat → Nat) (xcS : Nat → Option Nat) (vS vnew : SV) (hx : HX hS xcS) (k : Nat) (hk : k < 20) (hq : kpS f hh = some (nI k)) (hr : xk k = none) (hm : mirV SV0 vS = some vnew) : CVB D y l yX2_keep (Cond.code yX2_keep cX2_keep 2 none :: tbG) { frames := 5, cells := 16, slots := 1200, locals := 110 } [.ref a, .ref (hS 0)] (h2c y a ak f hh xk ++ stC y hS xcS vS) (fun x => (h2c y a ak (kpF f hh) (kpH hh) (va_up xk (nI k).toNatClampNeg (some x.1)) ++ stC y hS xcS vS) ++ stC y (hB x.1 x.2) (xcB x.2) vnew) := by
  have hcl : (nI k).toNatClampNeg = k := nI_clamp (by omega)
  have hin : vp_in (nI k) 20 := vp_in_nI hk (by omega)
  obtain ⟨z, hz, rfl⟩ := mirV_some hm
  exact tX2_keep_B l D y a (hS 0) ak (hS 1) (hS 14) (hS 2) (hS 3) (hS 5) (hS 4) (hS 6) (hS 7) (hS 9) (hS 8) (hS 10) (hS 11) (hS 13) (hS 12) (hS 15) 128 128 128 16 (f) (hh) (xk) (vS.1) (xcS) (vS.2.2.1.1) (vS.2.2.1.2.1) (vS.2.2.1.2.2.1) (vS.2.2.1.2.2.2) (vS.2.2.2.1.1) (vS.2.2.2.1.2.1) (vS.2.2.2.1.2.2.1) (vS.2.2.2.1.2.2.2) (vS.2.2.2.2.1) (vS.2.2.2.2.2.1) (vS.2.2.2.2.2.2.1) (vS.2.2.2.2.2.2.2) (vS.2.1.1) (vS.2.1.2) (nI k) hin (by rw [hcl]; exact hr) (kq1 hq) (kq2 hq) hx.1 hx.2.1 hx.2.2 _ (pX2_keep_eq f hh SV0 vS z hz)
set_option maxRecDepth 100000 in
set_option maxHeartbeats 4000000 in
theorem keep_A2 (l : Launch) (D : va_G) (y : Nat → ClassId) (a ak : Nat) (f hh : Int32) (xk : Nat → Option Nat) (r : RD) (hS : Nat → Nat) (xcS : Nat → Option Nat) (vS vnew : SV) (hx : HX hS xcS) (hxr : HX r.1 r.2.1) (k : Nat) (hk : k < 20) (hq : kpS f hh = some (nI k)) (hr : xk k = some (r.1 0)) (hm : mirV r.2.2 vS = some vnew) (tl : va_W) (sz : Nat) : Met l yX2_keep (Cond.code yX2_keep cX2_keep 2 none :: tbG) { frames := 5, cells := 16, slots := 1200, locals := 110 } (va_Pc [.ref a, .ref (hS 0)] (CtPre D y (((h2c y a ak f hh xk ++ stC y hS xcS vS) ++ stC y r.1 r.2.1 r.2.2) ++ tl) sz)) (va_Qv (fun (_ : Unit) => True) (fun u t => CtPost D ((fun (_ : Unit) => (h2c y a ak (kpF f hh) (kpH hh) xk ++ stC y hS xcS vS) ++ stC y r.1 r.2.1 vnew) u ++ tl) (va_A (((h2c y a ak f hh xk ++ stC y hS xcS vS) ++ stC y r.1 r.2.1 r.2.2) ++ tl) sz) () t) (va_A (((h2c y a ak f hh xk ++ stC y hS xcS vS) ++ stC y r.1 r.2.1 r.2.2) ++ tl) sz)) mC mS (va_A (((h2c y a ak f hh xk ++ stC y hS xcS vS) ++ stC y r.1 r.2.1 r.2.2) ++ tl) sz) :=
  met_frV (we := (h2c y a ak f hh xk ++ stC y hS xcS vS) ++ stC y r.1 r.2.1 r.2.2) (wc := (h2c y a ak f hh xk ++ stC y hS xcS vS) ++ stC y r.1 r.2.1 r.2.2) (tl := tl) (wr := []) (K := fun (_ : Unit) => True) (w1 := fun (_ : Unit) => (h2c y a ak (kpF f hh) (kpH hh) xk ++ stC y hS xcS vS) ++ stC y r.1 r.2.1 vnew) (w2 := fun (_ : Unit) => (h2c y a ak (kpF f hh) (kpH hh) xk ++ stC y hS xcS vS) ++ stC y r.1 r.2.1 vnew) [0, 1, 2, 3, 4, 5, 6, 7, 8, 9, 10, 11, 12, 13, 14, 15, 16, 17, 18, 19, 20, 21, 22, 23, 24, 25, 26, 27, 28, 29, 30, 31, 32, 33] [] [0, 1, 2, 3, 4, 5, 6, 7, 8, 9, 10, 11, 12, 13, 14, 15, 16, 17, 18, 19, 20, 21, 22, 23, 24, 25, 26, 27, 28, 29, 30, 31, 32, 33] rfl (by decide) rfl (by decide) (by decide) (by decide) (fun _ => rfl) (keep_A1 l D y a ak f hh xk r hS xcS vS vnew hx hxr k hk hq hr hm sz)
set_option maxRecDepth 100000 in
set_option maxHeartbeats 4000000 in
theorem keep_B2 (l : Launch) (D : va_G) (y : Nat → ClassId) (a ak : Nat) (f hh : Int32) (xk : Nat → Option Nat) (hS : Nat → Nat) (xcS : Nat → Option Nat) (vS vnew : SV) (hx : HX hS xcS) (k : Nat) (hk : k < 20) (hq : kpS f hh = some (nI k)) (hr : xk k = none) (hm : mirV SV0 vS = some vnew) (tl : va_W) (sz : Nat) : Met l yX2_keep (Cond.code yX2_keep cX2_keep 2 none :: tbG) { frames := 5, cells := 16, slots := 1200, locals := 110 } (va_Pc [.ref a, .ref (hS 0)] (CtPre D y ((h2c y a ak f hh xk ++ stC y hS xcS vS) ++ tl) sz)) (va_Qv (fun (_ : Nat × (Nat → Nat)) => True) (fun u t => CtPost D ((fun x : Nat × (Nat → Nat) => (h2c y a ak (kpF f hh) (kpH hh) (va_up xk (nI k).toNatClampNeg (some x.1)) ++ stC y hS xcS vS) ++ stC y (hB x.1 x.2) (xcB x.2) vnew) u ++ tl) (va_A ((h2c y a ak f hh xk ++ stC y hS xcS vS) ++ tl) sz) () t) (va_A ((h2c y a ak f hh xk ++ stC y hS xcS vS) ++ tl) sz)) mC mS (va_A ((h2c y a ak f hh xk ++ stC y hS xcS vS) ++ tl) sz) :=
  met_frV (we := h2c y a ak f hh xk ++ stC y hS xcS vS) (wc := h2c y a ak f hh xk ++ stC y hS xcS vS) (tl := tl) (wr := []) (K := fun (_ : Nat × (Nat → Nat)) => True) (w1 := fun x => (h2c y a ak (kpF f hh) (kpH hh) (va_up xk (nI k).toNatClampNeg (some x.1)) ++ stC y hS xcS vS) ++ stC y (hB x.1 x.2) (xcB x.2) vnew) (w2 := fun x => (h2c y a ak (kpF f hh) (kpH hh) (va_up xk (nI k).toNatClampNeg (some x.1)) ++ stC y hS xcS vS) ++ stC y (hB x.1 x.2) (xcB x.2) vnew) [0, 1, 2, 3, 4, 5, 6, 7, 8, 9, 10, 11, 12, 13, 14, 15, 16, 17] [] [0, 1, 2, 3, 4, 5, 6, 7, 8, 9, 10, 11, 12, 13, 14, 15, 16, 17, 18, 19, 20, 21, 22, 23, 24, 25, 26, 27, 28, 29, 30, 31, 32, 33] rfl (by decide) rfl (by decide) (by decide) (by decide) (fun _ => rfl) (keep_B1 l D y a ak f hh xk hS xcS vS vnew hx k hk hq hr hm sz)
set_option maxRecDepth 100000 in
set_option maxHeartbeats 4000000 in
/-- keep, over all rows -/
theorem keep_all (l : Launch) (D : va_G) (y : Nat → ClassId) (a ak : Nat) (f hh : Int32) (xk : Nat → Option Nat) (rows : Nat → Option RD) (hS : Nat → Nat) (xcS : Nat → Option Nat) (vS vnew : SV) (hR : okRows rows xk) (hx : HX hS xcS) (k : Nat) (hk : k < 20) (hq : kpS f hh = some (nI k)) (hm : mirV (match rows k with | none => SV0 | some r => r.2.2) vS = some vnew) (tl : va_W) (sz : Nat) :
    Met l yX2_keep (Cond.code yX2_keep cX2_keep 2 none :: tbG) { frames := 5, cells := 16, slots := 1200, locals := 110 } (va_Pc [.ref a, .ref (hS 0)] (CtPre D y ((h2c y a ak f hh xk ++ stC y hS xcS vS) ++ (hrC y rows ++ tl)) sz)) (va_Qv (keepR k rows vnew) (fun u t => CtPost D ((h2c y a ak (kpF f hh) (kpH hh) u.2 ++ stC y hS xcS vS) ++ (hrC y u.1 ++ tl)) (va_A ((h2c y a ak f hh xk ++ stC y hS xcS vS) ++ (hrC y rows ++ tl)) sz) () t) (va_A ((h2c y a ak f hh xk ++ stC y hS xcS vS) ++ (hrC y rows ++ tl)) sz)) mC mS (va_A ((h2c y a ak f hh xk ++ stC y hS xcS vS) ++ (hrC y rows ++ tl)) sz) := by
  have hcl : (nI k).toNatClampNeg = k := nI_clamp (by omega)
  have hout := hrC_out y rows hk
  cases hr : rows k with
  | some r =>
    rw [hr] at hm hout
    have h1 := keep_A2 l D y a ak f hh xk r hS xcS vS vnew hx (hR.2 k r hr) k hk hq (by rw [hR.1 k hk, hr]; rfl) hm (hrC y (upR rows k none) ++ tl) sz
    have hback : (stC y r.1 r.2.1 vnew ++ hrC y (upR rows k none)).Perm (hrC y (upR rows k (some (r.1, r.2.1, vnew)))) := hrC_in y rows hk (some (r.1, r.2.1, vnew))
    have hout : (hrC y rows).Perm (stC y r.1 r.2.1 r.2.2 ++ hrC y (upR rows k none)) := hout
    have hrel : keepR k rows vnew (upR rows k (some (r.1, r.2.1, vnew)), xk) := ⟨hR.up (r2 := (r.1, r.2.1, vnew)) hr rfl rfl, ⟨(r.1, r.2.1, vnew), upR_at _ _ _, rfl⟩, fun j hj => upR_ne _ hj _, by rw [nulls_same hr]; exact Nat.le_refl _⟩
    have e1 : ∀ (B C0 X : va_W), (hrC y rows).Perm (C0 ++ X) → (B ++ (hrC y rows ++ tl)).Perm ((B ++ C0) ++ (X ++ tl)) := fun B C0 X h => by
      rw [List.append_assoc B C0, ← List.append_assoc C0 X tl]
      exact List.Perm.append_left _ (List.Perm.append_right _ h)
    have e2 : ∀ (B C0 X R9 : va_W), (C0 ++ X).Perm R9 → ((B ++ C0) ++ (X ++ tl)).Perm (B ++ (R9 ++ tl)) := fun B C0 X R9 h => by
      rw [List.append_assoc B C0, ← List.append_assoc C0 X tl]
      exact List.Perm.append_left _ (List.Perm.append_right _ h)
    exact met_pmV (K' := fun (_ : Unit) => True) (S' := (Nat → Option RD) × (Nat → Option Nat)) (K2 := keepR k rows vnew) (W1 := fun u => (h2c y a ak (kpF f hh) (kpH hh) u.2 ++ stC y hS xcS vS) ++ (hrC y u.1 ++ tl)) (e1 _ _ _ hout) (fun _ => (upR rows k (some (r.1, r.2.1, vnew)), xk)) (fun _ _ => ⟨hrel, e2 _ _ _ _ hback⟩) h1
  | none =>
    rw [hr] at hm hout
    have h1 := keep_B2 l D y a ak f hh xk hS xcS vS vnew hx k hk hq (by rw [hR.1 k hk, hr]; rfl) hm (hrC y rows ++ tl) sz
    rw [hcl] at h1
    have hout : (hrC y rows).Perm (hrC y (upR rows k none)) := hout
    have hback : ∀ x : Nat × (Nat → Nat), (stC y (hB x.1 x.2) (xcB x.2) vnew ++ hrC y rows).Perm (hrC y (upR rows k (some (hB x.1 x.2, xcB x.2, vnew)))) := fun x => (List.Perm.append_left _ hout).trans (hrC_in y rows hk (some (hB x.1 x.2, xcB x.2, vnew)))
    have hrel : ∀ x : Nat × (Nat → Nat), keepR k rows vnew (upR rows k (some (hB x.1 x.2, xcB x.2, vnew)), va_up xk k (some x.1)) := fun x => ⟨hR.new (k := k) (r2 := (hB x.1 x.2, xcB x.2, vnew)) (hx_B x.1 x.2), ⟨(hB x.1 x.2, xcB x.2, vnew), upR_at _ _ _, rfl⟩, fun j hj => upR_ne _ hj _, by have := nulls_up hk hr (hB x.1 x.2, xcB x.2, vnew); show nulls 20 (upR rows k _) ≤ _; omega⟩
    have e2 : ∀ (B C0 X R9 : va_W), (C0 ++ X).Perm R9 → ((B ++ C0) ++ (X ++ tl)).Perm (B ++ (R9 ++ tl)) := fun B C0 X R9 h => by
      rw [List.append_assoc B C0, ← List.append_assoc C0 X tl]
      exact List.Perm.append_left _ (List.Perm.append_right _ h)
    exact met_pmV (K' := fun (_ : Nat × (Nat → Nat)) => True) (S' := (Nat → Option RD) × (Nat → Option Nat)) (K2 := keepR k rows vnew) (W1 := fun u => (h2c y a ak (kpF f hh) (kpH hh) u.2 ++ stC y hS xcS vS) ++ (hrC y u.1 ++ tl)) (List.Perm.refl _) (fun x => (upR rows k (some (hB x.1 x.2, xcB x.2, vnew)), va_up xk k (some x.1))) (fun x _ => ⟨hrel x, e2 _ _ _ _ (hback x)⟩) h1

