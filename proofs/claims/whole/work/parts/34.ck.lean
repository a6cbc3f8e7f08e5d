/-! ===== History.keep over all its rows ===== -/
def kpF (f hh : Int32) : Int32 := if hh = 20 then ((f + 1) - (f + 1) / 20 * 20) else f
def kpH (hh : Int32) : Int32 := if hh = 20 then ((hh - 1) + 1) else (hh + 1)
def kpS (f hh : Int32) : Option Int32 := pJ9_floorMod_7cf53 (kpF f hh + (kpH hh - 1)) 20
theorem pX2_keep_eq (f hh : Int32) (v vS : SV) (z) (hz : pX7_mirror 128 128 128 16 128 128 128 16 (v.1) (v.2.2.1.1) (v.2.2.1.2.1) (v.2.2.1.2.2.1) (v.2.2.1.2.2.2) (v.2.2.2.1.1) (v.2.2.2.1.2.1) (v.2.2.2.1.2.2.1) (v.2.2.2.1.2.2.2) (v.2.2.2.2.1) (v.2.2.2.2.2.1) (v.2.2.2.2.2.2.1) (v.2.2.2.2.2.2.2) (v.2.1.1) (v.2.1.2) (vS.1) (vS.2.2.1.1) (vS.2.2.1.2.1) (vS.2.2.1.2.2.1) (vS.2.2.1.2.2.2) (vS.2.2.2.1.1) (vS.2.2.2.1.2.1) (vS.2.2.2.1.2.2.1) (vS.2.2.2.1.2.2.2) (vS.2.2.2.2.1) (vS.2.2.2.2.2.1) (vS.2.2.2.2.2.2.1) (vS.2.2.2.2.2.2.2) (vS.2.1.1) (vS.2.1.2) = some z) : pX2_keep 128 128 128 16 128 128 128 16 (f) (hh) (vS.1) (vS.2.2.1.1) (vS.2.2.1.2.1) (vS.2.2.1.2.2.1) (vS.2.2.1.2.2.2) (vS.2.2.2.1.1) (vS.2.2.2.1.2.1) (vS.2.2.2.1.2.2.1) (vS.2.2.2.1.2.2.2) (vS.2.2.2.2.1) (vS.2.2.2.2.2.1) (vS.2.2.2.2.2.2.1) (vS.2.2.2.2.2.2.2) (vS.2.1.1) (vS.2.1.2) (v.1) (v.2.2.1.1) (v.2.2.1.2.1) (v.2.2.1.2.2.1) (v.2.2.1.2.2.2) (v.2.2.2.1.1) (v.2.2.2.1.2.1) (v.2.2.2.1.2.2.1) (v.2.2.2.1.2.2.2) (v.2.2.2.2.1) (v.2.2.2.2.2.1) (v.2.2.2.2.2.2.1) (v.2.2.2.2.2.2.2) (v.2.1.1) (v.2.1.2) = some (kpF f hh, kpH hh, z.1, z.2.1, z.2.2.1, z.2.2.2.1, z.2.2.2.2.1, z.2.2.2.2.2.1, z.2.2.2.2.2.2.1, z.2.2.2.2.2.2.2.1, z.2.2.2.2.2.2.2.2.1, z.2.2.2.2.2.2.2.2.2.1, z.2.2.2.2.2.2.2.2.2.2.1, z.2.2.2.2.2.2.2.2.2.2.2.1, z.2.2.2.2.2.2.2.2.2.2.2.2.1, z.2.2.2.2.2.2.2.2.2.2.2.2.2.1, z.2.2.2.2.2.2.2.2.2.2.2.2.2.2) := by
  unfold pX2_keep kpF kpH
  by_cases h : hh = 20
  · simp only [if_pos h, hz, Option.bind_some]
  · simp only [if_neg h, hz, Option.bind_some]
def keepR (k : Nat) (rows : Nat → Option RD) (vnew : SV) (u : (Nat → Option RD) × (Nat → Option Nat)) : Prop := okRows u.1 u.2 ∧ (∃ r, u.1 k = some r ∧ r.2.2 = vnew) ∧ (∀ j, j ≠ k → u.1 j = rows j) ∧ nulls u.1 ≤ nulls rows
abbrev h2c (y : Nat → ClassId) (a ak : Nat) (f hh : Int32) (xk : Nat → Option Nat) : va_W := [(a, .inr (2, [.ref ak, .int f, .int hh])), (ak, .inl (y 4, 20, .inr (.inr (.inr (.inr xk)))))]
theorem upR_at (rows : Nat → Option RD) (k : Nat) (r : Option RD) : upR rows k r k = r := by unfold upR; rw [if_pos rfl]
theorem upR_ne (rows : Nat → Option RD) {k j : Nat} (h : j ≠ k) (r : Option RD) : upR rows k r j = rows j := by unfold upR; rw [if_neg h]
theorem kq1 {f hh : Int32} {k : Nat} (hq : kpS f hh = some (nI k)) : hh = 20 → pJ9_floorMod_7cf53 (((f + 1) - (f + 1) / 20 * 20) + (((hh - 1) + 1) - 1)) 20 = some (nI k) := fun h => by
  unfold kpS kpF kpH at hq
  rw [if_pos h, if_pos h] at hq
  exact hq
theorem kq2 {f hh : Int32} {k : Nat} (hq : kpS f hh = some (nI k)) : ¬ hh = 20 → pJ9_floorMod_7cf53 (f + ((hh + 1) - 1)) 20 = some (nI k) := fun h => by
  unfold kpS kpF kpH at hq
  rw [if_neg h, if_neg h] at hq
  exact hq
set_option maxRecDepth 100000 in
set_option maxHeartbeats 4000000 in
/-- a row that is there -/
theorem keep_A1 (l : Launch) (D : va_G) (y : Nat → ClassId) (a ak : Nat) (f hh : Int32) (xk : Nat → Option Nat) (r : RD) (hS : Nat → Nat) (xcS : Nat → Option Nat) (vS vnew : SV) (hx : HX hS xcS) (hxr : HX r.1 r.2.1) (k : Nat) (hk : k < 20) (hq : kpS f hh = some (nI k)) (hr : xk k = some (r.1 0)) (hm : mirV r.2.2 vS = some vnew) : CVM D y l yX2_keep (Cond.code yX2_keep cX2_keep 2 none :: tbG) { frames := 4, cells := 16, slots := 1200, locals := 98 } [.ref a, .ref (hS 0)] ((h2c y a ak f hh xk ++ stC y hS xcS vS) ++ stC y r.1 r.2.1 r.2.2) ((h2c y a ak (kpF f hh) (kpH hh) xk ++ stC y hS xcS vS) ++ stC y r.1 r.2.1 vnew) := by
  have hcl : (nI k).toNatClampNeg = k := nI_clamp (by omega)
  have hin : vp_in (nI k) 20 := vp_in_nI hk (by omega)
  obtain ⟨z, hz, rfl⟩ := mirV_some hm
  exact tX2_keep l D y a (hS 0) (r.1 0) ak (hS 1) (hS 14) (hS 2) (hS 3) (hS 5) (hS 4) (hS 6) (hS 7) (hS 9) (hS 8) (hS 10) (hS 11) (hS 13) (hS 12) (hS 15) (r.1 1) (r.1 14) (r.1 2) (r.1 3) (r.1 5) (r.1 4) (r.1 6) (r.1 7) (r.1 9) (r.1 8) (r.1 10) (r.1 11) (r.1 13) (r.1 12) (r.1 15) 128 128 128 16 128 128 128 16 (f) (hh) (xk) (vS.1) (xcS) (vS.2.2.1.1) (vS.2.2.1.2.1) (vS.2.2.1.2.2.1) (vS.2.2.1.2.2.2) (vS.2.2.2.1.1) (vS.2.2.2.1.2.1) (vS.2.2.2.1.2.2.1) (vS.2.2.2.1.2.2.2) (vS.2.2.2.2.1) (vS.2.2.2.2.2.1) (vS.2.2.2.2.2.2.1) (vS.2.2.2.2.2.2.2) (vS.2.1.1) (vS.2.1.2) (r.2.2.1) (r.2.1) (r.2.2.2.2.1.1) (r.2.2.2.2.1.2.1) (r.2.2.2.2.1.2.2.1) (r.2.2.2.2.1.2.2.2) (r.2.2.2.2.2.1.1) (r.2.2.2.2.2.1.2.1) (r.2.2.2.2.2.1.2.2.1) (r.2.2.2.2.2.1.2.2.2) (r.2.2.2.2.2.2.1) (r.2.2.2.2.2.2.2.1) (r.2.2.2.2.2.2.2.2.1) (r.2.2.2.2.2.2.2.2.2) (r.2.2.2.1.1) (r.2.2.2.1.2) (nI k) hin (by rw [hcl]; exact hr) (kq1 hq) (kq2 hq) hx.1 hx.2.1 hx.2.2 hxr.1 hxr.2.1 hxr.2.2 _ (pX2_keep_eq f hh r.2.2 vS z hz)
set_option maxRecDepth 100000 in
set_option maxHeartbeats 4000000 in
/-- a row that must be made -/
theorem keep_B1 (l : Launch) (D : va_G) (y : Nat → ClassId) (a ak : Nat) (f hh : Int32) (xk : Nat → Option Nat) (hS : Nat → Nat) (xcS : Nat → Option Nat) (vS vnew : SV) (hx : HX hS xcS) (k : Nat) (hk : k < 20) (hq : kpS f hh = some (nI k)) (hr : xk k = none) (hm : mirV SV0 vS = some vnew) : CVB D y l yX2_keep (Cond.code yX2_keep cX2_keep 2 none :: tbG) { frames := 5, cells := 16, slots := 1200, locals := 110 } [.ref a, .ref (hS 0)] (h2c y a ak f hh xk ++ stC y hS xcS vS) (fun x => (h2c y a ak (kpF f hh) (kpH hh) (va_up xk (nI k).toNatClampNeg (some x.1)) ++ stC y hS xcS vS) ++ stC y (hB x.1 x.2) (xcB x.2) vnew) := by
  have hcl : (nI k).toNatClampNeg = k := nI_clamp (by omega)
  have hin : vp_in (nI k) 20 := vp_in_nI hk (by omega)
  obtain ⟨z, hz, rfl⟩ := mirV_some hm
  exact tX2_keep_B l D y a (hS 0) ak (hS 1) (hS 14) (hS 2) (hS 3) (hS 5) (hS 4) (hS 6) (hS 7) (hS 9) (hS 8) (hS 10) (hS 11) (hS 13) (hS 12) (hS 15) 128 128 128 16 (f) (hh) (xk) (vS.1) (xcS) (vS.2.2.1.1) (vS.2.2.1.2.1) (vS.2.2.1.2.2.1) (vS.2.2.1.2.2.2) (vS.2.2.2.1.1) (vS.2.2.2.1.2.1) (vS.2.2.2.1.2.2.1) (vS.2.2.2.1.2.2.2) (vS.2.2.2.2.1) (vS.2.2.2.2.2.1) (vS.2.2.2.2.2.2.1) (vS.2.2.2.2.2.2.2) (vS.2.1.1) (vS.2.1.2) (nI k) hin (by rw [hcl]; exact hr) (kq1 hq) (kq2 hq) hx.1 hx.2.1 hx.2.2 _ (pX2_keep_eq f hh SV0 vS z hz)
