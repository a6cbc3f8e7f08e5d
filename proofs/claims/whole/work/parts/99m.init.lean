/-! ===== the state at the start ===== -/
theorem COLc_0 {a : Nat → Int32} {c : Nat} (hc : c < 3) (h : a (36 + 353 * c) = 0) (tl : Nat → Int64) (fc : Nat → Int32) : COLc a c (0, 0, tl, fc) := by
  refine ⟨mtC (fun _ => none), ⟨rfl, rfl, fun k hk => absurd hk (Nat.not_lt_zero k), fun b hb => absurd hb (Nat.not_lt_zero b), fun b hb => absurd hb (Nat.not_lt_zero b)⟩, ⟨Nat.zero_le _, Nat.zero_le _, fun b hb => absurd hb (Nat.not_lt_zero b)⟩, fun c2 hc2 e => ?_⟩
  obtain rfl : c = c2 := (nI_eq (by omega) (by omega)).mp e
  exact ⟨h, fun b hb => absurd hb (Nat.not_lt_zero b), fun k hk => absurd hk (Nat.not_lt_zero k)⟩
theorem SP_0 {a : Nat → Int32} {x : Int32} (h2 : a 2 = x) (h3 : a 3 = 0) (hc : ∀ c, c < 3 → a (36 + 353 * c) = 0) (pt t0 t1 t2 : Nat → Int64) (f0 f1 f2 : Nat → Int32) : SP a (x, (0, pt), (0, 0, t0, f0), (0, 0, t1, f1), (0, 0, t2, f2)) :=
  ⟨h2, ⟨0, fun _ => none, Nat.zero_le _, rfl, fun k hk => absurd hk (Nat.not_lt_zero k), h3, fun k hk => absurd hk (Nat.not_lt_zero k)⟩, COLc_0 (by omega) (hc 0 (by omega)) _ _, COLc_0 (by omega) (hc 1 (by omega)) _ _, COLc_0 (by omega) (hc 2 (by omega)) _ _⟩
theorem RG_0 {a : Nat → Int32} (h0 : a 0 = 0) (h1 : a 1 = 0) (rows : Nat → Option RD) : RG a 0 0 rows :=
  ⟨0, 0, 0, by omega, by omega, by omega, h0, h1, rfl, rfl, fun i hi => absurd hi (Nat.not_lt_zero i)⟩
