theorem SW_ring {a a' b1 : Nat → Int32} {vN : SV} {f hh : Int32} {rows : Nat → Option RD} (hG : RG a f hh rows) (hS : SP a vN) (ek : pX10_keep a = some b1) (w3 : ∀ i, i < 36 ∨ 1095 ≤ i → a' i = b1 i) : (true = false ∧ RG a' f hh rows) ∨ (true = true ∧ ∃ k, k < 20 ∧ kpS f hh = some (nI k) ∧ ∀ old : SV, ∃ vnew, mirV old vN = some vnew ∧ ∀ rows' : Nat → Option RD, (∃ r, rows' k = some r ∧ r.2.2 = vnew) → (∀ j, j ≠ k → rows' j = rows j) → RG a' (kpF f hh) (kpH hh) rows') := by
  obtain ⟨a1', k, ek', hk, hkS, hlo, hr⟩ := RG_keep hG hS
  rw [ek] at ek'
  cases ek'
  refine Or.inr ⟨rfl, k, hk, hkS, fun old => ?_⟩
  obtain ⟨vnew, e1, e2⟩ := hr old
  exact ⟨vnew, e1, fun rows' q1 q2 => RG_fr (fun i hi => w3 i (by omega)) (e2 rows' q1 q2)⟩
def swH (hN : Nat → Nat) (l : List Nat) : Nat → Nat := fun k => hN (l.getD k 0)
theorem nulls_succ (m : Nat) (r : Nat → Option RD) : nulls (m + 1) r = nulls m r + (if (r m).isNone = true then 1 else 0) := by
  unfold nulls
  rw [List.range_succ, List.countP_append, List.countP_singleton]
theorem nulls_mono {n m : Nat} (h : n ≤ m) (r : Nat → Option RD) : nulls n r ≤ nulls m r := by
  induction m with
  | zero => rw [Nat.le_zero.mp h]; exact Nat.le_refl _
  | succ k ih =>
    rw [nulls_succ]
    by_cases e : n = k + 1
    · subst e; rw [nulls_succ]; exact Nat.le_refl _
    · have := ih (by omega)
      omega
theorem nulls_mir {n : Nat} (hn : n ≤ 20) {rows rowsC : Nat → Option RD} {xk : Nat → Option Nat} {new : Nat → SV} (h : mirInv n n rows rowsC xk new) : nulls 20 rowsC + nulls n rows ≤ nulls 20 rows := by
  obtain ⟨_, h1, h2, _⟩ := h
  have h0 : ∀ m, m ≤ n → nulls m rowsC = 0 := fun m => by
    induction m with
    | zero => intro _; rfl
    | succ k ih =>
      intro hk
      obtain ⟨r, e, _⟩ := h1 k (by omega)
      rw [nulls_succ, ih (by omega), e]
      rfl
  have h3 : ∀ d, nulls (n + d) rowsC + nulls n rows ≤ nulls (n + d) rows := fun d => by
    induction d with
    | zero => rw [Nat.add_zero, h0 n (Nat.le_refl _), Nat.zero_add]; exact Nat.le_refl _
    | succ k ih =>
      rw [← Nat.add_assoc, nulls_succ, nulls_succ, h2 (n + k) (by omega)]
      omega
  have := h3 (20 - n)
  rw [show n + (20 - n) = 20 by omega] at this
  exact this
theorem perm_img (t h hk ih ihk F N R I RI WR : va_W) : (((t ++ (h ++ (hk ++ (ih ++ (ihk ++ F))))) ++ N) ++ (R ++ (I ++ (RI ++ WR)))).Perm (((I ++ N) ++ (t ++ ((ih ++ (ihk ++ (h ++ hk))) ++ (RI ++ R)))) ++ (F ++ WR)) := by
  have h9 := (perm_places (a := [t, h, hk, ih, ihk, F, N, R, I, RI, WR]) (b := [I, N, t, ih, ihk, h, hk, RI, R, F, WR]) [8, 6, 0, 3, 4, 1, 2, 9, 7, 5, 10] rfl 11 rfl (by decide)).flatten
  simpa only [List.flatten_cons, List.flatten_nil, List.append_assoc, List.append_nil] using h9
theorem perm_bck (t h hk ih ihk F N R I RI WR : va_W) : (((t ++ (h ++ (hk ++ (ih ++ (ihk ++ F))))) ++ N) ++ (R ++ (I ++ (RI ++ WR)))).Perm (((N ++ I) ++ (t ++ ((h ++ (hk ++ (ih ++ ihk))) ++ (R ++ RI)))) ++ (F ++ WR)) := by
  have h9 := (perm_places (a := [t, h, hk, ih, ihk, F, N, R, I, RI, WR]) (b := [N, I, t, h, hk, ih, ihk, R, RI, F, WR]) [6, 8, 0, 1, 2, 3, 4, 7, 9, 5, 10] rfl 11 rfl (by decide)).flatten
  simpa only [List.flatten_cons, List.flatten_nil, List.append_assoc, List.append_nil] using h9
