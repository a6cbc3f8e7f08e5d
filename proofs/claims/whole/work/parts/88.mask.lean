/-! ===== how many bits a mask has ===== -/
def pcA (m : Nat) : Nat := m - ((m / 2) &&& 1431655765)
def pcB (x : Nat) : Nat := (x &&& 858993459) + ((x / 4) &&& 858993459)
def pcC (x : Nat) : Nat := (x + x / 16) &&& 252645135
def pcD (x : Nat) : Nat := x + x / 256
def pcE (x : Nat) : Nat := x + x / 65536
def pcF (m : Nat) : Nat := pcE (pcD (pcC (pcB (pcA m)))) &&& 63
def pcN (m : Nat) : Nat → Nat
  | 0 => 0
  | k + 1 => pcN m k + m / 2 ^ k % 2
theorem and_sp (x y : Nat) : x &&& y = 256 * ((x / 256) &&& (y / 256)) + ((x % 256) &&& (y % 256)) := by
  have h1 : (x &&& y) / 2 ^ 8 = x / 2 ^ 8 &&& y / 2 ^ 8 := Nat.and_div_two_pow
  have h2 : (x &&& y) % 2 ^ 8 = (x % 2 ^ 8) &&& (y % 2 ^ 8) := Nat.and_mod_two_pow
  rw [show (2 ^ 8 : Nat) = 256 from rfl] at h1 h2
  rw [← h1, ← h2]
  exact (Nat.div_add_mod _ _).symm
def a8 (x : Nat) : Nat := x - ((x / 2) &&& 85)
def b8 (x : Nat) : Nat := (x &&& 51) + ((x / 4) &&& 51)
def p8 (x : Nat) : Nat := (b8 (a8 x) + b8 (a8 x) / 16) % 16
theorem p8_t : ∀ x, x < 256 → a8 x < 256 ∧ ((x / 2) &&& 85) ≤ x ∧ b8 (a8 x) ≤ 68 ∧ b8 (a8 x) % 16 ≤ 4 ∧ p8 x = pcN x 8 ∧ p8 x ≤ 8 ∧ ((x / 2) &&& 5592405) = ((x / 2) &&& 85) := by decide +kernel
theorem p8_u : ∀ x, x < 256 → (x &&& 3355443) = (x &&& 51) ∧ ((x / 4) &&& 3355443) = ((x / 4) &&& 51) ∧ ∀ u, u < 4 → ((u * 64 + x / 4) &&& 51) = ((x / 4) &&& 51) := by decide +kernel
theorem p8_v : ∀ t, t < 2 → ∀ x, x < 256 → ((128 * t + x / 2) &&& 85) = ((x / 2) &&& 85) := by decide +kernel
theorem and15 (x : Nat) : x &&& 15 = x % 16 := Nat.and_two_pow_sub_one_eq_mod x 4
theorem and63 (x : Nat) : x &&& 63 = x % 64 := Nat.and_two_pow_sub_one_eq_mod x 6
theorem pcA_s {h l : Nat} (hh : h < 256) (hl : l < 256) : pcA (256 * h + l) = 256 * a8 h + a8 l := by
  obtain ⟨_, q2, _, _, _, _, q7⟩ := p8_t h hh
  obtain ⟨_, r2, _, _, _, _, _⟩ := p8_t l hl
  have e := and_sp ((256 * h + l) / 2) 1431655765
  rw [show (256 * h + l) / 2 / 256 = h / 2 by omega, show 1431655765 / 256 = 5592405 from rfl, show 1431655765 % 256 = 85 from rfl, show (256 * h + l) / 2 % 256 = 128 * (h % 2) + l / 2 by omega, p8_v (h % 2) (by omega) l hl, q7] at e
  unfold pcA a8
  omega
theorem pcB_s {u v : Nat} (hu : u < 256) (hv : v < 256) : pcB (256 * u + v) = 256 * b8 u + b8 v := by
  obtain ⟨q1, q2, _⟩ := p8_u u hu
  obtain ⟨_, _, r3⟩ := p8_u v hv
  have e := and_sp (256 * u + v) 858993459
  have e2 := and_sp ((256 * u + v) / 4) 858993459
  rw [show (256 * u + v) / 256 = u by omega, show 858993459 / 256 = 3355443 from rfl, show 858993459 % 256 = 51 from rfl, show (256 * u + v) % 256 = v by omega, q1] at e
  rw [show (256 * u + v) / 4 / 256 = u / 4 by omega, show 858993459 / 256 = 3355443 from rfl, show 858993459 % 256 = 51 from rfl, show (256 * u + v) / 4 % 256 = u % 4 * 64 + v / 4 by omega, q2, r3 (u % 4) (by omega)] at e2
  unfold pcB b8
  omega
theorem pcC_s {x y : Nat} (hx : x ≤ 68) (hx2 : x % 16 ≤ 4) (hy : y ≤ 68) : pcC (256 * x + y) = 256 * ((x + x / 16) % 16) + (y + y / 16) % 16 := by
  have e := and_sp (256 * x + y + (256 * x + y) / 16) 252645135
  have e3 := and_sp (x + x / 16) 986895
  rw [show (x + x / 16) / 256 = 0 by omega, show 986895 % 256 = 15 from rfl, Nat.zero_and, and15, show (x + x / 16) % 256 = x + x / 16 by omega] at e3
  rw [show (256 * x + y + (256 * x + y) / 16) / 256 = x + x / 16 by omega, show 252645135 / 256 = 986895 from rfl, show 252645135 % 256 = 15 from rfl, and15, e3] at e
  unfold pcC
  omega
theorem pcN_s {h l : Nat} (hh : h < 256) (hl : l < 256) : pcN (256 * h + l) 16 = pcN l 8 + pcN h 8 := by
  have q : ∀ k, k < 8 → (256 * h + l) / 2 ^ k % 2 = l / 2 ^ k % 2 ∧ (256 * h + l) / 2 ^ (8 + k) % 2 = h / 2 ^ k % 2 := fun k hk => by
    rcases (show k = 0 ∨ k = 1 ∨ k = 2 ∨ k = 3 ∨ k = 4 ∨ k = 5 ∨ k = 6 ∨ k = 7 by omega) with rfl | rfl | rfl | rfl | rfl | rfl | rfl | rfl <;> constructor <;> simp only [Nat.reducePow, Nat.reduceAdd] <;> omega
  have a0 := q 0 (by omega)
  have a1 := q 1 (by omega)
  have a2 := q 2 (by omega)
  have a3 := q 3 (by omega)
  have a4 := q 4 (by omega)
  have a5 := q 5 (by omega)
  have a6 := q 6 (by omega)
  have a7 := q 7 (by omega)
  simp only [Nat.reduceAdd] at a0 a1 a2 a3 a4 a5 a6 a7
  simp only [pcN]
  rw [a0.1, a1.1, a2.1, a3.1, a4.1, a5.1, a6.1, a7.1, a0.2, a1.2, a2.2, a3.2, a4.2, a5.2, a6.2, a7.2]
  omega
theorem pc_eq {m : Nat} (hm : m < 65536) : pcF m = pcN m 16 ∧ pcA m ≤ m ∧ pcB (pcA m) < 65536 ∧ pcC (pcB (pcA m)) < 65536 := by
  have hh : m / 256 < 256 := by omega
  have hl : m % 256 < 256 := by omega
  obtain ⟨q1, _, q3, q4, q5, q6, _⟩ := p8_t _ hh
  obtain ⟨r1, _, r3, r4, r5, r6, _⟩ := p8_t _ hl
  have e : m = 256 * (m / 256) + m % 256 := by omega
  have eA : pcA m = 256 * a8 (m / 256) + a8 (m % 256) := by rw [e, pcA_s hh hl, ← e]
  have eB : pcB (pcA m) = 256 * b8 (a8 (m / 256)) + b8 (a8 (m % 256)) := by rw [eA]; exact pcB_s q1 r1
  have eC : pcC (pcB (pcA m)) = 256 * p8 (m / 256) + p8 (m % 256) := by rw [eB]; exact pcC_s q3 q4 r3
  have eN : pcN m 16 = p8 (m % 256) + p8 (m / 256) := by rw [e, pcN_s hh hl, ← e, q5, r5]
  refine ⟨?_, Nat.sub_le _ _, by omega, by omega⟩
  unfold pcF pcE pcD
  rw [eC, eN, and63]
  generalize p8 (m / 256) = P at *
  generalize p8 (m % 256) = Q at *
  rw [show (256 * P + Q) / 256 = P by omega, show (256 * P + Q + P) / 65536 = 0 by omega]
  omega
theorem k_bitCount {m : Nat} (hm : m < 65536) : pJ6_bitCount_0f7a4 (nI m) = some (nI (pcN m 16)) := by
  obtain ⟨h1, h2, h3, h4⟩ := pc_eq hm
  have u1 : ∀ n, n < 2 ^ 31 → ((nI n).toUInt32 >>> ((1 : Int32).toUInt32 &&& Int32.toUInt32 31)).toInt32 = nI (n / 2) := fun n hn => k_ush (k := 1) (by omega) (by omega)
  have u2 : ∀ n, n < 2 ^ 31 → ((nI n).toUInt32 >>> ((2 : Int32).toUInt32 &&& Int32.toUInt32 31)).toInt32 = nI (n / 4) := fun n hn => k_ush (k := 2) (by omega) (by omega)
  have u4 : ∀ n, n < 2 ^ 31 → ((nI n).toUInt32 >>> ((4 : Int32).toUInt32 &&& Int32.toUInt32 31)).toInt32 = nI (n / 16) := fun n hn => k_ush (k := 4) (by omega) (by omega)
  have u8 : ∀ n, n < 2 ^ 31 → ((nI n).toUInt32 >>> ((8 : Int32).toUInt32 &&& Int32.toUInt32 31)).toInt32 = nI (n / 256) := fun n hn => k_ush (k := 8) (by omega) (by omega)
  have u16 : ∀ n, n < 2 ^ 31 → ((nI n).toUInt32 >>> ((16 : Int32).toUInt32 &&& Int32.toUInt32 31)).toInt32 = nI (n / 65536) := fun n hn => k_ush (k := 16) (by omega) (by omega)
  have hA : nI m - (nI (m / 2) &&& 1431655765) = nI (pcA m) := by
    rw [show (1431655765 : Int32) = nI 1431655765 from rfl, nx_and, pk_sub (Nat.le_trans Nat.and_le_left (by omega))]; rfl
  have hB : (nI (pcA m) &&& 858993459) + (nI (pcA m / 4) &&& 858993459) = nI (pcB (pcA m)) := by
    rw [show (858993459 : Int32) = nI 858993459 from rfl, nx_and, nx_and, nI_add]; rfl
  have hC : (nI (pcB (pcA m)) + nI (pcB (pcA m) / 16)) &&& 252645135 = nI (pcC (pcB (pcA m))) := by
    rw [show (252645135 : Int32) = nI 252645135 from rfl, nI_add, nx_and]; rfl
  have hD : nI (pcC (pcB (pcA m))) + nI (pcC (pcB (pcA m)) / 256) = nI (pcD (pcC (pcB (pcA m)))) := by rw [nI_add]; rfl
  have hE : nI (pcD (pcC (pcB (pcA m)))) + nI (pcD (pcC (pcB (pcA m))) / 65536) = nI (pcE (pcD (pcC (pcB (pcA m))))) := by rw [nI_add]; rfl
  have hF : nI (pcE (pcD (pcC (pcB (pcA m))))) &&& 63 = nI (pcF m) := by
    rw [show (63 : Int32) = nI 63 from rfl, nx_and]; rfl
  have hd : pcD (pcC (pcB (pcA m))) < 2 ^ 31 := by unfold pcD; omega
  unfold pJ6_bitCount_0f7a4
  rw [u1 m (by omega), hA, u2 _ (by omega), hB, u4 _ (by omega), hC, u8 _ (by omega), hD, u16 _ hd, hE, hF, h1]
/-- as many bits as the mask's places that are empty -/
theorem pcN_num {tw : Nat → Int32} {p n : Nat} : ∀ k, pcN (num tw p n) k = sm (fun i => if i < n ∧ tb tw (p + i) = true then 1 else 0) k := by
  intro k
  induction k with
  | zero => rfl
  | succ j ih =>
    show pcN (num tw p n) j + num tw p n / 2 ^ j % 2 = sm (fun i => if i < n ∧ tb tw (p + i) = true then 1 else 0) j + (if j < n ∧ tb tw (p + j) = true then 1 else 0)
    rw [ih]
    generalize sm (fun i => if i < n ∧ tb tw (p + i) = true then 1 else 0) j = S
    have e := num_tb tw p j n
    rw [Nat.testBit_eq_decide_div_mod_eq] at e
    by_cases h1 : j < n
    · rw [decide_eq_true h1, Bool.true_and] at e
      cases ht : tb tw (p + j) with
      | true =>
        rw [ht] at e
        have := of_decide_eq_true e
        rw [if_pos (show j < n ∧ true = true from ⟨h1, rfl⟩), this]
      | false =>
        rw [ht] at e
        have := of_decide_eq_false e
        rw [if_neg (show ¬ (j < n ∧ false = true) from fun q => Bool.false_ne_true q.2)]
        omega
    · rw [decide_eq_false h1, Bool.false_and] at e
      have := of_decide_eq_false e
      rw [if_neg (show ¬ (j < n ∧ tb tw (p + j) = true) from fun q => h1 q.1)]
      omega
