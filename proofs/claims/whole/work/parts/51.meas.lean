/-! ===== what is reckoned of places ===== -/
def cnt (tv : Nat → Option Int32) (f : Nat) : Nat → Nat
  | 0 => 0
  | k + 1 => cnt tv f k + (if (tv (f + k)).isSome then 1 else 0)
def val (tv : Nat → Option Int32) (f : Nat) : Nat → Nat → Int32
  | 0 => fun _ => 0
  | k + 1 => match tv (f + k) with
    | none => val tv f k
    | some v => upd (val tv f k) (cnt tv f k) v
theorem cnt_s (tv : Nat → Option Int32) (f k : Nat) : cnt tv f (k + 1) = cnt tv f k + (if (tv (f + k)).isSome then 1 else 0) := rfl
theorem val_s (tv : Nat → Option Int32) (f k : Nat) : val tv f (k + 1) = match tv (f + k) with
    | none => val tv f k
    | some v => upd (val tv f k) (cnt tv f k) v := rfl
theorem cnt_none {tv : Nat → Option Int32} {f k : Nat} (h : tv (f + k) = none) : cnt tv f (k + 1) = cnt tv f k ∧ val tv f (k + 1) = val tv f k := by
  rw [cnt_s, val_s, h]; exact ⟨rfl, rfl⟩
theorem cnt_some {tv : Nat → Option Int32} {f k : Nat} {v : Int32} (h : tv (f + k) = some v) : cnt tv f (k + 1) = cnt tv f k + 1 ∧ val tv f (k + 1) = upd (val tv f k) (cnt tv f k) v := by
  rw [cnt_s, val_s, h]; exact ⟨rfl, rfl⟩
theorem cnt_le (tv : Nat → Option Int32) (f : Nat) : ∀ n, cnt tv f n ≤ n := by
  intro n
  induction n with
  | zero => exact Nat.le_refl _
  | succ k ih =>
    show cnt tv f k + (if (tv (f + k)).isSome then 1 else 0) ≤ k + 1
    split <;> omega
theorem cnt_congr {tv tw : Nat → Option Int32} {f g : Nat} : ∀ n, (∀ i, i < n → tv (f + i) = tw (g + i)) → cnt tv f n = cnt tw g n ∧ val tv f n = val tw g n := by
  intro n
  induction n with
  | zero => intro _; exact ⟨rfl, rfl⟩
  | succ k ih =>
    intro h
    obtain ⟨h1, h2⟩ := ih (fun i hi => h i (by omega))
    unfold cnt val
    rw [h1, h2, h k (by omega)]
    exact ⟨rfl, rfl⟩
theorem cnt_add (tv : Nat → Option Int32) (f n : Nat) : ∀ k, cnt tv f (n + k) = cnt tv f n + cnt tv (f + n) k := by
  intro k
  induction k with
  | zero => rfl
  | succ j ih =>
    show cnt tv f (n + j) + (if (tv (f + (n + j))).isSome then 1 else 0) = cnt tv f n + (cnt tv (f + n) j + (if (tv (f + n + j)).isSome then 1 else 0))
    rw [ih, Nat.add_assoc f n j]; omega
def lvs (g : Nat → Int32) : Nat → Int32
  | 0 => g 0
  | k + 1 => if lvs g k ≤ g (k + 1) then lvs g k else g (k + 1)
def lv (g : Nat → Int32) : Nat → Int32
  | 0 => 0
  | k + 1 => lvs g k
def lss (g : Nat → Int32) : Nat → Int32
  | 0 => g 1 - g 0
  | k + 1 => if lss g k ≤ g (k + 2) - g (k + 1) then lss g k else g (k + 2) - g (k + 1)
def stp (g : Nat → Int32) (m : Nat) : Int32 := if m ≤ 1 then 0 else lss g (m - 2)
theorem lvs_congr {g h : Nat → Int32} : ∀ k, (∀ i, i ≤ k → g i = h i) → lvs g k = lvs h k := by
  intro k
  induction k with
  | zero => intro e; exact e 0 (Nat.le_refl _)
  | succ j ih => intro e; unfold lvs; rw [ih (fun i hi => e i (by omega)), e (j + 1) (by omega)]
theorem lv_congr {g h : Nat → Int32} (m : Nat) (e : ∀ i, i < m → g i = h i) : lv g m = lv h m := by
  cases m with
  | zero => rfl
  | succ k => exact lvs_congr k (fun i hi => e i (by omega))
theorem lss_congr {g h : Nat → Int32} : ∀ k, (∀ i, i ≤ k + 1 → g i = h i) → lss g k = lss h k := by
  intro k
  induction k with
  | zero => intro e; unfold lss; rw [e 0 (by omega), e 1 (by omega)]
  | succ j ih => intro e; unfold lss; rw [ih (fun i hi => e i (by omega)), e (j + 1) (by omega), e (j + 2) (by omega)]
theorem stp_congr {g h : Nat → Int32} (m : Nat) (e : ∀ i, i < m → g i = h i) : stp g m = stp h m := by
  unfold stp
  split
  · rfl
  · exact lss_congr (m - 2) (fun i hi => e i (by omega))
theorem lvs_le (g : Nat → Int32) : ∀ k i, i ≤ k → lvs g k ≤ g i := by
  intro k
  induction k with
  | zero => intro i hi; obtain rfl : i = 0 := by omega
            exact Int32.le_refl _
  | succ j ih =>
    intro i hi
    unfold lvs
    rcases Nat.lt_or_ge i (j + 1) with h | h
    · have := ih i (by omega)
      split
      · exact this
      · rename_i hn
        exact Int32.le_trans (Int32.le_of_lt (Int32.not_le.mp hn)) this
    · obtain rfl : i = j + 1 := by omega
      split
      · assumption
      · exact Int32.le_refl _
theorem lv_le (g : Nat → Int32) {m i : Nat} (h : i < m) : lv g m ≤ g i := by
  cases m with
  | zero => omega
  | succ k => exact lvs_le g k i (by omega)
def fo (d : Int32) : Int32 := (d <<< (1 &&& 31)) ^^^ (d >>> (31 &&& 31))
def u32 (x : Int32) : Nat := x.toBitVec.toNat
theorem u32_lt (x : Int32) : u32 x < 2 ^ 32 := x.toBitVec.isLt
/-- a part: form, base, step -/
def pt (form : Nat) (base step : Int32) (g : Nat → Int32) (i : Nat) : Int32 :=
  match form with
  | 0 => g i - base
  | 1 => fo (g (i + 1) - g i)
  | _ => g (i + 1) - g i - step
def pcn (form m : Nat) : Nat := if form = 0 then m else m - 1
theorem pcn_le (form m : Nat) : pcn form m ≤ m := by unfold pcn; split <;> omega
theorem pt_congr {g h : Nat → Int32} (form : Nat) (s : Int32) (m : Nat) (e : ∀ i, i < m → g i = h i) (i : Nat) (hi : i < pcn form m) : pt form (lv g m) s g i = pt form (lv h m) s h i := by
  unfold pcn at hi
  unfold pt
  rw [lv_congr m e]
  split
  · rw [e i (by simpa using hi)]
  · rw [if_neg (by decide)] at hi
    rw [e i (by omega), e (i + 1) (by omega)]
  · rename_i h0 _
    rw [if_neg h0] at hi
    rw [e i (by omega), e (i + 1) (by omega)]
/-- the bits of a number -/
def bl (p : Nat) : Nat := if p = 0 then 0 else p.log2 + 1
theorem bl_le (p w : Nat) : bl p ≤ w ↔ p < 2 ^ w := by
  unfold bl
  split
  · rename_i h; subst h
    exact ⟨fun _ => Nat.two_pow_pos w, fun _ => Nat.zero_le _⟩
  · rename_i h
    exact ⟨fun h1 => (Nat.log2_lt h).mp h1, fun h1 => (Nat.log2_lt h).mpr h1⟩
theorem bl_32 (x : Int32) : bl (u32 x) ≤ 32 := (bl_le _ _).mpr (u32_lt x)
def exc (w : Nat) (q : Nat → Nat) : Nat → Nat
  | 0 => 0
  | k + 1 => exc w q k + (if bl (q k) ≤ w then 0 else 1)
theorem exc_s (w : Nat) (q : Nat → Nat) (k : Nat) : exc w q (k + 1) = exc w q k + (if bl (q k) ≤ w then 0 else 1) := rfl
theorem exc_le (w : Nat) (q : Nat → Nat) : ∀ n, exc w q n ≤ n := by
  intro n
  induction n with
  | zero => exact Nat.le_refl _
  | succ k ih =>
    show exc w q k + (if bl (q k) ≤ w then 0 else 1) ≤ k + 1
    split <;> omega
theorem exc_congr {w : Nat} {q r : Nat → Nat} : ∀ n, (∀ i, i < n → q i = r i) → exc w q n = exc w r n := by
  intro n
  induction n with
  | zero => intro _; rfl
  | succ k ih => intro h; unfold exc; rw [ih (fun i hi => h i (by omega)), h k (by omega)]
theorem exc_32 {q : Nat → Nat} : ∀ n, (∀ i, i < n → bl (q i) ≤ 32) → exc 32 q n = 0 := by
  intro n
  induction n with
  | zero => intro _; rfl
  | succ k ih =>
    intro h
    show exc 32 q k + (if bl (q k) ≤ 32 then 0 else 1) = 0
    rw [ih (fun i hi => h i (by omega)), if_pos (h k (by omega))]
theorem exc_anti {q : Nat → Nat} {w w' : Nat} (hw : w ≤ w') : ∀ n, exc w' q n ≤ exc w q n := by
  intro n
  induction n with
  | zero => exact Nat.le_refl _
  | succ k ih =>
    show exc w' q k + (if bl (q k) ≤ w' then 0 else 1) ≤ exc w q k + (if bl (q k) ≤ w then 0 else 1)
    split <;> split <;> omega
def tot (n m form w pc e : Nat) : Nat := 49 + (if m < n then n else 0) + (if form = 2 then 32 else 0) + w * pc + e * (36 - w)
theorem tot_lt {n m form w pc e : Nat} (hn : n ≤ 16) (hw : w ≤ 32) (hp : pc ≤ 16) (he : e ≤ 16) : tot n m form w pc e < 2000 := by
  unfold tot
  have h1 : w * pc ≤ 32 * 16 := Nat.mul_le_mul hw hp
  have h2 : e * (36 - w) ≤ 16 * 36 := Nat.mul_le_mul he (by omega)
  split <;> split <;> omega
/-- what a form has: its parts as numbers -/
def qs (form : Nat) (s : Int32) (g : Nat → Int32) (m i : Nat) : Nat := u32 (pt form (lv g m) s g i)
def cand (n m form w : Nat) (q : Nat → Nat) : Option Nat := if exc w q (pcn form m) ≤ 15 then some (tot n m form w (pcn form m) (exc w q (pcn form m))) else none
def bstp (form w : Nat) (t : Option Nat) (acc : Option (Nat × Nat × Nat)) : Option (Nat × Nat × Nat) :=
  match t with
  | none => acc
  | some t => match acc with
    | none => some (form, w, t)
    | some x => if t < x.2.2 then some (form, w, t) else some x
def bw (n m form : Nat) (q : Nat → Nat) (acc : Option (Nat × Nat × Nat)) : Nat → Option (Nat × Nat × Nat)
  | 0 => acc
  | k + 1 => bstp form k (cand n m form k q) (bw n m form q acc k)
def bf (n m : Nat) (g : Nat → Int32) (form : Nat) (acc : Option (Nat × Nat × Nat)) : Option (Nat × Nat × Nat) :=
  if form = 0 ∨ 2 ≤ m then bw n m form (qs form (stp g m) g m) acc 33 else acc
def bfs (n m : Nat) (g : Nat → Int32) : Nat → Option (Nat × Nat × Nat)
  | 0 => none
  | k + 1 => bf n m g k (bfs n m g k)
/-- the best: form, width, bits -/
def bst (n m : Nat) (g : Nat → Int32) : Nat × Nat × Nat := (bfs n m g 3).getD (0, 0, 0)
theorem cand_congr {n m form w : Nat} {q r : Nat → Nat} (h : ∀ i, i < pcn form m → q i = r i) : cand n m form w q = cand n m form w r := by
  unfold cand; rw [exc_congr _ h]
theorem bw_congr {n m form : Nat} {q r : Nat → Nat} (h : ∀ i, i < pcn form m → q i = r i) (acc : Option (Nat × Nat × Nat)) : ∀ k, bw n m form q acc k = bw n m form r acc k := by
  intro k
  induction k with
  | zero => rfl
  | succ j ih => unfold bw; rw [ih, cand_congr h]
theorem bfs_congr {n m : Nat} {g h : Nat → Int32} (e : ∀ i, i < m → g i = h i) : ∀ k, bfs n m g k = bfs n m h k := by
  intro k
  induction k with
  | zero => rfl
  | succ j ih =>
    unfold bfs bf
    rw [ih]
    split
    · refine bw_congr (fun i hi => ?_) _ _
      unfold qs
      rw [stp_congr m e, pt_congr j _ m e i hi]
    · rfl
theorem bst_congr {n m : Nat} {g h : Nat → Int32} (e : ∀ i, i < m → g i = h i) : bst n m g = bst n m h := by unfold bst; rw [bfs_congr e]
/-- what holds of a best, if there is one -/
def okB (n m : Nat) (g : Nat → Int32) (x : Nat × Nat × Nat) : Prop := x.1 ≤ 2 ∧ x.2.1 ≤ 32 ∧ (x.1 = 0 ∨ 2 ≤ m) ∧ exc x.2.1 (qs x.1 (stp g m) g m) (pcn x.1 m) ≤ 15 ∧ x.2.2 = tot n m x.1 x.2.1 (pcn x.1 m) (exc x.2.1 (qs x.1 (stp g m) g m) (pcn x.1 m))
theorem bw_ok {n m : Nat} {g : Nat → Int32} {form : Nat} (hf : form ≤ 2) (hm : form = 0 ∨ 2 ≤ m) {acc : Option (Nat × Nat × Nat)} (ha : ∀ x, acc = some x → okB n m g x) : ∀ k, k ≤ 33 → ∀ x, bw n m form (qs form (stp g m) g m) acc k = some x → okB n m g x := by
  intro k
  induction k with
  | zero => intro _; exact ha
  | succ j ih =>
    intro hk x hx
    have ih := ih (by omega)
    unfold bw bstp cand at hx
    split at hx
    · exact ih x hx
    · rename_i t ht
      split at ht
      · rename_i he
        cases ht
        have good : okB n m g (form, j, tot n m form j (pcn form m) (exc j (qs form (stp g m) g m) (pcn form m))) := ⟨hf, by show j ≤ 32; omega, hm, he, rfl⟩
        split at hx
        · cases hx; exact good
        · rename_i y hy
          split at hx
          · cases hx; exact good
          · cases hx; exact ih _ hy
      · cases ht
theorem bfs_ok {n m : Nat} {g : Nat → Int32} : ∀ k, k ≤ 3 → ∀ x, bfs n m g k = some x → okB n m g x := by
  intro k
  induction k with
  | zero => intro _ x h; cases h
  | succ j ih =>
    intro hk x hx
    unfold bfs bf at hx
    split at hx
    · exact bw_ok (by omega) (by assumption) (ih (by omega)) 33 (Nat.le_refl _) x hx
    · exact ih (by omega) x hx
theorem bstp_some {form w t : Nat} {acc : Option (Nat × Nat × Nat)} : ∃ x, bstp form w (some t) acc = some x := by
  unfold bstp
  cases acc with
  | none => exact ⟨_, rfl⟩
  | some y =>
    by_cases h : t < y.2.2
    · exact ⟨_, if_pos h⟩
    · exact ⟨_, if_neg h⟩
theorem bstp_keep {form w : Nat} {c : Option Nat} {y : Nat × Nat × Nat} : ∃ x, bstp form w c (some y) = some x := by
  cases c with
  | none => exact ⟨y, rfl⟩
  | some t => exact bstp_some
theorem bw_some {n m form : Nat} {q : Nat → Nat} {y : Nat × Nat × Nat} : ∀ k, ∃ x, bw n m form q (some y) k = some x := by
  intro k
  induction k with
  | zero => exact ⟨y, rfl⟩
  | succ j ih =>
    obtain ⟨x, hx⟩ := ih
    unfold bw; rw [hx]
    exact bstp_keep
theorem bfs_some (n m : Nat) (g : Nat → Int32) : bfs n m g 3 = some (bst n m g) := by
  have h1 : ∃ x, bfs n m g 1 = some x := by
    unfold bfs bf
    rw [if_pos (Or.inl rfl)]
    show ∃ x, bstp 0 32 (cand n m 0 32 (qs 0 (stp g m) g m)) (bw n m 0 (qs 0 (stp g m) g m) (bfs n m g 0) 32) = some x
    unfold cand
    rw [if_pos (by rw [exc_32 (q := qs 0 (stp g m) g m) (pcn 0 m) (fun i _ => bl_32 _)]; omega)]
    exact bstp_some
  have hs : ∀ k y, bfs n m g k = some y → ∃ x, bfs n m g (k + 1) = some x := fun k y hy => by
    show ∃ x, bf n m g k (bfs n m g k) = some x
    rw [hy]; unfold bf
    split
    · exact bw_some 33
    · exact ⟨y, rfl⟩
  obtain ⟨y, hy⟩ := h1
  obtain ⟨y2, hy2⟩ := hs 1 y hy
  obtain ⟨y3, hy3⟩ := hs 2 y2 hy2
  unfold bst; rw [hy3]; rfl
theorem bst_ok (n m : Nat) (g : Nat → Int32) : okB n m g (bst n m g) := bfs_ok 3 (Nat.le_refl _) _ (bfs_some n m g)
theorem bst_lt {n m : Nat} {g : Nat → Int32} (hn : n ≤ 16) (hm : m ≤ 16) : (bst n m g).2.2 < 2000 := by
  obtain ⟨_, h2, _, h4, h5⟩ := bst_ok n m g
  rw [h5]
  exact tot_lt hn h2 (by have := pcn_le (bst n m g).1 m; omega) (by omega)
