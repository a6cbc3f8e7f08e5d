/-! ===== opening: one block, both sides ===== -/
section OBlk
variable {T : Nat} {tw hw : Nat → Int32}
theorem k_j39O {kd wh a1 a2 a3 a4 a5 a6 a7 a8 a9 a10 a11 a12 hd bk : Int32} {ks fc : Nat → Int32} {tl : Nat → Int64} (h : ¬ kd = 0) : ∃ w, pX4_openBlock_j39 128 kd wh a1 a2 a3 a4 a5 a6 a7 a8 a9 a10 a11 a12 (nI T) hw ks bk hd tl fc = some w ∧ w.1 = kd ∧ w.2.1 = wh := by
  unfold pX4_openBlock_j39
  rw [if_neg h]
  exact ⟨_, rfl, rfl, rfl⟩
theorem k_j28O {kd wh a1 a2 a3 a4 a5 a6 a7 a8 a9 a10 a11 a12 hd bk : Int32} {ks fc : Nat → Int32} {tl : Nat → Int64} (h : ¬ kd = 0) : ∃ w, pX4_openBlock_j28 128 kd wh a1 a2 a3 a4 a5 a6 a7 a8 a9 a10 a11 a12 (nI T) hw ks bk hd tl fc = some w ∧ w.1 = kd ∧ w.2.1 = wh := by
  unfold pX4_openBlock_j28
  rw [if_neg h]
  exact k_j39O h
theorem tot_at {p n fm wd ex pc : Nat} (hF : mF tw p = 1 → mV tw p n ≠ 0) : mQ tw p n + 44 + (if fm = 2 then 32 else 0) + wd * pc + ex * (36 - wd) = p + tot n (n - mV tw p n) fm wd pc ex := by
  have hle := mV_le tw p n
  unfold tot mQ
  rcases mF_01 tw p with h | h
  · have := mV_z (n := n) h
    rw [if_neg (by omega), if_neg (show ¬ n - mV tw p n < n by omega)]
    omega
  · have := hF h
    rw [if_pos h, if_pos (show n - mV tw p n < n by omega)]
    omega
end OBlk
