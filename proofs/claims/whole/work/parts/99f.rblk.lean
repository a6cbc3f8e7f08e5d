/-! ===== opening: the end of a block, in the reference ===== -/
section RBlk
variable {T : Nat} {tw : Nat → Int32}
theorem r_pad {e : Nat} (h : e < 2 ^ 20) : (nI 32 - (nI e - nI e / nI 32 * nI 32)) - (nI 32 - (nI e - nI e / nI 32 * nI 32)) / nI 32 * nI 32 = nI (pd e) := by
  have e1 : nI e - nI (e / 32 * 32) = nI (e % 32) := by
    rw [pk_sub (Nat.div_mul_le_self _ _)]
    exact congrArg nI (by omega)
  rw [pk_div (by omega) (by omega) (by omega), pk_mul, e1, pk_sub (by omega), pk_div (by omega) (by omega) (by omega), pk_mul, pk_sub (Nat.div_mul_le_self _ _)]
  exact congrArg nI (by unfold pd; omega)
/-- once the values lie: the block's own cells and the filling -/
theorem r_blkEnd {b e : Nat} {fp n fm wd st : Int32} {rd : Nat → Int32} (hT : T ≤ 400) (hb : b < 24) (h0 : rd 0 = nI b) (he : e ≤ 32 * T) :
    pX10_next ((32 - (nI e - nI e / 32 * 32)) - (32 - (nI e - nI e / 32 * 32)) / 32 * 32) (nI T) (nI e) 0 fp tw = some (lN (num tw e (pd e)), nI (e + pd e), 0, fp) ∧ (1 + (4 * (rd (0 : Int32).toNatClampNeg))) + 0 = nI (1 + 4 * b) := by
  constructor
  · have := pd_lt e
    rw [n_l32, r_pad (by omega), r_next hT (by omega) he, if_pos (pd_in he).1]
  · rw [n_l0, nI_clamp (by omega), h0, n_l4, pk_mul, n_l1, nI_add, nI_add, Nat.add_zero]
end RBlk
