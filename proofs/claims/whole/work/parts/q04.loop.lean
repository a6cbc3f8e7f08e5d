/-! ===== the law: its start, its loop ===== -/
theorem and127 (x : Int32) : ∃ n, n < 128 ∧ x &&& 127 = nI n := by
  refine ⟨(x &&& 127).toBitVec.toNat, ?_, ?_⟩
  · rw [Int32.toBitVec_and, BitVec.toNat_and]
    exact Nat.lt_of_le_of_lt Nat.and_le_right (by decide)
  · apply Int32.toBitVec_inj.mp
    show _ = BitVec.ofNat 32 _
    rw [BitVec.ofNat_toNat, BitVec.setWidth_eq]
theorem nest_in : ∀ q ∈ nestW, Cond.methodLinkNest q.1 q.2.1 q.2.2.1 q.2.2.2 ∈ lw_tbl := by
  have h : nestW.map (fun q => Cond.methodLinkNest q.1 q.2.1 q.2.2.1 q.2.2.2) = ([166, 203, 222, 238, 304, 374, 405, 594, 905, 975, 981, 1014] : List Nat).filterMap (fun i => lw_tbl[i]?) := by decide +kernel
  intro q hq
  have hm : Cond.methodLinkNest q.1 q.2.1 q.2.2.1 q.2.2.2 ∈ nestW.map (fun q => Cond.methodLinkNest q.1 q.2.1 q.2.2.1 q.2.2.2) := List.mem_map.mpr ⟨q, hq, rfl⟩
  rw [h] at hm
  obtain ⟨i, -, hi⟩ := List.mem_filterMap.mp hm
  exact List.mem_of_getElem? hi
theorem law_KK {s : State} {args : Array Value} (hts : ∀ w ∈ lw_tbl, w.before args s = true) : ∃ D y, KK D y s := by
  have hg : ∀ w ∈ tbG, w.before args s = true := fun w hw => hts w (List.mem_filter.mp hw).1
  obtain ⟨c0, i0, k0⟩ := u_known (C := RX0) (T := TX0) (N := 3) (n := 3) hg inX0 (hg _ kw165)
  obtain ⟨c1, i1, k1⟩ := u_known (C := RX1) (T := TX1) (N := 6) (n := 6) hg inX1 (hg _ kw373)
  obtain ⟨c2, i2, k2⟩ := u_known (C := RX2) (T := TX2) (N := 3) (n := 3) hg inX2 (hg _ kw202)
  obtain ⟨c3, i3, k3⟩ := u_known (C := RX3) (T := TX3) (N := 14) (n := 14) hg inX3 (hg _ kw237)
  obtain ⟨c4, i4, k4⟩ := u_known (C := RX4) (T := TX4) (N := 16) (n := 16) hg inX4 (hg _ kw316)
  obtain ⟨c5, i5, k5⟩ := u_known (C := RX5) (T := TX5) (N := 2) (n := 2) hg inX5 (hg _ kw147)
  obtain ⟨c6, i6, k6⟩ := u_known (C := RX6) (T := TX6) (N := 2) (n := 2) hg inX6 (hg _ kw303)
  obtain ⟨c7, i7, k7⟩ := u_known (C := RX7) (T := TX7) (N := 3) (n := 3) hg inX7 (hg _ kw139)
  obtain ⟨c8, i8, k8⟩ := u_known (C := RX8) (T := TX8) (N := 2) (n := 2) hg inX8 (hg _ kw221)
  obtain ⟨c9, i9, k9⟩ := u_known (C := RX9) (T := TX9) (N := 11) (n := 11) hg inX9 (hg _ kw131)
  obtain ⟨c10, i10, k10⟩ := u_known (C := RX10) (T := TX10) (N := 38) (n := 38) hg inX10 (hg _ kw1332)
  obtain ⟨ya, ka, pa, a1, a2, a3⟩ := Cond.arrayClass_spec (hg _ kaint)
  obtain ⟨yb, kb, pb, b1, b2, b3⟩ := Cond.arrayClass_spec (hg _ kalong)
  obtain ⟨yc, kc, pc, c1', c2', c3'⟩ := Cond.arrayClass_spec (hg _ kaboolean)
  have ho0 : (Cond.arrayOver (.object RX0)).before args s = true := hts _ (List.mem_of_getElem? (i := 145) (by decide +kernel))
  have ho7 : (Cond.arrayOver (.object RX7)).before args s = true := hts _ (List.mem_of_getElem? (i := 208) (by decide +kernel))
  obtain ⟨pd, yd, kd, d1, d2, d3, d4, d5⟩ := Cond.arrayOver_spec ho0
  obtain ⟨pe, ye, ke, e1, e2, e3, e4, e5⟩ := Cond.arrayOver_spec ho7
  refine ⟨(fun k => [c0, c1, c2, c3, c4, c5, c6, c7, c8, c9, c10].getD k c0, fun k => [i0, i1, i2, i3, i4, i5, i6, i7, i8, i9, i10].getD k i0), fun k => [ya, yb, yc, yd, ye].getD k ya, ⟨?_, ?_⟩, ?_, va_AO.of ho0, va_AO.of ho7⟩
  · intro k q hq
    match k, hq with
    | 0, hq => cases hq; exact k0
    | 1, hq => cases hq; exact k1
    | 2, hq => cases hq; exact k2
    | 3, hq => cases hq; exact k3
    | 4, hq => cases hq; exact k4
    | 5, hq => cases hq; exact k5
    | 6, hq => cases hq; exact k6
    | 7, hq => cases hq; exact k7
    | 8, hq => cases hq; exact k8
    | 9, hq => cases hq; exact k9
    | 10, hq => cases hq; exact k10
    | k + 11, hq => simp [vwCl] at hq
  · intro k q hq
    match k, hq with
    | 0, hq => cases hq; exact ⟨fun n z => ⟨fun k h => (by cases h), ka, a2, pa, a3⟩, a1⟩
    | 1, hq => cases hq; exact ⟨fun n z => ⟨fun k h => (by cases h), kb, b2, pb, b3⟩, b1⟩
    | 2, hq => cases hq; exact ⟨fun n z => ⟨fun k h => (by cases h), kc, c2', pc, c3'⟩, c1'⟩
    | 3, hq => cases hq; exact ⟨fun n z => ⟨fun k h => (by cases h), kd, d3, pd, d4⟩, kd, pd, d3, d4, d1, d5⟩
    | 4, hq => cases hq; exact ⟨fun n z => ⟨fun k h => (by cases h), ke, e3, pe, e4⟩, ke, pe, e3, e4, e1, e5⟩
    | k + 5, hq => simp [tyL] at hq
  · intro q hq
    exact va_Nw.of rfl (hts _ (nest_in q hq))
def lwA (s : State) : Nat → Prop := fun q => s.heap.size ≤ q
set_option maxRecDepth 100000 in
set_option maxHeartbeats 4000000 in
theorem law_loop {D : va_G} {y : Nat → ClassId} {P h : Nat → Nat} {p : Program} {l : Launch} {e : Env} {s : State} {m : MethodId} {b : Nat} {below : List Frame} {meth : Method} {c : Code} {cd : Cond} {L : Nat} {xs : Nat → Int32} (hL : L ≤ 2560) (C : Cx D y p s m #[Value.ref b] meth c (lwA s) RL cL_law cd ret 4) (hX : va_X b L xs s s.heap) (hbl : b < s.heap.size) :
    ∀ (n k Φ : Nat) (W0 : va_W) (H : Heap) (locs : List Loc) (ls : Array Slot), k + n = 513 → 5 * k ≤ L → Φ ≤ 40 → INVW y P h W0 Φ → St D (lwA s) s H locs W0 → lv_has ls 4 [(0, .ref b), (1, .ref (P 0)), (2, .ref (h 0)), (3, .int (nI (5 * k)))] → W p l e room_1 s m #[Value.ref b] below meth c H locs (100 + 16 * k + 16 * (40 - Φ)) (70000 + 1200 * k + 999 * (40 - Φ)) (lw_Z below #[Value.ref b] s) (F0 m 18 ls []) := by
  have hbA : ¬ lwA s b := Nat.not_le.mpr hbl
  intro n
  induction n with
  | zero => intro k Φ W0 H locs ls h1 h2; omega
  | succ n ih =>
    intro k Φ W0 H locs ls hkn hkL hΦ hI hw hl
    refine lv_iload_n C.x C.b dL_law_18 rfl (lv_at hl 3 rfl) ?_
    refine lv_aload_n C.x C.b dL_law_19 rfl (lv_at hl 0 rfl) ?_
    refine va_slen C.x C.b hX hbl hbA hw.2.2 dL_law_20 ?_
    refine lv_iconst (v := 5) C.x C.b dL_law_21 (by decide) ?_
    refine lv_isub C.x C.b dL_law_22 ?_
    have hsub : (Int32.ofNat L - 5).toInt = (L : Int) - 5 := pk_sub_toInt (a := L) (b := 5) (by omega) (by omega)
    have hki : (nI (5 * k)).toInt = ((5 * k : Nat) : Int) := nI_toInt (by omega)
    refine lv_icmp_gt (tgt := 2344) C.x C.b dL_law_23 (by decide) (fun c9 => ?_) (fun c9 => ?_)
    · refine lv_iconst (v := 1) C.x C.b dL_law_2344 (by decide) ?_
      refine va_forget (fun q hq => hw.2.2.2.2 q hq) ?_
      refine W.widen (k := 600000) (n := 7302249) (by omega) (by omega) ?_
      refine W.base ?_
      exact lw_ret (Drawn.sameBut.refl s.drawn lw_cs) C.x C.b C.r C.lk dL_law_2345
    · have h5 : 5 * k + 5 ≤ L := by
        rw [Int32.lt_iff_toInt_lt, hsub, hki] at c9
        omega
      have hin : ∀ j : Nat, j < 5 → vp_in (nI (5 * k) + nI j) L := fun j hj => by
        rw [nI_add]; exact vp_in_nI (by omega) (by omega)
      have hc : (100 + 16 * k + 16 * (40 - Φ)) + (16 + 16 * Φ) ≤ 600000 := by omega
      have hs : (70000 + 1200 * k + 999 * (40 - Φ)) + (1200 + 999 * Φ) ≤ 7302249 := by omega
      have kk : LK D y P h p l e s m #[Value.ref b] below meth c (lwA s) (lw_Z below #[Value.ref b] s) Φ (100 + 16 * k + 16 * (40 - Φ)) (70000 + 1200 * k + 999 * (40 - Φ)) ls := by
        intro W1 Φ' mc ms H1 locs1 hI1 hw1 h1 h2 h3
        refine lv_iinc (v := nI (5 * (k + 1))) (lv' := [(3, .int (nI (5 * (k + 1)))), (0, .ref b), (1, .ref (P 0)), (2, .ref (h 0))]) C.x C.b dL_law_2338 hl (k := 3) rfl (by show nI (5 * k) + nI 5 = _; rw [nI_add]; exact congrArg nI (by omega)) (by decide) rfl (fun ls hl => ?_)
        refine lv_goto (tgt := 18) C.x C.b dL_law_2341 (by decide) ?_
        refine W.widen (k := 100 + 16 * (k + 1) + 16 * (40 - Φ')) (n := 70000 + 1200 * (k + 1) + 999 * (40 - Φ')) (by omega) (by omega) ?_
        exact ih (k + 1) Φ' W1 H1 locs1 ls (by omega) (by omega) (by omega) hI1 hw1 (lv_sub hl [1, 2, 3, 0] rfl)
      refine lv_aload_n C.x C.b dL_law_26 rfl (lv_at hl 0 rfl) ?_
      refine lv_iload_n C.x C.b dL_law_27 rfl (lv_at hl 3 rfl) ?_
      refine va_sld C.x C.b hX hbl hbA hw.2.2 (vp_in_nI (by omega) (by omega)) dL_law_28 ?_
      refine lv_bipush (v := 127) C.x C.b dL_law_29 (by decide) ?_
      refine lv_iand C.x C.b dL_law_31 ?_
      obtain ⟨n, hn, hx⟩ := and127 (xs (nI (5 * k)).toNatClampNeg)
      rw [hx]
      clear hx
      rcases (show n = 0 ∨ n = 1 ∨ n = 2 ∨ n = 3 ∨ n = 4 ∨ n = 5 ∨ n = 6 ∨ n = 7 ∨ n = 8 ∨ n = 9 ∨ n = 10 ∨ n = 11 ∨ n = 12 ∨ n = 13 ∨ n = 14 ∨ n = 15 ∨ n = 16 ∨ n = 17 ∨ n = 18 ∨ n = 19 ∨ n = 20 ∨ n = 21 ∨ n = 22 ∨ n = 23 ∨ n = 24 ∨ n = 25 ∨ n = 26 ∨ n = 27 ∨ n = 28 ∨ n = 29 ∨ n = 30 ∨ n = 31 ∨ n = 32 ∨ n = 33 ∨ n = 34 ∨ n = 35 ∨ n = 36 ∨ n = 37 ∨ n = 38 ∨ n = 39 ∨ n = 40 ∨ n = 41 ∨ n = 42 ∨ n = 43 ∨ n = 44 ∨ n = 45 ∨ n = 46 ∨ n = 47 ∨ n = 48 ∨ n = 49 ∨ n = 50 ∨ n = 51 ∨ n = 52 ∨ n = 53 ∨ n = 54 ∨ n = 55 ∨ n = 56 ∨ n = 57 ∨ n = 58 ∨ n = 59 ∨ n = 60 ∨ n = 61 ∨ n = 62 ∨ n = 63 ∨ n = 64 ∨ 65 ≤ n by omega) with rfl | rfl | rfl | rfl | rfl | rfl | rfl | rfl | rfl | rfl | rfl | rfl | rfl | rfl | rfl | rfl | rfl | rfl | rfl | rfl | rfl | rfl | rfl | rfl | rfl | rfl | rfl | rfl | rfl | rfl | rfl | rfl | rfl | rfl | rfl | rfl | rfl | rfl | rfl | rfl | rfl | rfl | rfl | rfl | rfl | rfl | rfl | rfl | rfl | rfl | rfl | rfl | rfl | rfl | rfl | rfl | rfl | rfl | rfl | rfl | rfl | rfl | rfl | rfl | rfl | h65
      · exact lv_tableIn (off := 276) (tgt := 308) C.x C.b dL_law_32 (by decide) (by decide) rfl (by decide) (lc_put C hX hbl hbA hin hw hI hl hc hs kk)
      · exact lv_tableIn (off := 299) (tgt := 331) C.x C.b dL_law_32 (by decide) (by decide) rfl (by decide) (lc_gap C hX hbl hbA hin hw hI hl hc hs kk)
      · exact lv_tableIn (off := 312) (tgt := 344) C.x C.b dL_law_32 (by decide) (by decide) rfl (by decide) (lc_forget C hX hbl hbA hin hw hI hl hc hs kk)
      · exact lv_tableIn (off := 325) (tgt := 357) C.x C.b dL_law_32 (by decide) (by decide) rfl (by decide) (lc_flush C hX hbl hbA hin hw hI hl hc hs kk)
      · exact lv_tableIn (off := 348) (tgt := 380) C.x C.b dL_law_32 (by decide) (by decide) rfl (by decide) (lc_set C hX hbl hbA hin hw hI hl hc hs kk)
      · exact lv_tableIn (off := 391) (tgt := 423) C.x C.b dL_law_32 (by decide) (by decide) rfl (by decide) (lc_clear C hX hbl hbA hin hw hI hl hc hs kk)
      · exact lv_tableIn (off := 424) (tgt := 456) C.x C.b dL_law_32 (by decide) (by decide) rfl (by decide) (lc_insert C hX hbl hbA hin hw hI hl hc hs kk)
      · exact lv_tableIn (off := 467) (tgt := 499) C.x C.b dL_law_32 (by decide) (by decide) rfl (by decide) (lc_remove C hX hbl hbA hin hw hI hl hc hs kk)
      · exact lv_tableIn (off := 500) (tgt := 532) C.x C.b dL_law_32 (by decide) (by decide) rfl (by decide) (lc_split C hX hbl hbA hin hw hI hl hc hs kk)
      · exact lv_tableIn (off := 543) (tgt := 575) C.x C.b dL_law_32 (by decide) (by decide) rfl (by decide) (lc_shift C hX hbl hbA hin hw hI hl hc hs kk)
      · exact lv_tableIn (off := 576) (tgt := 608) C.x C.b dL_law_32 (by decide) (by decide) rfl (by decide) (lc_merge C hX hbl hbA hin hw hI hl hc hs kk)
      · exact lv_tableIn (off := 619) (tgt := 651) C.x C.b dL_law_32 (by decide) (by decide) rfl (by decide) (lc_copy C hX hbl hbA hin hw hI hl hc hs kk)
      · exact lv_tableIn (off := 672) (tgt := 704) C.x C.b dL_law_32 (by decide) (by decide) rfl (by decide) (lc_swap C hX hbl hbA hin hw hI hl hc hs kk)
      · exact lv_tableIn (off := 705) (tgt := 737) C.x C.b dL_law_32 (by decide) (by decide) rfl (by decide) (lc_drop C hX hbl hbA hin hw hI hl hc hs kk)
      · exact lv_tableIn (off := 738) (tgt := 770) C.x C.b dL_law_32 (by decide) (by decide) rfl (by decide) (lc_join C hX hbl hbA hin hw hI hl hc hs kk)
      · exact lv_tableIn (off := 761) (tgt := 793) C.x C.b dL_law_32 (by decide) (by decide) rfl (by decide) (lc_recut C hX hbl hbA hin hw hI hl hc hs kk)
      · exact lv_tableIn (off := 784) (tgt := 816) C.x C.b dL_law_32 (by decide) (by decide) rfl (by decide) (lc_walk C hX hbl hbA hin hw hI hl hc hs kk)
      · exact lv_tableIn (off := 837) (tgt := 869) C.x C.b dL_law_32 (by decide) (by decide) rfl (by decide) (lc_tell C hX hbl hbA hin hw hI hl hc hs kk)
      · exact lv_tableIn (off := 860) (tgt := 892) C.x C.b dL_law_32 (by decide) (by decide) rfl (by decide) (lc_word C hX hbl hbA hin hw hI hl hc hs kk)
      · exact lv_tableIn (off := 883) (tgt := 915) C.x C.b dL_law_32 (by decide) (by decide) rfl (by decide) (lc_end C hX hbl hbA hin hw hI hl hc hs kk)
      · exact lv_tableIn (off := 906) (tgt := 938) C.x C.b dL_law_32 (by decide) (by decide) rfl (by decide) (lc_tape C hX hbl hbA hin hw hI hl hc hs kk)
      · exact lv_tableIn (off := 929) (tgt := 961) C.x C.b dL_law_32 (by decide) (by decide) rfl (by decide) (lc_save C hX hbl hbA hin hw hI hl hc hs kk)
      · exact lv_tableIn (off := 952) (tgt := 984) C.x C.b dL_law_32 (by decide) (by decide) rfl (by decide) (lc_open C hX hbl hbA hin hw hI hl hc hs kk)
      · exact lv_tableIn (off := 975) (tgt := 1007) C.x C.b dL_law_32 (by decide) (by decide) rfl (by decide) (lc_fault C hX hbl hbA hin hw hI hl hc hs kk)
      · exact lv_tableIn (off := 998) (tgt := 1030) C.x C.b dL_law_32 (by decide) (by decide) rfl (by decide) (lc_undo C hX hbl hbA hin hw hI hl hc hs kk)
      · exact lv_tableIn (off := 1011) (tgt := 1043) C.x C.b dL_law_32 (by decide) (by decide) rfl (by decide) (lc_column C hX hbl hbA hin hw hI hl hc hs kk)
      · exact lv_tableIn (off := 1044) (tgt := 1076) C.x C.b dL_law_32 (by decide) (by decide) rfl (by decide) (lc_block C hX hbl hbA hin hw hI hl hc hs kk)
      · exact lv_tableIn (off := 1087) (tgt := 1119) C.x C.b dL_law_32 (by decide) (by decide) rfl (by decide) (lc_like C hX hbl hbA hin hw hI hl hc hs kk)
      · exact lv_tableIn (off := 1130) (tgt := 1162) C.x C.b dL_law_32 (by decide) (by decide) rfl (by decide) (lc_filled C hX hbl hbA hin hw hI hl hc hs kk)
      · exact lv_tableIn (off := 1153) (tgt := 1185) C.x C.b dL_law_32 (by decide) (by decide) rfl (by decide) (lc_empties C hX hbl hbA hin hw hI hl hc hs kk)
      · exact lv_tableIn (off := 1196) (tgt := 1228) C.x C.b dL_law_32 (by decide) (by decide) rfl (by decide) (lc_base C hX hbl hbA hin hw hI hl hc hs kk)
      · exact lv_tableIn (off := 1239) (tgt := 1271) C.x C.b dL_law_32 (by decide) (by decide) rfl (by decide) (lc_bits C hX hbl hbA hin hw hI hl hc hs kk)
      · exact lv_tableIn (off := 1282) (tgt := 1314) C.x C.b dL_law_32 (by decide) (by decide) rfl (by decide) (lc_bound C hX hbl hbA hin hw hI hl hc hs kk)
      · exact lv_tableIn (off := 1342) (tgt := 1374) C.x C.b dL_law_32 (by decide) (by decide) rfl (by decide) (lc_value C hX hbl hbA hin hw hI hl hc hs kk)
      · exact lv_tableIn (off := 1376) (tgt := 1408) C.x C.b dL_law_32 (by decide) (by decide) rfl (by decide) (lc_blockOf C hX hbl hbA hin hw hI hl hc hs kk)
      · exact lv_tableIn (off := 1409) (tgt := 1441) C.x C.b dL_law_32 (by decide) (by decide) rfl (by decide) (lc_read C hX hbl hbA hin hw hI hl hc hs kk)
      · exact lv_tableIn (off := 1442) (tgt := 1474) C.x C.b dL_law_32 (by decide) (by decide) rfl (by decide) (lc_patched C hX hbl hbA hin hw hI hl hc hs kk)
      · exact lv_tableIn (off := 1475) (tgt := 1507) C.x C.b dL_law_32 (by decide) (by decide) rfl (by decide) (lc_part C hX hbl hbA hin hw hI hl hc hs kk)
      · exact lv_tableIn (off := 1519) (tgt := 1551) C.x C.b dL_law_32 (by decide) (by decide) rfl (by decide) (lc_pending C hX hbl hbA hin hw hI hl hc hs kk)
      · exact lv_tableIn (off := 1543) (tgt := 1575) C.x C.b dL_law_32 (by decide) (by decide) rfl (by decide) (lc_total C hX hbl hbA hin hw hI hl hc hs kk)
      · exact lv_tableIn (off := 1576) (tgt := 1608) C.x C.b dL_law_32 (by decide) (by decide) rfl (by decide) (lc_best C hX hbl hbA hin hw hI hl hc hs kk)
      · exact lv_tableIn (off := 1599) (tgt := 1631) C.x C.b dL_law_32 (by decide) (by decide) rfl (by decide) (lc_narrow C hX hbl hbA hin hw hI hl hc hs kk)
      · exact lv_tableIn (off := 1632) (tgt := 1664) C.x C.b dL_law_32 (by decide) (by decide) rfl (by decide) (lc_least C hX hbl hbA hin hw hI hl hc hs kk)
      · exact lv_tableIn (off := 1655) (tgt := 1687) C.x C.b dL_law_32 (by decide) (by decide) rfl (by decide) (lc_cuts C hX hbl hbA hin hw hI hl hc hs kk)
      · exact lv_tableIn (off := 1688) (tgt := 1720) C.x C.b dL_law_32 (by decide) (by decide) rfl (by decide) (lc_evenly C hX hbl hbA hin hw hI hl hc hs kk)
      · exact lv_tableIn (off := 1721) (tgt := 1753) C.x C.b dL_law_32 (by decide) (by decide) rfl (by decide) (lc_evenest C hX hbl hbA hin hw hI hl hc hs kk)
      · exact lv_tableIn (off := 1744) (tgt := 1776) C.x C.b dL_law_32 (by decide) (by decide) rfl (by decide) (lc_heaviest C hX hbl hbA hin hw hI hl hc hs kk)
      · exact lv_tableIn (off := 1767) (tgt := 1799) C.x C.b dL_law_32 (by decide) (by decide) rfl (by decide) (lc_folded C hX hbl hbA hin hw hI hl hc hs kk)
      · exact lv_tableIn (off := 1791) (tgt := 1823) C.x C.b dL_law_32 (by decide) (by decide) rfl (by decide) (lc_difference C hX hbl hbA hin hw hI hl hc hs kk)
      · exact lv_tableIn (off := 1825) (tgt := 1857) C.x C.b dL_law_32 (by decide) (by decide) rfl (by decide) (lc_would C hX hbl hbA hin hw hI hl hc hs kk)
      · exact lv_tableIn (off := 1868) (tgt := 1900) C.x C.b dL_law_32 (by decide) (by decide) rfl (by decide) (lc_sorted C hX hbl hbA hin hw hI hl hc hs kk)
      · exact lv_tableIn (off := 1891) (tgt := 1923) C.x C.b dL_law_32 (by decide) (by decide) rfl (by decide) (lc_find C hX hbl hbA hin hw hI hl hc hs kk)
      · exact lv_tableIn (off := 1924) (tgt := 1956) C.x C.b dL_law_32 (by decide) (by decide) rfl (by decide) (lc_looks C hX hbl hbA hin hw hI hl hc hs kk)
      · exact lv_tableIn (off := 1957) (tgt := 1989) C.x C.b dL_law_32 (by decide) (by decide) rfl (by decide) (lc_sum C hX hbl hbA hin hw hI hl hc hs kk)
      · exact lv_tableIn (off := 2001) (tgt := 2033) C.x C.b dL_law_32 (by decide) (by decide) rfl (by decide) (lc_count C hX hbl hbA hin hw hI hl hc hs kk)
      · exact lv_tableIn (off := 2044) (tgt := 2076) C.x C.b dL_law_32 (by decide) (by decide) rfl (by decide) (lc_skipped C hX hbl hbA hin hw hI hl hc hs kk)
      · exact lv_tableIn (off := 2087) (tgt := 2119) C.x C.b dL_law_32 (by decide) (by decide) rfl (by decide) (lc_ranked C hX hbl hbA hin hw hI hl hc hs kk)
      · exact lv_tableIn (off := 2121) (tgt := 2153) C.x C.b dL_law_32 (by decide) (by decide) rfl (by decide) (lc_distinct C hX hbl hbA hin hw hI hl hc hs kk)
      · exact lv_tableIn (off := 2144) (tgt := 2176) C.x C.b dL_law_32 (by decide) (by decide) rfl (by decide) (lc_run C hX hbl hbA hin hw hI hl hc hs kk)
      · exact lv_tableIn (off := 2167) (tgt := 2199) C.x C.b dL_law_32 (by decide) (by decide) rfl (by decide) (lc_unlike C hX hbl hbA hin hw hI hl hc hs kk)
      · exact lv_tableIn (off := 2200) (tgt := 2232) C.x C.b dL_law_32 (by decide) (by decide) rfl (by decide) (lc_alike C hX hbl hbA hin hw hI hl hc hs kk)
      · exact lv_tableIn (off := 2233) (tgt := 2265) C.x C.b dL_law_32 (by decide) (by decide) rfl (by decide) (lc_ratio C hX hbl hbA hin hw hI hl hc hs kk)
      · exact lv_tableIn (off := 2257) (tgt := 2289) C.x C.b dL_law_32 (by decide) (by decide) rfl (by decide) (lc_image C hX hbl hbA hin hw hI hl hc hs kk)
      · exact lv_tableIn (off := 2270) (tgt := 2302) C.x C.b dL_law_32 (by decide) (by decide) rfl (by decide) (lc_back C hX hbl hbA hin hw hI hl hc hs kk)
      · exact lv_tableIn (off := 2283) (tgt := 2315) C.x C.b dL_law_32 (by decide) (by decide) rfl (by decide) (lc_about C hX hbl hbA hin hw hI hl hc hs kk)
      · have hn2 : (nI n).toInt = (n : Int) := nI_toInt (by omega)
        refine lv_tableOut (tgt := 2338) C.x C.b dL_law_32 (Or.inr (by rw [hn2]; omega)) (by decide) ?_
        exact kk W0 Φ 0 0 H locs hI hw (Nat.le_refl _) (Nat.zero_le _) (Nat.zero_le _)
