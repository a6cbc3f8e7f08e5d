set_option maxRecDepth 100000 in
set_option maxHeartbeats 4000000 in
theorem lc_put {D : va_G} {y : Nat → ClassId} {P h : Nat → Nat} {p : Program} {l : Launch} {e : Env} {s : State} {m : MethodId} {b : Nat} {below : List Frame} {meth : Method} {c : Code} {H : Heap} {locs : List Loc} {cells slots : Nat} {Q : State → Prop} {A : Nat → Prop} {cd : Cond} {ret : Option FieldType} {ls : Array Slot} {W0 : va_W} {Φ L k : Nat} {xs : Nat → Int32} (C : Cx D y p s m #[Value.ref b] meth c A RL cL_law cd ret 4) (hX : va_X b L xs s s.heap) (hbl : b < s.heap.size) (hbA : ¬ A b) (hin : ∀ j : Nat, j < 5 → vp_in (nI (5 * k) + nI j) L) (hw : St D A s H locs W0) (hI : INVW y P h W0 Φ) (hl : lv_has ls 4 [(0, .ref b), (1, .ref (P 0)), (2, .ref (h 0)), (3, .int (nI (5 * k)))]) (hc : cells + (16 + 16 * Φ) ≤ 600000) (hs : slots + (1200 + 999 * Φ) ≤ 7302249) (kk : LK D y P h p l e s m #[Value.ref b] below meth c A Q Φ cells slots ls) : W p l e room_1 s m #[Value.ref b] below meth c H locs cells slots Q (F0 m 308 ls []) := by
  obtain ⟨rr, mc, ms, Φ', h1, h2, h3, hM⟩ := call_put (l := l) (D := D) hI (xs (nI (5 * k) + 1).toNatClampNeg)
  refine lv_aload_n C.x C.b dL_law_308 rfl (lv_at hl 1 rfl) ?_
  refine lv_aload_n C.x C.b dL_law_309 rfl (lv_at hl 0 rfl) ?_
  refine lv_iload_n C.x C.b dL_law_310 rfl (lv_at hl 3 rfl) ?_
  refine lv_iconst (v := 1) C.x C.b dL_law_311 (by decide) ?_
  refine lv_iadd C.x C.b dL_law_312 ?_
  refine va_sld C.x C.b hX hbl hbA hw.2.2 (hin 1 (by decide)) dL_law_313 ?_
  refine lw_cI (As := [.int (xs (nI (5 * k) + 1).toNatClampNeg)]) (rest := []) (ci := 9) C hw hM hI.rcv rfl kw440 kw441 kw442 kw113 kw443 okX9_put ⟨Nat.le_of_ble_eq_true rfl, Nat.le_of_ble_eq_true rfl⟩ rfl hl.1 rfl (Nat.le_of_ble_eq_true rfl) dL_law_314 ⟨(show cells + mc ≤ 600000 by omega), (show slots + ms ≤ 7302249 by omega)⟩ (fun W1 H locs hM1 hw => ?_)
  refine lv_aload_n C.x C.b dL_law_317 rfl (lv_at hl 2 rfl) ?_
  refine lv_aload_n C.x C.b dL_law_318 rfl (lv_at hl 0 rfl) ?_
  refine lv_iload_n C.x C.b dL_law_319 rfl (lv_at hl 3 rfl) ?_
  refine lv_iconst (v := 1) C.x C.b dL_law_320 (by decide) ?_
  refine lv_iadd C.x C.b dL_law_321 ?_
  refine va_sld C.x C.b hX hbl hbA hw.2.2 (hin 1 (by decide)) dL_law_322 ?_
  refine lw_cI (As := [.int (xs (nI (5 * k) + 1).toNatClampNeg)]) (rest := [.int rr]) (ci := 10) C hw hM1.2 hM1.1 rfl kw1469 kw1470 kw1471 kw123 kw1472 okX10_put ⟨Nat.le_of_ble_eq_true rfl, Nat.le_of_ble_eq_true rfl⟩ rfl hl.1 rfl (Nat.le_of_ble_eq_true rfl) dL_law_323 ⟨(show cells + mc + 0 ≤ 600000 by omega), (show slots + ms + 0 ≤ 7302249 by omega)⟩ (fun W2 H locs hI1 hw => ?_)
  refine lv_icmp_eq (tgt := 2338) C.x C.b dL_law_326 (by decide) (fun c9 => ?_) (fun c9 => absurd rfl c9)
  exact kk W2 Φ' mc ms H locs hI1 hw h1 h2 h3
set_option maxRecDepth 100000 in
set_option maxHeartbeats 4000000 in
theorem lc_gap {D : va_G} {y : Nat → ClassId} {P h : Nat → Nat} {p : Program} {l : Launch} {e : Env} {s : State} {m : MethodId} {b : Nat} {below : List Frame} {meth : Method} {c : Code} {H : Heap} {locs : List Loc} {cells slots : Nat} {Q : State → Prop} {A : Nat → Prop} {cd : Cond} {ret : Option FieldType} {ls : Array Slot} {W0 : va_W} {Φ L k : Nat} {xs : Nat → Int32} (C : Cx D y p s m #[Value.ref b] meth c A RL cL_law cd ret 4) (hX : va_X b L xs s s.heap) (hbl : b < s.heap.size) (hbA : ¬ A b) (hin : ∀ j : Nat, j < 5 → vp_in (nI (5 * k) + nI j) L) (hw : St D A s H locs W0) (hI : INVW y P h W0 Φ) (hl : lv_has ls 4 [(0, .ref b), (1, .ref (P 0)), (2, .ref (h 0)), (3, .int (nI (5 * k)))]) (hc : cells + (16 + 16 * Φ) ≤ 600000) (hs : slots + (1200 + 999 * Φ) ≤ 7302249) (kk : LK D y P h p l e s m #[Value.ref b] below meth c A Q Φ cells slots ls) : W p l e room_1 s m #[Value.ref b] below meth c H locs cells slots Q (F0 m 331 ls []) := by
  obtain ⟨rr, mc, ms, Φ', h1, h2, h3, hM⟩ := call_gap (l := l) (D := D) hI 
  refine lv_aload_n C.x C.b dL_law_331 rfl (lv_at hl 1 rfl) ?_
  refine lw_cI (As := []) (rest := []) (ci := 9) C hw hM hI.rcv rfl kw452 kw453 kw454 kw113 kw455 okX9_gap ⟨Nat.le_of_ble_eq_true rfl, Nat.le_of_ble_eq_true rfl⟩ rfl hl.1 rfl (Nat.le_of_ble_eq_true rfl) dL_law_332 ⟨(show cells + mc ≤ 600000 by omega), (show slots + ms ≤ 7302249 by omega)⟩ (fun W1 H locs hM1 hw => ?_)
  refine lv_aload_n C.x C.b dL_law_335 rfl (lv_at hl 2 rfl) ?_
  refine lw_cI (As := []) (rest := [.int rr]) (ci := 10) C hw hM1.2 hM1.1 rfl kw1477 kw1478 kw1479 kw123 kw1480 okX10_gap ⟨Nat.le_of_ble_eq_true rfl, Nat.le_of_ble_eq_true rfl⟩ rfl hl.1 rfl (Nat.le_of_ble_eq_true rfl) dL_law_336 ⟨(show cells + mc + 0 ≤ 600000 by omega), (show slots + ms + 0 ≤ 7302249 by omega)⟩ (fun W2 H locs hI1 hw => ?_)
  refine lv_icmp_eq (tgt := 2338) C.x C.b dL_law_339 (by decide) (fun c9 => ?_) (fun c9 => absurd rfl c9)
  exact kk W2 Φ' mc ms H locs hI1 hw h1 h2 h3
set_option maxRecDepth 100000 in
set_option maxHeartbeats 4000000 in
theorem lc_forget {D : va_G} {y : Nat → ClassId} {P h : Nat → Nat} {p : Program} {l : Launch} {e : Env} {s : State} {m : MethodId} {b : Nat} {below : List Frame} {meth : Method} {c : Code} {H : Heap} {locs : List Loc} {cells slots : Nat} {Q : State → Prop} {A : Nat → Prop} {cd : Cond} {ret : Option FieldType} {ls : Array Slot} {W0 : va_W} {Φ L k : Nat} {xs : Nat → Int32} (C : Cx D y p s m #[Value.ref b] meth c A RL cL_law cd ret 4) (hX : va_X b L xs s s.heap) (hbl : b < s.heap.size) (hbA : ¬ A b) (hin : ∀ j : Nat, j < 5 → vp_in (nI (5 * k) + nI j) L) (hw : St D A s H locs W0) (hI : INVW y P h W0 Φ) (hl : lv_has ls 4 [(0, .ref b), (1, .ref (P 0)), (2, .ref (h 0)), (3, .int (nI (5 * k)))]) (hc : cells + (16 + 16 * Φ) ≤ 600000) (hs : slots + (1200 + 999 * Φ) ≤ 7302249) (kk : LK D y P h p l e s m #[Value.ref b] below meth c A Q Φ cells slots ls) : W p l e room_1 s m #[Value.ref b] below meth c H locs cells slots Q (F0 m 344 ls []) := by
  obtain ⟨rr, mc, ms, Φ', h1, h2, h3, hM⟩ := call_forget (l := l) (D := D) hI 
  refine lv_aload_n C.x C.b dL_law_344 rfl (lv_at hl 1 rfl) ?_
  refine lw_cI (As := []) (rest := []) (ci := 9) C hw hM hI.rcv rfl kw457 kw458 kw459 kw113 kw460 okX9_forget ⟨Nat.le_of_ble_eq_true rfl, Nat.le_of_ble_eq_true rfl⟩ rfl hl.1 rfl (Nat.le_of_ble_eq_true rfl) dL_law_345 ⟨(show cells + mc ≤ 600000 by omega), (show slots + ms ≤ 7302249 by omega)⟩ (fun W1 H locs hM1 hw => ?_)
  refine lv_aload_n C.x C.b dL_law_348 rfl (lv_at hl 2 rfl) ?_
  refine lw_cI (As := []) (rest := [.int rr]) (ci := 10) C hw hM1.2 hM1.1 rfl kw1481 kw1482 kw1483 kw123 kw1484 okX10_forget ⟨Nat.le_of_ble_eq_true rfl, Nat.le_of_ble_eq_true rfl⟩ rfl hl.1 rfl (Nat.le_of_ble_eq_true rfl) dL_law_349 ⟨(show cells + mc + 0 ≤ 600000 by omega), (show slots + ms + 0 ≤ 7302249 by omega)⟩ (fun W2 H locs hI1 hw => ?_)
  refine lv_icmp_eq (tgt := 2338) C.x C.b dL_law_352 (by decide) (fun c9 => ?_) (fun c9 => absurd rfl c9)
  exact kk W2 Φ' mc ms H locs hI1 hw h1 h2 h3
set_option maxRecDepth 100000 in
set_option maxHeartbeats 4000000 in
theorem lc_flush {D : va_G} {y : Nat → ClassId} {P h : Nat → Nat} {p : Program} {l : Launch} {e : Env} {s : State} {m : MethodId} {b : Nat} {below : List Frame} {meth : Method} {c : Code} {H : Heap} {locs : List Loc} {cells slots : Nat} {Q : State → Prop} {A : Nat → Prop} {cd : Cond} {ret : Option FieldType} {ls : Array Slot} {W0 : va_W} {Φ L k : Nat} {xs : Nat → Int32} (C : Cx D y p s m #[Value.ref b] meth c A RL cL_law cd ret 4) (hX : va_X b L xs s s.heap) (hbl : b < s.heap.size) (hbA : ¬ A b) (hin : ∀ j : Nat, j < 5 → vp_in (nI (5 * k) + nI j) L) (hw : St D A s H locs W0) (hI : INVW y P h W0 Φ) (hl : lv_has ls 4 [(0, .ref b), (1, .ref (P 0)), (2, .ref (h 0)), (3, .int (nI (5 * k)))]) (hc : cells + (16 + 16 * Φ) ≤ 600000) (hs : slots + (1200 + 999 * Φ) ≤ 7302249) (kk : LK D y P h p l e s m #[Value.ref b] below meth c A Q Φ cells slots ls) : W p l e room_1 s m #[Value.ref b] below meth c H locs cells slots Q (F0 m 357 ls []) := by
  obtain ⟨rr, mc, ms, Φ', h1, h2, h3, hM⟩ := call_flush (l := l) (D := D) hI (xs (nI (5 * k) + 1).toNatClampNeg)
  refine lv_aload_n C.x C.b dL_law_357 rfl (lv_at hl 1 rfl) ?_
  refine lv_aload_n C.x C.b dL_law_358 rfl (lv_at hl 0 rfl) ?_
  refine lv_iload_n C.x C.b dL_law_359 rfl (lv_at hl 3 rfl) ?_
  refine lv_iconst (v := 1) C.x C.b dL_law_360 (by decide) ?_
  refine lv_iadd C.x C.b dL_law_361 ?_
  refine va_sld C.x C.b hX hbl hbA hw.2.2 (hin 1 (by decide)) dL_law_362 ?_
  refine lw_cI (As := [.int (xs (nI (5 * k) + 1).toNatClampNeg)]) (rest := []) (ci := 9) C hw hM hI.rcv rfl kw461 kw462 kw463 kw113 kw464 okX9_flush ⟨Nat.le_of_ble_eq_true rfl, Nat.le_of_ble_eq_true rfl⟩ rfl hl.1 rfl (Nat.le_of_ble_eq_true rfl) dL_law_363 ⟨(show cells + mc ≤ 600000 by omega), (show slots + ms ≤ 7302249 by omega)⟩ (fun W1 H locs hM1 hw => ?_)
  refine lv_aload_n C.x C.b dL_law_366 rfl (lv_at hl 2 rfl) ?_
  refine lv_aload_n C.x C.b dL_law_367 rfl (lv_at hl 0 rfl) ?_
  refine lv_iload_n C.x C.b dL_law_368 rfl (lv_at hl 3 rfl) ?_
  refine lv_iconst (v := 1) C.x C.b dL_law_369 (by decide) ?_
  refine lv_iadd C.x C.b dL_law_370 ?_
  refine va_sld C.x C.b hX hbl hbA hw.2.2 (hin 1 (by decide)) dL_law_371 ?_
  refine lw_cI (As := [.int (xs (nI (5 * k) + 1).toNatClampNeg)]) (rest := [.int rr]) (ci := 10) C hw hM1.2 hM1.1 rfl kw1489 kw1490 kw1491 kw123 kw1492 okX10_flush ⟨Nat.le_of_ble_eq_true rfl, Nat.le_of_ble_eq_true rfl⟩ rfl hl.1 rfl (Nat.le_of_ble_eq_true rfl) dL_law_372 ⟨(show cells + mc + 0 ≤ 600000 by omega), (show slots + ms + 0 ≤ 7302249 by omega)⟩ (fun W2 H locs hI1 hw => ?_)
  refine lv_icmp_eq (tgt := 2338) C.x C.b dL_law_375 (by decide) (fun c9 => ?_) (fun c9 => absurd rfl c9)
  exact kk W2 Φ' mc ms H locs hI1 hw h1 h2 h3
set_option maxRecDepth 100000 in
set_option maxHeartbeats 4000000 in
theorem lc_set {D : va_G} {y : Nat → ClassId} {P h : Nat → Nat} {p : Program} {l : Launch} {e : Env} {s : State} {m : MethodId} {b : Nat} {below : List Frame} {meth : Method} {c : Code} {H : Heap} {locs : List Loc} {cells slots : Nat} {Q : State → Prop} {A : Nat → Prop} {cd : Cond} {ret : Option FieldType} {ls : Array Slot} {W0 : va_W} {Φ L k : Nat} {xs : Nat → Int32} (C : Cx D y p s m #[Value.ref b] meth c A RL cL_law cd ret 4) (hX : va_X b L xs s s.heap) (hbl : b < s.heap.size) (hbA : ¬ A b) (hin : ∀ j : Nat, j < 5 → vp_in (nI (5 * k) + nI j) L) (hw : St D A s H locs W0) (hI : INVW y P h W0 Φ) (hl : lv_has ls 4 [(0, .ref b), (1, .ref (P 0)), (2, .ref (h 0)), (3, .int (nI (5 * k)))]) (hc : cells + (16 + 16 * Φ) ≤ 600000) (hs : slots + (1200 + 999 * Φ) ≤ 7302249) (kk : LK D y P h p l e s m #[Value.ref b] below meth c A Q Φ cells slots ls) : W p l e room_1 s m #[Value.ref b] below meth c H locs cells slots Q (F0 m 380 ls []) := by
  obtain ⟨rr, mc, ms, Φ', h1, h2, h3, hM⟩ := call_set (l := l) (D := D) hI (xs (nI (5 * k) + 1).toNatClampNeg) (xs (nI (5 * k) + 2).toNatClampNeg) (xs (nI (5 * k) + 3).toNatClampNeg)
  refine lv_aload_n C.x C.b dL_law_380 rfl (lv_at hl 1 rfl) ?_
  refine lv_aload_n C.x C.b dL_law_381 rfl (lv_at hl 0 rfl) ?_
  refine lv_iload_n C.x C.b dL_law_382 rfl (lv_at hl 3 rfl) ?_
  refine lv_iconst (v := 1) C.x C.b dL_law_383 (by decide) ?_
  refine lv_iadd C.x C.b dL_law_384 ?_
  refine va_sld C.x C.b hX hbl hbA hw.2.2 (hin 1 (by decide)) dL_law_385 ?_
  refine lv_aload_n C.x C.b dL_law_386 rfl (lv_at hl 0 rfl) ?_
  refine lv_iload_n C.x C.b dL_law_387 rfl (lv_at hl 3 rfl) ?_
  refine lv_iconst (v := 2) C.x C.b dL_law_388 (by decide) ?_
  refine lv_iadd C.x C.b dL_law_389 ?_
  refine va_sld C.x C.b hX hbl hbA hw.2.2 (hin 2 (by decide)) dL_law_390 ?_
  refine lv_aload_n C.x C.b dL_law_391 rfl (lv_at hl 0 rfl) ?_
  refine lv_iload_n C.x C.b dL_law_392 rfl (lv_at hl 3 rfl) ?_
  refine lv_iconst (v := 3) C.x C.b dL_law_393 (by decide) ?_
  refine lv_iadd C.x C.b dL_law_394 ?_
  refine va_sld C.x C.b hX hbl hbA hw.2.2 (hin 3 (by decide)) dL_law_395 ?_
  refine lw_cI (As := [.int (xs (nI (5 * k) + 1).toNatClampNeg), .int (xs (nI (5 * k) + 2).toNatClampNeg), .int (xs (nI (5 * k) + 3).toNatClampNeg)]) (rest := []) (ci := 9) C hw hM hI.rcv rfl kw618 kw619 kw620 kw113 kw621 okX9_set ⟨Nat.le_of_ble_eq_true rfl, Nat.le_of_ble_eq_true rfl⟩ rfl hl.1 rfl (Nat.le_of_ble_eq_true rfl) dL_law_396 ⟨(show cells + mc ≤ 600000 by omega), (show slots + ms ≤ 7302249 by omega)⟩ (fun W1 H locs hM1 hw => ?_)
  refine lv_aload_n C.x C.b dL_law_399 rfl (lv_at hl 2 rfl) ?_
  refine lv_aload_n C.x C.b dL_law_400 rfl (lv_at hl 0 rfl) ?_
  refine lv_iload_n C.x C.b dL_law_401 rfl (lv_at hl 3 rfl) ?_
  refine lv_iconst (v := 1) C.x C.b dL_law_402 (by decide) ?_
  refine lv_iadd C.x C.b dL_law_403 ?_
  refine va_sld C.x C.b hX hbl hbA hw.2.2 (hin 1 (by decide)) dL_law_404 ?_
  refine lv_aload_n C.x C.b dL_law_405 rfl (lv_at hl 0 rfl) ?_
  refine lv_iload_n C.x C.b dL_law_406 rfl (lv_at hl 3 rfl) ?_
  refine lv_iconst (v := 2) C.x C.b dL_law_407 (by decide) ?_
  refine lv_iadd C.x C.b dL_law_408 ?_
  refine va_sld C.x C.b hX hbl hbA hw.2.2 (hin 2 (by decide)) dL_law_409 ?_
  refine lv_aload_n C.x C.b dL_law_410 rfl (lv_at hl 0 rfl) ?_
  refine lv_iload_n C.x C.b dL_law_411 rfl (lv_at hl 3 rfl) ?_
  refine lv_iconst (v := 3) C.x C.b dL_law_412 (by decide) ?_
  refine lv_iadd C.x C.b dL_law_413 ?_
  refine va_sld C.x C.b hX hbl hbA hw.2.2 (hin 3 (by decide)) dL_law_414 ?_
  refine lw_cI (As := [.int (xs (nI (5 * k) + 1).toNatClampNeg), .int (xs (nI (5 * k) + 2).toNatClampNeg), .int (xs (nI (5 * k) + 3).toNatClampNeg)]) (rest := [.int rr]) (ci := 10) C hw hM1.2 hM1.1 rfl kw1599 kw1600 kw1601 kw123 kw1602 okX10_set ⟨Nat.le_of_ble_eq_true rfl, Nat.le_of_ble_eq_true rfl⟩ rfl hl.1 rfl (Nat.le_of_ble_eq_true rfl) dL_law_415 ⟨(show cells + mc + 0 ≤ 600000 by omega), (show slots + ms + 0 ≤ 7302249 by omega)⟩ (fun W2 H locs hI1 hw => ?_)
  refine lv_icmp_eq (tgt := 2338) C.x C.b dL_law_418 (by decide) (fun c9 => ?_) (fun c9 => absurd rfl c9)
  exact kk W2 Φ' mc ms H locs hI1 hw h1 h2 h3
set_option maxRecDepth 100000 in
set_option maxHeartbeats 4000000 in
theorem lc_clear {D : va_G} {y : Nat → ClassId} {P h : Nat → Nat} {p : Program} {l : Launch} {e : Env} {s : State} {m : MethodId} {b : Nat} {below : List Frame} {meth : Method} {c : Code} {H : Heap} {locs : List Loc} {cells slots : Nat} {Q : State → Prop} {A : Nat → Prop} {cd : Cond} {ret : Option FieldType} {ls : Array Slot} {W0 : va_W} {Φ L k : Nat} {xs : Nat → Int32} (C : Cx D y p s m #[Value.ref b] meth c A RL cL_law cd ret 4) (hX : va_X b L xs s s.heap) (hbl : b < s.heap.size) (hbA : ¬ A b) (hin : ∀ j : Nat, j < 5 → vp_in (nI (5 * k) + nI j) L) (hw : St D A s H locs W0) (hI : INVW y P h W0 Φ) (hl : lv_has ls 4 [(0, .ref b), (1, .ref (P 0)), (2, .ref (h 0)), (3, .int (nI (5 * k)))]) (hc : cells + (16 + 16 * Φ) ≤ 600000) (hs : slots + (1200 + 999 * Φ) ≤ 7302249) (kk : LK D y P h p l e s m #[Value.ref b] below meth c A Q Φ cells slots ls) : W p l e room_1 s m #[Value.ref b] below meth c H locs cells slots Q (F0 m 423 ls []) := by
  obtain ⟨rr, mc, ms, Φ', h1, h2, h3, hM⟩ := call_clear (l := l) (D := D) hI (xs (nI (5 * k) + 1).toNatClampNeg) (xs (nI (5 * k) + 2).toNatClampNeg)
  refine lv_aload_n C.x C.b dL_law_423 rfl (lv_at hl 1 rfl) ?_
  refine lv_aload_n C.x C.b dL_law_424 rfl (lv_at hl 0 rfl) ?_
  refine lv_iload_n C.x C.b dL_law_425 rfl (lv_at hl 3 rfl) ?_
  refine lv_iconst (v := 1) C.x C.b dL_law_426 (by decide) ?_
  refine lv_iadd C.x C.b dL_law_427 ?_
  refine va_sld C.x C.b hX hbl hbA hw.2.2 (hin 1 (by decide)) dL_law_428 ?_
  refine lv_aload_n C.x C.b dL_law_429 rfl (lv_at hl 0 rfl) ?_
  refine lv_iload_n C.x C.b dL_law_430 rfl (lv_at hl 3 rfl) ?_
  refine lv_iconst (v := 2) C.x C.b dL_law_431 (by decide) ?_
  refine lv_iadd C.x C.b dL_law_432 ?_
  refine va_sld C.x C.b hX hbl hbA hw.2.2 (hin 2 (by decide)) dL_law_433 ?_
  refine lw_cI (As := [.int (xs (nI (5 * k) + 1).toNatClampNeg), .int (xs (nI (5 * k) + 2).toNatClampNeg)]) (rest := []) (ci := 9) C hw hM hI.rcv rfl kw641 kw642 kw643 kw113 kw644 okX9_clear ⟨Nat.le_of_ble_eq_true rfl, Nat.le_of_ble_eq_true rfl⟩ rfl hl.1 rfl (Nat.le_of_ble_eq_true rfl) dL_law_434 ⟨(show cells + mc ≤ 600000 by omega), (show slots + ms ≤ 7302249 by omega)⟩ (fun W1 H locs hM1 hw => ?_)
  refine lv_aload_n C.x C.b dL_law_437 rfl (lv_at hl 2 rfl) ?_
  refine lv_aload_n C.x C.b dL_law_438 rfl (lv_at hl 0 rfl) ?_
  refine lv_iload_n C.x C.b dL_law_439 rfl (lv_at hl 3 rfl) ?_
  refine lv_iconst (v := 1) C.x C.b dL_law_440 (by decide) ?_
  refine lv_iadd C.x C.b dL_law_441 ?_
  refine va_sld C.x C.b hX hbl hbA hw.2.2 (hin 1 (by decide)) dL_law_442 ?_
  refine lv_aload_n C.x C.b dL_law_443 rfl (lv_at hl 0 rfl) ?_
  refine lv_iload_n C.x C.b dL_law_444 rfl (lv_at hl 3 rfl) ?_
  refine lv_iconst (v := 2) C.x C.b dL_law_445 (by decide) ?_
  refine lv_iadd C.x C.b dL_law_446 ?_
  refine va_sld C.x C.b hX hbl hbA hw.2.2 (hin 2 (by decide)) dL_law_447 ?_
  refine lw_cI (As := [.int (xs (nI (5 * k) + 1).toNatClampNeg), .int (xs (nI (5 * k) + 2).toNatClampNeg)]) (rest := [.int rr]) (ci := 10) C hw hM1.2 hM1.1 rfl kw1615 kw1616 kw1617 kw123 kw1618 okX10_clear ⟨Nat.le_of_ble_eq_true rfl, Nat.le_of_ble_eq_true rfl⟩ rfl hl.1 rfl (Nat.le_of_ble_eq_true rfl) dL_law_448 ⟨(show cells + mc + 0 ≤ 600000 by omega), (show slots + ms + 0 ≤ 7302249 by omega)⟩ (fun W2 H locs hI1 hw => ?_)
  refine lv_icmp_eq (tgt := 2338) C.x C.b dL_law_451 (by decide) (fun c9 => ?_) (fun c9 => absurd rfl c9)
  exact kk W2 Φ' mc ms H locs hI1 hw h1 h2 h3
set_option maxRecDepth 100000 in
set_option maxHeartbeats 4000000 in
theorem lc_insert {D : va_G} {y : Nat → ClassId} {P h : Nat → Nat} {p : Program} {l : Launch} {e : Env} {s : State} {m : MethodId} {b : Nat} {below : List Frame} {meth : Method} {c : Code} {H : Heap} {locs : List Loc} {cells slots : Nat} {Q : State → Prop} {A : Nat → Prop} {cd : Cond} {ret : Option FieldType} {ls : Array Slot} {W0 : va_W} {Φ L k : Nat} {xs : Nat → Int32} (C : Cx D y p s m #[Value.ref b] meth c A RL cL_law cd ret 4) (hX : va_X b L xs s s.heap) (hbl : b < s.heap.size) (hbA : ¬ A b) (hin : ∀ j : Nat, j < 5 → vp_in (nI (5 * k) + nI j) L) (hw : St D A s H locs W0) (hI : INVW y P h W0 Φ) (hl : lv_has ls 4 [(0, .ref b), (1, .ref (P 0)), (2, .ref (h 0)), (3, .int (nI (5 * k)))]) (hc : cells + (16 + 16 * Φ) ≤ 600000) (hs : slots + (1200 + 999 * Φ) ≤ 7302249) (kk : LK D y P h p l e s m #[Value.ref b] below meth c A Q Φ cells slots ls) : W p l e room_1 s m #[Value.ref b] below meth c H locs cells slots Q (F0 m 456 ls []) := by
  obtain ⟨rr, mc, ms, Φ', h1, h2, h3, hM⟩ := call_insert (l := l) (D := D) hI (xs (nI (5 * k) + 1).toNatClampNeg) (xs (nI (5 * k) + 2).toNatClampNeg) (xs (nI (5 * k) + 3).toNatClampNeg)
  refine lv_aload_n C.x C.b dL_law_456 rfl (lv_at hl 1 rfl) ?_
  refine lv_aload_n C.x C.b dL_law_457 rfl (lv_at hl 0 rfl) ?_
  refine lv_iload_n C.x C.b dL_law_458 rfl (lv_at hl 3 rfl) ?_
  refine lv_iconst (v := 1) C.x C.b dL_law_459 (by decide) ?_
  refine lv_iadd C.x C.b dL_law_460 ?_
  refine va_sld C.x C.b hX hbl hbA hw.2.2 (hin 1 (by decide)) dL_law_461 ?_
  refine lv_aload_n C.x C.b dL_law_462 rfl (lv_at hl 0 rfl) ?_
  refine lv_iload_n C.x C.b dL_law_463 rfl (lv_at hl 3 rfl) ?_
  refine lv_iconst (v := 2) C.x C.b dL_law_464 (by decide) ?_
  refine lv_iadd C.x C.b dL_law_465 ?_
  refine va_sld C.x C.b hX hbl hbA hw.2.2 (hin 2 (by decide)) dL_law_466 ?_
  refine lv_aload_n C.x C.b dL_law_467 rfl (lv_at hl 0 rfl) ?_
  refine lv_iload_n C.x C.b dL_law_468 rfl (lv_at hl 3 rfl) ?_
  refine lv_iconst (v := 3) C.x C.b dL_law_469 (by decide) ?_
  refine lv_iadd C.x C.b dL_law_470 ?_
  refine va_sld C.x C.b hX hbl hbA hw.2.2 (hin 3 (by decide)) dL_law_471 ?_
  refine lw_cI (As := [.int (xs (nI (5 * k) + 1).toNatClampNeg), .int (xs (nI (5 * k) + 2).toNatClampNeg), .int (xs (nI (5 * k) + 3).toNatClampNeg)]) (rest := []) (ci := 9) C hw hM hI.rcv rfl kw645 kw646 kw647 kw113 kw648 okX9_insert ⟨Nat.le_of_ble_eq_true rfl, Nat.le_of_ble_eq_true rfl⟩ rfl hl.1 rfl (Nat.le_of_ble_eq_true rfl) dL_law_472 ⟨(show cells + mc ≤ 600000 by omega), (show slots + ms ≤ 7302249 by omega)⟩ (fun W1 H locs hM1 hw => ?_)
  refine lv_aload_n C.x C.b dL_law_475 rfl (lv_at hl 2 rfl) ?_
  refine lv_aload_n C.x C.b dL_law_476 rfl (lv_at hl 0 rfl) ?_
  refine lv_iload_n C.x C.b dL_law_477 rfl (lv_at hl 3 rfl) ?_
  refine lv_iconst (v := 1) C.x C.b dL_law_478 (by decide) ?_
  refine lv_iadd C.x C.b dL_law_479 ?_
  refine va_sld C.x C.b hX hbl hbA hw.2.2 (hin 1 (by decide)) dL_law_480 ?_
  refine lv_aload_n C.x C.b dL_law_481 rfl (lv_at hl 0 rfl) ?_
  refine lv_iload_n C.x C.b dL_law_482 rfl (lv_at hl 3 rfl) ?_
  refine lv_iconst (v := 2) C.x C.b dL_law_483 (by decide) ?_
  refine lv_iadd C.x C.b dL_law_484 ?_
  refine va_sld C.x C.b hX hbl hbA hw.2.2 (hin 2 (by decide)) dL_law_485 ?_
  refine lv_aload_n C.x C.b dL_law_486 rfl (lv_at hl 0 rfl) ?_
  refine lv_iload_n C.x C.b dL_law_487 rfl (lv_at hl 3 rfl) ?_
  refine lv_iconst (v := 3) C.x C.b dL_law_488 (by decide) ?_
  refine lv_iadd C.x C.b dL_law_489 ?_
  refine va_sld C.x C.b hX hbl hbA hw.2.2 (hin 3 (by decide)) dL_law_490 ?_
  refine lw_cI (As := [.int (xs (nI (5 * k) + 1).toNatClampNeg), .int (xs (nI (5 * k) + 2).toNatClampNeg), .int (xs (nI (5 * k) + 3).toNatClampNeg)]) (rest := [.int rr]) (ci := 10) C hw hM1.2 hM1.1 rfl kw1619 kw1620 kw1621 kw123 kw1622 okX10_insert ⟨Nat.le_of_ble_eq_true rfl, Nat.le_of_ble_eq_true rfl⟩ rfl hl.1 rfl (Nat.le_of_ble_eq_true rfl) dL_law_491 ⟨(show cells + mc + 0 ≤ 600000 by omega), (show slots + ms + 0 ≤ 7302249 by omega)⟩ (fun W2 H locs hI1 hw => ?_)
  refine lv_icmp_eq (tgt := 2338) C.x C.b dL_law_494 (by decide) (fun c9 => ?_) (fun c9 => absurd rfl c9)
  exact kk W2 Φ' mc ms H locs hI1 hw h1 h2 h3
set_option maxRecDepth 100000 in
set_option maxHeartbeats 4000000 in
theorem lc_remove {D : va_G} {y : Nat → ClassId} {P h : Nat → Nat} {p : Program} {l : Launch} {e : Env} {s : State} {m : MethodId} {b : Nat} {below : List Frame} {meth : Method} {c : Code} {H : Heap} {locs : List Loc} {cells slots : Nat} {Q : State → Prop} {A : Nat → Prop} {cd : Cond} {ret : Option FieldType} {ls : Array Slot} {W0 : va_W} {Φ L k : Nat} {xs : Nat → Int32} (C : Cx D y p s m #[Value.ref b] meth c A RL cL_law cd ret 4) (hX : va_X b L xs s s.heap) (hbl : b < s.heap.size) (hbA : ¬ A b) (hin : ∀ j : Nat, j < 5 → vp_in (nI (5 * k) + nI j) L) (hw : St D A s H locs W0) (hI : INVW y P h W0 Φ) (hl : lv_has ls 4 [(0, .ref b), (1, .ref (P 0)), (2, .ref (h 0)), (3, .int (nI (5 * k)))]) (hc : cells + (16 + 16 * Φ) ≤ 600000) (hs : slots + (1200 + 999 * Φ) ≤ 7302249) (kk : LK D y P h p l e s m #[Value.ref b] below meth c A Q Φ cells slots ls) : W p l e room_1 s m #[Value.ref b] below meth c H locs cells slots Q (F0 m 499 ls []) := by
  obtain ⟨rr, mc, ms, Φ', h1, h2, h3, hM⟩ := call_remove (l := l) (D := D) hI (xs (nI (5 * k) + 1).toNatClampNeg) (xs (nI (5 * k) + 2).toNatClampNeg)
  refine lv_aload_n C.x C.b dL_law_499 rfl (lv_at hl 1 rfl) ?_
  refine lv_aload_n C.x C.b dL_law_500 rfl (lv_at hl 0 rfl) ?_
  refine lv_iload_n C.x C.b dL_law_501 rfl (lv_at hl 3 rfl) ?_
  refine lv_iconst (v := 1) C.x C.b dL_law_502 (by decide) ?_
  refine lv_iadd C.x C.b dL_law_503 ?_
  refine va_sld C.x C.b hX hbl hbA hw.2.2 (hin 1 (by decide)) dL_law_504 ?_
  refine lv_aload_n C.x C.b dL_law_505 rfl (lv_at hl 0 rfl) ?_
  refine lv_iload_n C.x C.b dL_law_506 rfl (lv_at hl 3 rfl) ?_
  refine lv_iconst (v := 2) C.x C.b dL_law_507 (by decide) ?_
  refine lv_iadd C.x C.b dL_law_508 ?_
  refine va_sld C.x C.b hX hbl hbA hw.2.2 (hin 2 (by decide)) dL_law_509 ?_
  refine lw_cI (As := [.int (xs (nI (5 * k) + 1).toNatClampNeg), .int (xs (nI (5 * k) + 2).toNatClampNeg)]) (rest := []) (ci := 9) C hw hM hI.rcv rfl kw676 kw677 kw678 kw113 kw679 okX9_remove ⟨Nat.le_of_ble_eq_true rfl, Nat.le_of_ble_eq_true rfl⟩ rfl hl.1 rfl (Nat.le_of_ble_eq_true rfl) dL_law_510 ⟨(show cells + mc ≤ 600000 by omega), (show slots + ms ≤ 7302249 by omega)⟩ (fun W1 H locs hM1 hw => ?_)
  refine lv_aload_n C.x C.b dL_law_513 rfl (lv_at hl 2 rfl) ?_
  refine lv_aload_n C.x C.b dL_law_514 rfl (lv_at hl 0 rfl) ?_
  refine lv_iload_n C.x C.b dL_law_515 rfl (lv_at hl 3 rfl) ?_
  refine lv_iconst (v := 1) C.x C.b dL_law_516 (by decide) ?_
  refine lv_iadd C.x C.b dL_law_517 ?_
  refine va_sld C.x C.b hX hbl hbA hw.2.2 (hin 1 (by decide)) dL_law_518 ?_
  refine lv_aload_n C.x C.b dL_law_519 rfl (lv_at hl 0 rfl) ?_
  refine lv_iload_n C.x C.b dL_law_520 rfl (lv_at hl 3 rfl) ?_
  refine lv_iconst (v := 2) C.x C.b dL_law_521 (by decide) ?_
  refine lv_iadd C.x C.b dL_law_522 ?_
  refine va_sld C.x C.b hX hbl hbA hw.2.2 (hin 2 (by decide)) dL_law_523 ?_
  refine lw_cI (As := [.int (xs (nI (5 * k) + 1).toNatClampNeg), .int (xs (nI (5 * k) + 2).toNatClampNeg)]) (rest := [.int rr]) (ci := 10) C hw hM1.2 hM1.1 rfl kw1631 kw1632 kw1633 kw123 kw1634 okX10_remove ⟨Nat.le_of_ble_eq_true rfl, Nat.le_of_ble_eq_true rfl⟩ rfl hl.1 rfl (Nat.le_of_ble_eq_true rfl) dL_law_524 ⟨(show cells + mc + 0 ≤ 600000 by omega), (show slots + ms + 0 ≤ 7302249 by omega)⟩ (fun W2 H locs hI1 hw => ?_)
  refine lv_icmp_eq (tgt := 2338) C.x C.b dL_law_527 (by decide) (fun c9 => ?_) (fun c9 => absurd rfl c9)
  exact kk W2 Φ' mc ms H locs hI1 hw h1 h2 h3
set_option maxRecDepth 100000 in
set_option maxHeartbeats 4000000 in
theorem lc_split {D : va_G} {y : Nat → ClassId} {P h : Nat → Nat} {p : Program} {l : Launch} {e : Env} {s : State} {m : MethodId} {b : Nat} {below : List Frame} {meth : Method} {c : Code} {H : Heap} {locs : List Loc} {cells slots : Nat} {Q : State → Prop} {A : Nat → Prop} {cd : Cond} {ret : Option FieldType} {ls : Array Slot} {W0 : va_W} {Φ L k : Nat} {xs : Nat → Int32} (C : Cx D y p s m #[Value.ref b] meth c A RL cL_law cd ret 4) (hX : va_X b L xs s s.heap) (hbl : b < s.heap.size) (hbA : ¬ A b) (hin : ∀ j : Nat, j < 5 → vp_in (nI (5 * k) + nI j) L) (hw : St D A s H locs W0) (hI : INVW y P h W0 Φ) (hl : lv_has ls 4 [(0, .ref b), (1, .ref (P 0)), (2, .ref (h 0)), (3, .int (nI (5 * k)))]) (hc : cells + (16 + 16 * Φ) ≤ 600000) (hs : slots + (1200 + 999 * Φ) ≤ 7302249) (kk : LK D y P h p l e s m #[Value.ref b] below meth c A Q Φ cells slots ls) : W p l e room_1 s m #[Value.ref b] below meth c H locs cells slots Q (F0 m 532 ls []) := by
  obtain ⟨rr, mc, ms, Φ', h1, h2, h3, hM⟩ := call_split (l := l) (D := D) hI (xs (nI (5 * k) + 1).toNatClampNeg) (xs (nI (5 * k) + 2).toNatClampNeg) (xs (nI (5 * k) + 3).toNatClampNeg)
  refine lv_aload_n C.x C.b dL_law_532 rfl (lv_at hl 1 rfl) ?_
  refine lv_aload_n C.x C.b dL_law_533 rfl (lv_at hl 0 rfl) ?_
  refine lv_iload_n C.x C.b dL_law_534 rfl (lv_at hl 3 rfl) ?_
  refine lv_iconst (v := 1) C.x C.b dL_law_535 (by decide) ?_
  refine lv_iadd C.x C.b dL_law_536 ?_
  refine va_sld C.x C.b hX hbl hbA hw.2.2 (hin 1 (by decide)) dL_law_537 ?_
  refine lv_aload_n C.x C.b dL_law_538 rfl (lv_at hl 0 rfl) ?_
  refine lv_iload_n C.x C.b dL_law_539 rfl (lv_at hl 3 rfl) ?_
  refine lv_iconst (v := 2) C.x C.b dL_law_540 (by decide) ?_
  refine lv_iadd C.x C.b dL_law_541 ?_
  refine va_sld C.x C.b hX hbl hbA hw.2.2 (hin 2 (by decide)) dL_law_542 ?_
  refine lv_aload_n C.x C.b dL_law_543 rfl (lv_at hl 0 rfl) ?_
  refine lv_iload_n C.x C.b dL_law_544 rfl (lv_at hl 3 rfl) ?_
  refine lv_iconst (v := 3) C.x C.b dL_law_545 (by decide) ?_
  refine lv_iadd C.x C.b dL_law_546 ?_
  refine va_sld C.x C.b hX hbl hbA hw.2.2 (hin 3 (by decide)) dL_law_547 ?_
  refine lw_cI (As := [.int (xs (nI (5 * k) + 1).toNatClampNeg), .int (xs (nI (5 * k) + 2).toNatClampNeg), .int (xs (nI (5 * k) + 3).toNatClampNeg)]) (rest := []) (ci := 9) C hw hM hI.rcv rfl kw692 kw693 kw694 kw113 kw695 okX9_split ⟨Nat.le_of_ble_eq_true rfl, Nat.le_of_ble_eq_true rfl⟩ rfl hl.1 rfl (Nat.le_of_ble_eq_true rfl) dL_law_548 ⟨(show cells + mc ≤ 600000 by omega), (show slots + ms ≤ 7302249 by omega)⟩ (fun W1 H locs hM1 hw => ?_)
  refine lv_aload_n C.x C.b dL_law_551 rfl (lv_at hl 2 rfl) ?_
  refine lv_aload_n C.x C.b dL_law_552 rfl (lv_at hl 0 rfl) ?_
  refine lv_iload_n C.x C.b dL_law_553 rfl (lv_at hl 3 rfl) ?_
  refine lv_iconst (v := 1) C.x C.b dL_law_554 (by decide) ?_
  refine lv_iadd C.x C.b dL_law_555 ?_
  refine va_sld C.x C.b hX hbl hbA hw.2.2 (hin 1 (by decide)) dL_law_556 ?_
  refine lv_aload_n C.x C.b dL_law_557 rfl (lv_at hl 0 rfl) ?_
  refine lv_iload_n C.x C.b dL_law_558 rfl (lv_at hl 3 rfl) ?_
  refine lv_iconst (v := 2) C.x C.b dL_law_559 (by decide) ?_
  refine lv_iadd C.x C.b dL_law_560 ?_
  refine va_sld C.x C.b hX hbl hbA hw.2.2 (hin 2 (by decide)) dL_law_561 ?_
  refine lv_aload_n C.x C.b dL_law_562 rfl (lv_at hl 0 rfl) ?_
  refine lv_iload_n C.x C.b dL_law_563 rfl (lv_at hl 3 rfl) ?_
  refine lv_iconst (v := 3) C.x C.b dL_law_564 (by decide) ?_
  refine lv_iadd C.x C.b dL_law_565 ?_
  refine va_sld C.x C.b hX hbl hbA hw.2.2 (hin 3 (by decide)) dL_law_566 ?_
  refine lw_cI (As := [.int (xs (nI (5 * k) + 1).toNatClampNeg), .int (xs (nI (5 * k) + 2).toNatClampNeg), .int (xs (nI (5 * k) + 3).toNatClampNeg)]) (rest := [.int rr]) (ci := 10) C hw hM1.2 hM1.1 rfl kw1643 kw1644 kw1645 kw123 kw1646 okX10_split ⟨Nat.le_of_ble_eq_true rfl, Nat.le_of_ble_eq_true rfl⟩ rfl hl.1 rfl (Nat.le_of_ble_eq_true rfl) dL_law_567 ⟨(show cells + mc + 0 ≤ 600000 by omega), (show slots + ms + 0 ≤ 7302249 by omega)⟩ (fun W2 H locs hI1 hw => ?_)
  refine lv_icmp_eq (tgt := 2338) C.x C.b dL_law_570 (by decide) (fun c9 => ?_) (fun c9 => absurd rfl c9)
  exact kk W2 Φ' mc ms H locs hI1 hw h1 h2 h3
set_option maxRecDepth 100000 in
set_option maxHeartbeats 4000000 in
theorem lc_shift {D : va_G} {y : Nat → ClassId} {P h : Nat → Nat} {p : Program} {l : Launch} {e : Env} {s : State} {m : MethodId} {b : Nat} {below : List Frame} {meth : Method} {c : Code} {H : Heap} {locs : List Loc} {cells slots : Nat} {Q : State → Prop} {A : Nat → Prop} {cd : Cond} {ret : Option FieldType} {ls : Array Slot} {W0 : va_W} {Φ L k : Nat} {xs : Nat → Int32} (C : Cx D y p s m #[Value.ref b] meth c A RL cL_law cd ret 4) (hX : va_X b L xs s s.heap) (hbl : b < s.heap.size) (hbA : ¬ A b) (hin : ∀ j : Nat, j < 5 → vp_in (nI (5 * k) + nI j) L) (hw : St D A s H locs W0) (hI : INVW y P h W0 Φ) (hl : lv_has ls 4 [(0, .ref b), (1, .ref (P 0)), (2, .ref (h 0)), (3, .int (nI (5 * k)))]) (hc : cells + (16 + 16 * Φ) ≤ 600000) (hs : slots + (1200 + 999 * Φ) ≤ 7302249) (kk : LK D y P h p l e s m #[Value.ref b] below meth c A Q Φ cells slots ls) : W p l e room_1 s m #[Value.ref b] below meth c H locs cells slots Q (F0 m 575 ls []) := by
  obtain ⟨rr, mc, ms, Φ', h1, h2, h3, hM⟩ := call_shift (l := l) (D := D) hI (xs (nI (5 * k) + 1).toNatClampNeg) (xs (nI (5 * k) + 2).toNatClampNeg)
  refine lv_aload_n C.x C.b dL_law_575 rfl (lv_at hl 1 rfl) ?_
  refine lv_aload_n C.x C.b dL_law_576 rfl (lv_at hl 0 rfl) ?_
  refine lv_iload_n C.x C.b dL_law_577 rfl (lv_at hl 3 rfl) ?_
  refine lv_iconst (v := 1) C.x C.b dL_law_578 (by decide) ?_
  refine lv_iadd C.x C.b dL_law_579 ?_
  refine va_sld C.x C.b hX hbl hbA hw.2.2 (hin 1 (by decide)) dL_law_580 ?_
  refine lv_aload_n C.x C.b dL_law_581 rfl (lv_at hl 0 rfl) ?_
  refine lv_iload_n C.x C.b dL_law_582 rfl (lv_at hl 3 rfl) ?_
  refine lv_iconst (v := 2) C.x C.b dL_law_583 (by decide) ?_
  refine lv_iadd C.x C.b dL_law_584 ?_
  refine va_sld C.x C.b hX hbl hbA hw.2.2 (hin 2 (by decide)) dL_law_585 ?_
  refine lw_cI (As := [.int (xs (nI (5 * k) + 1).toNatClampNeg), .int (xs (nI (5 * k) + 2).toNatClampNeg)]) (rest := []) (ci := 9) C hw hM hI.rcv rfl kw697 kw698 kw699 kw113 kw700 okX9_shift ⟨Nat.le_of_ble_eq_true rfl, Nat.le_of_ble_eq_true rfl⟩ rfl hl.1 rfl (Nat.le_of_ble_eq_true rfl) dL_law_586 ⟨(show cells + mc ≤ 600000 by omega), (show slots + ms ≤ 7302249 by omega)⟩ (fun W1 H locs hM1 hw => ?_)
  refine lv_aload_n C.x C.b dL_law_589 rfl (lv_at hl 2 rfl) ?_
  refine lv_aload_n C.x C.b dL_law_590 rfl (lv_at hl 0 rfl) ?_
  refine lv_iload_n C.x C.b dL_law_591 rfl (lv_at hl 3 rfl) ?_
  refine lv_iconst (v := 1) C.x C.b dL_law_592 (by decide) ?_
  refine lv_iadd C.x C.b dL_law_593 ?_
  refine va_sld C.x C.b hX hbl hbA hw.2.2 (hin 1 (by decide)) dL_law_594 ?_
  refine lv_aload_n C.x C.b dL_law_595 rfl (lv_at hl 0 rfl) ?_
  refine lv_iload_n C.x C.b dL_law_596 rfl (lv_at hl 3 rfl) ?_
  refine lv_iconst (v := 2) C.x C.b dL_law_597 (by decide) ?_
  refine lv_iadd C.x C.b dL_law_598 ?_
  refine va_sld C.x C.b hX hbl hbA hw.2.2 (hin 2 (by decide)) dL_law_599 ?_
  refine lw_cI (As := [.int (xs (nI (5 * k) + 1).toNatClampNeg), .int (xs (nI (5 * k) + 2).toNatClampNeg)]) (rest := [.int rr]) (ci := 10) C hw hM1.2 hM1.1 rfl kw1651 kw1652 kw1653 kw123 kw1654 okX10_shift ⟨Nat.le_of_ble_eq_true rfl, Nat.le_of_ble_eq_true rfl⟩ rfl hl.1 rfl (Nat.le_of_ble_eq_true rfl) dL_law_600 ⟨(show cells + mc + 0 ≤ 600000 by omega), (show slots + ms + 0 ≤ 7302249 by omega)⟩ (fun W2 H locs hI1 hw => ?_)
  refine lv_icmp_eq (tgt := 2338) C.x C.b dL_law_603 (by decide) (fun c9 => ?_) (fun c9 => absurd rfl c9)
  exact kk W2 Φ' mc ms H locs hI1 hw h1 h2 h3
set_option maxRecDepth 100000 in
set_option maxHeartbeats 4000000 in
theorem lc_merge {D : va_G} {y : Nat → ClassId} {P h : Nat → Nat} {p : Program} {l : Launch} {e : Env} {s : State} {m : MethodId} {b : Nat} {below : List Frame} {meth : Method} {c : Code} {H : Heap} {locs : List Loc} {cells slots : Nat} {Q : State → Prop} {A : Nat → Prop} {cd : Cond} {ret : Option FieldType} {ls : Array Slot} {W0 : va_W} {Φ L k : Nat} {xs : Nat → Int32} (C : Cx D y p s m #[Value.ref b] meth c A RL cL_law cd ret 4) (hX : va_X b L xs s s.heap) (hbl : b < s.heap.size) (hbA : ¬ A b) (hin : ∀ j : Nat, j < 5 → vp_in (nI (5 * k) + nI j) L) (hw : St D A s H locs W0) (hI : INVW y P h W0 Φ) (hl : lv_has ls 4 [(0, .ref b), (1, .ref (P 0)), (2, .ref (h 0)), (3, .int (nI (5 * k)))]) (hc : cells + (16 + 16 * Φ) ≤ 600000) (hs : slots + (1200 + 999 * Φ) ≤ 7302249) (kk : LK D y P h p l e s m #[Value.ref b] below meth c A Q Φ cells slots ls) : W p l e room_1 s m #[Value.ref b] below meth c H locs cells slots Q (F0 m 608 ls []) := by
  obtain ⟨rr, mc, ms, Φ', h1, h2, h3, hM⟩ := call_merge (l := l) (D := D) hI (xs (nI (5 * k) + 1).toNatClampNeg) (xs (nI (5 * k) + 2).toNatClampNeg) (xs (nI (5 * k) + 3).toNatClampNeg)
  refine lv_aload_n C.x C.b dL_law_608 rfl (lv_at hl 1 rfl) ?_
  refine lv_aload_n C.x C.b dL_law_609 rfl (lv_at hl 0 rfl) ?_
  refine lv_iload_n C.x C.b dL_law_610 rfl (lv_at hl 3 rfl) ?_
  refine lv_iconst (v := 1) C.x C.b dL_law_611 (by decide) ?_
  refine lv_iadd C.x C.b dL_law_612 ?_
  refine va_sld C.x C.b hX hbl hbA hw.2.2 (hin 1 (by decide)) dL_law_613 ?_
  refine lv_aload_n C.x C.b dL_law_614 rfl (lv_at hl 0 rfl) ?_
  refine lv_iload_n C.x C.b dL_law_615 rfl (lv_at hl 3 rfl) ?_
  refine lv_iconst (v := 2) C.x C.b dL_law_616 (by decide) ?_
  refine lv_iadd C.x C.b dL_law_617 ?_
  refine va_sld C.x C.b hX hbl hbA hw.2.2 (hin 2 (by decide)) dL_law_618 ?_
  refine lv_aload_n C.x C.b dL_law_619 rfl (lv_at hl 0 rfl) ?_
  refine lv_iload_n C.x C.b dL_law_620 rfl (lv_at hl 3 rfl) ?_
  refine lv_iconst (v := 3) C.x C.b dL_law_621 (by decide) ?_
  refine lv_iadd C.x C.b dL_law_622 ?_
  refine va_sld C.x C.b hX hbl hbA hw.2.2 (hin 3 (by decide)) dL_law_623 ?_
  refine lw_cI (As := [.int (xs (nI (5 * k) + 1).toNatClampNeg), .int (xs (nI (5 * k) + 2).toNatClampNeg), .int (xs (nI (5 * k) + 3).toNatClampNeg)]) (rest := []) (ci := 9) C hw hM hI.rcv rfl kw710 kw711 kw712 kw113 kw713 okX9_merge ⟨Nat.le_of_ble_eq_true rfl, Nat.le_of_ble_eq_true rfl⟩ rfl hl.1 rfl (Nat.le_of_ble_eq_true rfl) dL_law_624 ⟨(show cells + mc ≤ 600000 by omega), (show slots + ms ≤ 7302249 by omega)⟩ (fun W1 H locs hM1 hw => ?_)
  refine lv_aload_n C.x C.b dL_law_627 rfl (lv_at hl 2 rfl) ?_
  refine lv_aload_n C.x C.b dL_law_628 rfl (lv_at hl 0 rfl) ?_
  refine lv_iload_n C.x C.b dL_law_629 rfl (lv_at hl 3 rfl) ?_
  refine lv_iconst (v := 1) C.x C.b dL_law_630 (by decide) ?_
  refine lv_iadd C.x C.b dL_law_631 ?_
  refine va_sld C.x C.b hX hbl hbA hw.2.2 (hin 1 (by decide)) dL_law_632 ?_
  refine lv_aload_n C.x C.b dL_law_633 rfl (lv_at hl 0 rfl) ?_
  refine lv_iload_n C.x C.b dL_law_634 rfl (lv_at hl 3 rfl) ?_
  refine lv_iconst (v := 2) C.x C.b dL_law_635 (by decide) ?_
  refine lv_iadd C.x C.b dL_law_636 ?_
  refine va_sld C.x C.b hX hbl hbA hw.2.2 (hin 2 (by decide)) dL_law_637 ?_
  refine lv_aload_n C.x C.b dL_law_638 rfl (lv_at hl 0 rfl) ?_
  refine lv_iload_n C.x C.b dL_law_639 rfl (lv_at hl 3 rfl) ?_
  refine lv_iconst (v := 3) C.x C.b dL_law_640 (by decide) ?_
  refine lv_iadd C.x C.b dL_law_641 ?_
  refine va_sld C.x C.b hX hbl hbA hw.2.2 (hin 3 (by decide)) dL_law_642 ?_
  refine lw_cI (As := [.int (xs (nI (5 * k) + 1).toNatClampNeg), .int (xs (nI (5 * k) + 2).toNatClampNeg), .int (xs (nI (5 * k) + 3).toNatClampNeg)]) (rest := [.int rr]) (ci := 10) C hw hM1.2 hM1.1 rfl kw1674 kw1675 kw1676 kw123 kw1677 okX10_merge ⟨Nat.le_of_ble_eq_true rfl, Nat.le_of_ble_eq_true rfl⟩ rfl hl.1 rfl (Nat.le_of_ble_eq_true rfl) dL_law_643 ⟨(show cells + mc + 0 ≤ 600000 by omega), (show slots + ms + 0 ≤ 7302249 by omega)⟩ (fun W2 H locs hI1 hw => ?_)
  refine lv_icmp_eq (tgt := 2338) C.x C.b dL_law_646 (by decide) (fun c9 => ?_) (fun c9 => absurd rfl c9)
  exact kk W2 Φ' mc ms H locs hI1 hw h1 h2 h3
set_option maxRecDepth 100000 in
set_option maxHeartbeats 4000000 in
theorem lc_copy {D : va_G} {y : Nat → ClassId} {P h : Nat → Nat} {p : Program} {l : Launch} {e : Env} {s : State} {m : MethodId} {b : Nat} {below : List Frame} {meth : Method} {c : Code} {H : Heap} {locs : List Loc} {cells slots : Nat} {Q : State → Prop} {A : Nat → Prop} {cd : Cond} {ret : Option FieldType} {ls : Array Slot} {W0 : va_W} {Φ L k : Nat} {xs : Nat → Int32} (C : Cx D y p s m #[Value.ref b] meth c A RL cL_law cd ret 4) (hX : va_X b L xs s s.heap) (hbl : b < s.heap.size) (hbA : ¬ A b) (hin : ∀ j : Nat, j < 5 → vp_in (nI (5 * k) + nI j) L) (hw : St D A s H locs W0) (hI : INVW y P h W0 Φ) (hl : lv_has ls 4 [(0, .ref b), (1, .ref (P 0)), (2, .ref (h 0)), (3, .int (nI (5 * k)))]) (hc : cells + (16 + 16 * Φ) ≤ 600000) (hs : slots + (1200 + 999 * Φ) ≤ 7302249) (kk : LK D y P h p l e s m #[Value.ref b] below meth c A Q Φ cells slots ls) : W p l e room_1 s m #[Value.ref b] below meth c H locs cells slots Q (F0 m 651 ls []) := by
  obtain ⟨rr, mc, ms, Φ', h1, h2, h3, hM⟩ := call_copy (l := l) (D := D) hI (xs (nI (5 * k) + 1).toNatClampNeg) (xs (nI (5 * k) + 2).toNatClampNeg) (xs (nI (5 * k) + 3).toNatClampNeg) (xs (nI (5 * k) + 4).toNatClampNeg)
  refine lv_aload_n C.x C.b dL_law_651 rfl (lv_at hl 1 rfl) ?_
  refine lv_aload_n C.x C.b dL_law_652 rfl (lv_at hl 0 rfl) ?_
  refine lv_iload_n C.x C.b dL_law_653 rfl (lv_at hl 3 rfl) ?_
  refine lv_iconst (v := 1) C.x C.b dL_law_654 (by decide) ?_
  refine lv_iadd C.x C.b dL_law_655 ?_
  refine va_sld C.x C.b hX hbl hbA hw.2.2 (hin 1 (by decide)) dL_law_656 ?_
  refine lv_aload_n C.x C.b dL_law_657 rfl (lv_at hl 0 rfl) ?_
  refine lv_iload_n C.x C.b dL_law_658 rfl (lv_at hl 3 rfl) ?_
  refine lv_iconst (v := 2) C.x C.b dL_law_659 (by decide) ?_
  refine lv_iadd C.x C.b dL_law_660 ?_
  refine va_sld C.x C.b hX hbl hbA hw.2.2 (hin 2 (by decide)) dL_law_661 ?_
  refine lv_aload_n C.x C.b dL_law_662 rfl (lv_at hl 0 rfl) ?_
  refine lv_iload_n C.x C.b dL_law_663 rfl (lv_at hl 3 rfl) ?_
  refine lv_iconst (v := 3) C.x C.b dL_law_664 (by decide) ?_
  refine lv_iadd C.x C.b dL_law_665 ?_
  refine va_sld C.x C.b hX hbl hbA hw.2.2 (hin 3 (by decide)) dL_law_666 ?_
  refine lv_aload_n C.x C.b dL_law_667 rfl (lv_at hl 0 rfl) ?_
  refine lv_iload_n C.x C.b dL_law_668 rfl (lv_at hl 3 rfl) ?_
  refine lv_iconst (v := 4) C.x C.b dL_law_669 (by decide) ?_
  refine lv_iadd C.x C.b dL_law_670 ?_
  refine va_sld C.x C.b hX hbl hbA hw.2.2 (hin 4 (by decide)) dL_law_671 ?_
  refine lw_cI (As := [.int (xs (nI (5 * k) + 1).toNatClampNeg), .int (xs (nI (5 * k) + 2).toNatClampNeg), .int (xs (nI (5 * k) + 3).toNatClampNeg), .int (xs (nI (5 * k) + 4).toNatClampNeg)]) (rest := []) (ci := 9) C hw hM hI.rcv rfl kw735 kw736 kw737 kw113 kw738 okX9_copy ⟨Nat.le_of_ble_eq_true rfl, Nat.le_of_ble_eq_true rfl⟩ rfl hl.1 rfl (Nat.le_of_ble_eq_true rfl) dL_law_672 ⟨(show cells + mc ≤ 600000 by omega), (show slots + ms ≤ 7302249 by omega)⟩ (fun W1 H locs hM1 hw => ?_)
  refine lv_aload_n C.x C.b dL_law_675 rfl (lv_at hl 2 rfl) ?_
  refine lv_aload_n C.x C.b dL_law_676 rfl (lv_at hl 0 rfl) ?_
  refine lv_iload_n C.x C.b dL_law_677 rfl (lv_at hl 3 rfl) ?_
  refine lv_iconst (v := 1) C.x C.b dL_law_678 (by decide) ?_
  refine lv_iadd C.x C.b dL_law_679 ?_
  refine va_sld C.x C.b hX hbl hbA hw.2.2 (hin 1 (by decide)) dL_law_680 ?_
  refine lv_aload_n C.x C.b dL_law_681 rfl (lv_at hl 0 rfl) ?_
  refine lv_iload_n C.x C.b dL_law_682 rfl (lv_at hl 3 rfl) ?_
  refine lv_iconst (v := 2) C.x C.b dL_law_683 (by decide) ?_
  refine lv_iadd C.x C.b dL_law_684 ?_
  refine va_sld C.x C.b hX hbl hbA hw.2.2 (hin 2 (by decide)) dL_law_685 ?_
  refine lv_aload_n C.x C.b dL_law_686 rfl (lv_at hl 0 rfl) ?_
  refine lv_iload_n C.x C.b dL_law_687 rfl (lv_at hl 3 rfl) ?_
  refine lv_iconst (v := 3) C.x C.b dL_law_688 (by decide) ?_
  refine lv_iadd C.x C.b dL_law_689 ?_
  refine va_sld C.x C.b hX hbl hbA hw.2.2 (hin 3 (by decide)) dL_law_690 ?_
  refine lv_aload_n C.x C.b dL_law_691 rfl (lv_at hl 0 rfl) ?_
  refine lv_iload_n C.x C.b dL_law_692 rfl (lv_at hl 3 rfl) ?_
  refine lv_iconst (v := 4) C.x C.b dL_law_693 (by decide) ?_
  refine lv_iadd C.x C.b dL_law_694 ?_
  refine va_sld C.x C.b hX hbl hbA hw.2.2 (hin 4 (by decide)) dL_law_695 ?_
  refine lw_cI (As := [.int (xs (nI (5 * k) + 1).toNatClampNeg), .int (xs (nI (5 * k) + 2).toNatClampNeg), .int (xs (nI (5 * k) + 3).toNatClampNeg), .int (xs (nI (5 * k) + 4).toNatClampNeg)]) (rest := [.int rr]) (ci := 10) C hw hM1.2 hM1.1 rfl kw1659 kw1660 kw1661 kw123 kw1662 okX10_copy ⟨Nat.le_of_ble_eq_true rfl, Nat.le_of_ble_eq_true rfl⟩ rfl hl.1 rfl (Nat.le_of_ble_eq_true rfl) dL_law_696 ⟨(show cells + mc + 0 ≤ 600000 by omega), (show slots + ms + 0 ≤ 7302249 by omega)⟩ (fun W2 H locs hI1 hw => ?_)
  refine lv_icmp_eq (tgt := 2338) C.x C.b dL_law_699 (by decide) (fun c9 => ?_) (fun c9 => absurd rfl c9)
  exact kk W2 Φ' mc ms H locs hI1 hw h1 h2 h3
set_option maxRecDepth 100000 in
set_option maxHeartbeats 4000000 in
theorem lc_swap {D : va_G} {y : Nat → ClassId} {P h : Nat → Nat} {p : Program} {l : Launch} {e : Env} {s : State} {m : MethodId} {b : Nat} {below : List Frame} {meth : Method} {c : Code} {H : Heap} {locs : List Loc} {cells slots : Nat} {Q : State → Prop} {A : Nat → Prop} {cd : Cond} {ret : Option FieldType} {ls : Array Slot} {W0 : va_W} {Φ L k : Nat} {xs : Nat → Int32} (C : Cx D y p s m #[Value.ref b] meth c A RL cL_law cd ret 4) (hX : va_X b L xs s s.heap) (hbl : b < s.heap.size) (hbA : ¬ A b) (hin : ∀ j : Nat, j < 5 → vp_in (nI (5 * k) + nI j) L) (hw : St D A s H locs W0) (hI : INVW y P h W0 Φ) (hl : lv_has ls 4 [(0, .ref b), (1, .ref (P 0)), (2, .ref (h 0)), (3, .int (nI (5 * k)))]) (hc : cells + (16 + 16 * Φ) ≤ 600000) (hs : slots + (1200 + 999 * Φ) ≤ 7302249) (kk : LK D y P h p l e s m #[Value.ref b] below meth c A Q Φ cells slots ls) : W p l e room_1 s m #[Value.ref b] below meth c H locs cells slots Q (F0 m 704 ls []) := by
  obtain ⟨rr, mc, ms, Φ', h1, h2, h3, hM⟩ := call_swap (l := l) (D := D) hI (xs (nI (5 * k) + 1).toNatClampNeg) (xs (nI (5 * k) + 2).toNatClampNeg)
  refine lv_aload_n C.x C.b dL_law_704 rfl (lv_at hl 1 rfl) ?_
  refine lv_aload_n C.x C.b dL_law_705 rfl (lv_at hl 0 rfl) ?_
  refine lv_iload_n C.x C.b dL_law_706 rfl (lv_at hl 3 rfl) ?_
  refine lv_iconst (v := 1) C.x C.b dL_law_707 (by decide) ?_
  refine lv_iadd C.x C.b dL_law_708 ?_
  refine va_sld C.x C.b hX hbl hbA hw.2.2 (hin 1 (by decide)) dL_law_709 ?_
  refine lv_aload_n C.x C.b dL_law_710 rfl (lv_at hl 0 rfl) ?_
  refine lv_iload_n C.x C.b dL_law_711 rfl (lv_at hl 3 rfl) ?_
  refine lv_iconst (v := 2) C.x C.b dL_law_712 (by decide) ?_
  refine lv_iadd C.x C.b dL_law_713 ?_
  refine va_sld C.x C.b hX hbl hbA hw.2.2 (hin 2 (by decide)) dL_law_714 ?_
  refine lw_cI (As := [.int (xs (nI (5 * k) + 1).toNatClampNeg), .int (xs (nI (5 * k) + 2).toNatClampNeg)]) (rest := []) (ci := 9) C hw hM hI.rcv rfl kw746 kw747 kw748 kw113 kw749 okX9_swap ⟨Nat.le_of_ble_eq_true rfl, Nat.le_of_ble_eq_true rfl⟩ rfl hl.1 rfl (Nat.le_of_ble_eq_true rfl) dL_law_715 ⟨(show cells + mc ≤ 600000 by omega), (show slots + ms ≤ 7302249 by omega)⟩ (fun W1 H locs hM1 hw => ?_)
  refine lv_aload_n C.x C.b dL_law_718 rfl (lv_at hl 2 rfl) ?_
  refine lv_aload_n C.x C.b dL_law_719 rfl (lv_at hl 0 rfl) ?_
  refine lv_iload_n C.x C.b dL_law_720 rfl (lv_at hl 3 rfl) ?_
  refine lv_iconst (v := 1) C.x C.b dL_law_721 (by decide) ?_
  refine lv_iadd C.x C.b dL_law_722 ?_
  refine va_sld C.x C.b hX hbl hbA hw.2.2 (hin 1 (by decide)) dL_law_723 ?_
  refine lv_aload_n C.x C.b dL_law_724 rfl (lv_at hl 0 rfl) ?_
  refine lv_iload_n C.x C.b dL_law_725 rfl (lv_at hl 3 rfl) ?_
  refine lv_iconst (v := 2) C.x C.b dL_law_726 (by decide) ?_
  refine lv_iadd C.x C.b dL_law_727 ?_
  refine va_sld C.x C.b hX hbl hbA hw.2.2 (hin 2 (by decide)) dL_law_728 ?_
  refine lw_cI (As := [.int (xs (nI (5 * k) + 1).toNatClampNeg), .int (xs (nI (5 * k) + 2).toNatClampNeg)]) (rest := [.int rr]) (ci := 10) C hw hM1.2 hM1.1 rfl kw1670 kw1671 kw1672 kw123 kw1673 okX10_swap ⟨Nat.le_of_ble_eq_true rfl, Nat.le_of_ble_eq_true rfl⟩ rfl hl.1 rfl (Nat.le_of_ble_eq_true rfl) dL_law_729 ⟨(show cells + mc + 0 ≤ 600000 by omega), (show slots + ms + 0 ≤ 7302249 by omega)⟩ (fun W2 H locs hI1 hw => ?_)
  refine lv_icmp_eq (tgt := 2338) C.x C.b dL_law_732 (by decide) (fun c9 => ?_) (fun c9 => absurd rfl c9)
  exact kk W2 Φ' mc ms H locs hI1 hw h1 h2 h3
set_option maxRecDepth 100000 in
set_option maxHeartbeats 4000000 in
theorem lc_drop {D : va_G} {y : Nat → ClassId} {P h : Nat → Nat} {p : Program} {l : Launch} {e : Env} {s : State} {m : MethodId} {b : Nat} {below : List Frame} {meth : Method} {c : Code} {H : Heap} {locs : List Loc} {cells slots : Nat} {Q : State → Prop} {A : Nat → Prop} {cd : Cond} {ret : Option FieldType} {ls : Array Slot} {W0 : va_W} {Φ L k : Nat} {xs : Nat → Int32} (C : Cx D y p s m #[Value.ref b] meth c A RL cL_law cd ret 4) (hX : va_X b L xs s s.heap) (hbl : b < s.heap.size) (hbA : ¬ A b) (hin : ∀ j : Nat, j < 5 → vp_in (nI (5 * k) + nI j) L) (hw : St D A s H locs W0) (hI : INVW y P h W0 Φ) (hl : lv_has ls 4 [(0, .ref b), (1, .ref (P 0)), (2, .ref (h 0)), (3, .int (nI (5 * k)))]) (hc : cells + (16 + 16 * Φ) ≤ 600000) (hs : slots + (1200 + 999 * Φ) ≤ 7302249) (kk : LK D y P h p l e s m #[Value.ref b] below meth c A Q Φ cells slots ls) : W p l e room_1 s m #[Value.ref b] below meth c H locs cells slots Q (F0 m 737 ls []) := by
  obtain ⟨rr, mc, ms, Φ', h1, h2, h3, hM⟩ := call_drop (l := l) (D := D) hI (xs (nI (5 * k) + 1).toNatClampNeg) (xs (nI (5 * k) + 2).toNatClampNeg)
  refine lv_aload_n C.x C.b dL_law_737 rfl (lv_at hl 1 rfl) ?_
  refine lv_aload_n C.x C.b dL_law_738 rfl (lv_at hl 0 rfl) ?_
  refine lv_iload_n C.x C.b dL_law_739 rfl (lv_at hl 3 rfl) ?_
  refine lv_iconst (v := 1) C.x C.b dL_law_740 (by decide) ?_
  refine lv_iadd C.x C.b dL_law_741 ?_
  refine va_sld C.x C.b hX hbl hbA hw.2.2 (hin 1 (by decide)) dL_law_742 ?_
  refine lv_aload_n C.x C.b dL_law_743 rfl (lv_at hl 0 rfl) ?_
  refine lv_iload_n C.x C.b dL_law_744 rfl (lv_at hl 3 rfl) ?_
  refine lv_iconst (v := 2) C.x C.b dL_law_745 (by decide) ?_
  refine lv_iadd C.x C.b dL_law_746 ?_
  refine va_sld C.x C.b hX hbl hbA hw.2.2 (hin 2 (by decide)) dL_law_747 ?_
  refine lw_cI (As := [.int (xs (nI (5 * k) + 1).toNatClampNeg), .int (xs (nI (5 * k) + 2).toNatClampNeg)]) (rest := []) (ci := 9) C hw hM hI.rcv rfl kw754 kw755 kw756 kw113 kw757 okX9_drop ⟨Nat.le_of_ble_eq_true rfl, Nat.le_of_ble_eq_true rfl⟩ rfl hl.1 rfl (Nat.le_of_ble_eq_true rfl) dL_law_748 ⟨(show cells + mc ≤ 600000 by omega), (show slots + ms ≤ 7302249 by omega)⟩ (fun W1 H locs hM1 hw => ?_)
  refine lv_aload_n C.x C.b dL_law_751 rfl (lv_at hl 2 rfl) ?_
  refine lv_aload_n C.x C.b dL_law_752 rfl (lv_at hl 0 rfl) ?_
  refine lv_iload_n C.x C.b dL_law_753 rfl (lv_at hl 3 rfl) ?_
  refine lv_iconst (v := 1) C.x C.b dL_law_754 (by decide) ?_
  refine lv_iadd C.x C.b dL_law_755 ?_
  refine va_sld C.x C.b hX hbl hbA hw.2.2 (hin 1 (by decide)) dL_law_756 ?_
  refine lv_aload_n C.x C.b dL_law_757 rfl (lv_at hl 0 rfl) ?_
  refine lv_iload_n C.x C.b dL_law_758 rfl (lv_at hl 3 rfl) ?_
  refine lv_iconst (v := 2) C.x C.b dL_law_759 (by decide) ?_
  refine lv_iadd C.x C.b dL_law_760 ?_
  refine va_sld C.x C.b hX hbl hbA hw.2.2 (hin 2 (by decide)) dL_law_761 ?_
  refine lw_cI (As := [.int (xs (nI (5 * k) + 1).toNatClampNeg), .int (xs (nI (5 * k) + 2).toNatClampNeg)]) (rest := [.int rr]) (ci := 10) C hw hM1.2 hM1.1 rfl kw1694 kw1695 kw1696 kw123 kw1697 okX10_drop ⟨Nat.le_of_ble_eq_true rfl, Nat.le_of_ble_eq_true rfl⟩ rfl hl.1 rfl (Nat.le_of_ble_eq_true rfl) dL_law_762 ⟨(show cells + mc + 0 ≤ 600000 by omega), (show slots + ms + 0 ≤ 7302249 by omega)⟩ (fun W2 H locs hI1 hw => ?_)
  refine lv_icmp_eq (tgt := 2338) C.x C.b dL_law_765 (by decide) (fun c9 => ?_) (fun c9 => absurd rfl c9)
  exact kk W2 Φ' mc ms H locs hI1 hw h1 h2 h3
set_option maxRecDepth 100000 in
set_option maxHeartbeats 4000000 in
theorem lc_join {D : va_G} {y : Nat → ClassId} {P h : Nat → Nat} {p : Program} {l : Launch} {e : Env} {s : State} {m : MethodId} {b : Nat} {below : List Frame} {meth : Method} {c : Code} {H : Heap} {locs : List Loc} {cells slots : Nat} {Q : State → Prop} {A : Nat → Prop} {cd : Cond} {ret : Option FieldType} {ls : Array Slot} {W0 : va_W} {Φ L k : Nat} {xs : Nat → Int32} (C : Cx D y p s m #[Value.ref b] meth c A RL cL_law cd ret 4) (hX : va_X b L xs s s.heap) (hbl : b < s.heap.size) (hbA : ¬ A b) (hin : ∀ j : Nat, j < 5 → vp_in (nI (5 * k) + nI j) L) (hw : St D A s H locs W0) (hI : INVW y P h W0 Φ) (hl : lv_has ls 4 [(0, .ref b), (1, .ref (P 0)), (2, .ref (h 0)), (3, .int (nI (5 * k)))]) (hc : cells + (16 + 16 * Φ) ≤ 600000) (hs : slots + (1200 + 999 * Φ) ≤ 7302249) (kk : LK D y P h p l e s m #[Value.ref b] below meth c A Q Φ cells slots ls) : W p l e room_1 s m #[Value.ref b] below meth c H locs cells slots Q (F0 m 770 ls []) := by
  obtain ⟨rr, mc, ms, Φ', h1, h2, h3, hM⟩ := call_join (l := l) (D := D) hI (xs (nI (5 * k) + 1).toNatClampNeg)
  refine lv_aload_n C.x C.b dL_law_770 rfl (lv_at hl 1 rfl) ?_
  refine lv_aload_n C.x C.b dL_law_771 rfl (lv_at hl 0 rfl) ?_
  refine lv_iload_n C.x C.b dL_law_772 rfl (lv_at hl 3 rfl) ?_
  refine lv_iconst (v := 1) C.x C.b dL_law_773 (by decide) ?_
  refine lv_iadd C.x C.b dL_law_774 ?_
  refine va_sld C.x C.b hX hbl hbA hw.2.2 (hin 1 (by decide)) dL_law_775 ?_
  refine lw_cI (As := [.int (xs (nI (5 * k) + 1).toNatClampNeg)]) (rest := []) (ci := 9) C hw hM hI.rcv rfl kw763 kw764 kw765 kw113 kw766 okX9_join ⟨Nat.le_of_ble_eq_true rfl, Nat.le_of_ble_eq_true rfl⟩ rfl hl.1 rfl (Nat.le_of_ble_eq_true rfl) dL_law_776 ⟨(show cells + mc ≤ 600000 by omega), (show slots + ms ≤ 7302249 by omega)⟩ (fun W1 H locs hM1 hw => ?_)
  refine lv_aload_n C.x C.b dL_law_779 rfl (lv_at hl 2 rfl) ?_
  refine lv_aload_n C.x C.b dL_law_780 rfl (lv_at hl 0 rfl) ?_
  refine lv_iload_n C.x C.b dL_law_781 rfl (lv_at hl 3 rfl) ?_
  refine lv_iconst (v := 1) C.x C.b dL_law_782 (by decide) ?_
  refine lv_iadd C.x C.b dL_law_783 ?_
  refine va_sld C.x C.b hX hbl hbA hw.2.2 (hin 1 (by decide)) dL_law_784 ?_
  refine lw_cI (As := [.int (xs (nI (5 * k) + 1).toNatClampNeg)]) (rest := [.int rr]) (ci := 10) C hw hM1.2 hM1.1 rfl kw1698 kw1699 kw1700 kw123 kw1701 okX10_join ⟨Nat.le_of_ble_eq_true rfl, Nat.le_of_ble_eq_true rfl⟩ rfl hl.1 rfl (Nat.le_of_ble_eq_true rfl) dL_law_785 ⟨(show cells + mc + 0 ≤ 600000 by omega), (show slots + ms + 0 ≤ 7302249 by omega)⟩ (fun W2 H locs hI1 hw => ?_)
  refine lv_icmp_eq (tgt := 2338) C.x C.b dL_law_788 (by decide) (fun c9 => ?_) (fun c9 => absurd rfl c9)
  exact kk W2 Φ' mc ms H locs hI1 hw h1 h2 h3
set_option maxRecDepth 100000 in
set_option maxHeartbeats 4000000 in
theorem lc_recut {D : va_G} {y : Nat → ClassId} {P h : Nat → Nat} {p : Program} {l : Launch} {e : Env} {s : State} {m : MethodId} {b : Nat} {below : List Frame} {meth : Method} {c : Code} {H : Heap} {locs : List Loc} {cells slots : Nat} {Q : State → Prop} {A : Nat → Prop} {cd : Cond} {ret : Option FieldType} {ls : Array Slot} {W0 : va_W} {Φ L k : Nat} {xs : Nat → Int32} (C : Cx D y p s m #[Value.ref b] meth c A RL cL_law cd ret 4) (hX : va_X b L xs s s.heap) (hbl : b < s.heap.size) (hbA : ¬ A b) (hin : ∀ j : Nat, j < 5 → vp_in (nI (5 * k) + nI j) L) (hw : St D A s H locs W0) (hI : INVW y P h W0 Φ) (hl : lv_has ls 4 [(0, .ref b), (1, .ref (P 0)), (2, .ref (h 0)), (3, .int (nI (5 * k)))]) (hc : cells + (16 + 16 * Φ) ≤ 600000) (hs : slots + (1200 + 999 * Φ) ≤ 7302249) (kk : LK D y P h p l e s m #[Value.ref b] below meth c A Q Φ cells slots ls) : W p l e room_1 s m #[Value.ref b] below meth c H locs cells slots Q (F0 m 793 ls []) := by
  obtain ⟨rr, mc, ms, Φ', h1, h2, h3, hM⟩ := call_recut (l := l) (D := D) hI (xs (nI (5 * k) + 1).toNatClampNeg)
  refine lv_aload_n C.x C.b dL_law_793 rfl (lv_at hl 1 rfl) ?_
  refine lv_aload_n C.x C.b dL_law_794 rfl (lv_at hl 0 rfl) ?_
  refine lv_iload_n C.x C.b dL_law_795 rfl (lv_at hl 3 rfl) ?_
  refine lv_iconst (v := 1) C.x C.b dL_law_796 (by decide) ?_
  refine lv_iadd C.x C.b dL_law_797 ?_
  refine va_sld C.x C.b hX hbl hbA hw.2.2 (hin 1 (by decide)) dL_law_798 ?_
  refine lw_cI (As := [.int (xs (nI (5 * k) + 1).toNatClampNeg)]) (rest := []) (ci := 9) C hw hM hI.rcv rfl kw775 kw776 kw777 kw113 kw778 okX9_recut ⟨Nat.le_of_ble_eq_true rfl, Nat.le_of_ble_eq_true rfl⟩ rfl hl.1 rfl (Nat.le_of_ble_eq_true rfl) dL_law_799 ⟨(show cells + mc ≤ 600000 by omega), (show slots + ms ≤ 7302249 by omega)⟩ (fun W1 H locs hM1 hw => ?_)
  refine lv_aload_n C.x C.b dL_law_802 rfl (lv_at hl 2 rfl) ?_
  refine lv_aload_n C.x C.b dL_law_803 rfl (lv_at hl 0 rfl) ?_
  refine lv_iload_n C.x C.b dL_law_804 rfl (lv_at hl 3 rfl) ?_
  refine lv_iconst (v := 1) C.x C.b dL_law_805 (by decide) ?_
  refine lv_iadd C.x C.b dL_law_806 ?_
  refine va_sld C.x C.b hX hbl hbA hw.2.2 (hin 1 (by decide)) dL_law_807 ?_
  refine lw_cI (As := [.int (xs (nI (5 * k) + 1).toNatClampNeg)]) (rest := [.int rr]) (ci := 10) C hw hM1.2 hM1.1 rfl kw1710 kw1711 kw1712 kw123 kw1713 okX10_recut ⟨Nat.le_of_ble_eq_true rfl, Nat.le_of_ble_eq_true rfl⟩ rfl hl.1 rfl (Nat.le_of_ble_eq_true rfl) dL_law_808 ⟨(show cells + mc + 0 ≤ 600000 by omega), (show slots + ms + 0 ≤ 7302249 by omega)⟩ (fun W2 H locs hI1 hw => ?_)
  refine lv_icmp_eq (tgt := 2338) C.x C.b dL_law_811 (by decide) (fun c9 => ?_) (fun c9 => absurd rfl c9)
  exact kk W2 Φ' mc ms H locs hI1 hw h1 h2 h3
set_option maxRecDepth 100000 in
set_option maxHeartbeats 4000000 in
theorem lc_walk {D : va_G} {y : Nat → ClassId} {P h : Nat → Nat} {p : Program} {l : Launch} {e : Env} {s : State} {m : MethodId} {b : Nat} {below : List Frame} {meth : Method} {c : Code} {H : Heap} {locs : List Loc} {cells slots : Nat} {Q : State → Prop} {A : Nat → Prop} {cd : Cond} {ret : Option FieldType} {ls : Array Slot} {W0 : va_W} {Φ L k : Nat} {xs : Nat → Int32} (C : Cx D y p s m #[Value.ref b] meth c A RL cL_law cd ret 4) (hX : va_X b L xs s s.heap) (hbl : b < s.heap.size) (hbA : ¬ A b) (hin : ∀ j : Nat, j < 5 → vp_in (nI (5 * k) + nI j) L) (hw : St D A s H locs W0) (hI : INVW y P h W0 Φ) (hl : lv_has ls 4 [(0, .ref b), (1, .ref (P 0)), (2, .ref (h 0)), (3, .int (nI (5 * k)))]) (hc : cells + (16 + 16 * Φ) ≤ 600000) (hs : slots + (1200 + 999 * Φ) ≤ 7302249) (kk : LK D y P h p l e s m #[Value.ref b] below meth c A Q Φ cells slots ls) : W p l e room_1 s m #[Value.ref b] below meth c H locs cells slots Q (F0 m 816 ls []) := by
  obtain ⟨rr, mc, ms, Φ', h1, h2, h3, hM⟩ := call_walk (l := l) (D := D) hI (xs (nI (5 * k) + 1).toNatClampNeg) (xs (nI (5 * k) + 2).toNatClampNeg) (xs (nI (5 * k) + 3).toNatClampNeg) (xs (nI (5 * k) + 4).toNatClampNeg)
  refine lv_aload_n C.x C.b dL_law_816 rfl (lv_at hl 1 rfl) ?_
  refine lv_aload_n C.x C.b dL_law_817 rfl (lv_at hl 0 rfl) ?_
  refine lv_iload_n C.x C.b dL_law_818 rfl (lv_at hl 3 rfl) ?_
  refine lv_iconst (v := 1) C.x C.b dL_law_819 (by decide) ?_
  refine lv_iadd C.x C.b dL_law_820 ?_
  refine va_sld C.x C.b hX hbl hbA hw.2.2 (hin 1 (by decide)) dL_law_821 ?_
  refine lv_aload_n C.x C.b dL_law_822 rfl (lv_at hl 0 rfl) ?_
  refine lv_iload_n C.x C.b dL_law_823 rfl (lv_at hl 3 rfl) ?_
  refine lv_iconst (v := 2) C.x C.b dL_law_824 (by decide) ?_
  refine lv_iadd C.x C.b dL_law_825 ?_
  refine va_sld C.x C.b hX hbl hbA hw.2.2 (hin 2 (by decide)) dL_law_826 ?_
  refine lv_aload_n C.x C.b dL_law_827 rfl (lv_at hl 0 rfl) ?_
  refine lv_iload_n C.x C.b dL_law_828 rfl (lv_at hl 3 rfl) ?_
  refine lv_iconst (v := 3) C.x C.b dL_law_829 (by decide) ?_
  refine lv_iadd C.x C.b dL_law_830 ?_
  refine va_sld C.x C.b hX hbl hbA hw.2.2 (hin 3 (by decide)) dL_law_831 ?_
  refine lv_aload_n C.x C.b dL_law_832 rfl (lv_at hl 0 rfl) ?_
  refine lv_iload_n C.x C.b dL_law_833 rfl (lv_at hl 3 rfl) ?_
  refine lv_iconst (v := 4) C.x C.b dL_law_834 (by decide) ?_
  refine lv_iadd C.x C.b dL_law_835 ?_
  refine va_sld C.x C.b hX hbl hbA hw.2.2 (hin 4 (by decide)) dL_law_836 ?_
  refine lw_cI (As := [.int (xs (nI (5 * k) + 1).toNatClampNeg), .int (xs (nI (5 * k) + 2).toNatClampNeg), .int (xs (nI (5 * k) + 3).toNatClampNeg), .int (xs (nI (5 * k) + 4).toNatClampNeg)]) (rest := []) (ci := 9) C hw hM hI.rcv rfl kw826 kw827 kw828 kw113 kw829 okX9_walk ⟨Nat.le_of_ble_eq_true rfl, Nat.le_of_ble_eq_true rfl⟩ rfl hl.1 rfl (Nat.le_of_ble_eq_true rfl) dL_law_837 ⟨(show cells + mc ≤ 600000 by omega), (show slots + ms ≤ 7302249 by omega)⟩ (fun W1 H locs hM1 hw => ?_)
  refine lv_aload_n C.x C.b dL_law_840 rfl (lv_at hl 2 rfl) ?_
  refine lv_aload_n C.x C.b dL_law_841 rfl (lv_at hl 0 rfl) ?_
  refine lv_iload_n C.x C.b dL_law_842 rfl (lv_at hl 3 rfl) ?_
  refine lv_iconst (v := 1) C.x C.b dL_law_843 (by decide) ?_
  refine lv_iadd C.x C.b dL_law_844 ?_
  refine va_sld C.x C.b hX hbl hbA hw.2.2 (hin 1 (by decide)) dL_law_845 ?_
  refine lv_aload_n C.x C.b dL_law_846 rfl (lv_at hl 0 rfl) ?_
  refine lv_iload_n C.x C.b dL_law_847 rfl (lv_at hl 3 rfl) ?_
  refine lv_iconst (v := 2) C.x C.b dL_law_848 (by decide) ?_
  refine lv_iadd C.x C.b dL_law_849 ?_
  refine va_sld C.x C.b hX hbl hbA hw.2.2 (hin 2 (by decide)) dL_law_850 ?_
  refine lv_aload_n C.x C.b dL_law_851 rfl (lv_at hl 0 rfl) ?_
  refine lv_iload_n C.x C.b dL_law_852 rfl (lv_at hl 3 rfl) ?_
  refine lv_iconst (v := 3) C.x C.b dL_law_853 (by decide) ?_
  refine lv_iadd C.x C.b dL_law_854 ?_
  refine va_sld C.x C.b hX hbl hbA hw.2.2 (hin 3 (by decide)) dL_law_855 ?_
  refine lv_aload_n C.x C.b dL_law_856 rfl (lv_at hl 0 rfl) ?_
  refine lv_iload_n C.x C.b dL_law_857 rfl (lv_at hl 3 rfl) ?_
  refine lv_iconst (v := 4) C.x C.b dL_law_858 (by decide) ?_
  refine lv_iadd C.x C.b dL_law_859 ?_
  refine va_sld C.x C.b hX hbl hbA hw.2.2 (hin 4 (by decide)) dL_law_860 ?_
  refine lw_cI (As := [.int (xs (nI (5 * k) + 1).toNatClampNeg), .int (xs (nI (5 * k) + 2).toNatClampNeg), .int (xs (nI (5 * k) + 3).toNatClampNeg), .int (xs (nI (5 * k) + 4).toNatClampNeg)]) (rest := [.int rr]) (ci := 10) C hw hM1.2 hM1.1 rfl kw1726 kw1727 kw1728 kw123 kw1729 okX10_walk ⟨Nat.le_of_ble_eq_true rfl, Nat.le_of_ble_eq_true rfl⟩ rfl hl.1 rfl (Nat.le_of_ble_eq_true rfl) dL_law_861 ⟨(show cells + mc + 0 ≤ 600000 by omega), (show slots + ms + 0 ≤ 7302249 by omega)⟩ (fun W2 H locs hI1 hw => ?_)
  refine lv_icmp_eq (tgt := 2338) C.x C.b dL_law_864 (by decide) (fun c9 => ?_) (fun c9 => absurd rfl c9)
  exact kk W2 Φ' mc ms H locs hI1 hw h1 h2 h3
set_option maxRecDepth 100000 in
set_option maxHeartbeats 4000000 in
theorem lc_tell {D : va_G} {y : Nat → ClassId} {P h : Nat → Nat} {p : Program} {l : Launch} {e : Env} {s : State} {m : MethodId} {b : Nat} {below : List Frame} {meth : Method} {c : Code} {H : Heap} {locs : List Loc} {cells slots : Nat} {Q : State → Prop} {A : Nat → Prop} {cd : Cond} {ret : Option FieldType} {ls : Array Slot} {W0 : va_W} {Φ L k : Nat} {xs : Nat → Int32} (C : Cx D y p s m #[Value.ref b] meth c A RL cL_law cd ret 4) (hX : va_X b L xs s s.heap) (hbl : b < s.heap.size) (hbA : ¬ A b) (hin : ∀ j : Nat, j < 5 → vp_in (nI (5 * k) + nI j) L) (hw : St D A s H locs W0) (hI : INVW y P h W0 Φ) (hl : lv_has ls 4 [(0, .ref b), (1, .ref (P 0)), (2, .ref (h 0)), (3, .int (nI (5 * k)))]) (hc : cells + (16 + 16 * Φ) ≤ 600000) (hs : slots + (1200 + 999 * Φ) ≤ 7302249) (kk : LK D y P h p l e s m #[Value.ref b] below meth c A Q Φ cells slots ls) : W p l e room_1 s m #[Value.ref b] below meth c H locs cells slots Q (F0 m 869 ls []) := by
  obtain ⟨rr, mc, ms, Φ', h1, h2, h3, hM⟩ := call_tell (l := l) (D := D) hI (xs (nI (5 * k) + 1).toNatClampNeg)
  refine lv_aload_n C.x C.b dL_law_869 rfl (lv_at hl 1 rfl) ?_
  refine lv_aload_n C.x C.b dL_law_870 rfl (lv_at hl 0 rfl) ?_
  refine lv_iload_n C.x C.b dL_law_871 rfl (lv_at hl 3 rfl) ?_
  refine lv_iconst (v := 1) C.x C.b dL_law_872 (by decide) ?_
  refine lv_iadd C.x C.b dL_law_873 ?_
  refine va_sld C.x C.b hX hbl hbA hw.2.2 (hin 1 (by decide)) dL_law_874 ?_
  refine lw_cI (As := [.int (xs (nI (5 * k) + 1).toNatClampNeg)]) (rest := []) (ci := 9) C hw hM hI.rcv rfl kw836 kw837 kw838 kw113 kw839 okX9_tell ⟨Nat.le_of_ble_eq_true rfl, Nat.le_of_ble_eq_true rfl⟩ rfl hl.1 rfl (Nat.le_of_ble_eq_true rfl) dL_law_875 ⟨(show cells + mc ≤ 600000 by omega), (show slots + ms ≤ 7302249 by omega)⟩ (fun W1 H locs hM1 hw => ?_)
  refine lv_aload_n C.x C.b dL_law_878 rfl (lv_at hl 2 rfl) ?_
  refine lv_aload_n C.x C.b dL_law_879 rfl (lv_at hl 0 rfl) ?_
  refine lv_iload_n C.x C.b dL_law_880 rfl (lv_at hl 3 rfl) ?_
  refine lv_iconst (v := 1) C.x C.b dL_law_881 (by decide) ?_
  refine lv_iadd C.x C.b dL_law_882 ?_
  refine va_sld C.x C.b hX hbl hbA hw.2.2 (hin 1 (by decide)) dL_law_883 ?_
  refine lw_cI (As := [.int (xs (nI (5 * k) + 1).toNatClampNeg)]) (rest := [.int rr]) (ci := 10) C hw hM1.2 hM1.1 rfl kw1735 kw1736 kw1737 kw123 kw1738 okX10_tell ⟨Nat.le_of_ble_eq_true rfl, Nat.le_of_ble_eq_true rfl⟩ rfl hl.1 rfl (Nat.le_of_ble_eq_true rfl) dL_law_884 ⟨(show cells + mc + 0 ≤ 600000 by omega), (show slots + ms + 0 ≤ 7302249 by omega)⟩ (fun W2 H locs hI1 hw => ?_)
  refine lv_icmp_eq (tgt := 2338) C.x C.b dL_law_887 (by decide) (fun c9 => ?_) (fun c9 => absurd rfl c9)
  exact kk W2 Φ' mc ms H locs hI1 hw h1 h2 h3
set_option maxRecDepth 100000 in
set_option maxHeartbeats 4000000 in
theorem lc_word {D : va_G} {y : Nat → ClassId} {P h : Nat → Nat} {p : Program} {l : Launch} {e : Env} {s : State} {m : MethodId} {b : Nat} {below : List Frame} {meth : Method} {c : Code} {H : Heap} {locs : List Loc} {cells slots : Nat} {Q : State → Prop} {A : Nat → Prop} {cd : Cond} {ret : Option FieldType} {ls : Array Slot} {W0 : va_W} {Φ L k : Nat} {xs : Nat → Int32} (C : Cx D y p s m #[Value.ref b] meth c A RL cL_law cd ret 4) (hX : va_X b L xs s s.heap) (hbl : b < s.heap.size) (hbA : ¬ A b) (hin : ∀ j : Nat, j < 5 → vp_in (nI (5 * k) + nI j) L) (hw : St D A s H locs W0) (hI : INVW y P h W0 Φ) (hl : lv_has ls 4 [(0, .ref b), (1, .ref (P 0)), (2, .ref (h 0)), (3, .int (nI (5 * k)))]) (hc : cells + (16 + 16 * Φ) ≤ 600000) (hs : slots + (1200 + 999 * Φ) ≤ 7302249) (kk : LK D y P h p l e s m #[Value.ref b] below meth c A Q Φ cells slots ls) : W p l e room_1 s m #[Value.ref b] below meth c H locs cells slots Q (F0 m 892 ls []) := by
  obtain ⟨rr, mc, ms, Φ', h1, h2, h3, hM⟩ := call_word (l := l) (D := D) hI (xs (nI (5 * k) + 1).toNatClampNeg)
  refine lv_aload_n C.x C.b dL_law_892 rfl (lv_at hl 1 rfl) ?_
  refine lv_aload_n C.x C.b dL_law_893 rfl (lv_at hl 0 rfl) ?_
  refine lv_iload_n C.x C.b dL_law_894 rfl (lv_at hl 3 rfl) ?_
  refine lv_iconst (v := 1) C.x C.b dL_law_895 (by decide) ?_
  refine lv_iadd C.x C.b dL_law_896 ?_
  refine va_sld C.x C.b hX hbl hbA hw.2.2 (hin 1 (by decide)) dL_law_897 ?_
  refine lw_cI (As := [.int (xs (nI (5 * k) + 1).toNatClampNeg)]) (rest := []) (ci := 9) C hw hM hI.rcv rfl kw840 kw841 kw842 kw113 kw843 okX9_word ⟨Nat.le_of_ble_eq_true rfl, Nat.le_of_ble_eq_true rfl⟩ rfl hl.1 rfl (Nat.le_of_ble_eq_true rfl) dL_law_898 ⟨(show cells + mc ≤ 600000 by omega), (show slots + ms ≤ 7302249 by omega)⟩ (fun W1 H locs hM1 hw => ?_)
  refine lv_aload_n C.x C.b dL_law_901 rfl (lv_at hl 2 rfl) ?_
  refine lv_aload_n C.x C.b dL_law_902 rfl (lv_at hl 0 rfl) ?_
  refine lv_iload_n C.x C.b dL_law_903 rfl (lv_at hl 3 rfl) ?_
  refine lv_iconst (v := 1) C.x C.b dL_law_904 (by decide) ?_
  refine lv_iadd C.x C.b dL_law_905 ?_
  refine va_sld C.x C.b hX hbl hbA hw.2.2 (hin 1 (by decide)) dL_law_906 ?_
  refine lw_cI (As := [.int (xs (nI (5 * k) + 1).toNatClampNeg)]) (rest := [.int rr]) (ci := 10) C hw hM1.2 hM1.1 rfl kw1739 kw1740 kw1741 kw123 kw1742 okX10_word ⟨Nat.le_of_ble_eq_true rfl, Nat.le_of_ble_eq_true rfl⟩ rfl hl.1 rfl (Nat.le_of_ble_eq_true rfl) dL_law_907 ⟨(show cells + mc + 0 ≤ 600000 by omega), (show slots + ms + 0 ≤ 7302249 by omega)⟩ (fun W2 H locs hI1 hw => ?_)
  refine lv_icmp_eq (tgt := 2338) C.x C.b dL_law_910 (by decide) (fun c9 => ?_) (fun c9 => absurd rfl c9)
  exact kk W2 Φ' mc ms H locs hI1 hw h1 h2 h3
set_option maxRecDepth 100000 in
set_option maxHeartbeats 4000000 in
theorem lc_end {D : va_G} {y : Nat → ClassId} {P h : Nat → Nat} {p : Program} {l : Launch} {e : Env} {s : State} {m : MethodId} {b : Nat} {below : List Frame} {meth : Method} {c : Code} {H : Heap} {locs : List Loc} {cells slots : Nat} {Q : State → Prop} {A : Nat → Prop} {cd : Cond} {ret : Option FieldType} {ls : Array Slot} {W0 : va_W} {Φ L k : Nat} {xs : Nat → Int32} (C : Cx D y p s m #[Value.ref b] meth c A RL cL_law cd ret 4) (hX : va_X b L xs s s.heap) (hbl : b < s.heap.size) (hbA : ¬ A b) (hin : ∀ j : Nat, j < 5 → vp_in (nI (5 * k) + nI j) L) (hw : St D A s H locs W0) (hI : INVW y P h W0 Φ) (hl : lv_has ls 4 [(0, .ref b), (1, .ref (P 0)), (2, .ref (h 0)), (3, .int (nI (5 * k)))]) (hc : cells + (16 + 16 * Φ) ≤ 600000) (hs : slots + (1200 + 999 * Φ) ≤ 7302249) (kk : LK D y P h p l e s m #[Value.ref b] below meth c A Q Φ cells slots ls) : W p l e room_1 s m #[Value.ref b] below meth c H locs cells slots Q (F0 m 915 ls []) := by
  obtain ⟨rr, mc, ms, Φ', h1, h2, h3, hM⟩ := call_end (l := l) (D := D) hI (xs (nI (5 * k) + 1).toNatClampNeg)
  refine lv_aload_n C.x C.b dL_law_915 rfl (lv_at hl 1 rfl) ?_
  refine lv_aload_n C.x C.b dL_law_916 rfl (lv_at hl 0 rfl) ?_
  refine lv_iload_n C.x C.b dL_law_917 rfl (lv_at hl 3 rfl) ?_
  refine lv_iconst (v := 1) C.x C.b dL_law_918 (by decide) ?_
  refine lv_iadd C.x C.b dL_law_919 ?_
  refine va_sld C.x C.b hX hbl hbA hw.2.2 (hin 1 (by decide)) dL_law_920 ?_
  refine lw_cI (As := [.int (xs (nI (5 * k) + 1).toNatClampNeg)]) (rest := []) (ci := 9) C hw hM hI.rcv rfl kw848 kw849 kw850 kw113 kw851 okX9_end ⟨Nat.le_of_ble_eq_true rfl, Nat.le_of_ble_eq_true rfl⟩ rfl hl.1 rfl (Nat.le_of_ble_eq_true rfl) dL_law_921 ⟨(show cells + mc ≤ 600000 by omega), (show slots + ms ≤ 7302249 by omega)⟩ (fun W1 H locs hM1 hw => ?_)
  refine lv_aload_n C.x C.b dL_law_924 rfl (lv_at hl 2 rfl) ?_
  refine lv_aload_n C.x C.b dL_law_925 rfl (lv_at hl 0 rfl) ?_
  refine lv_iload_n C.x C.b dL_law_926 rfl (lv_at hl 3 rfl) ?_
  refine lv_iconst (v := 1) C.x C.b dL_law_927 (by decide) ?_
  refine lv_iadd C.x C.b dL_law_928 ?_
  refine va_sld C.x C.b hX hbl hbA hw.2.2 (hin 1 (by decide)) dL_law_929 ?_
  refine lw_cI (As := [.int (xs (nI (5 * k) + 1).toNatClampNeg)]) (rest := [.int rr]) (ci := 10) C hw hM1.2 hM1.1 rfl kw1743 kw1744 kw1745 kw123 kw1746 okX10_end ⟨Nat.le_of_ble_eq_true rfl, Nat.le_of_ble_eq_true rfl⟩ rfl hl.1 rfl (Nat.le_of_ble_eq_true rfl) dL_law_930 ⟨(show cells + mc + 0 ≤ 600000 by omega), (show slots + ms + 0 ≤ 7302249 by omega)⟩ (fun W2 H locs hI1 hw => ?_)
  refine lv_icmp_eq (tgt := 2338) C.x C.b dL_law_933 (by decide) (fun c9 => ?_) (fun c9 => absurd rfl c9)
  exact kk W2 Φ' mc ms H locs hI1 hw h1 h2 h3
set_option maxRecDepth 100000 in
set_option maxHeartbeats 4000000 in
theorem lc_tape {D : va_G} {y : Nat → ClassId} {P h : Nat → Nat} {p : Program} {l : Launch} {e : Env} {s : State} {m : MethodId} {b : Nat} {below : List Frame} {meth : Method} {c : Code} {H : Heap} {locs : List Loc} {cells slots : Nat} {Q : State → Prop} {A : Nat → Prop} {cd : Cond} {ret : Option FieldType} {ls : Array Slot} {W0 : va_W} {Φ L k : Nat} {xs : Nat → Int32} (C : Cx D y p s m #[Value.ref b] meth c A RL cL_law cd ret 4) (hX : va_X b L xs s s.heap) (hbl : b < s.heap.size) (hbA : ¬ A b) (hin : ∀ j : Nat, j < 5 → vp_in (nI (5 * k) + nI j) L) (hw : St D A s H locs W0) (hI : INVW y P h W0 Φ) (hl : lv_has ls 4 [(0, .ref b), (1, .ref (P 0)), (2, .ref (h 0)), (3, .int (nI (5 * k)))]) (hc : cells + (16 + 16 * Φ) ≤ 600000) (hs : slots + (1200 + 999 * Φ) ≤ 7302249) (kk : LK D y P h p l e s m #[Value.ref b] below meth c A Q Φ cells slots ls) : W p l e room_1 s m #[Value.ref b] below meth c H locs cells slots Q (F0 m 938 ls []) := by
  obtain ⟨rr, mc, ms, Φ', h1, h2, h3, hM⟩ := call_tape (l := l) (D := D) hI (xs (nI (5 * k) + 1).toNatClampNeg)
  refine lv_aload_n C.x C.b dL_law_938 rfl (lv_at hl 1 rfl) ?_
  refine lv_aload_n C.x C.b dL_law_939 rfl (lv_at hl 0 rfl) ?_
  refine lv_iload_n C.x C.b dL_law_940 rfl (lv_at hl 3 rfl) ?_
  refine lv_iconst (v := 1) C.x C.b dL_law_941 (by decide) ?_
  refine lv_iadd C.x C.b dL_law_942 ?_
  refine va_sld C.x C.b hX hbl hbA hw.2.2 (hin 1 (by decide)) dL_law_943 ?_
  refine lw_cI (As := [.int (xs (nI (5 * k) + 1).toNatClampNeg)]) (rest := []) (ci := 9) C hw hM hI.rcv rfl kw852 kw853 kw854 kw113 kw855 okX9_tape ⟨Nat.le_of_ble_eq_true rfl, Nat.le_of_ble_eq_true rfl⟩ rfl hl.1 rfl (Nat.le_of_ble_eq_true rfl) dL_law_944 ⟨(show cells + mc ≤ 600000 by omega), (show slots + ms ≤ 7302249 by omega)⟩ (fun W1 H locs hM1 hw => ?_)
  refine lv_aload_n C.x C.b dL_law_947 rfl (lv_at hl 2 rfl) ?_
  refine lv_aload_n C.x C.b dL_law_948 rfl (lv_at hl 0 rfl) ?_
  refine lv_iload_n C.x C.b dL_law_949 rfl (lv_at hl 3 rfl) ?_
  refine lv_iconst (v := 1) C.x C.b dL_law_950 (by decide) ?_
  refine lv_iadd C.x C.b dL_law_951 ?_
  refine va_sld C.x C.b hX hbl hbA hw.2.2 (hin 1 (by decide)) dL_law_952 ?_
  refine lw_cI (As := [.int (xs (nI (5 * k) + 1).toNatClampNeg)]) (rest := [.int rr]) (ci := 10) C hw hM1.2 hM1.1 rfl kw1747 kw1748 kw1749 kw123 kw1750 okX10_tape ⟨Nat.le_of_ble_eq_true rfl, Nat.le_of_ble_eq_true rfl⟩ rfl hl.1 rfl (Nat.le_of_ble_eq_true rfl) dL_law_953 ⟨(show cells + mc + 0 ≤ 600000 by omega), (show slots + ms + 0 ≤ 7302249 by omega)⟩ (fun W2 H locs hI1 hw => ?_)
  refine lv_icmp_eq (tgt := 2338) C.x C.b dL_law_956 (by decide) (fun c9 => ?_) (fun c9 => absurd rfl c9)
  exact kk W2 Φ' mc ms H locs hI1 hw h1 h2 h3
set_option maxRecDepth 100000 in
set_option maxHeartbeats 4000000 in
theorem lc_save {D : va_G} {y : Nat → ClassId} {P h : Nat → Nat} {p : Program} {l : Launch} {e : Env} {s : State} {m : MethodId} {b : Nat} {below : List Frame} {meth : Method} {c : Code} {H : Heap} {locs : List Loc} {cells slots : Nat} {Q : State → Prop} {A : Nat → Prop} {cd : Cond} {ret : Option FieldType} {ls : Array Slot} {W0 : va_W} {Φ L k : Nat} {xs : Nat → Int32} (C : Cx D y p s m #[Value.ref b] meth c A RL cL_law cd ret 4) (hX : va_X b L xs s s.heap) (hbl : b < s.heap.size) (hbA : ¬ A b) (hin : ∀ j : Nat, j < 5 → vp_in (nI (5 * k) + nI j) L) (hw : St D A s H locs W0) (hI : INVW y P h W0 Φ) (hl : lv_has ls 4 [(0, .ref b), (1, .ref (P 0)), (2, .ref (h 0)), (3, .int (nI (5 * k)))]) (hc : cells + (16 + 16 * Φ) ≤ 600000) (hs : slots + (1200 + 999 * Φ) ≤ 7302249) (kk : LK D y P h p l e s m #[Value.ref b] below meth c A Q Φ cells slots ls) : W p l e room_1 s m #[Value.ref b] below meth c H locs cells slots Q (F0 m 961 ls []) := by
  obtain ⟨rr, mc, ms, Φ', h1, h2, h3, hM⟩ := call_save (l := l) (D := D) hI (xs (nI (5 * k) + 1).toNatClampNeg)
  refine lv_aload_n C.x C.b dL_law_961 rfl (lv_at hl 1 rfl) ?_
  refine lv_aload_n C.x C.b dL_law_962 rfl (lv_at hl 0 rfl) ?_
  refine lv_iload_n C.x C.b dL_law_963 rfl (lv_at hl 3 rfl) ?_
  refine lv_iconst (v := 1) C.x C.b dL_law_964 (by decide) ?_
  refine lv_iadd C.x C.b dL_law_965 ?_
  refine va_sld C.x C.b hX hbl hbA hw.2.2 (hin 1 (by decide)) dL_law_966 ?_
  refine lw_cI (As := [.int (xs (nI (5 * k) + 1).toNatClampNeg)]) (rest := []) (ci := 9) C hw hM hI.rcv rfl kw860 kw861 kw862 kw113 kw863 okX9_save ⟨Nat.le_of_ble_eq_true rfl, Nat.le_of_ble_eq_true rfl⟩ rfl hl.1 rfl (Nat.le_of_ble_eq_true rfl) dL_law_967 ⟨(show cells + mc ≤ 600000 by omega), (show slots + ms ≤ 7302249 by omega)⟩ (fun W1 H locs hM1 hw => ?_)
  refine lv_aload_n C.x C.b dL_law_970 rfl (lv_at hl 2 rfl) ?_
  refine lv_aload_n C.x C.b dL_law_971 rfl (lv_at hl 0 rfl) ?_
  refine lv_iload_n C.x C.b dL_law_972 rfl (lv_at hl 3 rfl) ?_
  refine lv_iconst (v := 1) C.x C.b dL_law_973 (by decide) ?_
  refine lv_iadd C.x C.b dL_law_974 ?_
  refine va_sld C.x C.b hX hbl hbA hw.2.2 (hin 1 (by decide)) dL_law_975 ?_
  refine lw_cI (As := [.int (xs (nI (5 * k) + 1).toNatClampNeg)]) (rest := [.int rr]) (ci := 10) C hw hM1.2 hM1.1 rfl kw1751 kw1752 kw1753 kw123 kw1754 okX10_save ⟨Nat.le_of_ble_eq_true rfl, Nat.le_of_ble_eq_true rfl⟩ rfl hl.1 rfl (Nat.le_of_ble_eq_true rfl) dL_law_976 ⟨(show cells + mc + 0 ≤ 600000 by omega), (show slots + ms + 0 ≤ 7302249 by omega)⟩ (fun W2 H locs hI1 hw => ?_)
  refine lv_icmp_eq (tgt := 2338) C.x C.b dL_law_979 (by decide) (fun c9 => ?_) (fun c9 => absurd rfl c9)
  exact kk W2 Φ' mc ms H locs hI1 hw h1 h2 h3
set_option maxRecDepth 100000 in
set_option maxHeartbeats 4000000 in
theorem lc_open {D : va_G} {y : Nat → ClassId} {P h : Nat → Nat} {p : Program} {l : Launch} {e : Env} {s : State} {m : MethodId} {b : Nat} {below : List Frame} {meth : Method} {c : Code} {H : Heap} {locs : List Loc} {cells slots : Nat} {Q : State → Prop} {A : Nat → Prop} {cd : Cond} {ret : Option FieldType} {ls : Array Slot} {W0 : va_W} {Φ L k : Nat} {xs : Nat → Int32} (C : Cx D y p s m #[Value.ref b] meth c A RL cL_law cd ret 4) (hX : va_X b L xs s s.heap) (hbl : b < s.heap.size) (hbA : ¬ A b) (hin : ∀ j : Nat, j < 5 → vp_in (nI (5 * k) + nI j) L) (hw : St D A s H locs W0) (hI : INVW y P h W0 Φ) (hl : lv_has ls 4 [(0, .ref b), (1, .ref (P 0)), (2, .ref (h 0)), (3, .int (nI (5 * k)))]) (hc : cells + (16 + 16 * Φ) ≤ 600000) (hs : slots + (1200 + 999 * Φ) ≤ 7302249) (kk : LK D y P h p l e s m #[Value.ref b] below meth c A Q Φ cells slots ls) : W p l e room_1 s m #[Value.ref b] below meth c H locs cells slots Q (F0 m 984 ls []) := by
  obtain ⟨rr, mc, ms, Φ', h1, h2, h3, hM⟩ := call_open (l := l) (D := D) hI (xs (nI (5 * k) + 1).toNatClampNeg)
  refine lv_aload_n C.x C.b dL_law_984 rfl (lv_at hl 1 rfl) ?_
  refine lv_aload_n C.x C.b dL_law_985 rfl (lv_at hl 0 rfl) ?_
  refine lv_iload_n C.x C.b dL_law_986 rfl (lv_at hl 3 rfl) ?_
  refine lv_iconst (v := 1) C.x C.b dL_law_987 (by decide) ?_
  refine lv_iadd C.x C.b dL_law_988 ?_
  refine va_sld C.x C.b hX hbl hbA hw.2.2 (hin 1 (by decide)) dL_law_989 ?_
  refine lw_cI (As := [.int (xs (nI (5 * k) + 1).toNatClampNeg)]) (rest := []) (ci := 9) C hw hM hI.rcv rfl kw913 kw914 kw915 kw113 kw916 okX9_open ⟨Nat.le_of_ble_eq_true rfl, Nat.le_of_ble_eq_true rfl⟩ rfl hl.1 rfl (Nat.le_of_ble_eq_true rfl) dL_law_990 ⟨(show cells + mc ≤ 600000 by omega), (show slots + ms ≤ 7302249 by omega)⟩ (fun W1 H locs hM1 hw => ?_)
  refine lv_aload_n C.x C.b dL_law_993 rfl (lv_at hl 2 rfl) ?_
  refine lv_aload_n C.x C.b dL_law_994 rfl (lv_at hl 0 rfl) ?_
  refine lv_iload_n C.x C.b dL_law_995 rfl (lv_at hl 3 rfl) ?_
  refine lv_iconst (v := 1) C.x C.b dL_law_996 (by decide) ?_
  refine lv_iadd C.x C.b dL_law_997 ?_
  refine va_sld C.x C.b hX hbl hbA hw.2.2 (hin 1 (by decide)) dL_law_998 ?_
  refine lw_cI (As := [.int (xs (nI (5 * k) + 1).toNatClampNeg)]) (rest := [.int rr]) (ci := 10) C hw hM1.2 hM1.1 rfl kw1770 kw1771 kw1772 kw123 kw1773 okX10_open ⟨Nat.le_of_ble_eq_true rfl, Nat.le_of_ble_eq_true rfl⟩ rfl hl.1 rfl (Nat.le_of_ble_eq_true rfl) dL_law_999 ⟨(show cells + mc + 0 ≤ 600000 by omega), (show slots + ms + 0 ≤ 7302249 by omega)⟩ (fun W2 H locs hI1 hw => ?_)
  refine lv_icmp_eq (tgt := 2338) C.x C.b dL_law_1002 (by decide) (fun c9 => ?_) (fun c9 => absurd rfl c9)
  exact kk W2 Φ' mc ms H locs hI1 hw h1 h2 h3
set_option maxRecDepth 100000 in
set_option maxHeartbeats 4000000 in
theorem lc_fault {D : va_G} {y : Nat → ClassId} {P h : Nat → Nat} {p : Program} {l : Launch} {e : Env} {s : State} {m : MethodId} {b : Nat} {below : List Frame} {meth : Method} {c : Code} {H : Heap} {locs : List Loc} {cells slots : Nat} {Q : State → Prop} {A : Nat → Prop} {cd : Cond} {ret : Option FieldType} {ls : Array Slot} {W0 : va_W} {Φ L k : Nat} {xs : Nat → Int32} (C : Cx D y p s m #[Value.ref b] meth c A RL cL_law cd ret 4) (hX : va_X b L xs s s.heap) (hbl : b < s.heap.size) (hbA : ¬ A b) (hin : ∀ j : Nat, j < 5 → vp_in (nI (5 * k) + nI j) L) (hw : St D A s H locs W0) (hI : INVW y P h W0 Φ) (hl : lv_has ls 4 [(0, .ref b), (1, .ref (P 0)), (2, .ref (h 0)), (3, .int (nI (5 * k)))]) (hc : cells + (16 + 16 * Φ) ≤ 600000) (hs : slots + (1200 + 999 * Φ) ≤ 7302249) (kk : LK D y P h p l e s m #[Value.ref b] below meth c A Q Φ cells slots ls) : W p l e room_1 s m #[Value.ref b] below meth c H locs cells slots Q (F0 m 1007 ls []) := by
  obtain ⟨rr, mc, ms, Φ', h1, h2, h3, hM⟩ := call_fault (l := l) (D := D) hI (xs (nI (5 * k) + 1).toNatClampNeg)
  refine lv_aload_n C.x C.b dL_law_1007 rfl (lv_at hl 1 rfl) ?_
  refine lv_aload_n C.x C.b dL_law_1008 rfl (lv_at hl 0 rfl) ?_
  refine lv_iload_n C.x C.b dL_law_1009 rfl (lv_at hl 3 rfl) ?_
  refine lv_iconst (v := 1) C.x C.b dL_law_1010 (by decide) ?_
  refine lv_iadd C.x C.b dL_law_1011 ?_
  refine va_sld C.x C.b hX hbl hbA hw.2.2 (hin 1 (by decide)) dL_law_1012 ?_
  refine lw_cI (As := [.int (xs (nI (5 * k) + 1).toNatClampNeg)]) (rest := []) (ci := 9) C hw hM hI.rcv rfl kw990 kw991 kw992 kw113 kw993 okX9_fault ⟨Nat.le_of_ble_eq_true rfl, Nat.le_of_ble_eq_true rfl⟩ rfl hl.1 rfl (Nat.le_of_ble_eq_true rfl) dL_law_1013 ⟨(show cells + mc ≤ 600000 by omega), (show slots + ms ≤ 7302249 by omega)⟩ (fun W1 H locs hM1 hw => ?_)
  refine lv_aload_n C.x C.b dL_law_1016 rfl (lv_at hl 2 rfl) ?_
  refine lv_aload_n C.x C.b dL_law_1017 rfl (lv_at hl 0 rfl) ?_
  refine lv_iload_n C.x C.b dL_law_1018 rfl (lv_at hl 3 rfl) ?_
  refine lv_iconst (v := 1) C.x C.b dL_law_1019 (by decide) ?_
  refine lv_iadd C.x C.b dL_law_1020 ?_
  refine va_sld C.x C.b hX hbl hbA hw.2.2 (hin 1 (by decide)) dL_law_1021 ?_
  refine lw_cI (As := [.int (xs (nI (5 * k) + 1).toNatClampNeg)]) (rest := [.int rr]) (ci := 10) C hw hM1.2 hM1.1 rfl kw1809 kw1810 kw1811 kw123 kw1812 okX10_fault ⟨Nat.le_of_ble_eq_true rfl, Nat.le_of_ble_eq_true rfl⟩ rfl hl.1 rfl (Nat.le_of_ble_eq_true rfl) dL_law_1022 ⟨(show cells + mc + 0 ≤ 600000 by omega), (show slots + ms + 0 ≤ 7302249 by omega)⟩ (fun W2 H locs hI1 hw => ?_)
  refine lv_icmp_eq (tgt := 2338) C.x C.b dL_law_1025 (by decide) (fun c9 => ?_) (fun c9 => absurd rfl c9)
  exact kk W2 Φ' mc ms H locs hI1 hw h1 h2 h3
set_option maxRecDepth 100000 in
set_option maxHeartbeats 4000000 in
theorem lc_undo {D : va_G} {y : Nat → ClassId} {P h : Nat → Nat} {p : Program} {l : Launch} {e : Env} {s : State} {m : MethodId} {b : Nat} {below : List Frame} {meth : Method} {c : Code} {H : Heap} {locs : List Loc} {cells slots : Nat} {Q : State → Prop} {A : Nat → Prop} {cd : Cond} {ret : Option FieldType} {ls : Array Slot} {W0 : va_W} {Φ L k : Nat} {xs : Nat → Int32} (C : Cx D y p s m #[Value.ref b] meth c A RL cL_law cd ret 4) (hX : va_X b L xs s s.heap) (hbl : b < s.heap.size) (hbA : ¬ A b) (hin : ∀ j : Nat, j < 5 → vp_in (nI (5 * k) + nI j) L) (hw : St D A s H locs W0) (hI : INVW y P h W0 Φ) (hl : lv_has ls 4 [(0, .ref b), (1, .ref (P 0)), (2, .ref (h 0)), (3, .int (nI (5 * k)))]) (hc : cells + (16 + 16 * Φ) ≤ 600000) (hs : slots + (1200 + 999 * Φ) ≤ 7302249) (kk : LK D y P h p l e s m #[Value.ref b] below meth c A Q Φ cells slots ls) : W p l e room_1 s m #[Value.ref b] below meth c H locs cells slots Q (F0 m 1030 ls []) := by
  obtain ⟨rr, mc, ms, Φ', h1, h2, h3, hM⟩ := call_undo (l := l) (D := D) hI 
  refine lv_aload_n C.x C.b dL_law_1030 rfl (lv_at hl 1 rfl) ?_
  refine lw_cI (As := []) (rest := []) (ci := 9) C hw hM hI.rcv rfl kw994 kw995 kw996 kw113 kw997 okX9_undo ⟨Nat.le_of_ble_eq_true rfl, Nat.le_of_ble_eq_true rfl⟩ rfl hl.1 rfl (Nat.le_of_ble_eq_true rfl) dL_law_1031 ⟨(show cells + mc ≤ 600000 by omega), (show slots + ms ≤ 7302249 by omega)⟩ (fun W1 H locs hM1 hw => ?_)
  refine lv_aload_n C.x C.b dL_law_1034 rfl (lv_at hl 2 rfl) ?_
  refine lw_cI (As := []) (rest := [.int rr]) (ci := 10) C hw hM1.2 hM1.1 rfl kw1462 kw1463 kw1464 kw123 kw1465 okX10_undo ⟨Nat.le_of_ble_eq_true rfl, Nat.le_of_ble_eq_true rfl⟩ rfl hl.1 rfl (Nat.le_of_ble_eq_true rfl) dL_law_1035 ⟨(show cells + mc + 0 ≤ 600000 by omega), (show slots + ms + 0 ≤ 7302249 by omega)⟩ (fun W2 H locs hI1 hw => ?_)
  refine lv_icmp_eq (tgt := 2338) C.x C.b dL_law_1038 (by decide) (fun c9 => ?_) (fun c9 => absurd rfl c9)
  exact kk W2 Φ' mc ms H locs hI1 hw h1 h2 h3
set_option maxRecDepth 100000 in
set_option maxHeartbeats 4000000 in
theorem lc_column {D : va_G} {y : Nat → ClassId} {P h : Nat → Nat} {p : Program} {l : Launch} {e : Env} {s : State} {m : MethodId} {b : Nat} {below : List Frame} {meth : Method} {c : Code} {H : Heap} {locs : List Loc} {cells slots : Nat} {Q : State → Prop} {A : Nat → Prop} {cd : Cond} {ret : Option FieldType} {ls : Array Slot} {W0 : va_W} {Φ L k : Nat} {xs : Nat → Int32} (C : Cx D y p s m #[Value.ref b] meth c A RL cL_law cd ret 4) (hX : va_X b L xs s s.heap) (hbl : b < s.heap.size) (hbA : ¬ A b) (hin : ∀ j : Nat, j < 5 → vp_in (nI (5 * k) + nI j) L) (hw : St D A s H locs W0) (hI : INVW y P h W0 Φ) (hl : lv_has ls 4 [(0, .ref b), (1, .ref (P 0)), (2, .ref (h 0)), (3, .int (nI (5 * k)))]) (hc : cells + (16 + 16 * Φ) ≤ 600000) (hs : slots + (1200 + 999 * Φ) ≤ 7302249) (kk : LK D y P h p l e s m #[Value.ref b] below meth c A Q Φ cells slots ls) : W p l e room_1 s m #[Value.ref b] below meth c H locs cells slots Q (F0 m 1043 ls []) := by
  obtain ⟨rr, mc, ms, Φ', h1, h2, h3, hM⟩ := call_column (l := l) (D := D) hI (xs (nI (5 * k) + 1).toNatClampNeg) (xs (nI (5 * k) + 2).toNatClampNeg)
  refine lv_aload_n C.x C.b dL_law_1043 rfl (lv_at hl 1 rfl) ?_
  refine lv_aload_n C.x C.b dL_law_1044 rfl (lv_at hl 0 rfl) ?_
  refine lv_iload_n C.x C.b dL_law_1045 rfl (lv_at hl 3 rfl) ?_
  refine lv_iconst (v := 1) C.x C.b dL_law_1046 (by decide) ?_
  refine lv_iadd C.x C.b dL_law_1047 ?_
  refine va_sld C.x C.b hX hbl hbA hw.2.2 (hin 1 (by decide)) dL_law_1048 ?_
  refine lv_aload_n C.x C.b dL_law_1049 rfl (lv_at hl 0 rfl) ?_
  refine lv_iload_n C.x C.b dL_law_1050 rfl (lv_at hl 3 rfl) ?_
  refine lv_iconst (v := 2) C.x C.b dL_law_1051 (by decide) ?_
  refine lv_iadd C.x C.b dL_law_1052 ?_
  refine va_sld C.x C.b hX hbl hbA hw.2.2 (hin 2 (by decide)) dL_law_1053 ?_
  refine lw_cI (As := [.int (xs (nI (5 * k) + 1).toNatClampNeg), .int (xs (nI (5 * k) + 2).toNatClampNeg)]) (rest := []) (ci := 9) C hw hM hI.rcv rfl kw1002 kw1003 kw1004 kw113 kw1005 okX9_column ⟨Nat.le_of_ble_eq_true rfl, Nat.le_of_ble_eq_true rfl⟩ rfl hl.1 rfl (Nat.le_of_ble_eq_true rfl) dL_law_1054 ⟨(show cells + mc ≤ 600000 by omega), (show slots + ms ≤ 7302249 by omega)⟩ (fun W1 H locs hM1 hw => ?_)
  refine lv_aload_n C.x C.b dL_law_1057 rfl (lv_at hl 2 rfl) ?_
  refine lv_aload_n C.x C.b dL_law_1058 rfl (lv_at hl 0 rfl) ?_
  refine lv_iload_n C.x C.b dL_law_1059 rfl (lv_at hl 3 rfl) ?_
  refine lv_iconst (v := 1) C.x C.b dL_law_1060 (by decide) ?_
  refine lv_iadd C.x C.b dL_law_1061 ?_
  refine va_sld C.x C.b hX hbl hbA hw.2.2 (hin 1 (by decide)) dL_law_1062 ?_
  refine lv_aload_n C.x C.b dL_law_1063 rfl (lv_at hl 0 rfl) ?_
  refine lv_iload_n C.x C.b dL_law_1064 rfl (lv_at hl 3 rfl) ?_
  refine lv_iconst (v := 2) C.x C.b dL_law_1065 (by decide) ?_
  refine lv_iadd C.x C.b dL_law_1066 ?_
  refine va_sld C.x C.b hX hbl hbA hw.2.2 (hin 2 (by decide)) dL_law_1067 ?_
  refine lw_cI (As := [.int (xs (nI (5 * k) + 1).toNatClampNeg), .int (xs (nI (5 * k) + 2).toNatClampNeg)]) (rest := [.int rr]) (ci := 10) C hw hM1.2 hM1.1 rfl kw1813 kw1814 kw1815 kw123 kw1816 okX10_column ⟨Nat.le_of_ble_eq_true rfl, Nat.le_of_ble_eq_true rfl⟩ rfl hl.1 rfl (Nat.le_of_ble_eq_true rfl) dL_law_1068 ⟨(show cells + mc + 0 ≤ 600000 by omega), (show slots + ms + 0 ≤ 7302249 by omega)⟩ (fun W2 H locs hI1 hw => ?_)
  refine lv_icmp_eq (tgt := 2338) C.x C.b dL_law_1071 (by decide) (fun c9 => ?_) (fun c9 => absurd rfl c9)
  exact kk W2 Φ' mc ms H locs hI1 hw h1 h2 h3
set_option maxRecDepth 100000 in
set_option maxHeartbeats 4000000 in
theorem lc_block {D : va_G} {y : Nat → ClassId} {P h : Nat → Nat} {p : Program} {l : Launch} {e : Env} {s : State} {m : MethodId} {b : Nat} {below : List Frame} {meth : Method} {c : Code} {H : Heap} {locs : List Loc} {cells slots : Nat} {Q : State → Prop} {A : Nat → Prop} {cd : Cond} {ret : Option FieldType} {ls : Array Slot} {W0 : va_W} {Φ L k : Nat} {xs : Nat → Int32} (C : Cx D y p s m #[Value.ref b] meth c A RL cL_law cd ret 4) (hX : va_X b L xs s s.heap) (hbl : b < s.heap.size) (hbA : ¬ A b) (hin : ∀ j : Nat, j < 5 → vp_in (nI (5 * k) + nI j) L) (hw : St D A s H locs W0) (hI : INVW y P h W0 Φ) (hl : lv_has ls 4 [(0, .ref b), (1, .ref (P 0)), (2, .ref (h 0)), (3, .int (nI (5 * k)))]) (hc : cells + (16 + 16 * Φ) ≤ 600000) (hs : slots + (1200 + 999 * Φ) ≤ 7302249) (kk : LK D y P h p l e s m #[Value.ref b] below meth c A Q Φ cells slots ls) : W p l e room_1 s m #[Value.ref b] below meth c H locs cells slots Q (F0 m 1076 ls []) := by
  obtain ⟨rr, mc, ms, Φ', h1, h2, h3, hM⟩ := call_block (l := l) (D := D) hI (xs (nI (5 * k) + 1).toNatClampNeg) (xs (nI (5 * k) + 2).toNatClampNeg) (xs (nI (5 * k) + 3).toNatClampNeg)
  refine lv_aload_n C.x C.b dL_law_1076 rfl (lv_at hl 1 rfl) ?_
  refine lv_aload_n C.x C.b dL_law_1077 rfl (lv_at hl 0 rfl) ?_
  refine lv_iload_n C.x C.b dL_law_1078 rfl (lv_at hl 3 rfl) ?_
  refine lv_iconst (v := 1) C.x C.b dL_law_1079 (by decide) ?_
  refine lv_iadd C.x C.b dL_law_1080 ?_
  refine va_sld C.x C.b hX hbl hbA hw.2.2 (hin 1 (by decide)) dL_law_1081 ?_
  refine lv_aload_n C.x C.b dL_law_1082 rfl (lv_at hl 0 rfl) ?_
  refine lv_iload_n C.x C.b dL_law_1083 rfl (lv_at hl 3 rfl) ?_
  refine lv_iconst (v := 2) C.x C.b dL_law_1084 (by decide) ?_
  refine lv_iadd C.x C.b dL_law_1085 ?_
  refine va_sld C.x C.b hX hbl hbA hw.2.2 (hin 2 (by decide)) dL_law_1086 ?_
  refine lv_aload_n C.x C.b dL_law_1087 rfl (lv_at hl 0 rfl) ?_
  refine lv_iload_n C.x C.b dL_law_1088 rfl (lv_at hl 3 rfl) ?_
  refine lv_iconst (v := 3) C.x C.b dL_law_1089 (by decide) ?_
  refine lv_iadd C.x C.b dL_law_1090 ?_
  refine va_sld C.x C.b hX hbl hbA hw.2.2 (hin 3 (by decide)) dL_law_1091 ?_
  refine lw_cI (As := [.int (xs (nI (5 * k) + 1).toNatClampNeg), .int (xs (nI (5 * k) + 2).toNatClampNeg), .int (xs (nI (5 * k) + 3).toNatClampNeg)]) (rest := []) (ci := 9) C hw hM hI.rcv rfl kw1019 kw1020 kw1021 kw113 kw1022 okX9_block ⟨Nat.le_of_ble_eq_true rfl, Nat.le_of_ble_eq_true rfl⟩ rfl hl.1 rfl (Nat.le_of_ble_eq_true rfl) dL_law_1092 ⟨(show cells + mc ≤ 600000 by omega), (show slots + ms ≤ 7302249 by omega)⟩ (fun W1 H locs hM1 hw => ?_)
  refine lv_aload_n C.x C.b dL_law_1095 rfl (lv_at hl 2 rfl) ?_
  refine lv_aload_n C.x C.b dL_law_1096 rfl (lv_at hl 0 rfl) ?_
  refine lv_iload_n C.x C.b dL_law_1097 rfl (lv_at hl 3 rfl) ?_
  refine lv_iconst (v := 1) C.x C.b dL_law_1098 (by decide) ?_
  refine lv_iadd C.x C.b dL_law_1099 ?_
  refine va_sld C.x C.b hX hbl hbA hw.2.2 (hin 1 (by decide)) dL_law_1100 ?_
  refine lv_aload_n C.x C.b dL_law_1101 rfl (lv_at hl 0 rfl) ?_
  refine lv_iload_n C.x C.b dL_law_1102 rfl (lv_at hl 3 rfl) ?_
  refine lv_iconst (v := 2) C.x C.b dL_law_1103 (by decide) ?_
  refine lv_iadd C.x C.b dL_law_1104 ?_
  refine va_sld C.x C.b hX hbl hbA hw.2.2 (hin 2 (by decide)) dL_law_1105 ?_
  refine lv_aload_n C.x C.b dL_law_1106 rfl (lv_at hl 0 rfl) ?_
  refine lv_iload_n C.x C.b dL_law_1107 rfl (lv_at hl 3 rfl) ?_
  refine lv_iconst (v := 3) C.x C.b dL_law_1108 (by decide) ?_
  refine lv_iadd C.x C.b dL_law_1109 ?_
  refine va_sld C.x C.b hX hbl hbA hw.2.2 (hin 3 (by decide)) dL_law_1110 ?_
  refine lw_cI (As := [.int (xs (nI (5 * k) + 1).toNatClampNeg), .int (xs (nI (5 * k) + 2).toNatClampNeg), .int (xs (nI (5 * k) + 3).toNatClampNeg)]) (rest := [.int rr]) (ci := 10) C hw hM1.2 hM1.1 rfl kw1841 kw1842 kw1843 kw123 kw1844 okX10_block ⟨Nat.le_of_ble_eq_true rfl, Nat.le_of_ble_eq_true rfl⟩ rfl hl.1 rfl (Nat.le_of_ble_eq_true rfl) dL_law_1111 ⟨(show cells + mc + 0 ≤ 600000 by omega), (show slots + ms + 0 ≤ 7302249 by omega)⟩ (fun W2 H locs hI1 hw => ?_)
  refine lv_icmp_eq (tgt := 2338) C.x C.b dL_law_1114 (by decide) (fun c9 => ?_) (fun c9 => absurd rfl c9)
  exact kk W2 Φ' mc ms H locs hI1 hw h1 h2 h3
set_option maxRecDepth 100000 in
set_option maxHeartbeats 4000000 in
theorem lc_like {D : va_G} {y : Nat → ClassId} {P h : Nat → Nat} {p : Program} {l : Launch} {e : Env} {s : State} {m : MethodId} {b : Nat} {below : List Frame} {meth : Method} {c : Code} {H : Heap} {locs : List Loc} {cells slots : Nat} {Q : State → Prop} {A : Nat → Prop} {cd : Cond} {ret : Option FieldType} {ls : Array Slot} {W0 : va_W} {Φ L k : Nat} {xs : Nat → Int32} (C : Cx D y p s m #[Value.ref b] meth c A RL cL_law cd ret 4) (hX : va_X b L xs s s.heap) (hbl : b < s.heap.size) (hbA : ¬ A b) (hin : ∀ j : Nat, j < 5 → vp_in (nI (5 * k) + nI j) L) (hw : St D A s H locs W0) (hI : INVW y P h W0 Φ) (hl : lv_has ls 4 [(0, .ref b), (1, .ref (P 0)), (2, .ref (h 0)), (3, .int (nI (5 * k)))]) (hc : cells + (16 + 16 * Φ) ≤ 600000) (hs : slots + (1200 + 999 * Φ) ≤ 7302249) (kk : LK D y P h p l e s m #[Value.ref b] below meth c A Q Φ cells slots ls) : W p l e room_1 s m #[Value.ref b] below meth c H locs cells slots Q (F0 m 1119 ls []) := by
  obtain ⟨rr, mc, ms, Φ', h1, h2, h3, hM⟩ := call_like (l := l) (D := D) hI (xs (nI (5 * k) + 1).toNatClampNeg) (xs (nI (5 * k) + 2).toNatClampNeg) (xs (nI (5 * k) + 3).toNatClampNeg)
  refine lv_aload_n C.x C.b dL_law_1119 rfl (lv_at hl 1 rfl) ?_
  refine lv_aload_n C.x C.b dL_law_1120 rfl (lv_at hl 0 rfl) ?_
  refine lv_iload_n C.x C.b dL_law_1121 rfl (lv_at hl 3 rfl) ?_
  refine lv_iconst (v := 1) C.x C.b dL_law_1122 (by decide) ?_
  refine lv_iadd C.x C.b dL_law_1123 ?_
  refine va_sld C.x C.b hX hbl hbA hw.2.2 (hin 1 (by decide)) dL_law_1124 ?_
  refine lv_aload_n C.x C.b dL_law_1125 rfl (lv_at hl 0 rfl) ?_
  refine lv_iload_n C.x C.b dL_law_1126 rfl (lv_at hl 3 rfl) ?_
  refine lv_iconst (v := 2) C.x C.b dL_law_1127 (by decide) ?_
  refine lv_iadd C.x C.b dL_law_1128 ?_
  refine va_sld C.x C.b hX hbl hbA hw.2.2 (hin 2 (by decide)) dL_law_1129 ?_
  refine lv_aload_n C.x C.b dL_law_1130 rfl (lv_at hl 0 rfl) ?_
  refine lv_iload_n C.x C.b dL_law_1131 rfl (lv_at hl 3 rfl) ?_
  refine lv_iconst (v := 3) C.x C.b dL_law_1132 (by decide) ?_
  refine lv_iadd C.x C.b dL_law_1133 ?_
  refine va_sld C.x C.b hX hbl hbA hw.2.2 (hin 3 (by decide)) dL_law_1134 ?_
  refine lw_cI (As := [.int (xs (nI (5 * k) + 1).toNatClampNeg), .int (xs (nI (5 * k) + 2).toNatClampNeg), .int (xs (nI (5 * k) + 3).toNatClampNeg)]) (rest := []) (ci := 9) C hw hM hI.rcv rfl kw1029 kw1030 kw1031 kw113 kw1032 okX9_like ⟨Nat.le_of_ble_eq_true rfl, Nat.le_of_ble_eq_true rfl⟩ rfl hl.1 rfl (Nat.le_of_ble_eq_true rfl) dL_law_1135 ⟨(show cells + mc ≤ 600000 by omega), (show slots + ms ≤ 7302249 by omega)⟩ (fun W1 H locs hM1 hw => ?_)
  refine lv_aload_n C.x C.b dL_law_1138 rfl (lv_at hl 2 rfl) ?_
  refine lv_aload_n C.x C.b dL_law_1139 rfl (lv_at hl 0 rfl) ?_
  refine lv_iload_n C.x C.b dL_law_1140 rfl (lv_at hl 3 rfl) ?_
  refine lv_iconst (v := 1) C.x C.b dL_law_1141 (by decide) ?_
  refine lv_iadd C.x C.b dL_law_1142 ?_
  refine va_sld C.x C.b hX hbl hbA hw.2.2 (hin 1 (by decide)) dL_law_1143 ?_
  refine lv_aload_n C.x C.b dL_law_1144 rfl (lv_at hl 0 rfl) ?_
  refine lv_iload_n C.x C.b dL_law_1145 rfl (lv_at hl 3 rfl) ?_
  refine lv_iconst (v := 2) C.x C.b dL_law_1146 (by decide) ?_
  refine lv_iadd C.x C.b dL_law_1147 ?_
  refine va_sld C.x C.b hX hbl hbA hw.2.2 (hin 2 (by decide)) dL_law_1148 ?_
  refine lv_aload_n C.x C.b dL_law_1149 rfl (lv_at hl 0 rfl) ?_
  refine lv_iload_n C.x C.b dL_law_1150 rfl (lv_at hl 3 rfl) ?_
  refine lv_iconst (v := 3) C.x C.b dL_law_1151 (by decide) ?_
  refine lv_iadd C.x C.b dL_law_1152 ?_
  refine va_sld C.x C.b hX hbl hbA hw.2.2 (hin 3 (by decide)) dL_law_1153 ?_
  refine lw_cI (As := [.int (xs (nI (5 * k) + 1).toNatClampNeg), .int (xs (nI (5 * k) + 2).toNatClampNeg), .int (xs (nI (5 * k) + 3).toNatClampNeg)]) (rest := [.int rr]) (ci := 10) C hw hM1.2 hM1.1 rfl kw1825 kw1826 kw1827 kw123 kw1828 okX10_like ⟨Nat.le_of_ble_eq_true rfl, Nat.le_of_ble_eq_true rfl⟩ rfl hl.1 rfl (Nat.le_of_ble_eq_true rfl) dL_law_1154 ⟨(show cells + mc + 0 ≤ 600000 by omega), (show slots + ms + 0 ≤ 7302249 by omega)⟩ (fun W2 H locs hI1 hw => ?_)
  refine lv_icmp_eq (tgt := 2338) C.x C.b dL_law_1157 (by decide) (fun c9 => ?_) (fun c9 => absurd rfl c9)
  exact kk W2 Φ' mc ms H locs hI1 hw h1 h2 h3
set_option maxRecDepth 100000 in
set_option maxHeartbeats 4000000 in
theorem lc_filled {D : va_G} {y : Nat → ClassId} {P h : Nat → Nat} {p : Program} {l : Launch} {e : Env} {s : State} {m : MethodId} {b : Nat} {below : List Frame} {meth : Method} {c : Code} {H : Heap} {locs : List Loc} {cells slots : Nat} {Q : State → Prop} {A : Nat → Prop} {cd : Cond} {ret : Option FieldType} {ls : Array Slot} {W0 : va_W} {Φ L k : Nat} {xs : Nat → Int32} (C : Cx D y p s m #[Value.ref b] meth c A RL cL_law cd ret 4) (hX : va_X b L xs s s.heap) (hbl : b < s.heap.size) (hbA : ¬ A b) (hin : ∀ j : Nat, j < 5 → vp_in (nI (5 * k) + nI j) L) (hw : St D A s H locs W0) (hI : INVW y P h W0 Φ) (hl : lv_has ls 4 [(0, .ref b), (1, .ref (P 0)), (2, .ref (h 0)), (3, .int (nI (5 * k)))]) (hc : cells + (16 + 16 * Φ) ≤ 600000) (hs : slots + (1200 + 999 * Φ) ≤ 7302249) (kk : LK D y P h p l e s m #[Value.ref b] below meth c A Q Φ cells slots ls) : W p l e room_1 s m #[Value.ref b] below meth c H locs cells slots Q (F0 m 1162 ls []) := by
  obtain ⟨rr, mc, ms, Φ', h1, h2, h3, hM⟩ := call_filled (l := l) (D := D) hI (xs (nI (5 * k) + 1).toNatClampNeg)
  refine lv_aload_n C.x C.b dL_law_1162 rfl (lv_at hl 1 rfl) ?_
  refine lv_aload_n C.x C.b dL_law_1163 rfl (lv_at hl 0 rfl) ?_
  refine lv_iload_n C.x C.b dL_law_1164 rfl (lv_at hl 3 rfl) ?_
  refine lv_iconst (v := 1) C.x C.b dL_law_1165 (by decide) ?_
  refine lv_iadd C.x C.b dL_law_1166 ?_
  refine va_sld C.x C.b hX hbl hbA hw.2.2 (hin 1 (by decide)) dL_law_1167 ?_
  refine lw_cI (As := [.int (xs (nI (5 * k) + 1).toNatClampNeg)]) (rest := []) (ci := 9) C hw hM hI.rcv rfl kw1037 kw1038 kw1039 kw113 kw1040 okX9_filled ⟨Nat.le_of_ble_eq_true rfl, Nat.le_of_ble_eq_true rfl⟩ rfl hl.1 rfl (Nat.le_of_ble_eq_true rfl) dL_law_1168 ⟨(show cells + mc ≤ 600000 by omega), (show slots + ms ≤ 7302249 by omega)⟩ (fun W1 H locs hM1 hw => ?_)
  refine lv_aload_n C.x C.b dL_law_1171 rfl (lv_at hl 2 rfl) ?_
  refine lv_aload_n C.x C.b dL_law_1172 rfl (lv_at hl 0 rfl) ?_
  refine lv_iload_n C.x C.b dL_law_1173 rfl (lv_at hl 3 rfl) ?_
  refine lv_iconst (v := 1) C.x C.b dL_law_1174 (by decide) ?_
  refine lv_iadd C.x C.b dL_law_1175 ?_
  refine va_sld C.x C.b hX hbl hbA hw.2.2 (hin 1 (by decide)) dL_law_1176 ?_
  refine lw_cI (As := [.int (xs (nI (5 * k) + 1).toNatClampNeg)]) (rest := [.int rr]) (ci := 10) C hw hM1.2 hM1.1 rfl kw1833 kw1834 kw1835 kw123 kw1836 okX10_filled ⟨Nat.le_of_ble_eq_true rfl, Nat.le_of_ble_eq_true rfl⟩ rfl hl.1 rfl (Nat.le_of_ble_eq_true rfl) dL_law_1177 ⟨(show cells + mc + 0 ≤ 600000 by omega), (show slots + ms + 0 ≤ 7302249 by omega)⟩ (fun W2 H locs hI1 hw => ?_)
  refine lv_icmp_eq (tgt := 2338) C.x C.b dL_law_1180 (by decide) (fun c9 => ?_) (fun c9 => absurd rfl c9)
  exact kk W2 Φ' mc ms H locs hI1 hw h1 h2 h3
set_option maxRecDepth 100000 in
set_option maxHeartbeats 4000000 in
theorem lc_empties {D : va_G} {y : Nat → ClassId} {P h : Nat → Nat} {p : Program} {l : Launch} {e : Env} {s : State} {m : MethodId} {b : Nat} {below : List Frame} {meth : Method} {c : Code} {H : Heap} {locs : List Loc} {cells slots : Nat} {Q : State → Prop} {A : Nat → Prop} {cd : Cond} {ret : Option FieldType} {ls : Array Slot} {W0 : va_W} {Φ L k : Nat} {xs : Nat → Int32} (C : Cx D y p s m #[Value.ref b] meth c A RL cL_law cd ret 4) (hX : va_X b L xs s s.heap) (hbl : b < s.heap.size) (hbA : ¬ A b) (hin : ∀ j : Nat, j < 5 → vp_in (nI (5 * k) + nI j) L) (hw : St D A s H locs W0) (hI : INVW y P h W0 Φ) (hl : lv_has ls 4 [(0, .ref b), (1, .ref (P 0)), (2, .ref (h 0)), (3, .int (nI (5 * k)))]) (hc : cells + (16 + 16 * Φ) ≤ 600000) (hs : slots + (1200 + 999 * Φ) ≤ 7302249) (kk : LK D y P h p l e s m #[Value.ref b] below meth c A Q Φ cells slots ls) : W p l e room_1 s m #[Value.ref b] below meth c H locs cells slots Q (F0 m 1185 ls []) := by
  obtain ⟨rr, mc, ms, Φ', h1, h2, h3, hM⟩ := call_empties (l := l) (D := D) hI (xs (nI (5 * k) + 1).toNatClampNeg) (xs (nI (5 * k) + 2).toNatClampNeg) (xs (nI (5 * k) + 3).toNatClampNeg)
  refine lv_aload_n C.x C.b dL_law_1185 rfl (lv_at hl 1 rfl) ?_
  refine lv_aload_n C.x C.b dL_law_1186 rfl (lv_at hl 0 rfl) ?_
  refine lv_iload_n C.x C.b dL_law_1187 rfl (lv_at hl 3 rfl) ?_
  refine lv_iconst (v := 1) C.x C.b dL_law_1188 (by decide) ?_
  refine lv_iadd C.x C.b dL_law_1189 ?_
  refine va_sld C.x C.b hX hbl hbA hw.2.2 (hin 1 (by decide)) dL_law_1190 ?_
  refine lv_aload_n C.x C.b dL_law_1191 rfl (lv_at hl 0 rfl) ?_
  refine lv_iload_n C.x C.b dL_law_1192 rfl (lv_at hl 3 rfl) ?_
  refine lv_iconst (v := 2) C.x C.b dL_law_1193 (by decide) ?_
  refine lv_iadd C.x C.b dL_law_1194 ?_
  refine va_sld C.x C.b hX hbl hbA hw.2.2 (hin 2 (by decide)) dL_law_1195 ?_
  refine lv_aload_n C.x C.b dL_law_1196 rfl (lv_at hl 0 rfl) ?_
  refine lv_iload_n C.x C.b dL_law_1197 rfl (lv_at hl 3 rfl) ?_
  refine lv_iconst (v := 3) C.x C.b dL_law_1198 (by decide) ?_
  refine lv_iadd C.x C.b dL_law_1199 ?_
  refine va_sld C.x C.b hX hbl hbA hw.2.2 (hin 3 (by decide)) dL_law_1200 ?_
  refine lw_cI (As := [.int (xs (nI (5 * k) + 1).toNatClampNeg), .int (xs (nI (5 * k) + 2).toNatClampNeg), .int (xs (nI (5 * k) + 3).toNatClampNeg)]) (rest := []) (ci := 9) C hw hM hI.rcv rfl kw1041 kw1042 kw1043 kw113 kw1044 okX9_empties ⟨Nat.le_of_ble_eq_true rfl, Nat.le_of_ble_eq_true rfl⟩ rfl hl.1 rfl (Nat.le_of_ble_eq_true rfl) dL_law_1201 ⟨(show cells + mc ≤ 600000 by omega), (show slots + ms ≤ 7302249 by omega)⟩ (fun W1 H locs hM1 hw => ?_)
  refine lv_aload_n C.x C.b dL_law_1204 rfl (lv_at hl 2 rfl) ?_
  refine lv_aload_n C.x C.b dL_law_1205 rfl (lv_at hl 0 rfl) ?_
  refine lv_iload_n C.x C.b dL_law_1206 rfl (lv_at hl 3 rfl) ?_
  refine lv_iconst (v := 1) C.x C.b dL_law_1207 (by decide) ?_
  refine lv_iadd C.x C.b dL_law_1208 ?_
  refine va_sld C.x C.b hX hbl hbA hw.2.2 (hin 1 (by decide)) dL_law_1209 ?_
  refine lv_aload_n C.x C.b dL_law_1210 rfl (lv_at hl 0 rfl) ?_
  refine lv_iload_n C.x C.b dL_law_1211 rfl (lv_at hl 3 rfl) ?_
  refine lv_iconst (v := 2) C.x C.b dL_law_1212 (by decide) ?_
  refine lv_iadd C.x C.b dL_law_1213 ?_
  refine va_sld C.x C.b hX hbl hbA hw.2.2 (hin 2 (by decide)) dL_law_1214 ?_
  refine lv_aload_n C.x C.b dL_law_1215 rfl (lv_at hl 0 rfl) ?_
  refine lv_iload_n C.x C.b dL_law_1216 rfl (lv_at hl 3 rfl) ?_
  refine lv_iconst (v := 3) C.x C.b dL_law_1217 (by decide) ?_
  refine lv_iadd C.x C.b dL_law_1218 ?_
  refine va_sld C.x C.b hX hbl hbA hw.2.2 (hin 3 (by decide)) dL_law_1219 ?_
  refine lw_cI (As := [.int (xs (nI (5 * k) + 1).toNatClampNeg), .int (xs (nI (5 * k) + 2).toNatClampNeg), .int (xs (nI (5 * k) + 3).toNatClampNeg)]) (rest := [.int rr]) (ci := 10) C hw hM1.2 hM1.1 rfl kw1837 kw1838 kw1839 kw123 kw1840 okX10_empties ⟨Nat.le_of_ble_eq_true rfl, Nat.le_of_ble_eq_true rfl⟩ rfl hl.1 rfl (Nat.le_of_ble_eq_true rfl) dL_law_1220 ⟨(show cells + mc + 0 ≤ 600000 by omega), (show slots + ms + 0 ≤ 7302249 by omega)⟩ (fun W2 H locs hI1 hw => ?_)
  refine lv_icmp_eq (tgt := 2338) C.x C.b dL_law_1223 (by decide) (fun c9 => ?_) (fun c9 => absurd rfl c9)
  exact kk W2 Φ' mc ms H locs hI1 hw h1 h2 h3
set_option maxRecDepth 100000 in
set_option maxHeartbeats 4000000 in
theorem lc_base {D : va_G} {y : Nat → ClassId} {P h : Nat → Nat} {p : Program} {l : Launch} {e : Env} {s : State} {m : MethodId} {b : Nat} {below : List Frame} {meth : Method} {c : Code} {H : Heap} {locs : List Loc} {cells slots : Nat} {Q : State → Prop} {A : Nat → Prop} {cd : Cond} {ret : Option FieldType} {ls : Array Slot} {W0 : va_W} {Φ L k : Nat} {xs : Nat → Int32} (C : Cx D y p s m #[Value.ref b] meth c A RL cL_law cd ret 4) (hX : va_X b L xs s s.heap) (hbl : b < s.heap.size) (hbA : ¬ A b) (hin : ∀ j : Nat, j < 5 → vp_in (nI (5 * k) + nI j) L) (hw : St D A s H locs W0) (hI : INVW y P h W0 Φ) (hl : lv_has ls 4 [(0, .ref b), (1, .ref (P 0)), (2, .ref (h 0)), (3, .int (nI (5 * k)))]) (hc : cells + (16 + 16 * Φ) ≤ 600000) (hs : slots + (1200 + 999 * Φ) ≤ 7302249) (kk : LK D y P h p l e s m #[Value.ref b] below meth c A Q Φ cells slots ls) : W p l e room_1 s m #[Value.ref b] below meth c H locs cells slots Q (F0 m 1228 ls []) := by
  obtain ⟨rr, mc, ms, Φ', h1, h2, h3, hM⟩ := call_base (l := l) (D := D) hI (xs (nI (5 * k) + 1).toNatClampNeg) (xs (nI (5 * k) + 2).toNatClampNeg) (xs (nI (5 * k) + 3).toNatClampNeg)
  refine lv_aload_n C.x C.b dL_law_1228 rfl (lv_at hl 1 rfl) ?_
  refine lv_aload_n C.x C.b dL_law_1229 rfl (lv_at hl 0 rfl) ?_
  refine lv_iload_n C.x C.b dL_law_1230 rfl (lv_at hl 3 rfl) ?_
  refine lv_iconst (v := 1) C.x C.b dL_law_1231 (by decide) ?_
  refine lv_iadd C.x C.b dL_law_1232 ?_
  refine va_sld C.x C.b hX hbl hbA hw.2.2 (hin 1 (by decide)) dL_law_1233 ?_
  refine lv_aload_n C.x C.b dL_law_1234 rfl (lv_at hl 0 rfl) ?_
  refine lv_iload_n C.x C.b dL_law_1235 rfl (lv_at hl 3 rfl) ?_
  refine lv_iconst (v := 2) C.x C.b dL_law_1236 (by decide) ?_
  refine lv_iadd C.x C.b dL_law_1237 ?_
  refine va_sld C.x C.b hX hbl hbA hw.2.2 (hin 2 (by decide)) dL_law_1238 ?_
  refine lv_aload_n C.x C.b dL_law_1239 rfl (lv_at hl 0 rfl) ?_
  refine lv_iload_n C.x C.b dL_law_1240 rfl (lv_at hl 3 rfl) ?_
  refine lv_iconst (v := 3) C.x C.b dL_law_1241 (by decide) ?_
  refine lv_iadd C.x C.b dL_law_1242 ?_
  refine va_sld C.x C.b hX hbl hbA hw.2.2 (hin 3 (by decide)) dL_law_1243 ?_
  refine lw_cI (As := [.int (xs (nI (5 * k) + 1).toNatClampNeg), .int (xs (nI (5 * k) + 2).toNatClampNeg), .int (xs (nI (5 * k) + 3).toNatClampNeg)]) (rest := []) (ci := 9) C hw hM hI.rcv rfl kw1049 kw1050 kw1051 kw113 kw1052 okX9_base ⟨Nat.le_of_ble_eq_true rfl, Nat.le_of_ble_eq_true rfl⟩ rfl hl.1 rfl (Nat.le_of_ble_eq_true rfl) dL_law_1244 ⟨(show cells + mc ≤ 600000 by omega), (show slots + ms ≤ 7302249 by omega)⟩ (fun W1 H locs hM1 hw => ?_)
  refine lv_aload_n C.x C.b dL_law_1247 rfl (lv_at hl 2 rfl) ?_
  refine lv_aload_n C.x C.b dL_law_1248 rfl (lv_at hl 0 rfl) ?_
  refine lv_iload_n C.x C.b dL_law_1249 rfl (lv_at hl 3 rfl) ?_
  refine lv_iconst (v := 1) C.x C.b dL_law_1250 (by decide) ?_
  refine lv_iadd C.x C.b dL_law_1251 ?_
  refine va_sld C.x C.b hX hbl hbA hw.2.2 (hin 1 (by decide)) dL_law_1252 ?_
  refine lv_aload_n C.x C.b dL_law_1253 rfl (lv_at hl 0 rfl) ?_
  refine lv_iload_n C.x C.b dL_law_1254 rfl (lv_at hl 3 rfl) ?_
  refine lv_iconst (v := 2) C.x C.b dL_law_1255 (by decide) ?_
  refine lv_iadd C.x C.b dL_law_1256 ?_
  refine va_sld C.x C.b hX hbl hbA hw.2.2 (hin 2 (by decide)) dL_law_1257 ?_
  refine lv_aload_n C.x C.b dL_law_1258 rfl (lv_at hl 0 rfl) ?_
  refine lv_iload_n C.x C.b dL_law_1259 rfl (lv_at hl 3 rfl) ?_
  refine lv_iconst (v := 3) C.x C.b dL_law_1260 (by decide) ?_
  refine lv_iadd C.x C.b dL_law_1261 ?_
  refine va_sld C.x C.b hX hbl hbA hw.2.2 (hin 3 (by decide)) dL_law_1262 ?_
  refine lw_cI (As := [.int (xs (nI (5 * k) + 1).toNatClampNeg), .int (xs (nI (5 * k) + 2).toNatClampNeg), .int (xs (nI (5 * k) + 3).toNatClampNeg)]) (rest := [.int rr]) (ci := 10) C hw hM1.2 hM1.1 rfl kw1845 kw1846 kw1847 kw123 kw1848 okX10_base ⟨Nat.le_of_ble_eq_true rfl, Nat.le_of_ble_eq_true rfl⟩ rfl hl.1 rfl (Nat.le_of_ble_eq_true rfl) dL_law_1263 ⟨(show cells + mc + 0 ≤ 600000 by omega), (show slots + ms + 0 ≤ 7302249 by omega)⟩ (fun W2 H locs hI1 hw => ?_)
  refine lv_icmp_eq (tgt := 2338) C.x C.b dL_law_1266 (by decide) (fun c9 => ?_) (fun c9 => absurd rfl c9)
  exact kk W2 Φ' mc ms H locs hI1 hw h1 h2 h3
set_option maxRecDepth 100000 in
set_option maxHeartbeats 4000000 in
theorem lc_bits {D : va_G} {y : Nat → ClassId} {P h : Nat → Nat} {p : Program} {l : Launch} {e : Env} {s : State} {m : MethodId} {b : Nat} {below : List Frame} {meth : Method} {c : Code} {H : Heap} {locs : List Loc} {cells slots : Nat} {Q : State → Prop} {A : Nat → Prop} {cd : Cond} {ret : Option FieldType} {ls : Array Slot} {W0 : va_W} {Φ L k : Nat} {xs : Nat → Int32} (C : Cx D y p s m #[Value.ref b] meth c A RL cL_law cd ret 4) (hX : va_X b L xs s s.heap) (hbl : b < s.heap.size) (hbA : ¬ A b) (hin : ∀ j : Nat, j < 5 → vp_in (nI (5 * k) + nI j) L) (hw : St D A s H locs W0) (hI : INVW y P h W0 Φ) (hl : lv_has ls 4 [(0, .ref b), (1, .ref (P 0)), (2, .ref (h 0)), (3, .int (nI (5 * k)))]) (hc : cells + (16 + 16 * Φ) ≤ 600000) (hs : slots + (1200 + 999 * Φ) ≤ 7302249) (kk : LK D y P h p l e s m #[Value.ref b] below meth c A Q Φ cells slots ls) : W p l e room_1 s m #[Value.ref b] below meth c H locs cells slots Q (F0 m 1271 ls []) := by
  obtain ⟨rr, mc, ms, Φ', h1, h2, h3, hM⟩ := call_bits (l := l) (D := D) hI (xs (nI (5 * k) + 1).toNatClampNeg) (xs (nI (5 * k) + 2).toNatClampNeg) (xs (nI (5 * k) + 3).toNatClampNeg)
  refine lv_aload_n C.x C.b dL_law_1271 rfl (lv_at hl 1 rfl) ?_
  refine lv_aload_n C.x C.b dL_law_1272 rfl (lv_at hl 0 rfl) ?_
  refine lv_iload_n C.x C.b dL_law_1273 rfl (lv_at hl 3 rfl) ?_
  refine lv_iconst (v := 1) C.x C.b dL_law_1274 (by decide) ?_
  refine lv_iadd C.x C.b dL_law_1275 ?_
  refine va_sld C.x C.b hX hbl hbA hw.2.2 (hin 1 (by decide)) dL_law_1276 ?_
  refine lv_aload_n C.x C.b dL_law_1277 rfl (lv_at hl 0 rfl) ?_
  refine lv_iload_n C.x C.b dL_law_1278 rfl (lv_at hl 3 rfl) ?_
  refine lv_iconst (v := 2) C.x C.b dL_law_1279 (by decide) ?_
  refine lv_iadd C.x C.b dL_law_1280 ?_
  refine va_sld C.x C.b hX hbl hbA hw.2.2 (hin 2 (by decide)) dL_law_1281 ?_
  refine lv_aload_n C.x C.b dL_law_1282 rfl (lv_at hl 0 rfl) ?_
  refine lv_iload_n C.x C.b dL_law_1283 rfl (lv_at hl 3 rfl) ?_
  refine lv_iconst (v := 3) C.x C.b dL_law_1284 (by decide) ?_
  refine lv_iadd C.x C.b dL_law_1285 ?_
  refine va_sld C.x C.b hX hbl hbA hw.2.2 (hin 3 (by decide)) dL_law_1286 ?_
  refine lw_cI (As := [.int (xs (nI (5 * k) + 1).toNatClampNeg), .int (xs (nI (5 * k) + 2).toNatClampNeg), .int (xs (nI (5 * k) + 3).toNatClampNeg)]) (rest := []) (ci := 9) C hw hM hI.rcv rfl kw1053 kw1054 kw1055 kw113 kw1056 okX9_bits ⟨Nat.le_of_ble_eq_true rfl, Nat.le_of_ble_eq_true rfl⟩ rfl hl.1 rfl (Nat.le_of_ble_eq_true rfl) dL_law_1287 ⟨(show cells + mc ≤ 600000 by omega), (show slots + ms ≤ 7302249 by omega)⟩ (fun W1 H locs hM1 hw => ?_)
  refine lv_aload_n C.x C.b dL_law_1290 rfl (lv_at hl 2 rfl) ?_
  refine lv_aload_n C.x C.b dL_law_1291 rfl (lv_at hl 0 rfl) ?_
  refine lv_iload_n C.x C.b dL_law_1292 rfl (lv_at hl 3 rfl) ?_
  refine lv_iconst (v := 1) C.x C.b dL_law_1293 (by decide) ?_
  refine lv_iadd C.x C.b dL_law_1294 ?_
  refine va_sld C.x C.b hX hbl hbA hw.2.2 (hin 1 (by decide)) dL_law_1295 ?_
  refine lv_aload_n C.x C.b dL_law_1296 rfl (lv_at hl 0 rfl) ?_
  refine lv_iload_n C.x C.b dL_law_1297 rfl (lv_at hl 3 rfl) ?_
  refine lv_iconst (v := 2) C.x C.b dL_law_1298 (by decide) ?_
  refine lv_iadd C.x C.b dL_law_1299 ?_
  refine va_sld C.x C.b hX hbl hbA hw.2.2 (hin 2 (by decide)) dL_law_1300 ?_
  refine lv_aload_n C.x C.b dL_law_1301 rfl (lv_at hl 0 rfl) ?_
  refine lv_iload_n C.x C.b dL_law_1302 rfl (lv_at hl 3 rfl) ?_
  refine lv_iconst (v := 3) C.x C.b dL_law_1303 (by decide) ?_
  refine lv_iadd C.x C.b dL_law_1304 ?_
  refine va_sld C.x C.b hX hbl hbA hw.2.2 (hin 3 (by decide)) dL_law_1305 ?_
  refine lw_cI (As := [.int (xs (nI (5 * k) + 1).toNatClampNeg), .int (xs (nI (5 * k) + 2).toNatClampNeg), .int (xs (nI (5 * k) + 3).toNatClampNeg)]) (rest := [.int rr]) (ci := 10) C hw hM1.2 hM1.1 rfl kw1849 kw1850 kw1851 kw123 kw1852 okX10_bits ⟨Nat.le_of_ble_eq_true rfl, Nat.le_of_ble_eq_true rfl⟩ rfl hl.1 rfl (Nat.le_of_ble_eq_true rfl) dL_law_1306 ⟨(show cells + mc + 0 ≤ 600000 by omega), (show slots + ms + 0 ≤ 7302249 by omega)⟩ (fun W2 H locs hI1 hw => ?_)
  refine lv_icmp_eq (tgt := 2338) C.x C.b dL_law_1309 (by decide) (fun c9 => ?_) (fun c9 => absurd rfl c9)
  exact kk W2 Φ' mc ms H locs hI1 hw h1 h2 h3
set_option maxRecDepth 100000 in
set_option maxHeartbeats 4000000 in
theorem lc_bound {D : va_G} {y : Nat → ClassId} {P h : Nat → Nat} {p : Program} {l : Launch} {e : Env} {s : State} {m : MethodId} {b : Nat} {below : List Frame} {meth : Method} {c : Code} {H : Heap} {locs : List Loc} {cells slots : Nat} {Q : State → Prop} {A : Nat → Prop} {cd : Cond} {ret : Option FieldType} {ls : Array Slot} {W0 : va_W} {Φ L k : Nat} {xs : Nat → Int32} (C : Cx D y p s m #[Value.ref b] meth c A RL cL_law cd ret 4) (hX : va_X b L xs s s.heap) (hbl : b < s.heap.size) (hbA : ¬ A b) (hin : ∀ j : Nat, j < 5 → vp_in (nI (5 * k) + nI j) L) (hw : St D A s H locs W0) (hI : INVW y P h W0 Φ) (hl : lv_has ls 4 [(0, .ref b), (1, .ref (P 0)), (2, .ref (h 0)), (3, .int (nI (5 * k)))]) (hc : cells + (16 + 16 * Φ) ≤ 600000) (hs : slots + (1200 + 999 * Φ) ≤ 7302249) (kk : LK D y P h p l e s m #[Value.ref b] below meth c A Q Φ cells slots ls) : W p l e room_1 s m #[Value.ref b] below meth c H locs cells slots Q (F0 m 1314 ls []) := by
  obtain ⟨rr, mc, ms, Φ', h1, h2, h3, hM⟩ := call_bound (l := l) (D := D) hI (xs (nI (5 * k) + 1).toNatClampNeg) (xs (nI (5 * k) + 2).toNatClampNeg) (if (xs (nI (5 * k) + 3).toNatClampNeg) = 0 then 0 else 1)
  refine lv_aload_n C.x C.b dL_law_1314 rfl (lv_at hl 1 rfl) ?_
  refine lv_aload_n C.x C.b dL_law_1315 rfl (lv_at hl 0 rfl) ?_
  refine lv_iload_n C.x C.b dL_law_1316 rfl (lv_at hl 3 rfl) ?_
  refine lv_iconst (v := 1) C.x C.b dL_law_1317 (by decide) ?_
  refine lv_iadd C.x C.b dL_law_1318 ?_
  refine va_sld C.x C.b hX hbl hbA hw.2.2 (hin 1 (by decide)) dL_law_1319 ?_
  refine lv_aload_n C.x C.b dL_law_1320 rfl (lv_at hl 0 rfl) ?_
  refine lv_iload_n C.x C.b dL_law_1321 rfl (lv_at hl 3 rfl) ?_
  refine lv_iconst (v := 2) C.x C.b dL_law_1322 (by decide) ?_
  refine lv_iadd C.x C.b dL_law_1323 ?_
  refine va_sld C.x C.b hX hbl hbA hw.2.2 (hin 2 (by decide)) dL_law_1324 ?_
  refine lv_aload_n C.x C.b dL_law_1325 rfl (lv_at hl 0 rfl) ?_
  refine lv_iload_n C.x C.b dL_law_1326 rfl (lv_at hl 3 rfl) ?_
  refine lv_iconst (v := 3) C.x C.b dL_law_1327 (by decide) ?_
  refine lv_iadd C.x C.b dL_law_1328 ?_
  refine va_sld C.x C.b hX hbl hbA hw.2.2 (hin 3 (by decide)) dL_law_1329 ?_
  have key0 : W p l e room_1 s m #[Value.ref b] below meth c H locs (cells) (slots) Q (F0 m 1338 ls (.int (if (xs (nI (5 * k) + 3).toNatClampNeg) = 0 then 0 else 1) :: [.int (xs (nI (5 * k) + 2).toNatClampNeg), .int (xs (nI (5 * k) + 1).toNatClampNeg), .ref (P 0)])) := by
    refine lw_cL (As := [.int (xs (nI (5 * k) + 1).toNatClampNeg), .int (xs (nI (5 * k) + 2).toNatClampNeg), .int (if (xs (nI (5 * k) + 3).toNatClampNeg) = 0 then 0 else 1)]) (rest := []) (ci := 9) C hw hM hI.rcv rfl kw1058 kw1059 kw1060 kw113 kw1061 okX9_bound ⟨Nat.le_of_ble_eq_true rfl, Nat.le_of_ble_eq_true rfl⟩ rfl hl.1 rfl (Nat.le_of_ble_eq_true rfl) dL_law_1338 ⟨(show cells + mc ≤ 600000 by omega), (show slots + ms ≤ 7302249 by omega)⟩ (fun W1 H locs hM1 hw => ?_)
    refine lv_aload_n C.x C.b dL_law_1341 rfl (lv_at hl 2 rfl) ?_
    refine lv_aload_n C.x C.b dL_law_1342 rfl (lv_at hl 0 rfl) ?_
    refine lv_iload_n C.x C.b dL_law_1343 rfl (lv_at hl 3 rfl) ?_
    refine lv_iconst (v := 1) C.x C.b dL_law_1344 (by decide) ?_
    refine lv_iadd C.x C.b dL_law_1345 ?_
    refine va_sld C.x C.b hX hbl hbA hw.2.2 (hin 1 (by decide)) dL_law_1346 ?_
    refine lv_aload_n C.x C.b dL_law_1347 rfl (lv_at hl 0 rfl) ?_
    refine lv_iload_n C.x C.b dL_law_1348 rfl (lv_at hl 3 rfl) ?_
    refine lv_iconst (v := 2) C.x C.b dL_law_1349 (by decide) ?_
    refine lv_iadd C.x C.b dL_law_1350 ?_
    refine va_sld C.x C.b hX hbl hbA hw.2.2 (hin 2 (by decide)) dL_law_1351 ?_
    refine lv_aload_n C.x C.b dL_law_1352 rfl (lv_at hl 0 rfl) ?_
    refine lv_iload_n C.x C.b dL_law_1353 rfl (lv_at hl 3 rfl) ?_
    refine lv_iconst (v := 3) C.x C.b dL_law_1354 (by decide) ?_
    refine lv_iadd C.x C.b dL_law_1355 ?_
    refine va_sld C.x C.b hX hbl hbA hw.2.2 (hin 3 (by decide)) dL_law_1356 ?_
    have key1 : W p l e room_1 s m #[Value.ref b] below meth c H locs (cells + mc) (slots + ms) Q (F0 m 1365 ls (.int (if (xs (nI (5 * k) + 3).toNatClampNeg) = 0 then 0 else 1) :: [.int (xs (nI (5 * k) + 2).toNatClampNeg), .int (xs (nI (5 * k) + 1).toNatClampNeg), .ref (h 0), .long rr])) := by
      refine lw_cL (As := [.int (xs (nI (5 * k) + 1).toNatClampNeg), .int (xs (nI (5 * k) + 2).toNatClampNeg), .int (if (xs (nI (5 * k) + 3).toNatClampNeg) = 0 then 0 else 1)]) (rest := [.long rr]) (ci := 10) C hw hM1.2 hM1.1 rfl kw1957 kw1958 kw1959 kw123 kw1960 okX10_bound ⟨Nat.le_of_ble_eq_true rfl, Nat.le_of_ble_eq_true rfl⟩ rfl hl.1 rfl (Nat.le_of_ble_eq_true rfl) dL_law_1365 ⟨(show cells + mc + 0 ≤ 600000 by omega), (show slots + ms + 0 ≤ 7302249 by omega)⟩ (fun W2 H locs hI1 hw => ?_)
      refine W.lcmp C.x C.b dL_law_1368 ?_
      rw [lg_self]
      refine lv_if_eq (tgt := 2338) C.x C.b dL_law_1369 (by decide) (fun c9 => ?_) (fun c9 => absurd rfl c9)
      exact kk W2 Φ' mc ms H locs hI1 hw h1 h2 h3
    refine lv_if_eq (tgt := 1364) C.x C.b dL_law_1357 (by decide) (fun c9 => ?_) (fun c9 => ?_)
    · rw [if_pos c9] at key1
      exact lv_iconst (v := 0) C.x C.b dL_law_1364 (by decide) key1
    · rw [if_neg c9] at key1
      refine lv_iconst (v := 1) C.x C.b dL_law_1360 (by decide) ?_
      exact lv_goto (tgt := 1365) C.x C.b dL_law_1361 (by decide) key1
  refine lv_if_eq (tgt := 1337) C.x C.b dL_law_1330 (by decide) (fun c9 => ?_) (fun c9 => ?_)
  · rw [if_pos c9] at key0
    exact lv_iconst (v := 0) C.x C.b dL_law_1337 (by decide) key0
  · rw [if_neg c9] at key0
    refine lv_iconst (v := 1) C.x C.b dL_law_1333 (by decide) ?_
    exact lv_goto (tgt := 1338) C.x C.b dL_law_1334 (by decide) key0
