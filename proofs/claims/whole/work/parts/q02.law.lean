set_option maxRecDepth 100000 in
set_option maxHeartbeats 4000000 in
theorem lc_value {D : va_G} {y : Nat → ClassId} {P h : Nat → Nat} {p : Program} {l : Launch} {e : Env} {s : State} {m : MethodId} {b : Nat} {below : List Frame} {meth : Method} {c : Code} {H : Heap} {locs : List Loc} {cells slots : Nat} {Q : State → Prop} {A : Nat → Prop} {cd : Cond} {ret : Option FieldType} {ls : Array Slot} {W0 : va_W} {Φ L k : Nat} {xs : Nat → Int32} (C : Cx D y p s m #[Value.ref b] meth c A RL cL_law cd ret 4) (hX : va_X b L xs s s.heap) (hbl : b < s.heap.size) (hbA : ¬ A b) (hin : ∀ j : Nat, j < 5 → vp_in (nI (5 * k) + nI j) L) (hw : St D A s H locs W0) (hI : INVW y P h W0 Φ) (hl : lv_has ls 4 [(0, .ref b), (1, .ref (P 0)), (2, .ref (h 0)), (3, .int (nI (5 * k)))]) (hc : cells + (16 + 16 * Φ) ≤ 600000) (hs : slots + (1200 + 999 * Φ) ≤ 7302249) (kk : LK D y P h p l e s m #[Value.ref b] below meth c A Q Φ cells slots ls) : W p l e room_1 s m #[Value.ref b] below meth c H locs cells slots Q (F0 m 1374 ls []) := by
  obtain ⟨rr, mc, ms, Φ', h1, h2, h3, hM⟩ := call_value (l := l) (D := D) hI (xs (nI (5 * k) + 1).toNatClampNeg) (xs (nI (5 * k) + 2).toNatClampNeg)
  refine lv_aload_n C.x C.b dL_law_1374 rfl (lv_at hl 1 rfl) ?_
  refine lv_aload_n C.x C.b dL_law_1375 rfl (lv_at hl 0 rfl) ?_
  refine lv_iload_n C.x C.b dL_law_1376 rfl (lv_at hl 3 rfl) ?_
  refine lv_iconst (v := 1) C.x C.b dL_law_1377 (by decide) ?_
  refine lv_iadd C.x C.b dL_law_1378 ?_
  refine va_sld C.x C.b hX hbl hbA hw.2.2 (hin 1 (by decide)) dL_law_1379 ?_
  refine lv_aload_n C.x C.b dL_law_1380 rfl (lv_at hl 0 rfl) ?_
  refine lv_iload_n C.x C.b dL_law_1381 rfl (lv_at hl 3 rfl) ?_
  refine lv_iconst (v := 2) C.x C.b dL_law_1382 (by decide) ?_
  refine lv_iadd C.x C.b dL_law_1383 ?_
  refine va_sld C.x C.b hX hbl hbA hw.2.2 (hin 2 (by decide)) dL_law_1384 ?_
  refine lw_cL (As := [.int (xs (nI (5 * k) + 1).toNatClampNeg), .int (xs (nI (5 * k) + 2).toNatClampNeg)]) (rest := []) (ci := 9) C hw hM hI.rcv rfl kw1071 kw1072 kw1073 kw113 kw1074 okX9_value ⟨Nat.le_of_ble_eq_true rfl, Nat.le_of_ble_eq_true rfl⟩ rfl hl.1 rfl (Nat.le_of_ble_eq_true rfl) dL_law_1385 ⟨(show cells + mc ≤ 600000 by omega), (show slots + ms ≤ 7302249 by omega)⟩ (fun W1 H locs hM1 hw => ?_)
  refine lv_aload_n C.x C.b dL_law_1388 rfl (lv_at hl 2 rfl) ?_
  refine lv_aload_n C.x C.b dL_law_1389 rfl (lv_at hl 0 rfl) ?_
  refine lv_iload_n C.x C.b dL_law_1390 rfl (lv_at hl 3 rfl) ?_
  refine lv_iconst (v := 1) C.x C.b dL_law_1391 (by decide) ?_
  refine lv_iadd C.x C.b dL_law_1392 ?_
  refine va_sld C.x C.b hX hbl hbA hw.2.2 (hin 1 (by decide)) dL_law_1393 ?_
  refine lv_aload_n C.x C.b dL_law_1394 rfl (lv_at hl 0 rfl) ?_
  refine lv_iload_n C.x C.b dL_law_1395 rfl (lv_at hl 3 rfl) ?_
  refine lv_iconst (v := 2) C.x C.b dL_law_1396 (by decide) ?_
  refine lv_iadd C.x C.b dL_law_1397 ?_
  refine va_sld C.x C.b hX hbl hbA hw.2.2 (hin 2 (by decide)) dL_law_1398 ?_
  refine lw_cL (As := [.int (xs (nI (5 * k) + 1).toNatClampNeg), .int (xs (nI (5 * k) + 2).toNatClampNeg)]) (rest := [.long rr]) (ci := 10) C hw hM1.2 hM1.1 rfl kw1853 kw1854 kw1855 kw123 kw1856 okX10_value ⟨Nat.le_of_ble_eq_true rfl, Nat.le_of_ble_eq_true rfl⟩ rfl hl.1 rfl (Nat.le_of_ble_eq_true rfl) dL_law_1399 ⟨(show cells + mc + 0 ≤ 600000 by omega), (show slots + ms + 0 ≤ 7302249 by omega)⟩ (fun W2 H locs hI1 hw => ?_)
  refine W.lcmp C.x C.b dL_law_1402 ?_
  rw [lg_self]
  refine lv_if_eq (tgt := 2338) C.x C.b dL_law_1403 (by decide) (fun c9 => ?_) (fun c9 => absurd rfl c9)
  exact kk W2 Φ' mc ms H locs hI1 hw h1 h2 h3
set_option maxRecDepth 100000 in
set_option maxHeartbeats 4000000 in
theorem lc_blockOf {D : va_G} {y : Nat → ClassId} {P h : Nat → Nat} {p : Program} {l : Launch} {e : Env} {s : State} {m : MethodId} {b : Nat} {below : List Frame} {meth : Method} {c : Code} {H : Heap} {locs : List Loc} {cells slots : Nat} {Q : State → Prop} {A : Nat → Prop} {cd : Cond} {ret : Option FieldType} {ls : Array Slot} {W0 : va_W} {Φ L k : Nat} {xs : Nat → Int32} (C : Cx D y p s m #[Value.ref b] meth c A RL cL_law cd ret 4) (hX : va_X b L xs s s.heap) (hbl : b < s.heap.size) (hbA : ¬ A b) (hin : ∀ j : Nat, j < 5 → vp_in (nI (5 * k) + nI j) L) (hw : St D A s H locs W0) (hI : INVW y P h W0 Φ) (hl : lv_has ls 4 [(0, .ref b), (1, .ref (P 0)), (2, .ref (h 0)), (3, .int (nI (5 * k)))]) (hc : cells + (16 + 16 * Φ) ≤ 600000) (hs : slots + (1200 + 999 * Φ) ≤ 7302249) (kk : LK D y P h p l e s m #[Value.ref b] below meth c A Q Φ cells slots ls) : W p l e room_1 s m #[Value.ref b] below meth c H locs cells slots Q (F0 m 1408 ls []) := by
  obtain ⟨rr, mc, ms, Φ', h1, h2, h3, hM⟩ := call_blockOf (l := l) (D := D) hI (xs (nI (5 * k) + 1).toNatClampNeg) (xs (nI (5 * k) + 2).toNatClampNeg)
  refine lv_aload_n C.x C.b dL_law_1408 rfl (lv_at hl 1 rfl) ?_
  refine lv_aload_n C.x C.b dL_law_1409 rfl (lv_at hl 0 rfl) ?_
  refine lv_iload_n C.x C.b dL_law_1410 rfl (lv_at hl 3 rfl) ?_
  refine lv_iconst (v := 1) C.x C.b dL_law_1411 (by decide) ?_
  refine lv_iadd C.x C.b dL_law_1412 ?_
  refine va_sld C.x C.b hX hbl hbA hw.2.2 (hin 1 (by decide)) dL_law_1413 ?_
  refine lv_aload_n C.x C.b dL_law_1414 rfl (lv_at hl 0 rfl) ?_
  refine lv_iload_n C.x C.b dL_law_1415 rfl (lv_at hl 3 rfl) ?_
  refine lv_iconst (v := 2) C.x C.b dL_law_1416 (by decide) ?_
  refine lv_iadd C.x C.b dL_law_1417 ?_
  refine va_sld C.x C.b hX hbl hbA hw.2.2 (hin 2 (by decide)) dL_law_1418 ?_
  refine lw_cI (As := [.int (xs (nI (5 * k) + 1).toNatClampNeg), .int (xs (nI (5 * k) + 2).toNatClampNeg)]) (rest := []) (ci := 9) C hw hM hI.rcv rfl kw1076 kw1077 kw1078 kw113 kw1079 okX9_blockOf ⟨Nat.le_of_ble_eq_true rfl, Nat.le_of_ble_eq_true rfl⟩ rfl hl.1 rfl (Nat.le_of_ble_eq_true rfl) dL_law_1419 ⟨(show cells + mc ≤ 600000 by omega), (show slots + ms ≤ 7302249 by omega)⟩ (fun W1 H locs hM1 hw => ?_)
  refine lv_aload_n C.x C.b dL_law_1422 rfl (lv_at hl 2 rfl) ?_
  refine lv_aload_n C.x C.b dL_law_1423 rfl (lv_at hl 0 rfl) ?_
  refine lv_iload_n C.x C.b dL_law_1424 rfl (lv_at hl 3 rfl) ?_
  refine lv_iconst (v := 1) C.x C.b dL_law_1425 (by decide) ?_
  refine lv_iadd C.x C.b dL_law_1426 ?_
  refine va_sld C.x C.b hX hbl hbA hw.2.2 (hin 1 (by decide)) dL_law_1427 ?_
  refine lv_aload_n C.x C.b dL_law_1428 rfl (lv_at hl 0 rfl) ?_
  refine lv_iload_n C.x C.b dL_law_1429 rfl (lv_at hl 3 rfl) ?_
  refine lv_iconst (v := 2) C.x C.b dL_law_1430 (by decide) ?_
  refine lv_iadd C.x C.b dL_law_1431 ?_
  refine va_sld C.x C.b hX hbl hbA hw.2.2 (hin 2 (by decide)) dL_law_1432 ?_
  refine lw_cI (As := [.int (xs (nI (5 * k) + 1).toNatClampNeg), .int (xs (nI (5 * k) + 2).toNatClampNeg)]) (rest := [.int rr]) (ci := 10) C hw hM1.2 hM1.1 rfl kw1859 kw1860 kw1861 kw123 kw1862 okX10_blockOf ⟨Nat.le_of_ble_eq_true rfl, Nat.le_of_ble_eq_true rfl⟩ rfl hl.1 rfl (Nat.le_of_ble_eq_true rfl) dL_law_1433 ⟨(show cells + mc + 0 ≤ 600000 by omega), (show slots + ms + 0 ≤ 7302249 by omega)⟩ (fun W2 H locs hI1 hw => ?_)
  refine lv_icmp_eq (tgt := 2338) C.x C.b dL_law_1436 (by decide) (fun c9 => ?_) (fun c9 => absurd rfl c9)
  exact kk W2 Φ' mc ms H locs hI1 hw h1 h2 h3
set_option maxRecDepth 100000 in
set_option maxHeartbeats 4000000 in
theorem lc_read {D : va_G} {y : Nat → ClassId} {P h : Nat → Nat} {p : Program} {l : Launch} {e : Env} {s : State} {m : MethodId} {b : Nat} {below : List Frame} {meth : Method} {c : Code} {H : Heap} {locs : List Loc} {cells slots : Nat} {Q : State → Prop} {A : Nat → Prop} {cd : Cond} {ret : Option FieldType} {ls : Array Slot} {W0 : va_W} {Φ L k : Nat} {xs : Nat → Int32} (C : Cx D y p s m #[Value.ref b] meth c A RL cL_law cd ret 4) (hX : va_X b L xs s s.heap) (hbl : b < s.heap.size) (hbA : ¬ A b) (hin : ∀ j : Nat, j < 5 → vp_in (nI (5 * k) + nI j) L) (hw : St D A s H locs W0) (hI : INVW y P h W0 Φ) (hl : lv_has ls 4 [(0, .ref b), (1, .ref (P 0)), (2, .ref (h 0)), (3, .int (nI (5 * k)))]) (hc : cells + (16 + 16 * Φ) ≤ 600000) (hs : slots + (1200 + 999 * Φ) ≤ 7302249) (kk : LK D y P h p l e s m #[Value.ref b] below meth c A Q Φ cells slots ls) : W p l e room_1 s m #[Value.ref b] below meth c H locs cells slots Q (F0 m 1441 ls []) := by
  obtain ⟨rr, mc, ms, Φ', h1, h2, h3, hM⟩ := call_read (l := l) (D := D) hI (xs (nI (5 * k) + 1).toNatClampNeg) (xs (nI (5 * k) + 2).toNatClampNeg)
  refine lv_aload_n C.x C.b dL_law_1441 rfl (lv_at hl 1 rfl) ?_
  refine lv_aload_n C.x C.b dL_law_1442 rfl (lv_at hl 0 rfl) ?_
  refine lv_iload_n C.x C.b dL_law_1443 rfl (lv_at hl 3 rfl) ?_
  refine lv_iconst (v := 1) C.x C.b dL_law_1444 (by decide) ?_
  refine lv_iadd C.x C.b dL_law_1445 ?_
  refine va_sld C.x C.b hX hbl hbA hw.2.2 (hin 1 (by decide)) dL_law_1446 ?_
  refine lv_aload_n C.x C.b dL_law_1447 rfl (lv_at hl 0 rfl) ?_
  refine lv_iload_n C.x C.b dL_law_1448 rfl (lv_at hl 3 rfl) ?_
  refine lv_iconst (v := 2) C.x C.b dL_law_1449 (by decide) ?_
  refine lv_iadd C.x C.b dL_law_1450 ?_
  refine va_sld C.x C.b hX hbl hbA hw.2.2 (hin 2 (by decide)) dL_law_1451 ?_
  refine lw_cI (As := [.int (xs (nI (5 * k) + 1).toNatClampNeg), .int (xs (nI (5 * k) + 2).toNatClampNeg)]) (rest := []) (ci := 9) C hw hM hI.rcv rfl kw1080 kw1081 kw1082 kw113 kw1083 okX9_read ⟨Nat.le_of_ble_eq_true rfl, Nat.le_of_ble_eq_true rfl⟩ rfl hl.1 rfl (Nat.le_of_ble_eq_true rfl) dL_law_1452 ⟨(show cells + mc ≤ 600000 by omega), (show slots + ms ≤ 7302249 by omega)⟩ (fun W1 H locs hM1 hw => ?_)
  refine lv_aload_n C.x C.b dL_law_1455 rfl (lv_at hl 2 rfl) ?_
  refine lv_aload_n C.x C.b dL_law_1456 rfl (lv_at hl 0 rfl) ?_
  refine lv_iload_n C.x C.b dL_law_1457 rfl (lv_at hl 3 rfl) ?_
  refine lv_iconst (v := 1) C.x C.b dL_law_1458 (by decide) ?_
  refine lv_iadd C.x C.b dL_law_1459 ?_
  refine va_sld C.x C.b hX hbl hbA hw.2.2 (hin 1 (by decide)) dL_law_1460 ?_
  refine lv_aload_n C.x C.b dL_law_1461 rfl (lv_at hl 0 rfl) ?_
  refine lv_iload_n C.x C.b dL_law_1462 rfl (lv_at hl 3 rfl) ?_
  refine lv_iconst (v := 2) C.x C.b dL_law_1463 (by decide) ?_
  refine lv_iadd C.x C.b dL_law_1464 ?_
  refine va_sld C.x C.b hX hbl hbA hw.2.2 (hin 2 (by decide)) dL_law_1465 ?_
  refine lw_cI (As := [.int (xs (nI (5 * k) + 1).toNatClampNeg), .int (xs (nI (5 * k) + 2).toNatClampNeg)]) (rest := [.int rr]) (ci := 10) C hw hM1.2 hM1.1 rfl kw1863 kw1864 kw1865 kw123 kw1866 okX10_read ⟨Nat.le_of_ble_eq_true rfl, Nat.le_of_ble_eq_true rfl⟩ rfl hl.1 rfl (Nat.le_of_ble_eq_true rfl) dL_law_1466 ⟨(show cells + mc + 0 ≤ 600000 by omega), (show slots + ms + 0 ≤ 7302249 by omega)⟩ (fun W2 H locs hI1 hw => ?_)
  refine lv_icmp_eq (tgt := 2338) C.x C.b dL_law_1469 (by decide) (fun c9 => ?_) (fun c9 => absurd rfl c9)
  exact kk W2 Φ' mc ms H locs hI1 hw h1 h2 h3
set_option maxRecDepth 100000 in
set_option maxHeartbeats 4000000 in
theorem lc_patched {D : va_G} {y : Nat → ClassId} {P h : Nat → Nat} {p : Program} {l : Launch} {e : Env} {s : State} {m : MethodId} {b : Nat} {below : List Frame} {meth : Method} {c : Code} {H : Heap} {locs : List Loc} {cells slots : Nat} {Q : State → Prop} {A : Nat → Prop} {cd : Cond} {ret : Option FieldType} {ls : Array Slot} {W0 : va_W} {Φ L k : Nat} {xs : Nat → Int32} (C : Cx D y p s m #[Value.ref b] meth c A RL cL_law cd ret 4) (hX : va_X b L xs s s.heap) (hbl : b < s.heap.size) (hbA : ¬ A b) (hin : ∀ j : Nat, j < 5 → vp_in (nI (5 * k) + nI j) L) (hw : St D A s H locs W0) (hI : INVW y P h W0 Φ) (hl : lv_has ls 4 [(0, .ref b), (1, .ref (P 0)), (2, .ref (h 0)), (3, .int (nI (5 * k)))]) (hc : cells + (16 + 16 * Φ) ≤ 600000) (hs : slots + (1200 + 999 * Φ) ≤ 7302249) (kk : LK D y P h p l e s m #[Value.ref b] below meth c A Q Φ cells slots ls) : W p l e room_1 s m #[Value.ref b] below meth c H locs cells slots Q (F0 m 1474 ls []) := by
  obtain ⟨rr, mc, ms, Φ', h1, h2, h3, hM⟩ := call_patched (l := l) (D := D) hI (xs (nI (5 * k) + 1).toNatClampNeg) (xs (nI (5 * k) + 2).toNatClampNeg)
  refine lv_aload_n C.x C.b dL_law_1474 rfl (lv_at hl 1 rfl) ?_
  refine lv_aload_n C.x C.b dL_law_1475 rfl (lv_at hl 0 rfl) ?_
  refine lv_iload_n C.x C.b dL_law_1476 rfl (lv_at hl 3 rfl) ?_
  refine lv_iconst (v := 1) C.x C.b dL_law_1477 (by decide) ?_
  refine lv_iadd C.x C.b dL_law_1478 ?_
  refine va_sld C.x C.b hX hbl hbA hw.2.2 (hin 1 (by decide)) dL_law_1479 ?_
  refine lv_aload_n C.x C.b dL_law_1480 rfl (lv_at hl 0 rfl) ?_
  refine lv_iload_n C.x C.b dL_law_1481 rfl (lv_at hl 3 rfl) ?_
  refine lv_iconst (v := 2) C.x C.b dL_law_1482 (by decide) ?_
  refine lv_iadd C.x C.b dL_law_1483 ?_
  refine va_sld C.x C.b hX hbl hbA hw.2.2 (hin 2 (by decide)) dL_law_1484 ?_
  refine lw_cI (As := [.int (xs (nI (5 * k) + 1).toNatClampNeg), .int (xs (nI (5 * k) + 2).toNatClampNeg)]) (rest := []) (ci := 9) C hw hM hI.rcv rfl kw1090 kw1091 kw1092 kw113 kw1093 okX9_patched ⟨Nat.le_of_ble_eq_true rfl, Nat.le_of_ble_eq_true rfl⟩ rfl hl.1 rfl (Nat.le_of_ble_eq_true rfl) dL_law_1485 ⟨(show cells + mc ≤ 600000 by omega), (show slots + ms ≤ 7302249 by omega)⟩ (fun W1 H locs hM1 hw => ?_)
  refine lv_aload_n C.x C.b dL_law_1488 rfl (lv_at hl 2 rfl) ?_
  refine lv_aload_n C.x C.b dL_law_1489 rfl (lv_at hl 0 rfl) ?_
  refine lv_iload_n C.x C.b dL_law_1490 rfl (lv_at hl 3 rfl) ?_
  refine lv_iconst (v := 1) C.x C.b dL_law_1491 (by decide) ?_
  refine lv_iadd C.x C.b dL_law_1492 ?_
  refine va_sld C.x C.b hX hbl hbA hw.2.2 (hin 1 (by decide)) dL_law_1493 ?_
  refine lv_aload_n C.x C.b dL_law_1494 rfl (lv_at hl 0 rfl) ?_
  refine lv_iload_n C.x C.b dL_law_1495 rfl (lv_at hl 3 rfl) ?_
  refine lv_iconst (v := 2) C.x C.b dL_law_1496 (by decide) ?_
  refine lv_iadd C.x C.b dL_law_1497 ?_
  refine va_sld C.x C.b hX hbl hbA hw.2.2 (hin 2 (by decide)) dL_law_1498 ?_
  refine lw_cI (As := [.int (xs (nI (5 * k) + 1).toNatClampNeg), .int (xs (nI (5 * k) + 2).toNatClampNeg)]) (rest := [.int rr]) (ci := 10) C hw hM1.2 hM1.1 rfl kw1963 kw1964 kw1965 kw123 kw1966 okX10_patched ⟨Nat.le_of_ble_eq_true rfl, Nat.le_of_ble_eq_true rfl⟩ rfl hl.1 rfl (Nat.le_of_ble_eq_true rfl) dL_law_1499 ⟨(show cells + mc + 0 ≤ 600000 by omega), (show slots + ms + 0 ≤ 7302249 by omega)⟩ (fun W2 H locs hI1 hw => ?_)
  refine lv_icmp_eq (tgt := 2338) C.x C.b dL_law_1502 (by decide) (fun c9 => ?_) (fun c9 => absurd rfl c9)
  exact kk W2 Φ' mc ms H locs hI1 hw h1 h2 h3
set_option maxRecDepth 100000 in
set_option maxHeartbeats 4000000 in
theorem lc_part {D : va_G} {y : Nat → ClassId} {P h : Nat → Nat} {p : Program} {l : Launch} {e : Env} {s : State} {m : MethodId} {b : Nat} {below : List Frame} {meth : Method} {c : Code} {H : Heap} {locs : List Loc} {cells slots : Nat} {Q : State → Prop} {A : Nat → Prop} {cd : Cond} {ret : Option FieldType} {ls : Array Slot} {W0 : va_W} {Φ L k : Nat} {xs : Nat → Int32} (C : Cx D y p s m #[Value.ref b] meth c A RL cL_law cd ret 4) (hX : va_X b L xs s s.heap) (hbl : b < s.heap.size) (hbA : ¬ A b) (hin : ∀ j : Nat, j < 5 → vp_in (nI (5 * k) + nI j) L) (hw : St D A s H locs W0) (hI : INVW y P h W0 Φ) (hl : lv_has ls 4 [(0, .ref b), (1, .ref (P 0)), (2, .ref (h 0)), (3, .int (nI (5 * k)))]) (hc : cells + (16 + 16 * Φ) ≤ 600000) (hs : slots + (1200 + 999 * Φ) ≤ 7302249) (kk : LK D y P h p l e s m #[Value.ref b] below meth c A Q Φ cells slots ls) : W p l e room_1 s m #[Value.ref b] below meth c H locs cells slots Q (F0 m 1507 ls []) := by
  obtain ⟨rr, mc, ms, Φ', h1, h2, h3, hM⟩ := call_part (l := l) (D := D) hI (xs (nI (5 * k) + 1).toNatClampNeg) (xs (nI (5 * k) + 2).toNatClampNeg) (xs (nI (5 * k) + 3).toNatClampNeg)
  refine lv_aload_n C.x C.b dL_law_1507 rfl (lv_at hl 1 rfl) ?_
  refine lv_aload_n C.x C.b dL_law_1508 rfl (lv_at hl 0 rfl) ?_
  refine lv_iload_n C.x C.b dL_law_1509 rfl (lv_at hl 3 rfl) ?_
  refine lv_iconst (v := 1) C.x C.b dL_law_1510 (by decide) ?_
  refine lv_iadd C.x C.b dL_law_1511 ?_
  refine va_sld C.x C.b hX hbl hbA hw.2.2 (hin 1 (by decide)) dL_law_1512 ?_
  refine lv_aload_n C.x C.b dL_law_1513 rfl (lv_at hl 0 rfl) ?_
  refine lv_iload_n C.x C.b dL_law_1514 rfl (lv_at hl 3 rfl) ?_
  refine lv_iconst (v := 2) C.x C.b dL_law_1515 (by decide) ?_
  refine lv_iadd C.x C.b dL_law_1516 ?_
  refine va_sld C.x C.b hX hbl hbA hw.2.2 (hin 2 (by decide)) dL_law_1517 ?_
  refine lv_aload_n C.x C.b dL_law_1518 rfl (lv_at hl 0 rfl) ?_
  refine lv_iload_n C.x C.b dL_law_1519 rfl (lv_at hl 3 rfl) ?_
  refine lv_iconst (v := 3) C.x C.b dL_law_1520 (by decide) ?_
  refine lv_iadd C.x C.b dL_law_1521 ?_
  refine va_sld C.x C.b hX hbl hbA hw.2.2 (hin 3 (by decide)) dL_law_1522 ?_
  refine lw_cL (As := [.int (xs (nI (5 * k) + 1).toNatClampNeg), .int (xs (nI (5 * k) + 2).toNatClampNeg), .int (xs (nI (5 * k) + 3).toNatClampNeg)]) (rest := []) (ci := 9) C hw hM hI.rcv rfl kw1096 kw1097 kw1098 kw113 kw1099 okX9_part ⟨Nat.le_of_ble_eq_true rfl, Nat.le_of_ble_eq_true rfl⟩ rfl hl.1 rfl (Nat.le_of_ble_eq_true rfl) dL_law_1523 ⟨(show cells + mc ≤ 600000 by omega), (show slots + ms ≤ 7302249 by omega)⟩ (fun W1 H locs hM1 hw => ?_)
  refine lv_aload_n C.x C.b dL_law_1526 rfl (lv_at hl 2 rfl) ?_
  refine lv_aload_n C.x C.b dL_law_1527 rfl (lv_at hl 0 rfl) ?_
  refine lv_iload_n C.x C.b dL_law_1528 rfl (lv_at hl 3 rfl) ?_
  refine lv_iconst (v := 1) C.x C.b dL_law_1529 (by decide) ?_
  refine lv_iadd C.x C.b dL_law_1530 ?_
  refine va_sld C.x C.b hX hbl hbA hw.2.2 (hin 1 (by decide)) dL_law_1531 ?_
  refine lv_aload_n C.x C.b dL_law_1532 rfl (lv_at hl 0 rfl) ?_
  refine lv_iload_n C.x C.b dL_law_1533 rfl (lv_at hl 3 rfl) ?_
  refine lv_iconst (v := 2) C.x C.b dL_law_1534 (by decide) ?_
  refine lv_iadd C.x C.b dL_law_1535 ?_
  refine va_sld C.x C.b hX hbl hbA hw.2.2 (hin 2 (by decide)) dL_law_1536 ?_
  refine lv_aload_n C.x C.b dL_law_1537 rfl (lv_at hl 0 rfl) ?_
  refine lv_iload_n C.x C.b dL_law_1538 rfl (lv_at hl 3 rfl) ?_
  refine lv_iconst (v := 3) C.x C.b dL_law_1539 (by decide) ?_
  refine lv_iadd C.x C.b dL_law_1540 ?_
  refine va_sld C.x C.b hX hbl hbA hw.2.2 (hin 3 (by decide)) dL_law_1541 ?_
  refine lw_cL (As := [.int (xs (nI (5 * k) + 1).toNatClampNeg), .int (xs (nI (5 * k) + 2).toNatClampNeg), .int (xs (nI (5 * k) + 3).toNatClampNeg)]) (rest := [.long rr]) (ci := 10) C hw hM1.2 hM1.1 rfl kw1867 kw1868 kw1869 kw123 kw1870 okX10_part ⟨Nat.le_of_ble_eq_true rfl, Nat.le_of_ble_eq_true rfl⟩ rfl hl.1 rfl (Nat.le_of_ble_eq_true rfl) dL_law_1542 ⟨(show cells + mc + 0 ≤ 600000 by omega), (show slots + ms + 0 ≤ 7302249 by omega)⟩ (fun W2 H locs hI1 hw => ?_)
  refine W.lcmp C.x C.b dL_law_1545 ?_
  rw [lg_self]
  refine lv_if_eq (tgt := 2338) C.x C.b dL_law_1546 (by decide) (fun c9 => ?_) (fun c9 => absurd rfl c9)
  exact kk W2 Φ' mc ms H locs hI1 hw h1 h2 h3
set_option maxRecDepth 100000 in
set_option maxHeartbeats 4000000 in
theorem lc_pending {D : va_G} {y : Nat → ClassId} {P h : Nat → Nat} {p : Program} {l : Launch} {e : Env} {s : State} {m : MethodId} {b : Nat} {below : List Frame} {meth : Method} {c : Code} {H : Heap} {locs : List Loc} {cells slots : Nat} {Q : State → Prop} {A : Nat → Prop} {cd : Cond} {ret : Option FieldType} {ls : Array Slot} {W0 : va_W} {Φ L k : Nat} {xs : Nat → Int32} (C : Cx D y p s m #[Value.ref b] meth c A RL cL_law cd ret 4) (hX : va_X b L xs s s.heap) (hbl : b < s.heap.size) (hbA : ¬ A b) (hin : ∀ j : Nat, j < 5 → vp_in (nI (5 * k) + nI j) L) (hw : St D A s H locs W0) (hI : INVW y P h W0 Φ) (hl : lv_has ls 4 [(0, .ref b), (1, .ref (P 0)), (2, .ref (h 0)), (3, .int (nI (5 * k)))]) (hc : cells + (16 + 16 * Φ) ≤ 600000) (hs : slots + (1200 + 999 * Φ) ≤ 7302249) (kk : LK D y P h p l e s m #[Value.ref b] below meth c A Q Φ cells slots ls) : W p l e room_1 s m #[Value.ref b] below meth c H locs cells slots Q (F0 m 1551 ls []) := by
  obtain ⟨rr, mc, ms, Φ', h1, h2, h3, hM⟩ := call_pending (l := l) (D := D) hI (xs (nI (5 * k) + 1).toNatClampNeg)
  refine lv_aload_n C.x C.b dL_law_1551 rfl (lv_at hl 1 rfl) ?_
  refine lv_aload_n C.x C.b dL_law_1552 rfl (lv_at hl 0 rfl) ?_
  refine lv_iload_n C.x C.b dL_law_1553 rfl (lv_at hl 3 rfl) ?_
  refine lv_iconst (v := 1) C.x C.b dL_law_1554 (by decide) ?_
  refine lv_iadd C.x C.b dL_law_1555 ?_
  refine va_sld C.x C.b hX hbl hbA hw.2.2 (hin 1 (by decide)) dL_law_1556 ?_
  refine lw_cL (As := [.int (xs (nI (5 * k) + 1).toNatClampNeg)]) (rest := []) (ci := 9) C hw hM hI.rcv rfl kw1106 kw1107 kw1108 kw113 kw1109 okX9_pending ⟨Nat.le_of_ble_eq_true rfl, Nat.le_of_ble_eq_true rfl⟩ rfl hl.1 rfl (Nat.le_of_ble_eq_true rfl) dL_law_1557 ⟨(show cells + mc ≤ 600000 by omega), (show slots + ms ≤ 7302249 by omega)⟩ (fun W1 H locs hM1 hw => ?_)
  refine lv_aload_n C.x C.b dL_law_1560 rfl (lv_at hl 2 rfl) ?_
  refine lv_aload_n C.x C.b dL_law_1561 rfl (lv_at hl 0 rfl) ?_
  refine lv_iload_n C.x C.b dL_law_1562 rfl (lv_at hl 3 rfl) ?_
  refine lv_iconst (v := 1) C.x C.b dL_law_1563 (by decide) ?_
  refine lv_iadd C.x C.b dL_law_1564 ?_
  refine va_sld C.x C.b hX hbl hbA hw.2.2 (hin 1 (by decide)) dL_law_1565 ?_
  refine lw_cL (As := [.int (xs (nI (5 * k) + 1).toNatClampNeg)]) (rest := [.long rr]) (ci := 10) C hw hM1.2 hM1.1 rfl kw1872 kw1873 kw1874 kw123 kw1875 okX10_pending ⟨Nat.le_of_ble_eq_true rfl, Nat.le_of_ble_eq_true rfl⟩ rfl hl.1 rfl (Nat.le_of_ble_eq_true rfl) dL_law_1566 ⟨(show cells + mc + 0 ≤ 600000 by omega), (show slots + ms + 0 ≤ 7302249 by omega)⟩ (fun W2 H locs hI1 hw => ?_)
  refine W.lcmp C.x C.b dL_law_1569 ?_
  rw [lg_self]
  refine lv_if_eq (tgt := 2338) C.x C.b dL_law_1570 (by decide) (fun c9 => ?_) (fun c9 => absurd rfl c9)
  exact kk W2 Φ' mc ms H locs hI1 hw h1 h2 h3
set_option maxRecDepth 100000 in
set_option maxHeartbeats 4000000 in
theorem lc_total {D : va_G} {y : Nat → ClassId} {P h : Nat → Nat} {p : Program} {l : Launch} {e : Env} {s : State} {m : MethodId} {b : Nat} {below : List Frame} {meth : Method} {c : Code} {H : Heap} {locs : List Loc} {cells slots : Nat} {Q : State → Prop} {A : Nat → Prop} {cd : Cond} {ret : Option FieldType} {ls : Array Slot} {W0 : va_W} {Φ L k : Nat} {xs : Nat → Int32} (C : Cx D y p s m #[Value.ref b] meth c A RL cL_law cd ret 4) (hX : va_X b L xs s s.heap) (hbl : b < s.heap.size) (hbA : ¬ A b) (hin : ∀ j : Nat, j < 5 → vp_in (nI (5 * k) + nI j) L) (hw : St D A s H locs W0) (hI : INVW y P h W0 Φ) (hl : lv_has ls 4 [(0, .ref b), (1, .ref (P 0)), (2, .ref (h 0)), (3, .int (nI (5 * k)))]) (hc : cells + (16 + 16 * Φ) ≤ 600000) (hs : slots + (1200 + 999 * Φ) ≤ 7302249) (kk : LK D y P h p l e s m #[Value.ref b] below meth c A Q Φ cells slots ls) : W p l e room_1 s m #[Value.ref b] below meth c H locs cells slots Q (F0 m 1575 ls []) := by
  obtain ⟨rr, mc, ms, Φ', h1, h2, h3, hM⟩ := call_total (l := l) (D := D) hI (xs (nI (5 * k) + 1).toNatClampNeg) (xs (nI (5 * k) + 2).toNatClampNeg)
  refine lv_aload_n C.x C.b dL_law_1575 rfl (lv_at hl 1 rfl) ?_
  refine lv_aload_n C.x C.b dL_law_1576 rfl (lv_at hl 0 rfl) ?_
  refine lv_iload_n C.x C.b dL_law_1577 rfl (lv_at hl 3 rfl) ?_
  refine lv_iconst (v := 1) C.x C.b dL_law_1578 (by decide) ?_
  refine lv_iadd C.x C.b dL_law_1579 ?_
  refine va_sld C.x C.b hX hbl hbA hw.2.2 (hin 1 (by decide)) dL_law_1580 ?_
  refine lv_aload_n C.x C.b dL_law_1581 rfl (lv_at hl 0 rfl) ?_
  refine lv_iload_n C.x C.b dL_law_1582 rfl (lv_at hl 3 rfl) ?_
  refine lv_iconst (v := 2) C.x C.b dL_law_1583 (by decide) ?_
  refine lv_iadd C.x C.b dL_law_1584 ?_
  refine va_sld C.x C.b hX hbl hbA hw.2.2 (hin 2 (by decide)) dL_law_1585 ?_
  refine lw_cI (As := [.int (xs (nI (5 * k) + 1).toNatClampNeg), .int (xs (nI (5 * k) + 2).toNatClampNeg)]) (rest := []) (ci := 9) C hw hM hI.rcv rfl kw1110 kw1111 kw1112 kw113 kw1113 okX9_total ⟨Nat.le_of_ble_eq_true rfl, Nat.le_of_ble_eq_true rfl⟩ rfl hl.1 rfl (Nat.le_of_ble_eq_true rfl) dL_law_1586 ⟨(show cells + mc ≤ 600000 by omega), (show slots + ms ≤ 7302249 by omega)⟩ (fun W1 H locs hM1 hw => ?_)
  refine lv_aload_n C.x C.b dL_law_1589 rfl (lv_at hl 2 rfl) ?_
  refine lv_aload_n C.x C.b dL_law_1590 rfl (lv_at hl 0 rfl) ?_
  refine lv_iload_n C.x C.b dL_law_1591 rfl (lv_at hl 3 rfl) ?_
  refine lv_iconst (v := 1) C.x C.b dL_law_1592 (by decide) ?_
  refine lv_iadd C.x C.b dL_law_1593 ?_
  refine va_sld C.x C.b hX hbl hbA hw.2.2 (hin 1 (by decide)) dL_law_1594 ?_
  refine lv_aload_n C.x C.b dL_law_1595 rfl (lv_at hl 0 rfl) ?_
  refine lv_iload_n C.x C.b dL_law_1596 rfl (lv_at hl 3 rfl) ?_
  refine lv_iconst (v := 2) C.x C.b dL_law_1597 (by decide) ?_
  refine lv_iadd C.x C.b dL_law_1598 ?_
  refine va_sld C.x C.b hX hbl hbA hw.2.2 (hin 2 (by decide)) dL_law_1599 ?_
  refine lw_cI (As := [.int (xs (nI (5 * k) + 1).toNatClampNeg), .int (xs (nI (5 * k) + 2).toNatClampNeg)]) (rest := [.int rr]) (ci := 10) C hw hM1.2 hM1.1 rfl kw1876 kw1877 kw1878 kw123 kw1879 okX10_total ⟨Nat.le_of_ble_eq_true rfl, Nat.le_of_ble_eq_true rfl⟩ rfl hl.1 rfl (Nat.le_of_ble_eq_true rfl) dL_law_1600 ⟨(show cells + mc + 0 ≤ 600000 by omega), (show slots + ms + 0 ≤ 7302249 by omega)⟩ (fun W2 H locs hI1 hw => ?_)
  refine lv_icmp_eq (tgt := 2338) C.x C.b dL_law_1603 (by decide) (fun c9 => ?_) (fun c9 => absurd rfl c9)
  exact kk W2 Φ' mc ms H locs hI1 hw h1 h2 h3
set_option maxRecDepth 100000 in
set_option maxHeartbeats 4000000 in
theorem lc_best {D : va_G} {y : Nat → ClassId} {P h : Nat → Nat} {p : Program} {l : Launch} {e : Env} {s : State} {m : MethodId} {b : Nat} {below : List Frame} {meth : Method} {c : Code} {H : Heap} {locs : List Loc} {cells slots : Nat} {Q : State → Prop} {A : Nat → Prop} {cd : Cond} {ret : Option FieldType} {ls : Array Slot} {W0 : va_W} {Φ L k : Nat} {xs : Nat → Int32} (C : Cx D y p s m #[Value.ref b] meth c A RL cL_law cd ret 4) (hX : va_X b L xs s s.heap) (hbl : b < s.heap.size) (hbA : ¬ A b) (hin : ∀ j : Nat, j < 5 → vp_in (nI (5 * k) + nI j) L) (hw : St D A s H locs W0) (hI : INVW y P h W0 Φ) (hl : lv_has ls 4 [(0, .ref b), (1, .ref (P 0)), (2, .ref (h 0)), (3, .int (nI (5 * k)))]) (hc : cells + (16 + 16 * Φ) ≤ 600000) (hs : slots + (1200 + 999 * Φ) ≤ 7302249) (kk : LK D y P h p l e s m #[Value.ref b] below meth c A Q Φ cells slots ls) : W p l e room_1 s m #[Value.ref b] below meth c H locs cells slots Q (F0 m 1608 ls []) := by
  obtain ⟨rr, mc, ms, Φ', h1, h2, h3, hM⟩ := call_best (l := l) (D := D) hI (xs (nI (5 * k) + 1).toNatClampNeg)
  refine lv_aload_n C.x C.b dL_law_1608 rfl (lv_at hl 1 rfl) ?_
  refine lv_aload_n C.x C.b dL_law_1609 rfl (lv_at hl 0 rfl) ?_
  refine lv_iload_n C.x C.b dL_law_1610 rfl (lv_at hl 3 rfl) ?_
  refine lv_iconst (v := 1) C.x C.b dL_law_1611 (by decide) ?_
  refine lv_iadd C.x C.b dL_law_1612 ?_
  refine va_sld C.x C.b hX hbl hbA hw.2.2 (hin 1 (by decide)) dL_law_1613 ?_
  refine lw_cI (As := [.int (xs (nI (5 * k) + 1).toNatClampNeg)]) (rest := []) (ci := 9) C hw hM hI.rcv rfl kw1134 kw1135 kw1136 kw113 kw1137 okX9_best ⟨Nat.le_of_ble_eq_true rfl, Nat.le_of_ble_eq_true rfl⟩ rfl hl.1 rfl (Nat.le_of_ble_eq_true rfl) dL_law_1614 ⟨(show cells + mc ≤ 600000 by omega), (show slots + ms ≤ 7302249 by omega)⟩ (fun W1 H locs hM1 hw => ?_)
  refine lv_aload_n C.x C.b dL_law_1617 rfl (lv_at hl 2 rfl) ?_
  refine lv_aload_n C.x C.b dL_law_1618 rfl (lv_at hl 0 rfl) ?_
  refine lv_iload_n C.x C.b dL_law_1619 rfl (lv_at hl 3 rfl) ?_
  refine lv_iconst (v := 1) C.x C.b dL_law_1620 (by decide) ?_
  refine lv_iadd C.x C.b dL_law_1621 ?_
  refine va_sld C.x C.b hX hbl hbA hw.2.2 (hin 1 (by decide)) dL_law_1622 ?_
  refine lw_cI (As := [.int (xs (nI (5 * k) + 1).toNatClampNeg)]) (rest := [.int rr]) (ci := 10) C hw hM1.2 hM1.1 rfl kw1888 kw1889 kw1890 kw123 kw1891 okX10_best ⟨Nat.le_of_ble_eq_true rfl, Nat.le_of_ble_eq_true rfl⟩ rfl hl.1 rfl (Nat.le_of_ble_eq_true rfl) dL_law_1623 ⟨(show cells + mc + 0 ≤ 600000 by omega), (show slots + ms + 0 ≤ 7302249 by omega)⟩ (fun W2 H locs hI1 hw => ?_)
  refine lv_icmp_eq (tgt := 2338) C.x C.b dL_law_1626 (by decide) (fun c9 => ?_) (fun c9 => absurd rfl c9)
  exact kk W2 Φ' mc ms H locs hI1 hw h1 h2 h3
set_option maxRecDepth 100000 in
set_option maxHeartbeats 4000000 in
theorem lc_narrow {D : va_G} {y : Nat → ClassId} {P h : Nat → Nat} {p : Program} {l : Launch} {e : Env} {s : State} {m : MethodId} {b : Nat} {below : List Frame} {meth : Method} {c : Code} {H : Heap} {locs : List Loc} {cells slots : Nat} {Q : State → Prop} {A : Nat → Prop} {cd : Cond} {ret : Option FieldType} {ls : Array Slot} {W0 : va_W} {Φ L k : Nat} {xs : Nat → Int32} (C : Cx D y p s m #[Value.ref b] meth c A RL cL_law cd ret 4) (hX : va_X b L xs s s.heap) (hbl : b < s.heap.size) (hbA : ¬ A b) (hin : ∀ j : Nat, j < 5 → vp_in (nI (5 * k) + nI j) L) (hw : St D A s H locs W0) (hI : INVW y P h W0 Φ) (hl : lv_has ls 4 [(0, .ref b), (1, .ref (P 0)), (2, .ref (h 0)), (3, .int (nI (5 * k)))]) (hc : cells + (16 + 16 * Φ) ≤ 600000) (hs : slots + (1200 + 999 * Φ) ≤ 7302249) (kk : LK D y P h p l e s m #[Value.ref b] below meth c A Q Φ cells slots ls) : W p l e room_1 s m #[Value.ref b] below meth c H locs cells slots Q (F0 m 1631 ls []) := by
  obtain ⟨rr, mc, ms, Φ', h1, h2, h3, hM⟩ := call_narrow (l := l) (D := D) hI (xs (nI (5 * k) + 1).toNatClampNeg) (xs (nI (5 * k) + 2).toNatClampNeg)
  refine lv_aload_n C.x C.b dL_law_1631 rfl (lv_at hl 1 rfl) ?_
  refine lv_aload_n C.x C.b dL_law_1632 rfl (lv_at hl 0 rfl) ?_
  refine lv_iload_n C.x C.b dL_law_1633 rfl (lv_at hl 3 rfl) ?_
  refine lv_iconst (v := 1) C.x C.b dL_law_1634 (by decide) ?_
  refine lv_iadd C.x C.b dL_law_1635 ?_
  refine va_sld C.x C.b hX hbl hbA hw.2.2 (hin 1 (by decide)) dL_law_1636 ?_
  refine lv_aload_n C.x C.b dL_law_1637 rfl (lv_at hl 0 rfl) ?_
  refine lv_iload_n C.x C.b dL_law_1638 rfl (lv_at hl 3 rfl) ?_
  refine lv_iconst (v := 2) C.x C.b dL_law_1639 (by decide) ?_
  refine lv_iadd C.x C.b dL_law_1640 ?_
  refine va_sld C.x C.b hX hbl hbA hw.2.2 (hin 2 (by decide)) dL_law_1641 ?_
  refine lw_cI (As := [.int (xs (nI (5 * k) + 1).toNatClampNeg), .int (xs (nI (5 * k) + 2).toNatClampNeg)]) (rest := []) (ci := 9) C hw hM hI.rcv rfl kw1139 kw1140 kw1141 kw113 kw1142 okX9_narrow ⟨Nat.le_of_ble_eq_true rfl, Nat.le_of_ble_eq_true rfl⟩ rfl hl.1 rfl (Nat.le_of_ble_eq_true rfl) dL_law_1642 ⟨(show cells + mc ≤ 600000 by omega), (show slots + ms ≤ 7302249 by omega)⟩ (fun W1 H locs hM1 hw => ?_)
  refine lv_aload_n C.x C.b dL_law_1645 rfl (lv_at hl 2 rfl) ?_
  refine lv_aload_n C.x C.b dL_law_1646 rfl (lv_at hl 0 rfl) ?_
  refine lv_iload_n C.x C.b dL_law_1647 rfl (lv_at hl 3 rfl) ?_
  refine lv_iconst (v := 1) C.x C.b dL_law_1648 (by decide) ?_
  refine lv_iadd C.x C.b dL_law_1649 ?_
  refine va_sld C.x C.b hX hbl hbA hw.2.2 (hin 1 (by decide)) dL_law_1650 ?_
  refine lv_aload_n C.x C.b dL_law_1651 rfl (lv_at hl 0 rfl) ?_
  refine lv_iload_n C.x C.b dL_law_1652 rfl (lv_at hl 3 rfl) ?_
  refine lv_iconst (v := 2) C.x C.b dL_law_1653 (by decide) ?_
  refine lv_iadd C.x C.b dL_law_1654 ?_
  refine va_sld C.x C.b hX hbl hbA hw.2.2 (hin 2 (by decide)) dL_law_1655 ?_
  refine lw_cI (As := [.int (xs (nI (5 * k) + 1).toNatClampNeg), .int (xs (nI (5 * k) + 2).toNatClampNeg)]) (rest := [.int rr]) (ci := 10) C hw hM1.2 hM1.1 rfl kw1892 kw1893 kw1894 kw123 kw1895 okX10_narrow ⟨Nat.le_of_ble_eq_true rfl, Nat.le_of_ble_eq_true rfl⟩ rfl hl.1 rfl (Nat.le_of_ble_eq_true rfl) dL_law_1656 ⟨(show cells + mc + 0 ≤ 600000 by omega), (show slots + ms + 0 ≤ 7302249 by omega)⟩ (fun W2 H locs hI1 hw => ?_)
  refine lv_icmp_eq (tgt := 2338) C.x C.b dL_law_1659 (by decide) (fun c9 => ?_) (fun c9 => absurd rfl c9)
  exact kk W2 Φ' mc ms H locs hI1 hw h1 h2 h3
set_option maxRecDepth 100000 in
set_option maxHeartbeats 4000000 in
theorem lc_least {D : va_G} {y : Nat → ClassId} {P h : Nat → Nat} {p : Program} {l : Launch} {e : Env} {s : State} {m : MethodId} {b : Nat} {below : List Frame} {meth : Method} {c : Code} {H : Heap} {locs : List Loc} {cells slots : Nat} {Q : State → Prop} {A : Nat → Prop} {cd : Cond} {ret : Option FieldType} {ls : Array Slot} {W0 : va_W} {Φ L k : Nat} {xs : Nat → Int32} (C : Cx D y p s m #[Value.ref b] meth c A RL cL_law cd ret 4) (hX : va_X b L xs s s.heap) (hbl : b < s.heap.size) (hbA : ¬ A b) (hin : ∀ j : Nat, j < 5 → vp_in (nI (5 * k) + nI j) L) (hw : St D A s H locs W0) (hI : INVW y P h W0 Φ) (hl : lv_has ls 4 [(0, .ref b), (1, .ref (P 0)), (2, .ref (h 0)), (3, .int (nI (5 * k)))]) (hc : cells + (16 + 16 * Φ) ≤ 600000) (hs : slots + (1200 + 999 * Φ) ≤ 7302249) (kk : LK D y P h p l e s m #[Value.ref b] below meth c A Q Φ cells slots ls) : W p l e room_1 s m #[Value.ref b] below meth c H locs cells slots Q (F0 m 1664 ls []) := by
  obtain ⟨rr, mc, ms, Φ', h1, h2, h3, hM⟩ := call_least (l := l) (D := D) hI (xs (nI (5 * k) + 1).toNatClampNeg)
  refine lv_aload_n C.x C.b dL_law_1664 rfl (lv_at hl 1 rfl) ?_
  refine lv_aload_n C.x C.b dL_law_1665 rfl (lv_at hl 0 rfl) ?_
  refine lv_iload_n C.x C.b dL_law_1666 rfl (lv_at hl 3 rfl) ?_
  refine lv_iconst (v := 1) C.x C.b dL_law_1667 (by decide) ?_
  refine lv_iadd C.x C.b dL_law_1668 ?_
  refine va_sld C.x C.b hX hbl hbA hw.2.2 (hin 1 (by decide)) dL_law_1669 ?_
  refine lw_cI (As := [.int (xs (nI (5 * k) + 1).toNatClampNeg)]) (rest := []) (ci := 9) C hw hM hI.rcv rfl kw1143 kw1144 kw1145 kw113 kw1146 okX9_least ⟨Nat.le_of_ble_eq_true rfl, Nat.le_of_ble_eq_true rfl⟩ rfl hl.1 rfl (Nat.le_of_ble_eq_true rfl) dL_law_1670 ⟨(show cells + mc ≤ 600000 by omega), (show slots + ms ≤ 7302249 by omega)⟩ (fun W1 H locs hM1 hw => ?_)
  refine lv_aload_n C.x C.b dL_law_1673 rfl (lv_at hl 2 rfl) ?_
  refine lv_aload_n C.x C.b dL_law_1674 rfl (lv_at hl 0 rfl) ?_
  refine lv_iload_n C.x C.b dL_law_1675 rfl (lv_at hl 3 rfl) ?_
  refine lv_iconst (v := 1) C.x C.b dL_law_1676 (by decide) ?_
  refine lv_iadd C.x C.b dL_law_1677 ?_
  refine va_sld C.x C.b hX hbl hbA hw.2.2 (hin 1 (by decide)) dL_law_1678 ?_
  refine lw_cI (As := [.int (xs (nI (5 * k) + 1).toNatClampNeg)]) (rest := [.int rr]) (ci := 10) C hw hM1.2 hM1.1 rfl kw1896 kw1897 kw1898 kw123 kw1899 okX10_least ⟨Nat.le_of_ble_eq_true rfl, Nat.le_of_ble_eq_true rfl⟩ rfl hl.1 rfl (Nat.le_of_ble_eq_true rfl) dL_law_1679 ⟨(show cells + mc + 0 ≤ 600000 by omega), (show slots + ms + 0 ≤ 7302249 by omega)⟩ (fun W2 H locs hI1 hw => ?_)
  refine lv_icmp_eq (tgt := 2338) C.x C.b dL_law_1682 (by decide) (fun c9 => ?_) (fun c9 => absurd rfl c9)
  exact kk W2 Φ' mc ms H locs hI1 hw h1 h2 h3
set_option maxRecDepth 100000 in
set_option maxHeartbeats 4000000 in
theorem lc_cuts {D : va_G} {y : Nat → ClassId} {P h : Nat → Nat} {p : Program} {l : Launch} {e : Env} {s : State} {m : MethodId} {b : Nat} {below : List Frame} {meth : Method} {c : Code} {H : Heap} {locs : List Loc} {cells slots : Nat} {Q : State → Prop} {A : Nat → Prop} {cd : Cond} {ret : Option FieldType} {ls : Array Slot} {W0 : va_W} {Φ L k : Nat} {xs : Nat → Int32} (C : Cx D y p s m #[Value.ref b] meth c A RL cL_law cd ret 4) (hX : va_X b L xs s s.heap) (hbl : b < s.heap.size) (hbA : ¬ A b) (hin : ∀ j : Nat, j < 5 → vp_in (nI (5 * k) + nI j) L) (hw : St D A s H locs W0) (hI : INVW y P h W0 Φ) (hl : lv_has ls 4 [(0, .ref b), (1, .ref (P 0)), (2, .ref (h 0)), (3, .int (nI (5 * k)))]) (hc : cells + (16 + 16 * Φ) ≤ 600000) (hs : slots + (1200 + 999 * Φ) ≤ 7302249) (kk : LK D y P h p l e s m #[Value.ref b] below meth c A Q Φ cells slots ls) : W p l e room_1 s m #[Value.ref b] below meth c H locs cells slots Q (F0 m 1687 ls []) := by
  obtain ⟨rr, mc, ms, Φ', h1, h2, h3, hM⟩ := call_cuts (l := l) (D := D) hI (xs (nI (5 * k) + 1).toNatClampNeg) (xs (nI (5 * k) + 2).toNatClampNeg)
  refine lv_aload_n C.x C.b dL_law_1687 rfl (lv_at hl 1 rfl) ?_
  refine lv_aload_n C.x C.b dL_law_1688 rfl (lv_at hl 0 rfl) ?_
  refine lv_iload_n C.x C.b dL_law_1689 rfl (lv_at hl 3 rfl) ?_
  refine lv_iconst (v := 1) C.x C.b dL_law_1690 (by decide) ?_
  refine lv_iadd C.x C.b dL_law_1691 ?_
  refine va_sld C.x C.b hX hbl hbA hw.2.2 (hin 1 (by decide)) dL_law_1692 ?_
  refine lv_aload_n C.x C.b dL_law_1693 rfl (lv_at hl 0 rfl) ?_
  refine lv_iload_n C.x C.b dL_law_1694 rfl (lv_at hl 3 rfl) ?_
  refine lv_iconst (v := 2) C.x C.b dL_law_1695 (by decide) ?_
  refine lv_iadd C.x C.b dL_law_1696 ?_
  refine va_sld C.x C.b hX hbl hbA hw.2.2 (hin 2 (by decide)) dL_law_1697 ?_
  refine lw_cI (As := [.int (xs (nI (5 * k) + 1).toNatClampNeg), .int (xs (nI (5 * k) + 2).toNatClampNeg)]) (rest := []) (ci := 9) C hw hM hI.rcv rfl kw1147 kw1148 kw1149 kw113 kw1150 okX9_cuts ⟨Nat.le_of_ble_eq_true rfl, Nat.le_of_ble_eq_true rfl⟩ rfl hl.1 rfl (Nat.le_of_ble_eq_true rfl) dL_law_1698 ⟨(show cells + mc ≤ 600000 by omega), (show slots + ms ≤ 7302249 by omega)⟩ (fun W1 H locs hM1 hw => ?_)
  refine lv_aload_n C.x C.b dL_law_1701 rfl (lv_at hl 2 rfl) ?_
  refine lv_aload_n C.x C.b dL_law_1702 rfl (lv_at hl 0 rfl) ?_
  refine lv_iload_n C.x C.b dL_law_1703 rfl (lv_at hl 3 rfl) ?_
  refine lv_iconst (v := 1) C.x C.b dL_law_1704 (by decide) ?_
  refine lv_iadd C.x C.b dL_law_1705 ?_
  refine va_sld C.x C.b hX hbl hbA hw.2.2 (hin 1 (by decide)) dL_law_1706 ?_
  refine lv_aload_n C.x C.b dL_law_1707 rfl (lv_at hl 0 rfl) ?_
  refine lv_iload_n C.x C.b dL_law_1708 rfl (lv_at hl 3 rfl) ?_
  refine lv_iconst (v := 2) C.x C.b dL_law_1709 (by decide) ?_
  refine lv_iadd C.x C.b dL_law_1710 ?_
  refine va_sld C.x C.b hX hbl hbA hw.2.2 (hin 2 (by decide)) dL_law_1711 ?_
  refine lw_cI (As := [.int (xs (nI (5 * k) + 1).toNatClampNeg), .int (xs (nI (5 * k) + 2).toNatClampNeg)]) (rest := [.int rr]) (ci := 10) C hw hM1.2 hM1.1 rfl kw1900 kw1901 kw1902 kw123 kw1903 okX10_cuts ⟨Nat.le_of_ble_eq_true rfl, Nat.le_of_ble_eq_true rfl⟩ rfl hl.1 rfl (Nat.le_of_ble_eq_true rfl) dL_law_1712 ⟨(show cells + mc + 0 ≤ 600000 by omega), (show slots + ms + 0 ≤ 7302249 by omega)⟩ (fun W2 H locs hI1 hw => ?_)
  refine lv_icmp_eq (tgt := 2338) C.x C.b dL_law_1715 (by decide) (fun c9 => ?_) (fun c9 => absurd rfl c9)
  exact kk W2 Φ' mc ms H locs hI1 hw h1 h2 h3
set_option maxRecDepth 100000 in
set_option maxHeartbeats 4000000 in
theorem lc_evenly {D : va_G} {y : Nat → ClassId} {P h : Nat → Nat} {p : Program} {l : Launch} {e : Env} {s : State} {m : MethodId} {b : Nat} {below : List Frame} {meth : Method} {c : Code} {H : Heap} {locs : List Loc} {cells slots : Nat} {Q : State → Prop} {A : Nat → Prop} {cd : Cond} {ret : Option FieldType} {ls : Array Slot} {W0 : va_W} {Φ L k : Nat} {xs : Nat → Int32} (C : Cx D y p s m #[Value.ref b] meth c A RL cL_law cd ret 4) (hX : va_X b L xs s s.heap) (hbl : b < s.heap.size) (hbA : ¬ A b) (hin : ∀ j : Nat, j < 5 → vp_in (nI (5 * k) + nI j) L) (hw : St D A s H locs W0) (hI : INVW y P h W0 Φ) (hl : lv_has ls 4 [(0, .ref b), (1, .ref (P 0)), (2, .ref (h 0)), (3, .int (nI (5 * k)))]) (hc : cells + (16 + 16 * Φ) ≤ 600000) (hs : slots + (1200 + 999 * Φ) ≤ 7302249) (kk : LK D y P h p l e s m #[Value.ref b] below meth c A Q Φ cells slots ls) : W p l e room_1 s m #[Value.ref b] below meth c H locs cells slots Q (F0 m 1720 ls []) := by
  obtain ⟨rr, mc, ms, Φ', h1, h2, h3, hM⟩ := call_evenly (l := l) (D := D) hI (xs (nI (5 * k) + 1).toNatClampNeg) (xs (nI (5 * k) + 2).toNatClampNeg)
  refine lv_aload_n C.x C.b dL_law_1720 rfl (lv_at hl 1 rfl) ?_
  refine lv_aload_n C.x C.b dL_law_1721 rfl (lv_at hl 0 rfl) ?_
  refine lv_iload_n C.x C.b dL_law_1722 rfl (lv_at hl 3 rfl) ?_
  refine lv_iconst (v := 1) C.x C.b dL_law_1723 (by decide) ?_
  refine lv_iadd C.x C.b dL_law_1724 ?_
  refine va_sld C.x C.b hX hbl hbA hw.2.2 (hin 1 (by decide)) dL_law_1725 ?_
  refine lv_aload_n C.x C.b dL_law_1726 rfl (lv_at hl 0 rfl) ?_
  refine lv_iload_n C.x C.b dL_law_1727 rfl (lv_at hl 3 rfl) ?_
  refine lv_iconst (v := 2) C.x C.b dL_law_1728 (by decide) ?_
  refine lv_iadd C.x C.b dL_law_1729 ?_
  refine va_sld C.x C.b hX hbl hbA hw.2.2 (hin 2 (by decide)) dL_law_1730 ?_
  refine lw_cI (As := [.int (xs (nI (5 * k) + 1).toNatClampNeg), .int (xs (nI (5 * k) + 2).toNatClampNeg)]) (rest := []) (ci := 9) C hw hM hI.rcv rfl kw1151 kw1152 kw1153 kw113 kw1154 okX9_evenly ⟨Nat.le_of_ble_eq_true rfl, Nat.le_of_ble_eq_true rfl⟩ rfl hl.1 rfl (Nat.le_of_ble_eq_true rfl) dL_law_1731 ⟨(show cells + mc ≤ 600000 by omega), (show slots + ms ≤ 7302249 by omega)⟩ (fun W1 H locs hM1 hw => ?_)
  refine lv_aload_n C.x C.b dL_law_1734 rfl (lv_at hl 2 rfl) ?_
  refine lv_aload_n C.x C.b dL_law_1735 rfl (lv_at hl 0 rfl) ?_
  refine lv_iload_n C.x C.b dL_law_1736 rfl (lv_at hl 3 rfl) ?_
  refine lv_iconst (v := 1) C.x C.b dL_law_1737 (by decide) ?_
  refine lv_iadd C.x C.b dL_law_1738 ?_
  refine va_sld C.x C.b hX hbl hbA hw.2.2 (hin 1 (by decide)) dL_law_1739 ?_
  refine lv_aload_n C.x C.b dL_law_1740 rfl (lv_at hl 0 rfl) ?_
  refine lv_iload_n C.x C.b dL_law_1741 rfl (lv_at hl 3 rfl) ?_
  refine lv_iconst (v := 2) C.x C.b dL_law_1742 (by decide) ?_
  refine lv_iadd C.x C.b dL_law_1743 ?_
  refine va_sld C.x C.b hX hbl hbA hw.2.2 (hin 2 (by decide)) dL_law_1744 ?_
  refine lw_cI (As := [.int (xs (nI (5 * k) + 1).toNatClampNeg), .int (xs (nI (5 * k) + 2).toNatClampNeg)]) (rest := [.int rr]) (ci := 10) C hw hM1.2 hM1.1 rfl kw1904 kw1905 kw1906 kw123 kw1907 okX10_evenly ⟨Nat.le_of_ble_eq_true rfl, Nat.le_of_ble_eq_true rfl⟩ rfl hl.1 rfl (Nat.le_of_ble_eq_true rfl) dL_law_1745 ⟨(show cells + mc + 0 ≤ 600000 by omega), (show slots + ms + 0 ≤ 7302249 by omega)⟩ (fun W2 H locs hI1 hw => ?_)
  refine lv_icmp_eq (tgt := 2338) C.x C.b dL_law_1748 (by decide) (fun c9 => ?_) (fun c9 => absurd rfl c9)
  exact kk W2 Φ' mc ms H locs hI1 hw h1 h2 h3
set_option maxRecDepth 100000 in
set_option maxHeartbeats 4000000 in
theorem lc_evenest {D : va_G} {y : Nat → ClassId} {P h : Nat → Nat} {p : Program} {l : Launch} {e : Env} {s : State} {m : MethodId} {b : Nat} {below : List Frame} {meth : Method} {c : Code} {H : Heap} {locs : List Loc} {cells slots : Nat} {Q : State → Prop} {A : Nat → Prop} {cd : Cond} {ret : Option FieldType} {ls : Array Slot} {W0 : va_W} {Φ L k : Nat} {xs : Nat → Int32} (C : Cx D y p s m #[Value.ref b] meth c A RL cL_law cd ret 4) (hX : va_X b L xs s s.heap) (hbl : b < s.heap.size) (hbA : ¬ A b) (hin : ∀ j : Nat, j < 5 → vp_in (nI (5 * k) + nI j) L) (hw : St D A s H locs W0) (hI : INVW y P h W0 Φ) (hl : lv_has ls 4 [(0, .ref b), (1, .ref (P 0)), (2, .ref (h 0)), (3, .int (nI (5 * k)))]) (hc : cells + (16 + 16 * Φ) ≤ 600000) (hs : slots + (1200 + 999 * Φ) ≤ 7302249) (kk : LK D y P h p l e s m #[Value.ref b] below meth c A Q Φ cells slots ls) : W p l e room_1 s m #[Value.ref b] below meth c H locs cells slots Q (F0 m 1753 ls []) := by
  obtain ⟨rr, mc, ms, Φ', h1, h2, h3, hM⟩ := call_evenest (l := l) (D := D) hI (xs (nI (5 * k) + 1).toNatClampNeg)
  refine lv_aload_n C.x C.b dL_law_1753 rfl (lv_at hl 1 rfl) ?_
  refine lv_aload_n C.x C.b dL_law_1754 rfl (lv_at hl 0 rfl) ?_
  refine lv_iload_n C.x C.b dL_law_1755 rfl (lv_at hl 3 rfl) ?_
  refine lv_iconst (v := 1) C.x C.b dL_law_1756 (by decide) ?_
  refine lv_iadd C.x C.b dL_law_1757 ?_
  refine va_sld C.x C.b hX hbl hbA hw.2.2 (hin 1 (by decide)) dL_law_1758 ?_
  refine lw_cI (As := [.int (xs (nI (5 * k) + 1).toNatClampNeg)]) (rest := []) (ci := 9) C hw hM hI.rcv rfl kw1161 kw1162 kw1163 kw113 kw1164 okX9_evenest ⟨Nat.le_of_ble_eq_true rfl, Nat.le_of_ble_eq_true rfl⟩ rfl hl.1 rfl (Nat.le_of_ble_eq_true rfl) dL_law_1759 ⟨(show cells + mc ≤ 600000 by omega), (show slots + ms ≤ 7302249 by omega)⟩ (fun W1 H locs hM1 hw => ?_)
  refine lv_aload_n C.x C.b dL_law_1762 rfl (lv_at hl 2 rfl) ?_
  refine lv_aload_n C.x C.b dL_law_1763 rfl (lv_at hl 0 rfl) ?_
  refine lv_iload_n C.x C.b dL_law_1764 rfl (lv_at hl 3 rfl) ?_
  refine lv_iconst (v := 1) C.x C.b dL_law_1765 (by decide) ?_
  refine lv_iadd C.x C.b dL_law_1766 ?_
  refine va_sld C.x C.b hX hbl hbA hw.2.2 (hin 1 (by decide)) dL_law_1767 ?_
  refine lw_cI (As := [.int (xs (nI (5 * k) + 1).toNatClampNeg)]) (rest := [.int rr]) (ci := 10) C hw hM1.2 hM1.1 rfl kw1912 kw1913 kw1914 kw123 kw1915 okX10_evenest ⟨Nat.le_of_ble_eq_true rfl, Nat.le_of_ble_eq_true rfl⟩ rfl hl.1 rfl (Nat.le_of_ble_eq_true rfl) dL_law_1768 ⟨(show cells + mc + 0 ≤ 600000 by omega), (show slots + ms + 0 ≤ 7302249 by omega)⟩ (fun W2 H locs hI1 hw => ?_)
  refine lv_icmp_eq (tgt := 2338) C.x C.b dL_law_1771 (by decide) (fun c9 => ?_) (fun c9 => absurd rfl c9)
  exact kk W2 Φ' mc ms H locs hI1 hw h1 h2 h3
set_option maxRecDepth 100000 in
set_option maxHeartbeats 4000000 in
theorem lc_heaviest {D : va_G} {y : Nat → ClassId} {P h : Nat → Nat} {p : Program} {l : Launch} {e : Env} {s : State} {m : MethodId} {b : Nat} {below : List Frame} {meth : Method} {c : Code} {H : Heap} {locs : List Loc} {cells slots : Nat} {Q : State → Prop} {A : Nat → Prop} {cd : Cond} {ret : Option FieldType} {ls : Array Slot} {W0 : va_W} {Φ L k : Nat} {xs : Nat → Int32} (C : Cx D y p s m #[Value.ref b] meth c A RL cL_law cd ret 4) (hX : va_X b L xs s s.heap) (hbl : b < s.heap.size) (hbA : ¬ A b) (hin : ∀ j : Nat, j < 5 → vp_in (nI (5 * k) + nI j) L) (hw : St D A s H locs W0) (hI : INVW y P h W0 Φ) (hl : lv_has ls 4 [(0, .ref b), (1, .ref (P 0)), (2, .ref (h 0)), (3, .int (nI (5 * k)))]) (hc : cells + (16 + 16 * Φ) ≤ 600000) (hs : slots + (1200 + 999 * Φ) ≤ 7302249) (kk : LK D y P h p l e s m #[Value.ref b] below meth c A Q Φ cells slots ls) : W p l e room_1 s m #[Value.ref b] below meth c H locs cells slots Q (F0 m 1776 ls []) := by
  obtain ⟨rr, mc, ms, Φ', h1, h2, h3, hM⟩ := call_heaviest (l := l) (D := D) hI (xs (nI (5 * k) + 1).toNatClampNeg)
  refine lv_aload_n C.x C.b dL_law_1776 rfl (lv_at hl 1 rfl) ?_
  refine lv_aload_n C.x C.b dL_law_1777 rfl (lv_at hl 0 rfl) ?_
  refine lv_iload_n C.x C.b dL_law_1778 rfl (lv_at hl 3 rfl) ?_
  refine lv_iconst (v := 1) C.x C.b dL_law_1779 (by decide) ?_
  refine lv_iadd C.x C.b dL_law_1780 ?_
  refine va_sld C.x C.b hX hbl hbA hw.2.2 (hin 1 (by decide)) dL_law_1781 ?_
  refine lw_cI (As := [.int (xs (nI (5 * k) + 1).toNatClampNeg)]) (rest := []) (ci := 9) C hw hM hI.rcv rfl kw1166 kw1167 kw1168 kw113 kw1169 okX9_heaviest ⟨Nat.le_of_ble_eq_true rfl, Nat.le_of_ble_eq_true rfl⟩ rfl hl.1 rfl (Nat.le_of_ble_eq_true rfl) dL_law_1782 ⟨(show cells + mc ≤ 600000 by omega), (show slots + ms ≤ 7302249 by omega)⟩ (fun W1 H locs hM1 hw => ?_)
  refine lv_aload_n C.x C.b dL_law_1785 rfl (lv_at hl 2 rfl) ?_
  refine lv_aload_n C.x C.b dL_law_1786 rfl (lv_at hl 0 rfl) ?_
  refine lv_iload_n C.x C.b dL_law_1787 rfl (lv_at hl 3 rfl) ?_
  refine lv_iconst (v := 1) C.x C.b dL_law_1788 (by decide) ?_
  refine lv_iadd C.x C.b dL_law_1789 ?_
  refine va_sld C.x C.b hX hbl hbA hw.2.2 (hin 1 (by decide)) dL_law_1790 ?_
  refine lw_cI (As := [.int (xs (nI (5 * k) + 1).toNatClampNeg)]) (rest := [.int rr]) (ci := 10) C hw hM1.2 hM1.1 rfl kw1916 kw1917 kw1918 kw123 kw1919 okX10_heaviest ⟨Nat.le_of_ble_eq_true rfl, Nat.le_of_ble_eq_true rfl⟩ rfl hl.1 rfl (Nat.le_of_ble_eq_true rfl) dL_law_1791 ⟨(show cells + mc + 0 ≤ 600000 by omega), (show slots + ms + 0 ≤ 7302249 by omega)⟩ (fun W2 H locs hI1 hw => ?_)
  refine lv_icmp_eq (tgt := 2338) C.x C.b dL_law_1794 (by decide) (fun c9 => ?_) (fun c9 => absurd rfl c9)
  exact kk W2 Φ' mc ms H locs hI1 hw h1 h2 h3
set_option maxRecDepth 100000 in
set_option maxHeartbeats 4000000 in
theorem lc_folded {D : va_G} {y : Nat → ClassId} {P h : Nat → Nat} {p : Program} {l : Launch} {e : Env} {s : State} {m : MethodId} {b : Nat} {below : List Frame} {meth : Method} {c : Code} {H : Heap} {locs : List Loc} {cells slots : Nat} {Q : State → Prop} {A : Nat → Prop} {cd : Cond} {ret : Option FieldType} {ls : Array Slot} {W0 : va_W} {Φ L k : Nat} {xs : Nat → Int32} (C : Cx D y p s m #[Value.ref b] meth c A RL cL_law cd ret 4) (hX : va_X b L xs s s.heap) (hbl : b < s.heap.size) (hbA : ¬ A b) (hin : ∀ j : Nat, j < 5 → vp_in (nI (5 * k) + nI j) L) (hw : St D A s H locs W0) (hI : INVW y P h W0 Φ) (hl : lv_has ls 4 [(0, .ref b), (1, .ref (P 0)), (2, .ref (h 0)), (3, .int (nI (5 * k)))]) (hc : cells + (16 + 16 * Φ) ≤ 600000) (hs : slots + (1200 + 999 * Φ) ≤ 7302249) (kk : LK D y P h p l e s m #[Value.ref b] below meth c A Q Φ cells slots ls) : W p l e room_1 s m #[Value.ref b] below meth c H locs cells slots Q (F0 m 1799 ls []) := by
  obtain ⟨rr, mc, ms, Φ', h1, h2, h3, hM⟩ := call_folded (l := l) (D := D) hI (xs (nI (5 * k) + 1).toNatClampNeg)
  refine lv_aload_n C.x C.b dL_law_1799 rfl (lv_at hl 1 rfl) ?_
  refine lv_aload_n C.x C.b dL_law_1800 rfl (lv_at hl 0 rfl) ?_
  refine lv_iload_n C.x C.b dL_law_1801 rfl (lv_at hl 3 rfl) ?_
  refine lv_iconst (v := 1) C.x C.b dL_law_1802 (by decide) ?_
  refine lv_iadd C.x C.b dL_law_1803 ?_
  refine va_sld C.x C.b hX hbl hbA hw.2.2 (hin 1 (by decide)) dL_law_1804 ?_
  refine lw_cL (As := [.int (xs (nI (5 * k) + 1).toNatClampNeg)]) (rest := []) (ci := 9) C hw hM hI.rcv rfl kw1174 kw1175 kw1176 kw113 kw1177 okX9_folded ⟨Nat.le_of_ble_eq_true rfl, Nat.le_of_ble_eq_true rfl⟩ rfl hl.1 rfl (Nat.le_of_ble_eq_true rfl) dL_law_1805 ⟨(show cells + mc ≤ 600000 by omega), (show slots + ms ≤ 7302249 by omega)⟩ (fun W1 H locs hM1 hw => ?_)
  refine lv_aload_n C.x C.b dL_law_1808 rfl (lv_at hl 2 rfl) ?_
  refine lv_aload_n C.x C.b dL_law_1809 rfl (lv_at hl 0 rfl) ?_
  refine lv_iload_n C.x C.b dL_law_1810 rfl (lv_at hl 3 rfl) ?_
  refine lv_iconst (v := 1) C.x C.b dL_law_1811 (by decide) ?_
  refine lv_iadd C.x C.b dL_law_1812 ?_
  refine va_sld C.x C.b hX hbl hbA hw.2.2 (hin 1 (by decide)) dL_law_1813 ?_
  refine lw_cL (As := [.int (xs (nI (5 * k) + 1).toNatClampNeg)]) (rest := [.long rr]) (ci := 10) C hw hM1.2 hM1.1 rfl kw1456 kw1457 kw1458 kw123 kw1459 okX10_folded ⟨Nat.le_of_ble_eq_true rfl, Nat.le_of_ble_eq_true rfl⟩ rfl hl.1 rfl (Nat.le_of_ble_eq_true rfl) dL_law_1814 ⟨(show cells + mc + 0 ≤ 600000 by omega), (show slots + ms + 0 ≤ 7302249 by omega)⟩ (fun W2 H locs hI1 hw => ?_)
  refine W.lcmp C.x C.b dL_law_1817 ?_
  rw [lg_self]
  refine lv_if_eq (tgt := 2338) C.x C.b dL_law_1818 (by decide) (fun c9 => ?_) (fun c9 => absurd rfl c9)
  exact kk W2 Φ' mc ms H locs hI1 hw h1 h2 h3
set_option maxRecDepth 100000 in
set_option maxHeartbeats 4000000 in
theorem lc_difference {D : va_G} {y : Nat → ClassId} {P h : Nat → Nat} {p : Program} {l : Launch} {e : Env} {s : State} {m : MethodId} {b : Nat} {below : List Frame} {meth : Method} {c : Code} {H : Heap} {locs : List Loc} {cells slots : Nat} {Q : State → Prop} {A : Nat → Prop} {cd : Cond} {ret : Option FieldType} {ls : Array Slot} {W0 : va_W} {Φ L k : Nat} {xs : Nat → Int32} (C : Cx D y p s m #[Value.ref b] meth c A RL cL_law cd ret 4) (hX : va_X b L xs s s.heap) (hbl : b < s.heap.size) (hbA : ¬ A b) (hin : ∀ j : Nat, j < 5 → vp_in (nI (5 * k) + nI j) L) (hw : St D A s H locs W0) (hI : INVW y P h W0 Φ) (hl : lv_has ls 4 [(0, .ref b), (1, .ref (P 0)), (2, .ref (h 0)), (3, .int (nI (5 * k)))]) (hc : cells + (16 + 16 * Φ) ≤ 600000) (hs : slots + (1200 + 999 * Φ) ≤ 7302249) (kk : LK D y P h p l e s m #[Value.ref b] below meth c A Q Φ cells slots ls) : W p l e room_1 s m #[Value.ref b] below meth c H locs cells slots Q (F0 m 1823 ls []) := by
  obtain ⟨rr, mc, ms, Φ', h1, h2, h3, hM⟩ := call_difference (l := l) (D := D) hI (xs (nI (5 * k) + 1).toNatClampNeg) (xs (nI (5 * k) + 2).toNatClampNeg)
  refine lv_aload_n C.x C.b dL_law_1823 rfl (lv_at hl 1 rfl) ?_
  refine lv_aload_n C.x C.b dL_law_1824 rfl (lv_at hl 0 rfl) ?_
  refine lv_iload_n C.x C.b dL_law_1825 rfl (lv_at hl 3 rfl) ?_
  refine lv_iconst (v := 1) C.x C.b dL_law_1826 (by decide) ?_
  refine lv_iadd C.x C.b dL_law_1827 ?_
  refine va_sld C.x C.b hX hbl hbA hw.2.2 (hin 1 (by decide)) dL_law_1828 ?_
  refine lv_aload_n C.x C.b dL_law_1829 rfl (lv_at hl 0 rfl) ?_
  refine lv_iload_n C.x C.b dL_law_1830 rfl (lv_at hl 3 rfl) ?_
  refine lv_iconst (v := 2) C.x C.b dL_law_1831 (by decide) ?_
  refine lv_iadd C.x C.b dL_law_1832 ?_
  refine va_sld C.x C.b hX hbl hbA hw.2.2 (hin 2 (by decide)) dL_law_1833 ?_
  refine lw_cL (As := [.int (xs (nI (5 * k) + 1).toNatClampNeg), .int (xs (nI (5 * k) + 2).toNatClampNeg)]) (rest := []) (ci := 9) C hw hM hI.rcv rfl kw1179 kw1180 kw1181 kw113 kw1182 okX9_difference ⟨Nat.le_of_ble_eq_true rfl, Nat.le_of_ble_eq_true rfl⟩ rfl hl.1 rfl (Nat.le_of_ble_eq_true rfl) dL_law_1834 ⟨(show cells + mc ≤ 600000 by omega), (show slots + ms ≤ 7302249 by omega)⟩ (fun W1 H locs hM1 hw => ?_)
  refine lv_aload_n C.x C.b dL_law_1837 rfl (lv_at hl 2 rfl) ?_
  refine lv_aload_n C.x C.b dL_law_1838 rfl (lv_at hl 0 rfl) ?_
  refine lv_iload_n C.x C.b dL_law_1839 rfl (lv_at hl 3 rfl) ?_
  refine lv_iconst (v := 1) C.x C.b dL_law_1840 (by decide) ?_
  refine lv_iadd C.x C.b dL_law_1841 ?_
  refine va_sld C.x C.b hX hbl hbA hw.2.2 (hin 1 (by decide)) dL_law_1842 ?_
  refine lv_aload_n C.x C.b dL_law_1843 rfl (lv_at hl 0 rfl) ?_
  refine lv_iload_n C.x C.b dL_law_1844 rfl (lv_at hl 3 rfl) ?_
  refine lv_iconst (v := 2) C.x C.b dL_law_1845 (by decide) ?_
  refine lv_iadd C.x C.b dL_law_1846 ?_
  refine va_sld C.x C.b hX hbl hbA hw.2.2 (hin 2 (by decide)) dL_law_1847 ?_
  refine lw_cL (As := [.int (xs (nI (5 * k) + 1).toNatClampNeg), .int (xs (nI (5 * k) + 2).toNatClampNeg)]) (rest := [.long rr]) (ci := 10) C hw hM1.2 hM1.1 rfl kw1920 kw1921 kw1922 kw123 kw1923 okX10_difference ⟨Nat.le_of_ble_eq_true rfl, Nat.le_of_ble_eq_true rfl⟩ rfl hl.1 rfl (Nat.le_of_ble_eq_true rfl) dL_law_1848 ⟨(show cells + mc + 0 ≤ 600000 by omega), (show slots + ms + 0 ≤ 7302249 by omega)⟩ (fun W2 H locs hI1 hw => ?_)
  refine W.lcmp C.x C.b dL_law_1851 ?_
  rw [lg_self]
  refine lv_if_eq (tgt := 2338) C.x C.b dL_law_1852 (by decide) (fun c9 => ?_) (fun c9 => absurd rfl c9)
  exact kk W2 Φ' mc ms H locs hI1 hw h1 h2 h3
set_option maxRecDepth 100000 in
set_option maxHeartbeats 4000000 in
theorem lc_would {D : va_G} {y : Nat → ClassId} {P h : Nat → Nat} {p : Program} {l : Launch} {e : Env} {s : State} {m : MethodId} {b : Nat} {below : List Frame} {meth : Method} {c : Code} {H : Heap} {locs : List Loc} {cells slots : Nat} {Q : State → Prop} {A : Nat → Prop} {cd : Cond} {ret : Option FieldType} {ls : Array Slot} {W0 : va_W} {Φ L k : Nat} {xs : Nat → Int32} (C : Cx D y p s m #[Value.ref b] meth c A RL cL_law cd ret 4) (hX : va_X b L xs s s.heap) (hbl : b < s.heap.size) (hbA : ¬ A b) (hin : ∀ j : Nat, j < 5 → vp_in (nI (5 * k) + nI j) L) (hw : St D A s H locs W0) (hI : INVW y P h W0 Φ) (hl : lv_has ls 4 [(0, .ref b), (1, .ref (P 0)), (2, .ref (h 0)), (3, .int (nI (5 * k)))]) (hc : cells + (16 + 16 * Φ) ≤ 600000) (hs : slots + (1200 + 999 * Φ) ≤ 7302249) (kk : LK D y P h p l e s m #[Value.ref b] below meth c A Q Φ cells slots ls) : W p l e room_1 s m #[Value.ref b] below meth c H locs cells slots Q (F0 m 1857 ls []) := by
  obtain ⟨rr, mc, ms, Φ', h1, h2, h3, hM⟩ := call_would (l := l) (D := D) hI (xs (nI (5 * k) + 1).toNatClampNeg) (xs (nI (5 * k) + 2).toNatClampNeg) (xs (nI (5 * k) + 3).toNatClampNeg)
  refine lv_aload_n C.x C.b dL_law_1857 rfl (lv_at hl 1 rfl) ?_
  refine lv_aload_n C.x C.b dL_law_1858 rfl (lv_at hl 0 rfl) ?_
  refine lv_iload_n C.x C.b dL_law_1859 rfl (lv_at hl 3 rfl) ?_
  refine lv_iconst (v := 1) C.x C.b dL_law_1860 (by decide) ?_
  refine lv_iadd C.x C.b dL_law_1861 ?_
  refine va_sld C.x C.b hX hbl hbA hw.2.2 (hin 1 (by decide)) dL_law_1862 ?_
  refine lv_aload_n C.x C.b dL_law_1863 rfl (lv_at hl 0 rfl) ?_
  refine lv_iload_n C.x C.b dL_law_1864 rfl (lv_at hl 3 rfl) ?_
  refine lv_iconst (v := 2) C.x C.b dL_law_1865 (by decide) ?_
  refine lv_iadd C.x C.b dL_law_1866 ?_
  refine va_sld C.x C.b hX hbl hbA hw.2.2 (hin 2 (by decide)) dL_law_1867 ?_
  refine lv_aload_n C.x C.b dL_law_1868 rfl (lv_at hl 0 rfl) ?_
  refine lv_iload_n C.x C.b dL_law_1869 rfl (lv_at hl 3 rfl) ?_
  refine lv_iconst (v := 3) C.x C.b dL_law_1870 (by decide) ?_
  refine lv_iadd C.x C.b dL_law_1871 ?_
  refine va_sld C.x C.b hX hbl hbA hw.2.2 (hin 3 (by decide)) dL_law_1872 ?_
  refine lw_cI (As := [.int (xs (nI (5 * k) + 1).toNatClampNeg), .int (xs (nI (5 * k) + 2).toNatClampNeg), .int (xs (nI (5 * k) + 3).toNatClampNeg)]) (rest := []) (ci := 9) C hw hM hI.rcv rfl kw1187 kw1188 kw1189 kw113 kw1190 okX9_would ⟨Nat.le_of_ble_eq_true rfl, Nat.le_of_ble_eq_true rfl⟩ rfl hl.1 rfl (Nat.le_of_ble_eq_true rfl) dL_law_1873 ⟨(show cells + mc ≤ 600000 by omega), (show slots + ms ≤ 7302249 by omega)⟩ (fun W1 H locs hM1 hw => ?_)
  refine lv_aload_n C.x C.b dL_law_1876 rfl (lv_at hl 2 rfl) ?_
  refine lv_aload_n C.x C.b dL_law_1877 rfl (lv_at hl 0 rfl) ?_
  refine lv_iload_n C.x C.b dL_law_1878 rfl (lv_at hl 3 rfl) ?_
  refine lv_iconst (v := 1) C.x C.b dL_law_1879 (by decide) ?_
  refine lv_iadd C.x C.b dL_law_1880 ?_
  refine va_sld C.x C.b hX hbl hbA hw.2.2 (hin 1 (by decide)) dL_law_1881 ?_
  refine lv_aload_n C.x C.b dL_law_1882 rfl (lv_at hl 0 rfl) ?_
  refine lv_iload_n C.x C.b dL_law_1883 rfl (lv_at hl 3 rfl) ?_
  refine lv_iconst (v := 2) C.x C.b dL_law_1884 (by decide) ?_
  refine lv_iadd C.x C.b dL_law_1885 ?_
  refine va_sld C.x C.b hX hbl hbA hw.2.2 (hin 2 (by decide)) dL_law_1886 ?_
  refine lv_aload_n C.x C.b dL_law_1887 rfl (lv_at hl 0 rfl) ?_
  refine lv_iload_n C.x C.b dL_law_1888 rfl (lv_at hl 3 rfl) ?_
  refine lv_iconst (v := 3) C.x C.b dL_law_1889 (by decide) ?_
  refine lv_iadd C.x C.b dL_law_1890 ?_
  refine va_sld C.x C.b hX hbl hbA hw.2.2 (hin 3 (by decide)) dL_law_1891 ?_
  refine lw_cI (As := [.int (xs (nI (5 * k) + 1).toNatClampNeg), .int (xs (nI (5 * k) + 2).toNatClampNeg), .int (xs (nI (5 * k) + 3).toNatClampNeg)]) (rest := [.int rr]) (ci := 10) C hw hM1.2 hM1.1 rfl kw1924 kw1925 kw1926 kw123 kw1927 okX10_would ⟨Nat.le_of_ble_eq_true rfl, Nat.le_of_ble_eq_true rfl⟩ rfl hl.1 rfl (Nat.le_of_ble_eq_true rfl) dL_law_1892 ⟨(show cells + mc + 0 ≤ 600000 by omega), (show slots + ms + 0 ≤ 7302249 by omega)⟩ (fun W2 H locs hI1 hw => ?_)
  refine lv_icmp_eq (tgt := 2338) C.x C.b dL_law_1895 (by decide) (fun c9 => ?_) (fun c9 => absurd rfl c9)
  exact kk W2 Φ' mc ms H locs hI1 hw h1 h2 h3
set_option maxRecDepth 100000 in
set_option maxHeartbeats 4000000 in
theorem lc_sorted {D : va_G} {y : Nat → ClassId} {P h : Nat → Nat} {p : Program} {l : Launch} {e : Env} {s : State} {m : MethodId} {b : Nat} {below : List Frame} {meth : Method} {c : Code} {H : Heap} {locs : List Loc} {cells slots : Nat} {Q : State → Prop} {A : Nat → Prop} {cd : Cond} {ret : Option FieldType} {ls : Array Slot} {W0 : va_W} {Φ L k : Nat} {xs : Nat → Int32} (C : Cx D y p s m #[Value.ref b] meth c A RL cL_law cd ret 4) (hX : va_X b L xs s s.heap) (hbl : b < s.heap.size) (hbA : ¬ A b) (hin : ∀ j : Nat, j < 5 → vp_in (nI (5 * k) + nI j) L) (hw : St D A s H locs W0) (hI : INVW y P h W0 Φ) (hl : lv_has ls 4 [(0, .ref b), (1, .ref (P 0)), (2, .ref (h 0)), (3, .int (nI (5 * k)))]) (hc : cells + (16 + 16 * Φ) ≤ 600000) (hs : slots + (1200 + 999 * Φ) ≤ 7302249) (kk : LK D y P h p l e s m #[Value.ref b] below meth c A Q Φ cells slots ls) : W p l e room_1 s m #[Value.ref b] below meth c H locs cells slots Q (F0 m 1900 ls []) := by
  obtain ⟨rr, mc, ms, Φ', h1, h2, h3, hM⟩ := call_sorted (l := l) (D := D) hI (xs (nI (5 * k) + 1).toNatClampNeg)
  refine lv_aload_n C.x C.b dL_law_1900 rfl (lv_at hl 1 rfl) ?_
  refine lv_aload_n C.x C.b dL_law_1901 rfl (lv_at hl 0 rfl) ?_
  refine lv_iload_n C.x C.b dL_law_1902 rfl (lv_at hl 3 rfl) ?_
  refine lv_iconst (v := 1) C.x C.b dL_law_1903 (by decide) ?_
  refine lv_iadd C.x C.b dL_law_1904 ?_
  refine va_sld C.x C.b hX hbl hbA hw.2.2 (hin 1 (by decide)) dL_law_1905 ?_
  refine lw_cI (As := [.int (xs (nI (5 * k) + 1).toNatClampNeg)]) (rest := []) (ci := 9) C hw hM hI.rcv rfl kw1197 kw1198 kw1199 kw113 kw1200 okX9_sorted ⟨Nat.le_of_ble_eq_true rfl, Nat.le_of_ble_eq_true rfl⟩ rfl hl.1 rfl (Nat.le_of_ble_eq_true rfl) dL_law_1906 ⟨(show cells + mc ≤ 600000 by omega), (show slots + ms ≤ 7302249 by omega)⟩ (fun W1 H locs hM1 hw => ?_)
  refine lv_aload_n C.x C.b dL_law_1909 rfl (lv_at hl 2 rfl) ?_
  refine lv_aload_n C.x C.b dL_law_1910 rfl (lv_at hl 0 rfl) ?_
  refine lv_iload_n C.x C.b dL_law_1911 rfl (lv_at hl 3 rfl) ?_
  refine lv_iconst (v := 1) C.x C.b dL_law_1912 (by decide) ?_
  refine lv_iadd C.x C.b dL_law_1913 ?_
  refine va_sld C.x C.b hX hbl hbA hw.2.2 (hin 1 (by decide)) dL_law_1914 ?_
  refine lw_cI (As := [.int (xs (nI (5 * k) + 1).toNatClampNeg)]) (rest := [.int rr]) (ci := 10) C hw hM1.2 hM1.1 rfl kw1936 kw1679 kw1680 kw123 kw1681 okX10_sorted ⟨Nat.le_of_ble_eq_true rfl, Nat.le_of_ble_eq_true rfl⟩ rfl hl.1 rfl (Nat.le_of_ble_eq_true rfl) dL_law_1915 ⟨(show cells + mc + 0 ≤ 600000 by omega), (show slots + ms + 0 ≤ 7302249 by omega)⟩ (fun W2 H locs hI1 hw => ?_)
  refine lv_icmp_eq (tgt := 2338) C.x C.b dL_law_1918 (by decide) (fun c9 => ?_) (fun c9 => absurd rfl c9)
  exact kk W2 Φ' mc ms H locs hI1 hw h1 h2 h3
set_option maxRecDepth 100000 in
set_option maxHeartbeats 4000000 in
theorem lc_find {D : va_G} {y : Nat → ClassId} {P h : Nat → Nat} {p : Program} {l : Launch} {e : Env} {s : State} {m : MethodId} {b : Nat} {below : List Frame} {meth : Method} {c : Code} {H : Heap} {locs : List Loc} {cells slots : Nat} {Q : State → Prop} {A : Nat → Prop} {cd : Cond} {ret : Option FieldType} {ls : Array Slot} {W0 : va_W} {Φ L k : Nat} {xs : Nat → Int32} (C : Cx D y p s m #[Value.ref b] meth c A RL cL_law cd ret 4) (hX : va_X b L xs s s.heap) (hbl : b < s.heap.size) (hbA : ¬ A b) (hin : ∀ j : Nat, j < 5 → vp_in (nI (5 * k) + nI j) L) (hw : St D A s H locs W0) (hI : INVW y P h W0 Φ) (hl : lv_has ls 4 [(0, .ref b), (1, .ref (P 0)), (2, .ref (h 0)), (3, .int (nI (5 * k)))]) (hc : cells + (16 + 16 * Φ) ≤ 600000) (hs : slots + (1200 + 999 * Φ) ≤ 7302249) (kk : LK D y P h p l e s m #[Value.ref b] below meth c A Q Φ cells slots ls) : W p l e room_1 s m #[Value.ref b] below meth c H locs cells slots Q (F0 m 1923 ls []) := by
  obtain ⟨rr, mc, ms, Φ', h1, h2, h3, hM⟩ := call_find (l := l) (D := D) hI (xs (nI (5 * k) + 1).toNatClampNeg) (xs (nI (5 * k) + 2).toNatClampNeg)
  refine lv_aload_n C.x C.b dL_law_1923 rfl (lv_at hl 1 rfl) ?_
  refine lv_aload_n C.x C.b dL_law_1924 rfl (lv_at hl 0 rfl) ?_
  refine lv_iload_n C.x C.b dL_law_1925 rfl (lv_at hl 3 rfl) ?_
  refine lv_iconst (v := 1) C.x C.b dL_law_1926 (by decide) ?_
  refine lv_iadd C.x C.b dL_law_1927 ?_
  refine va_sld C.x C.b hX hbl hbA hw.2.2 (hin 1 (by decide)) dL_law_1928 ?_
  refine lv_aload_n C.x C.b dL_law_1929 rfl (lv_at hl 0 rfl) ?_
  refine lv_iload_n C.x C.b dL_law_1930 rfl (lv_at hl 3 rfl) ?_
  refine lv_iconst (v := 2) C.x C.b dL_law_1931 (by decide) ?_
  refine lv_iadd C.x C.b dL_law_1932 ?_
  refine va_sld C.x C.b hX hbl hbA hw.2.2 (hin 2 (by decide)) dL_law_1933 ?_
  refine lw_cI (As := [.int (xs (nI (5 * k) + 1).toNatClampNeg), .int (xs (nI (5 * k) + 2).toNatClampNeg)]) (rest := []) (ci := 9) C hw hM hI.rcv rfl kw1201 kw1202 kw1203 kw113 kw1204 okX9_find ⟨Nat.le_of_ble_eq_true rfl, Nat.le_of_ble_eq_true rfl⟩ rfl hl.1 rfl (Nat.le_of_ble_eq_true rfl) dL_law_1934 ⟨(show cells + mc ≤ 600000 by omega), (show slots + ms ≤ 7302249 by omega)⟩ (fun W1 H locs hM1 hw => ?_)
  refine lv_aload_n C.x C.b dL_law_1937 rfl (lv_at hl 2 rfl) ?_
  refine lv_aload_n C.x C.b dL_law_1938 rfl (lv_at hl 0 rfl) ?_
  refine lv_iload_n C.x C.b dL_law_1939 rfl (lv_at hl 3 rfl) ?_
  refine lv_iconst (v := 1) C.x C.b dL_law_1940 (by decide) ?_
  refine lv_iadd C.x C.b dL_law_1941 ?_
  refine va_sld C.x C.b hX hbl hbA hw.2.2 (hin 1 (by decide)) dL_law_1942 ?_
  refine lv_aload_n C.x C.b dL_law_1943 rfl (lv_at hl 0 rfl) ?_
  refine lv_iload_n C.x C.b dL_law_1944 rfl (lv_at hl 3 rfl) ?_
  refine lv_iconst (v := 2) C.x C.b dL_law_1945 (by decide) ?_
  refine lv_iadd C.x C.b dL_law_1946 ?_
  refine va_sld C.x C.b hX hbl hbA hw.2.2 (hin 2 (by decide)) dL_law_1947 ?_
  refine lw_cI (As := [.int (xs (nI (5 * k) + 1).toNatClampNeg), .int (xs (nI (5 * k) + 2).toNatClampNeg)]) (rest := [.int rr]) (ci := 10) C hw hM1.2 hM1.1 rfl kw1937 kw1938 kw1939 kw123 kw1940 okX10_find ⟨Nat.le_of_ble_eq_true rfl, Nat.le_of_ble_eq_true rfl⟩ rfl hl.1 rfl (Nat.le_of_ble_eq_true rfl) dL_law_1948 ⟨(show cells + mc + 0 ≤ 600000 by omega), (show slots + ms + 0 ≤ 7302249 by omega)⟩ (fun W2 H locs hI1 hw => ?_)
  refine lv_icmp_eq (tgt := 2338) C.x C.b dL_law_1951 (by decide) (fun c9 => ?_) (fun c9 => absurd rfl c9)
  exact kk W2 Φ' mc ms H locs hI1 hw h1 h2 h3
set_option maxRecDepth 100000 in
set_option maxHeartbeats 4000000 in
theorem lc_looks {D : va_G} {y : Nat → ClassId} {P h : Nat → Nat} {p : Program} {l : Launch} {e : Env} {s : State} {m : MethodId} {b : Nat} {below : List Frame} {meth : Method} {c : Code} {H : Heap} {locs : List Loc} {cells slots : Nat} {Q : State → Prop} {A : Nat → Prop} {cd : Cond} {ret : Option FieldType} {ls : Array Slot} {W0 : va_W} {Φ L k : Nat} {xs : Nat → Int32} (C : Cx D y p s m #[Value.ref b] meth c A RL cL_law cd ret 4) (hX : va_X b L xs s s.heap) (hbl : b < s.heap.size) (hbA : ¬ A b) (hin : ∀ j : Nat, j < 5 → vp_in (nI (5 * k) + nI j) L) (hw : St D A s H locs W0) (hI : INVW y P h W0 Φ) (hl : lv_has ls 4 [(0, .ref b), (1, .ref (P 0)), (2, .ref (h 0)), (3, .int (nI (5 * k)))]) (hc : cells + (16 + 16 * Φ) ≤ 600000) (hs : slots + (1200 + 999 * Φ) ≤ 7302249) (kk : LK D y P h p l e s m #[Value.ref b] below meth c A Q Φ cells slots ls) : W p l e room_1 s m #[Value.ref b] below meth c H locs cells slots Q (F0 m 1956 ls []) := by
  obtain ⟨rr, mc, ms, Φ', h1, h2, h3, hM⟩ := call_looks (l := l) (D := D) hI (xs (nI (5 * k) + 1).toNatClampNeg) (xs (nI (5 * k) + 2).toNatClampNeg)
  refine lv_aload_n C.x C.b dL_law_1956 rfl (lv_at hl 1 rfl) ?_
  refine lv_aload_n C.x C.b dL_law_1957 rfl (lv_at hl 0 rfl) ?_
  refine lv_iload_n C.x C.b dL_law_1958 rfl (lv_at hl 3 rfl) ?_
  refine lv_iconst (v := 1) C.x C.b dL_law_1959 (by decide) ?_
  refine lv_iadd C.x C.b dL_law_1960 ?_
  refine va_sld C.x C.b hX hbl hbA hw.2.2 (hin 1 (by decide)) dL_law_1961 ?_
  refine lv_aload_n C.x C.b dL_law_1962 rfl (lv_at hl 0 rfl) ?_
  refine lv_iload_n C.x C.b dL_law_1963 rfl (lv_at hl 3 rfl) ?_
  refine lv_iconst (v := 2) C.x C.b dL_law_1964 (by decide) ?_
  refine lv_iadd C.x C.b dL_law_1965 ?_
  refine va_sld C.x C.b hX hbl hbA hw.2.2 (hin 2 (by decide)) dL_law_1966 ?_
  refine lw_cI (As := [.int (xs (nI (5 * k) + 1).toNatClampNeg), .int (xs (nI (5 * k) + 2).toNatClampNeg)]) (rest := []) (ci := 9) C hw hM hI.rcv rfl kw1213 kw1214 kw1215 kw113 kw1216 okX9_looks ⟨Nat.le_of_ble_eq_true rfl, Nat.le_of_ble_eq_true rfl⟩ rfl hl.1 rfl (Nat.le_of_ble_eq_true rfl) dL_law_1967 ⟨(show cells + mc ≤ 600000 by omega), (show slots + ms ≤ 7302249 by omega)⟩ (fun W1 H locs hM1 hw => ?_)
  refine lv_aload_n C.x C.b dL_law_1970 rfl (lv_at hl 2 rfl) ?_
  refine lv_aload_n C.x C.b dL_law_1971 rfl (lv_at hl 0 rfl) ?_
  refine lv_iload_n C.x C.b dL_law_1972 rfl (lv_at hl 3 rfl) ?_
  refine lv_iconst (v := 1) C.x C.b dL_law_1973 (by decide) ?_
  refine lv_iadd C.x C.b dL_law_1974 ?_
  refine va_sld C.x C.b hX hbl hbA hw.2.2 (hin 1 (by decide)) dL_law_1975 ?_
  refine lv_aload_n C.x C.b dL_law_1976 rfl (lv_at hl 0 rfl) ?_
  refine lv_iload_n C.x C.b dL_law_1977 rfl (lv_at hl 3 rfl) ?_
  refine lv_iconst (v := 2) C.x C.b dL_law_1978 (by decide) ?_
  refine lv_iadd C.x C.b dL_law_1979 ?_
  refine va_sld C.x C.b hX hbl hbA hw.2.2 (hin 2 (by decide)) dL_law_1980 ?_
  refine lw_cI (As := [.int (xs (nI (5 * k) + 1).toNatClampNeg), .int (xs (nI (5 * k) + 2).toNatClampNeg)]) (rest := [.int rr]) (ci := 10) C hw hM1.2 hM1.1 rfl kw1941 kw1942 kw1943 kw123 kw1944 okX10_looks ⟨Nat.le_of_ble_eq_true rfl, Nat.le_of_ble_eq_true rfl⟩ rfl hl.1 rfl (Nat.le_of_ble_eq_true rfl) dL_law_1981 ⟨(show cells + mc + 0 ≤ 600000 by omega), (show slots + ms + 0 ≤ 7302249 by omega)⟩ (fun W2 H locs hI1 hw => ?_)
  refine lv_icmp_eq (tgt := 2338) C.x C.b dL_law_1984 (by decide) (fun c9 => ?_) (fun c9 => absurd rfl c9)
  exact kk W2 Φ' mc ms H locs hI1 hw h1 h2 h3
set_option maxRecDepth 100000 in
set_option maxHeartbeats 4000000 in
theorem lc_sum {D : va_G} {y : Nat → ClassId} {P h : Nat → Nat} {p : Program} {l : Launch} {e : Env} {s : State} {m : MethodId} {b : Nat} {below : List Frame} {meth : Method} {c : Code} {H : Heap} {locs : List Loc} {cells slots : Nat} {Q : State → Prop} {A : Nat → Prop} {cd : Cond} {ret : Option FieldType} {ls : Array Slot} {W0 : va_W} {Φ L k : Nat} {xs : Nat → Int32} (C : Cx D y p s m #[Value.ref b] meth c A RL cL_law cd ret 4) (hX : va_X b L xs s s.heap) (hbl : b < s.heap.size) (hbA : ¬ A b) (hin : ∀ j : Nat, j < 5 → vp_in (nI (5 * k) + nI j) L) (hw : St D A s H locs W0) (hI : INVW y P h W0 Φ) (hl : lv_has ls 4 [(0, .ref b), (1, .ref (P 0)), (2, .ref (h 0)), (3, .int (nI (5 * k)))]) (hc : cells + (16 + 16 * Φ) ≤ 600000) (hs : slots + (1200 + 999 * Φ) ≤ 7302249) (kk : LK D y P h p l e s m #[Value.ref b] below meth c A Q Φ cells slots ls) : W p l e room_1 s m #[Value.ref b] below meth c H locs cells slots Q (F0 m 1989 ls []) := by
  obtain ⟨rr, mc, ms, Φ', h1, h2, h3, hM⟩ := call_sum (l := l) (D := D) hI (xs (nI (5 * k) + 1).toNatClampNeg) (xs (nI (5 * k) + 2).toNatClampNeg) (xs (nI (5 * k) + 3).toNatClampNeg)
  refine lv_aload_n C.x C.b dL_law_1989 rfl (lv_at hl 1 rfl) ?_
  refine lv_aload_n C.x C.b dL_law_1990 rfl (lv_at hl 0 rfl) ?_
  refine lv_iload_n C.x C.b dL_law_1991 rfl (lv_at hl 3 rfl) ?_
  refine lv_iconst (v := 1) C.x C.b dL_law_1992 (by decide) ?_
  refine lv_iadd C.x C.b dL_law_1993 ?_
  refine va_sld C.x C.b hX hbl hbA hw.2.2 (hin 1 (by decide)) dL_law_1994 ?_
  refine lv_aload_n C.x C.b dL_law_1995 rfl (lv_at hl 0 rfl) ?_
  refine lv_iload_n C.x C.b dL_law_1996 rfl (lv_at hl 3 rfl) ?_
  refine lv_iconst (v := 2) C.x C.b dL_law_1997 (by decide) ?_
  refine lv_iadd C.x C.b dL_law_1998 ?_
  refine va_sld C.x C.b hX hbl hbA hw.2.2 (hin 2 (by decide)) dL_law_1999 ?_
  refine lv_aload_n C.x C.b dL_law_2000 rfl (lv_at hl 0 rfl) ?_
  refine lv_iload_n C.x C.b dL_law_2001 rfl (lv_at hl 3 rfl) ?_
  refine lv_iconst (v := 3) C.x C.b dL_law_2002 (by decide) ?_
  refine lv_iadd C.x C.b dL_law_2003 ?_
  refine va_sld C.x C.b hX hbl hbA hw.2.2 (hin 3 (by decide)) dL_law_2004 ?_
  refine lw_cL (As := [.int (xs (nI (5 * k) + 1).toNatClampNeg), .int (xs (nI (5 * k) + 2).toNatClampNeg), .int (xs (nI (5 * k) + 3).toNatClampNeg)]) (rest := []) (ci := 9) C hw hM hI.rcv rfl kw1229 kw1230 kw1231 kw113 kw1232 okX9_sum ⟨Nat.le_of_ble_eq_true rfl, Nat.le_of_ble_eq_true rfl⟩ rfl hl.1 rfl (Nat.le_of_ble_eq_true rfl) dL_law_2005 ⟨(show cells + mc ≤ 600000 by omega), (show slots + ms ≤ 7302249 by omega)⟩ (fun W1 H locs hM1 hw => ?_)
  refine lv_aload_n C.x C.b dL_law_2008 rfl (lv_at hl 2 rfl) ?_
  refine lv_aload_n C.x C.b dL_law_2009 rfl (lv_at hl 0 rfl) ?_
  refine lv_iload_n C.x C.b dL_law_2010 rfl (lv_at hl 3 rfl) ?_
  refine lv_iconst (v := 1) C.x C.b dL_law_2011 (by decide) ?_
  refine lv_iadd C.x C.b dL_law_2012 ?_
  refine va_sld C.x C.b hX hbl hbA hw.2.2 (hin 1 (by decide)) dL_law_2013 ?_
  refine lv_aload_n C.x C.b dL_law_2014 rfl (lv_at hl 0 rfl) ?_
  refine lv_iload_n C.x C.b dL_law_2015 rfl (lv_at hl 3 rfl) ?_
  refine lv_iconst (v := 2) C.x C.b dL_law_2016 (by decide) ?_
  refine lv_iadd C.x C.b dL_law_2017 ?_
  refine va_sld C.x C.b hX hbl hbA hw.2.2 (hin 2 (by decide)) dL_law_2018 ?_
  refine lv_aload_n C.x C.b dL_law_2019 rfl (lv_at hl 0 rfl) ?_
  refine lv_iload_n C.x C.b dL_law_2020 rfl (lv_at hl 3 rfl) ?_
  refine lv_iconst (v := 3) C.x C.b dL_law_2021 (by decide) ?_
  refine lv_iadd C.x C.b dL_law_2022 ?_
  refine va_sld C.x C.b hX hbl hbA hw.2.2 (hin 3 (by decide)) dL_law_2023 ?_
  refine lw_cL (As := [.int (xs (nI (5 * k) + 1).toNatClampNeg), .int (xs (nI (5 * k) + 2).toNatClampNeg), .int (xs (nI (5 * k) + 3).toNatClampNeg)]) (rest := [.long rr]) (ci := 10) C hw hM1.2 hM1.1 rfl kw1949 kw1950 kw1951 kw123 kw1952 okX10_sum ⟨Nat.le_of_ble_eq_true rfl, Nat.le_of_ble_eq_true rfl⟩ rfl hl.1 rfl (Nat.le_of_ble_eq_true rfl) dL_law_2024 ⟨(show cells + mc + 0 ≤ 600000 by omega), (show slots + ms + 0 ≤ 7302249 by omega)⟩ (fun W2 H locs hI1 hw => ?_)
  refine W.lcmp C.x C.b dL_law_2027 ?_
  rw [lg_self]
  refine lv_if_eq (tgt := 2338) C.x C.b dL_law_2028 (by decide) (fun c9 => ?_) (fun c9 => absurd rfl c9)
  exact kk W2 Φ' mc ms H locs hI1 hw h1 h2 h3
set_option maxRecDepth 100000 in
set_option maxHeartbeats 4000000 in
theorem lc_count {D : va_G} {y : Nat → ClassId} {P h : Nat → Nat} {p : Program} {l : Launch} {e : Env} {s : State} {m : MethodId} {b : Nat} {below : List Frame} {meth : Method} {c : Code} {H : Heap} {locs : List Loc} {cells slots : Nat} {Q : State → Prop} {A : Nat → Prop} {cd : Cond} {ret : Option FieldType} {ls : Array Slot} {W0 : va_W} {Φ L k : Nat} {xs : Nat → Int32} (C : Cx D y p s m #[Value.ref b] meth c A RL cL_law cd ret 4) (hX : va_X b L xs s s.heap) (hbl : b < s.heap.size) (hbA : ¬ A b) (hin : ∀ j : Nat, j < 5 → vp_in (nI (5 * k) + nI j) L) (hw : St D A s H locs W0) (hI : INVW y P h W0 Φ) (hl : lv_has ls 4 [(0, .ref b), (1, .ref (P 0)), (2, .ref (h 0)), (3, .int (nI (5 * k)))]) (hc : cells + (16 + 16 * Φ) ≤ 600000) (hs : slots + (1200 + 999 * Φ) ≤ 7302249) (kk : LK D y P h p l e s m #[Value.ref b] below meth c A Q Φ cells slots ls) : W p l e room_1 s m #[Value.ref b] below meth c H locs cells slots Q (F0 m 2033 ls []) := by
  obtain ⟨rr, mc, ms, Φ', h1, h2, h3, hM⟩ := call_count (l := l) (D := D) hI (xs (nI (5 * k) + 1).toNatClampNeg) (xs (nI (5 * k) + 2).toNatClampNeg) (xs (nI (5 * k) + 3).toNatClampNeg)
  refine lv_aload_n C.x C.b dL_law_2033 rfl (lv_at hl 1 rfl) ?_
  refine lv_aload_n C.x C.b dL_law_2034 rfl (lv_at hl 0 rfl) ?_
  refine lv_iload_n C.x C.b dL_law_2035 rfl (lv_at hl 3 rfl) ?_
  refine lv_iconst (v := 1) C.x C.b dL_law_2036 (by decide) ?_
  refine lv_iadd C.x C.b dL_law_2037 ?_
  refine va_sld C.x C.b hX hbl hbA hw.2.2 (hin 1 (by decide)) dL_law_2038 ?_
  refine lv_aload_n C.x C.b dL_law_2039 rfl (lv_at hl 0 rfl) ?_
  refine lv_iload_n C.x C.b dL_law_2040 rfl (lv_at hl 3 rfl) ?_
  refine lv_iconst (v := 2) C.x C.b dL_law_2041 (by decide) ?_
  refine lv_iadd C.x C.b dL_law_2042 ?_
  refine va_sld C.x C.b hX hbl hbA hw.2.2 (hin 2 (by decide)) dL_law_2043 ?_
  refine lv_aload_n C.x C.b dL_law_2044 rfl (lv_at hl 0 rfl) ?_
  refine lv_iload_n C.x C.b dL_law_2045 rfl (lv_at hl 3 rfl) ?_
  refine lv_iconst (v := 3) C.x C.b dL_law_2046 (by decide) ?_
  refine lv_iadd C.x C.b dL_law_2047 ?_
  refine va_sld C.x C.b hX hbl hbA hw.2.2 (hin 3 (by decide)) dL_law_2048 ?_
  refine lw_cI (As := [.int (xs (nI (5 * k) + 1).toNatClampNeg), .int (xs (nI (5 * k) + 2).toNatClampNeg), .int (xs (nI (5 * k) + 3).toNatClampNeg)]) (rest := []) (ci := 9) C hw hM hI.rcv rfl kw1237 kw1238 kw1239 kw113 kw1240 okX9_count ⟨Nat.le_of_ble_eq_true rfl, Nat.le_of_ble_eq_true rfl⟩ rfl hl.1 rfl (Nat.le_of_ble_eq_true rfl) dL_law_2049 ⟨(show cells + mc ≤ 600000 by omega), (show slots + ms ≤ 7302249 by omega)⟩ (fun W1 H locs hM1 hw => ?_)
  refine lv_aload_n C.x C.b dL_law_2052 rfl (lv_at hl 2 rfl) ?_
  refine lv_aload_n C.x C.b dL_law_2053 rfl (lv_at hl 0 rfl) ?_
  refine lv_iload_n C.x C.b dL_law_2054 rfl (lv_at hl 3 rfl) ?_
  refine lv_iconst (v := 1) C.x C.b dL_law_2055 (by decide) ?_
  refine lv_iadd C.x C.b dL_law_2056 ?_
  refine va_sld C.x C.b hX hbl hbA hw.2.2 (hin 1 (by decide)) dL_law_2057 ?_
  refine lv_aload_n C.x C.b dL_law_2058 rfl (lv_at hl 0 rfl) ?_
  refine lv_iload_n C.x C.b dL_law_2059 rfl (lv_at hl 3 rfl) ?_
  refine lv_iconst (v := 2) C.x C.b dL_law_2060 (by decide) ?_
  refine lv_iadd C.x C.b dL_law_2061 ?_
  refine va_sld C.x C.b hX hbl hbA hw.2.2 (hin 2 (by decide)) dL_law_2062 ?_
  refine lv_aload_n C.x C.b dL_law_2063 rfl (lv_at hl 0 rfl) ?_
  refine lv_iload_n C.x C.b dL_law_2064 rfl (lv_at hl 3 rfl) ?_
  refine lv_iconst (v := 3) C.x C.b dL_law_2065 (by decide) ?_
  refine lv_iadd C.x C.b dL_law_2066 ?_
  refine va_sld C.x C.b hX hbl hbA hw.2.2 (hin 3 (by decide)) dL_law_2067 ?_
  refine lw_cI (As := [.int (xs (nI (5 * k) + 1).toNatClampNeg), .int (xs (nI (5 * k) + 2).toNatClampNeg), .int (xs (nI (5 * k) + 3).toNatClampNeg)]) (rest := [.int rr]) (ci := 10) C hw hM1.2 hM1.1 rfl kw1953 kw1954 kw1955 kw123 kw1956 okX10_count ⟨Nat.le_of_ble_eq_true rfl, Nat.le_of_ble_eq_true rfl⟩ rfl hl.1 rfl (Nat.le_of_ble_eq_true rfl) dL_law_2068 ⟨(show cells + mc + 0 ≤ 600000 by omega), (show slots + ms + 0 ≤ 7302249 by omega)⟩ (fun W2 H locs hI1 hw => ?_)
  refine lv_icmp_eq (tgt := 2338) C.x C.b dL_law_2071 (by decide) (fun c9 => ?_) (fun c9 => absurd rfl c9)
  exact kk W2 Φ' mc ms H locs hI1 hw h1 h2 h3
set_option maxRecDepth 100000 in
set_option maxHeartbeats 4000000 in
theorem lc_skipped {D : va_G} {y : Nat → ClassId} {P h : Nat → Nat} {p : Program} {l : Launch} {e : Env} {s : State} {m : MethodId} {b : Nat} {below : List Frame} {meth : Method} {c : Code} {H : Heap} {locs : List Loc} {cells slots : Nat} {Q : State → Prop} {A : Nat → Prop} {cd : Cond} {ret : Option FieldType} {ls : Array Slot} {W0 : va_W} {Φ L k : Nat} {xs : Nat → Int32} (C : Cx D y p s m #[Value.ref b] meth c A RL cL_law cd ret 4) (hX : va_X b L xs s s.heap) (hbl : b < s.heap.size) (hbA : ¬ A b) (hin : ∀ j : Nat, j < 5 → vp_in (nI (5 * k) + nI j) L) (hw : St D A s H locs W0) (hI : INVW y P h W0 Φ) (hl : lv_has ls 4 [(0, .ref b), (1, .ref (P 0)), (2, .ref (h 0)), (3, .int (nI (5 * k)))]) (hc : cells + (16 + 16 * Φ) ≤ 600000) (hs : slots + (1200 + 999 * Φ) ≤ 7302249) (kk : LK D y P h p l e s m #[Value.ref b] below meth c A Q Φ cells slots ls) : W p l e room_1 s m #[Value.ref b] below meth c H locs cells slots Q (F0 m 2076 ls []) := by
  obtain ⟨rr, mc, ms, Φ', h1, h2, h3, hM⟩ := call_skipped (l := l) (D := D) hI (xs (nI (5 * k) + 1).toNatClampNeg) (xs (nI (5 * k) + 2).toNatClampNeg) (xs (nI (5 * k) + 3).toNatClampNeg)
  refine lv_aload_n C.x C.b dL_law_2076 rfl (lv_at hl 1 rfl) ?_
  refine lv_aload_n C.x C.b dL_law_2077 rfl (lv_at hl 0 rfl) ?_
  refine lv_iload_n C.x C.b dL_law_2078 rfl (lv_at hl 3 rfl) ?_
  refine lv_iconst (v := 1) C.x C.b dL_law_2079 (by decide) ?_
  refine lv_iadd C.x C.b dL_law_2080 ?_
  refine va_sld C.x C.b hX hbl hbA hw.2.2 (hin 1 (by decide)) dL_law_2081 ?_
  refine lv_aload_n C.x C.b dL_law_2082 rfl (lv_at hl 0 rfl) ?_
  refine lv_iload_n C.x C.b dL_law_2083 rfl (lv_at hl 3 rfl) ?_
  refine lv_iconst (v := 2) C.x C.b dL_law_2084 (by decide) ?_
  refine lv_iadd C.x C.b dL_law_2085 ?_
  refine va_sld C.x C.b hX hbl hbA hw.2.2 (hin 2 (by decide)) dL_law_2086 ?_
  refine lv_aload_n C.x C.b dL_law_2087 rfl (lv_at hl 0 rfl) ?_
  refine lv_iload_n C.x C.b dL_law_2088 rfl (lv_at hl 3 rfl) ?_
  refine lv_iconst (v := 3) C.x C.b dL_law_2089 (by decide) ?_
  refine lv_iadd C.x C.b dL_law_2090 ?_
  refine va_sld C.x C.b hX hbl hbA hw.2.2 (hin 3 (by decide)) dL_law_2091 ?_
  refine lw_cI (As := [.int (xs (nI (5 * k) + 1).toNatClampNeg), .int (xs (nI (5 * k) + 2).toNatClampNeg), .int (xs (nI (5 * k) + 3).toNatClampNeg)]) (rest := []) (ci := 9) C hw hM hI.rcv rfl kw1245 kw1246 kw1247 kw113 kw1248 okX9_skipped ⟨Nat.le_of_ble_eq_true rfl, Nat.le_of_ble_eq_true rfl⟩ rfl hl.1 rfl (Nat.le_of_ble_eq_true rfl) dL_law_2092 ⟨(show cells + mc ≤ 600000 by omega), (show slots + ms ≤ 7302249 by omega)⟩ (fun W1 H locs hM1 hw => ?_)
  refine lv_aload_n C.x C.b dL_law_2095 rfl (lv_at hl 2 rfl) ?_
  refine lv_aload_n C.x C.b dL_law_2096 rfl (lv_at hl 0 rfl) ?_
  refine lv_iload_n C.x C.b dL_law_2097 rfl (lv_at hl 3 rfl) ?_
  refine lv_iconst (v := 1) C.x C.b dL_law_2098 (by decide) ?_
  refine lv_iadd C.x C.b dL_law_2099 ?_
  refine va_sld C.x C.b hX hbl hbA hw.2.2 (hin 1 (by decide)) dL_law_2100 ?_
  refine lv_aload_n C.x C.b dL_law_2101 rfl (lv_at hl 0 rfl) ?_
  refine lv_iload_n C.x C.b dL_law_2102 rfl (lv_at hl 3 rfl) ?_
  refine lv_iconst (v := 2) C.x C.b dL_law_2103 (by decide) ?_
  refine lv_iadd C.x C.b dL_law_2104 ?_
  refine va_sld C.x C.b hX hbl hbA hw.2.2 (hin 2 (by decide)) dL_law_2105 ?_
  refine lv_aload_n C.x C.b dL_law_2106 rfl (lv_at hl 0 rfl) ?_
  refine lv_iload_n C.x C.b dL_law_2107 rfl (lv_at hl 3 rfl) ?_
  refine lv_iconst (v := 3) C.x C.b dL_law_2108 (by decide) ?_
  refine lv_iadd C.x C.b dL_law_2109 ?_
  refine va_sld C.x C.b hX hbl hbA hw.2.2 (hin 3 (by decide)) dL_law_2110 ?_
  refine lw_cI (As := [.int (xs (nI (5 * k) + 1).toNatClampNeg), .int (xs (nI (5 * k) + 2).toNatClampNeg), .int (xs (nI (5 * k) + 3).toNatClampNeg)]) (rest := [.int rr]) (ci := 10) C hw hM1.2 hM1.1 rfl kw1967 kw1968 kw1969 kw123 kw1970 okX10_skipped ⟨Nat.le_of_ble_eq_true rfl, Nat.le_of_ble_eq_true rfl⟩ rfl hl.1 rfl (Nat.le_of_ble_eq_true rfl) dL_law_2111 ⟨(show cells + mc + 0 ≤ 600000 by omega), (show slots + ms + 0 ≤ 7302249 by omega)⟩ (fun W2 H locs hI1 hw => ?_)
  refine lv_icmp_eq (tgt := 2338) C.x C.b dL_law_2114 (by decide) (fun c9 => ?_) (fun c9 => absurd rfl c9)
  exact kk W2 Φ' mc ms H locs hI1 hw h1 h2 h3
set_option maxRecDepth 100000 in
set_option maxHeartbeats 4000000 in
theorem lc_ranked {D : va_G} {y : Nat → ClassId} {P h : Nat → Nat} {p : Program} {l : Launch} {e : Env} {s : State} {m : MethodId} {b : Nat} {below : List Frame} {meth : Method} {c : Code} {H : Heap} {locs : List Loc} {cells slots : Nat} {Q : State → Prop} {A : Nat → Prop} {cd : Cond} {ret : Option FieldType} {ls : Array Slot} {W0 : va_W} {Φ L k : Nat} {xs : Nat → Int32} (C : Cx D y p s m #[Value.ref b] meth c A RL cL_law cd ret 4) (hX : va_X b L xs s s.heap) (hbl : b < s.heap.size) (hbA : ¬ A b) (hin : ∀ j : Nat, j < 5 → vp_in (nI (5 * k) + nI j) L) (hw : St D A s H locs W0) (hI : INVW y P h W0 Φ) (hl : lv_has ls 4 [(0, .ref b), (1, .ref (P 0)), (2, .ref (h 0)), (3, .int (nI (5 * k)))]) (hc : cells + (16 + 16 * Φ) ≤ 600000) (hs : slots + (1200 + 999 * Φ) ≤ 7302249) (kk : LK D y P h p l e s m #[Value.ref b] below meth c A Q Φ cells slots ls) : W p l e room_1 s m #[Value.ref b] below meth c H locs cells slots Q (F0 m 2119 ls []) := by
  obtain ⟨rr, mc, ms, Φ', h1, h2, h3, hM⟩ := call_ranked (l := l) (D := D) hI (xs (nI (5 * k) + 1).toNatClampNeg) (xs (nI (5 * k) + 2).toNatClampNeg)
  refine lv_aload_n C.x C.b dL_law_2119 rfl (lv_at hl 1 rfl) ?_
  refine lv_aload_n C.x C.b dL_law_2120 rfl (lv_at hl 0 rfl) ?_
  refine lv_iload_n C.x C.b dL_law_2121 rfl (lv_at hl 3 rfl) ?_
  refine lv_iconst (v := 1) C.x C.b dL_law_2122 (by decide) ?_
  refine lv_iadd C.x C.b dL_law_2123 ?_
  refine va_sld C.x C.b hX hbl hbA hw.2.2 (hin 1 (by decide)) dL_law_2124 ?_
  refine lv_aload_n C.x C.b dL_law_2125 rfl (lv_at hl 0 rfl) ?_
  refine lv_iload_n C.x C.b dL_law_2126 rfl (lv_at hl 3 rfl) ?_
  refine lv_iconst (v := 2) C.x C.b dL_law_2127 (by decide) ?_
  refine lv_iadd C.x C.b dL_law_2128 ?_
  refine va_sld C.x C.b hX hbl hbA hw.2.2 (hin 2 (by decide)) dL_law_2129 ?_
  refine lw_cL (As := [.int (xs (nI (5 * k) + 1).toNatClampNeg), .int (xs (nI (5 * k) + 2).toNatClampNeg)]) (rest := []) (ci := 9) C hw hM hI.rcv rfl kw1258 kw1259 kw1260 kw113 kw1261 okX9_ranked ⟨Nat.le_of_ble_eq_true rfl, Nat.le_of_ble_eq_true rfl⟩ rfl hl.1 rfl (Nat.le_of_ble_eq_true rfl) dL_law_2130 ⟨(show cells + mc ≤ 600000 by omega), (show slots + ms ≤ 7302249 by omega)⟩ (fun W1 H locs hM1 hw => ?_)
  refine lv_aload_n C.x C.b dL_law_2133 rfl (lv_at hl 2 rfl) ?_
  refine lv_aload_n C.x C.b dL_law_2134 rfl (lv_at hl 0 rfl) ?_
  refine lv_iload_n C.x C.b dL_law_2135 rfl (lv_at hl 3 rfl) ?_
  refine lv_iconst (v := 1) C.x C.b dL_law_2136 (by decide) ?_
  refine lv_iadd C.x C.b dL_law_2137 ?_
  refine va_sld C.x C.b hX hbl hbA hw.2.2 (hin 1 (by decide)) dL_law_2138 ?_
  refine lv_aload_n C.x C.b dL_law_2139 rfl (lv_at hl 0 rfl) ?_
  refine lv_iload_n C.x C.b dL_law_2140 rfl (lv_at hl 3 rfl) ?_
  refine lv_iconst (v := 2) C.x C.b dL_law_2141 (by decide) ?_
  refine lv_iadd C.x C.b dL_law_2142 ?_
  refine va_sld C.x C.b hX hbl hbA hw.2.2 (hin 2 (by decide)) dL_law_2143 ?_
  refine lw_cL (As := [.int (xs (nI (5 * k) + 1).toNatClampNeg), .int (xs (nI (5 * k) + 2).toNatClampNeg)]) (rest := [.long rr]) (ci := 10) C hw hM1.2 hM1.1 rfl kw1975 kw1976 kw1977 kw123 kw1978 okX10_ranked ⟨Nat.le_of_ble_eq_true rfl, Nat.le_of_ble_eq_true rfl⟩ rfl hl.1 rfl (Nat.le_of_ble_eq_true rfl) dL_law_2144 ⟨(show cells + mc + 0 ≤ 600000 by omega), (show slots + ms + 0 ≤ 7302249 by omega)⟩ (fun W2 H locs hI1 hw => ?_)
  refine W.lcmp C.x C.b dL_law_2147 ?_
  rw [lg_self]
  refine lv_if_eq (tgt := 2338) C.x C.b dL_law_2148 (by decide) (fun c9 => ?_) (fun c9 => absurd rfl c9)
  exact kk W2 Φ' mc ms H locs hI1 hw h1 h2 h3
set_option maxRecDepth 100000 in
set_option maxHeartbeats 4000000 in
theorem lc_distinct {D : va_G} {y : Nat → ClassId} {P h : Nat → Nat} {p : Program} {l : Launch} {e : Env} {s : State} {m : MethodId} {b : Nat} {below : List Frame} {meth : Method} {c : Code} {H : Heap} {locs : List Loc} {cells slots : Nat} {Q : State → Prop} {A : Nat → Prop} {cd : Cond} {ret : Option FieldType} {ls : Array Slot} {W0 : va_W} {Φ L k : Nat} {xs : Nat → Int32} (C : Cx D y p s m #[Value.ref b] meth c A RL cL_law cd ret 4) (hX : va_X b L xs s s.heap) (hbl : b < s.heap.size) (hbA : ¬ A b) (hin : ∀ j : Nat, j < 5 → vp_in (nI (5 * k) + nI j) L) (hw : St D A s H locs W0) (hI : INVW y P h W0 Φ) (hl : lv_has ls 4 [(0, .ref b), (1, .ref (P 0)), (2, .ref (h 0)), (3, .int (nI (5 * k)))]) (hc : cells + (16 + 16 * Φ) ≤ 600000) (hs : slots + (1200 + 999 * Φ) ≤ 7302249) (kk : LK D y P h p l e s m #[Value.ref b] below meth c A Q Φ cells slots ls) : W p l e room_1 s m #[Value.ref b] below meth c H locs cells slots Q (F0 m 2153 ls []) := by
  obtain ⟨rr, mc, ms, Φ', h1, h2, h3, hM⟩ := call_distinct (l := l) (D := D) hI (xs (nI (5 * k) + 1).toNatClampNeg)
  refine lv_aload_n C.x C.b dL_law_2153 rfl (lv_at hl 1 rfl) ?_
  refine lv_aload_n C.x C.b dL_law_2154 rfl (lv_at hl 0 rfl) ?_
  refine lv_iload_n C.x C.b dL_law_2155 rfl (lv_at hl 3 rfl) ?_
  refine lv_iconst (v := 1) C.x C.b dL_law_2156 (by decide) ?_
  refine lv_iadd C.x C.b dL_law_2157 ?_
  refine va_sld C.x C.b hX hbl hbA hw.2.2 (hin 1 (by decide)) dL_law_2158 ?_
  refine lw_cI (As := [.int (xs (nI (5 * k) + 1).toNatClampNeg)]) (rest := []) (ci := 9) C hw hM hI.rcv rfl kw1270 kw1271 kw1272 kw113 kw1273 okX9_distinct ⟨Nat.le_of_ble_eq_true rfl, Nat.le_of_ble_eq_true rfl⟩ rfl hl.1 rfl (Nat.le_of_ble_eq_true rfl) dL_law_2159 ⟨(show cells + mc ≤ 600000 by omega), (show slots + ms ≤ 7302249 by omega)⟩ (fun W1 H locs hM1 hw => ?_)
  refine lv_aload_n C.x C.b dL_law_2162 rfl (lv_at hl 2 rfl) ?_
  refine lv_aload_n C.x C.b dL_law_2163 rfl (lv_at hl 0 rfl) ?_
  refine lv_iload_n C.x C.b dL_law_2164 rfl (lv_at hl 3 rfl) ?_
  refine lv_iconst (v := 1) C.x C.b dL_law_2165 (by decide) ?_
  refine lv_iadd C.x C.b dL_law_2166 ?_
  refine va_sld C.x C.b hX hbl hbA hw.2.2 (hin 1 (by decide)) dL_law_2167 ?_
  refine lw_cI (As := [.int (xs (nI (5 * k) + 1).toNatClampNeg)]) (rest := [.int rr]) (ci := 10) C hw hM1.2 hM1.1 rfl kw1979 kw1980 kw1981 kw123 kw1982 okX10_distinct ⟨Nat.le_of_ble_eq_true rfl, Nat.le_of_ble_eq_true rfl⟩ rfl hl.1 rfl (Nat.le_of_ble_eq_true rfl) dL_law_2168 ⟨(show cells + mc + 0 ≤ 600000 by omega), (show slots + ms + 0 ≤ 7302249 by omega)⟩ (fun W2 H locs hI1 hw => ?_)
  refine lv_icmp_eq (tgt := 2338) C.x C.b dL_law_2171 (by decide) (fun c9 => ?_) (fun c9 => absurd rfl c9)
  exact kk W2 Φ' mc ms H locs hI1 hw h1 h2 h3
set_option maxRecDepth 100000 in
set_option maxHeartbeats 4000000 in
theorem lc_run {D : va_G} {y : Nat → ClassId} {P h : Nat → Nat} {p : Program} {l : Launch} {e : Env} {s : State} {m : MethodId} {b : Nat} {below : List Frame} {meth : Method} {c : Code} {H : Heap} {locs : List Loc} {cells slots : Nat} {Q : State → Prop} {A : Nat → Prop} {cd : Cond} {ret : Option FieldType} {ls : Array Slot} {W0 : va_W} {Φ L k : Nat} {xs : Nat → Int32} (C : Cx D y p s m #[Value.ref b] meth c A RL cL_law cd ret 4) (hX : va_X b L xs s s.heap) (hbl : b < s.heap.size) (hbA : ¬ A b) (hin : ∀ j : Nat, j < 5 → vp_in (nI (5 * k) + nI j) L) (hw : St D A s H locs W0) (hI : INVW y P h W0 Φ) (hl : lv_has ls 4 [(0, .ref b), (1, .ref (P 0)), (2, .ref (h 0)), (3, .int (nI (5 * k)))]) (hc : cells + (16 + 16 * Φ) ≤ 600000) (hs : slots + (1200 + 999 * Φ) ≤ 7302249) (kk : LK D y P h p l e s m #[Value.ref b] below meth c A Q Φ cells slots ls) : W p l e room_1 s m #[Value.ref b] below meth c H locs cells slots Q (F0 m 2176 ls []) := by
  obtain ⟨rr, mc, ms, Φ', h1, h2, h3, hM⟩ := call_run (l := l) (D := D) hI (xs (nI (5 * k) + 1).toNatClampNeg)
  refine lv_aload_n C.x C.b dL_law_2176 rfl (lv_at hl 1 rfl) ?_
  refine lv_aload_n C.x C.b dL_law_2177 rfl (lv_at hl 0 rfl) ?_
  refine lv_iload_n C.x C.b dL_law_2178 rfl (lv_at hl 3 rfl) ?_
  refine lv_iconst (v := 1) C.x C.b dL_law_2179 (by decide) ?_
  refine lv_iadd C.x C.b dL_law_2180 ?_
  refine va_sld C.x C.b hX hbl hbA hw.2.2 (hin 1 (by decide)) dL_law_2181 ?_
  refine lw_cI (As := [.int (xs (nI (5 * k) + 1).toNatClampNeg)]) (rest := []) (ci := 9) C hw hM hI.rcv rfl kw1282 kw1283 kw1284 kw113 kw1285 okX9_run ⟨Nat.le_of_ble_eq_true rfl, Nat.le_of_ble_eq_true rfl⟩ rfl hl.1 rfl (Nat.le_of_ble_eq_true rfl) dL_law_2182 ⟨(show cells + mc ≤ 600000 by omega), (show slots + ms ≤ 7302249 by omega)⟩ (fun W1 H locs hM1 hw => ?_)
  refine lv_aload_n C.x C.b dL_law_2185 rfl (lv_at hl 2 rfl) ?_
  refine lv_aload_n C.x C.b dL_law_2186 rfl (lv_at hl 0 rfl) ?_
  refine lv_iload_n C.x C.b dL_law_2187 rfl (lv_at hl 3 rfl) ?_
  refine lv_iconst (v := 1) C.x C.b dL_law_2188 (by decide) ?_
  refine lv_iadd C.x C.b dL_law_2189 ?_
  refine va_sld C.x C.b hX hbl hbA hw.2.2 (hin 1 (by decide)) dL_law_2190 ?_
  refine lw_cI (As := [.int (xs (nI (5 * k) + 1).toNatClampNeg)]) (rest := [.int rr]) (ci := 10) C hw hM1.2 hM1.1 rfl kw1983 kw1984 kw1985 kw123 kw1986 okX10_run ⟨Nat.le_of_ble_eq_true rfl, Nat.le_of_ble_eq_true rfl⟩ rfl hl.1 rfl (Nat.le_of_ble_eq_true rfl) dL_law_2191 ⟨(show cells + mc + 0 ≤ 600000 by omega), (show slots + ms + 0 ≤ 7302249 by omega)⟩ (fun W2 H locs hI1 hw => ?_)
  refine lv_icmp_eq (tgt := 2338) C.x C.b dL_law_2194 (by decide) (fun c9 => ?_) (fun c9 => absurd rfl c9)
  exact kk W2 Φ' mc ms H locs hI1 hw h1 h2 h3
set_option maxRecDepth 100000 in
set_option maxHeartbeats 4000000 in
theorem lc_unlike {D : va_G} {y : Nat → ClassId} {P h : Nat → Nat} {p : Program} {l : Launch} {e : Env} {s : State} {m : MethodId} {b : Nat} {below : List Frame} {meth : Method} {c : Code} {H : Heap} {locs : List Loc} {cells slots : Nat} {Q : State → Prop} {A : Nat → Prop} {cd : Cond} {ret : Option FieldType} {ls : Array Slot} {W0 : va_W} {Φ L k : Nat} {xs : Nat → Int32} (C : Cx D y p s m #[Value.ref b] meth c A RL cL_law cd ret 4) (hX : va_X b L xs s s.heap) (hbl : b < s.heap.size) (hbA : ¬ A b) (hin : ∀ j : Nat, j < 5 → vp_in (nI (5 * k) + nI j) L) (hw : St D A s H locs W0) (hI : INVW y P h W0 Φ) (hl : lv_has ls 4 [(0, .ref b), (1, .ref (P 0)), (2, .ref (h 0)), (3, .int (nI (5 * k)))]) (hc : cells + (16 + 16 * Φ) ≤ 600000) (hs : slots + (1200 + 999 * Φ) ≤ 7302249) (kk : LK D y P h p l e s m #[Value.ref b] below meth c A Q Φ cells slots ls) : W p l e room_1 s m #[Value.ref b] below meth c H locs cells slots Q (F0 m 2199 ls []) := by
  obtain ⟨rr, mc, ms, Φ', h1, h2, h3, hM⟩ := call_unlike (l := l) (D := D) hI (xs (nI (5 * k) + 1).toNatClampNeg) (xs (nI (5 * k) + 2).toNatClampNeg)
  refine lv_aload_n C.x C.b dL_law_2199 rfl (lv_at hl 1 rfl) ?_
  refine lv_aload_n C.x C.b dL_law_2200 rfl (lv_at hl 0 rfl) ?_
  refine lv_iload_n C.x C.b dL_law_2201 rfl (lv_at hl 3 rfl) ?_
  refine lv_iconst (v := 1) C.x C.b dL_law_2202 (by decide) ?_
  refine lv_iadd C.x C.b dL_law_2203 ?_
  refine va_sld C.x C.b hX hbl hbA hw.2.2 (hin 1 (by decide)) dL_law_2204 ?_
  refine lv_aload_n C.x C.b dL_law_2205 rfl (lv_at hl 0 rfl) ?_
  refine lv_iload_n C.x C.b dL_law_2206 rfl (lv_at hl 3 rfl) ?_
  refine lv_iconst (v := 2) C.x C.b dL_law_2207 (by decide) ?_
  refine lv_iadd C.x C.b dL_law_2208 ?_
  refine va_sld C.x C.b hX hbl hbA hw.2.2 (hin 2 (by decide)) dL_law_2209 ?_
  refine lw_cI (As := [.int (xs (nI (5 * k) + 1).toNatClampNeg), .int (xs (nI (5 * k) + 2).toNatClampNeg)]) (rest := []) (ci := 9) C hw hM hI.rcv rfl kw1290 kw1291 kw1292 kw113 kw1293 okX9_unlike ⟨Nat.le_of_ble_eq_true rfl, Nat.le_of_ble_eq_true rfl⟩ rfl hl.1 rfl (Nat.le_of_ble_eq_true rfl) dL_law_2210 ⟨(show cells + mc ≤ 600000 by omega), (show slots + ms ≤ 7302249 by omega)⟩ (fun W1 H locs hM1 hw => ?_)
  refine lv_aload_n C.x C.b dL_law_2213 rfl (lv_at hl 2 rfl) ?_
  refine lv_aload_n C.x C.b dL_law_2214 rfl (lv_at hl 0 rfl) ?_
  refine lv_iload_n C.x C.b dL_law_2215 rfl (lv_at hl 3 rfl) ?_
  refine lv_iconst (v := 1) C.x C.b dL_law_2216 (by decide) ?_
  refine lv_iadd C.x C.b dL_law_2217 ?_
  refine va_sld C.x C.b hX hbl hbA hw.2.2 (hin 1 (by decide)) dL_law_2218 ?_
  refine lv_aload_n C.x C.b dL_law_2219 rfl (lv_at hl 0 rfl) ?_
  refine lv_iload_n C.x C.b dL_law_2220 rfl (lv_at hl 3 rfl) ?_
  refine lv_iconst (v := 2) C.x C.b dL_law_2221 (by decide) ?_
  refine lv_iadd C.x C.b dL_law_2222 ?_
  refine va_sld C.x C.b hX hbl hbA hw.2.2 (hin 2 (by decide)) dL_law_2223 ?_
  refine lw_cI (As := [.int (xs (nI (5 * k) + 1).toNatClampNeg), .int (xs (nI (5 * k) + 2).toNatClampNeg)]) (rest := [.int rr]) (ci := 10) C hw hM1.2 hM1.1 rfl kw1987 kw1988 kw1989 kw123 kw1990 okX10_unlike ⟨Nat.le_of_ble_eq_true rfl, Nat.le_of_ble_eq_true rfl⟩ rfl hl.1 rfl (Nat.le_of_ble_eq_true rfl) dL_law_2224 ⟨(show cells + mc + 0 ≤ 600000 by omega), (show slots + ms + 0 ≤ 7302249 by omega)⟩ (fun W2 H locs hI1 hw => ?_)
  refine lv_icmp_eq (tgt := 2338) C.x C.b dL_law_2227 (by decide) (fun c9 => ?_) (fun c9 => absurd rfl c9)
  exact kk W2 Φ' mc ms H locs hI1 hw h1 h2 h3
set_option maxRecDepth 100000 in
set_option maxHeartbeats 4000000 in
theorem lc_alike {D : va_G} {y : Nat → ClassId} {P h : Nat → Nat} {p : Program} {l : Launch} {e : Env} {s : State} {m : MethodId} {b : Nat} {below : List Frame} {meth : Method} {c : Code} {H : Heap} {locs : List Loc} {cells slots : Nat} {Q : State → Prop} {A : Nat → Prop} {cd : Cond} {ret : Option FieldType} {ls : Array Slot} {W0 : va_W} {Φ L k : Nat} {xs : Nat → Int32} (C : Cx D y p s m #[Value.ref b] meth c A RL cL_law cd ret 4) (hX : va_X b L xs s s.heap) (hbl : b < s.heap.size) (hbA : ¬ A b) (hin : ∀ j : Nat, j < 5 → vp_in (nI (5 * k) + nI j) L) (hw : St D A s H locs W0) (hI : INVW y P h W0 Φ) (hl : lv_has ls 4 [(0, .ref b), (1, .ref (P 0)), (2, .ref (h 0)), (3, .int (nI (5 * k)))]) (hc : cells + (16 + 16 * Φ) ≤ 600000) (hs : slots + (1200 + 999 * Φ) ≤ 7302249) (kk : LK D y P h p l e s m #[Value.ref b] below meth c A Q Φ cells slots ls) : W p l e room_1 s m #[Value.ref b] below meth c H locs cells slots Q (F0 m 2232 ls []) := by
  obtain ⟨rr, mc, ms, Φ', h1, h2, h3, hM⟩ := call_alike (l := l) (D := D) hI (xs (nI (5 * k) + 1).toNatClampNeg) (xs (nI (5 * k) + 2).toNatClampNeg)
  refine lv_aload_n C.x C.b dL_law_2232 rfl (lv_at hl 1 rfl) ?_
  refine lv_aload_n C.x C.b dL_law_2233 rfl (lv_at hl 0 rfl) ?_
  refine lv_iload_n C.x C.b dL_law_2234 rfl (lv_at hl 3 rfl) ?_
  refine lv_iconst (v := 1) C.x C.b dL_law_2235 (by decide) ?_
  refine lv_iadd C.x C.b dL_law_2236 ?_
  refine va_sld C.x C.b hX hbl hbA hw.2.2 (hin 1 (by decide)) dL_law_2237 ?_
  refine lv_aload_n C.x C.b dL_law_2238 rfl (lv_at hl 0 rfl) ?_
  refine lv_iload_n C.x C.b dL_law_2239 rfl (lv_at hl 3 rfl) ?_
  refine lv_iconst (v := 2) C.x C.b dL_law_2240 (by decide) ?_
  refine lv_iadd C.x C.b dL_law_2241 ?_
  refine va_sld C.x C.b hX hbl hbA hw.2.2 (hin 2 (by decide)) dL_law_2242 ?_
  refine lw_cI (As := [.int (xs (nI (5 * k) + 1).toNatClampNeg), .int (xs (nI (5 * k) + 2).toNatClampNeg)]) (rest := []) (ci := 9) C hw hM hI.rcv rfl kw1295 kw1296 kw1297 kw113 kw1298 okX9_alike ⟨Nat.le_of_ble_eq_true rfl, Nat.le_of_ble_eq_true rfl⟩ rfl hl.1 rfl (Nat.le_of_ble_eq_true rfl) dL_law_2243 ⟨(show cells + mc ≤ 600000 by omega), (show slots + ms ≤ 7302249 by omega)⟩ (fun W1 H locs hM1 hw => ?_)
  refine lv_aload_n C.x C.b dL_law_2246 rfl (lv_at hl 2 rfl) ?_
  refine lv_aload_n C.x C.b dL_law_2247 rfl (lv_at hl 0 rfl) ?_
  refine lv_iload_n C.x C.b dL_law_2248 rfl (lv_at hl 3 rfl) ?_
  refine lv_iconst (v := 1) C.x C.b dL_law_2249 (by decide) ?_
  refine lv_iadd C.x C.b dL_law_2250 ?_
  refine va_sld C.x C.b hX hbl hbA hw.2.2 (hin 1 (by decide)) dL_law_2251 ?_
  refine lv_aload_n C.x C.b dL_law_2252 rfl (lv_at hl 0 rfl) ?_
  refine lv_iload_n C.x C.b dL_law_2253 rfl (lv_at hl 3 rfl) ?_
  refine lv_iconst (v := 2) C.x C.b dL_law_2254 (by decide) ?_
  refine lv_iadd C.x C.b dL_law_2255 ?_
  refine va_sld C.x C.b hX hbl hbA hw.2.2 (hin 2 (by decide)) dL_law_2256 ?_
  refine lw_cI (As := [.int (xs (nI (5 * k) + 1).toNatClampNeg), .int (xs (nI (5 * k) + 2).toNatClampNeg)]) (rest := [.int rr]) (ci := 10) C hw hM1.2 hM1.1 rfl kw1992 kw1993 kw1994 kw123 kw1995 okX10_alike ⟨Nat.le_of_ble_eq_true rfl, Nat.le_of_ble_eq_true rfl⟩ rfl hl.1 rfl (Nat.le_of_ble_eq_true rfl) dL_law_2257 ⟨(show cells + mc + 0 ≤ 600000 by omega), (show slots + ms + 0 ≤ 7302249 by omega)⟩ (fun W2 H locs hI1 hw => ?_)
  refine lv_icmp_eq (tgt := 2338) C.x C.b dL_law_2260 (by decide) (fun c9 => ?_) (fun c9 => absurd rfl c9)
  exact kk W2 Φ' mc ms H locs hI1 hw h1 h2 h3
set_option maxRecDepth 100000 in
set_option maxHeartbeats 4000000 in
theorem lc_ratio {D : va_G} {y : Nat → ClassId} {P h : Nat → Nat} {p : Program} {l : Launch} {e : Env} {s : State} {m : MethodId} {b : Nat} {below : List Frame} {meth : Method} {c : Code} {H : Heap} {locs : List Loc} {cells slots : Nat} {Q : State → Prop} {A : Nat → Prop} {cd : Cond} {ret : Option FieldType} {ls : Array Slot} {W0 : va_W} {Φ L k : Nat} {xs : Nat → Int32} (C : Cx D y p s m #[Value.ref b] meth c A RL cL_law cd ret 4) (hX : va_X b L xs s s.heap) (hbl : b < s.heap.size) (hbA : ¬ A b) (hin : ∀ j : Nat, j < 5 → vp_in (nI (5 * k) + nI j) L) (hw : St D A s H locs W0) (hI : INVW y P h W0 Φ) (hl : lv_has ls 4 [(0, .ref b), (1, .ref (P 0)), (2, .ref (h 0)), (3, .int (nI (5 * k)))]) (hc : cells + (16 + 16 * Φ) ≤ 600000) (hs : slots + (1200 + 999 * Φ) ≤ 7302249) (kk : LK D y P h p l e s m #[Value.ref b] below meth c A Q Φ cells slots ls) : W p l e room_1 s m #[Value.ref b] below meth c H locs cells slots Q (F0 m 2265 ls []) := by
  obtain ⟨rr, mc, ms, Φ', h1, h2, h3, hM⟩ := call_ratio (l := l) (D := D) hI (xs (nI (5 * k) + 1).toNatClampNeg)
  refine lv_aload_n C.x C.b dL_law_2265 rfl (lv_at hl 1 rfl) ?_
  refine lv_aload_n C.x C.b dL_law_2266 rfl (lv_at hl 0 rfl) ?_
  refine lv_iload_n C.x C.b dL_law_2267 rfl (lv_at hl 3 rfl) ?_
  refine lv_iconst (v := 1) C.x C.b dL_law_2268 (by decide) ?_
  refine lv_iadd C.x C.b dL_law_2269 ?_
  refine va_sld C.x C.b hX hbl hbA hw.2.2 (hin 1 (by decide)) dL_law_2270 ?_
  refine lw_cL (As := [.int (xs (nI (5 * k) + 1).toNatClampNeg)]) (rest := []) (ci := 9) C hw hM hI.rcv rfl kw1299 kw1300 kw1301 kw113 kw1302 okX9_ratio ⟨Nat.le_of_ble_eq_true rfl, Nat.le_of_ble_eq_true rfl⟩ rfl hl.1 rfl (Nat.le_of_ble_eq_true rfl) dL_law_2271 ⟨(show cells + mc ≤ 600000 by omega), (show slots + ms ≤ 7302249 by omega)⟩ (fun W1 H locs hM1 hw => ?_)
  refine lv_aload_n C.x C.b dL_law_2274 rfl (lv_at hl 2 rfl) ?_
  refine lv_aload_n C.x C.b dL_law_2275 rfl (lv_at hl 0 rfl) ?_
  refine lv_iload_n C.x C.b dL_law_2276 rfl (lv_at hl 3 rfl) ?_
  refine lv_iconst (v := 1) C.x C.b dL_law_2277 (by decide) ?_
  refine lv_iadd C.x C.b dL_law_2278 ?_
  refine va_sld C.x C.b hX hbl hbA hw.2.2 (hin 1 (by decide)) dL_law_2279 ?_
  refine lw_cL (As := [.int (xs (nI (5 * k) + 1).toNatClampNeg)]) (rest := [.long rr]) (ci := 10) C hw hM1.2 hM1.1 rfl kw1997 kw1998 kw1999 kw123 kw2000 okX10_ratio ⟨Nat.le_of_ble_eq_true rfl, Nat.le_of_ble_eq_true rfl⟩ rfl hl.1 rfl (Nat.le_of_ble_eq_true rfl) dL_law_2280 ⟨(show cells + mc + 0 ≤ 600000 by omega), (show slots + ms + 0 ≤ 7302249 by omega)⟩ (fun W2 H locs hI1 hw => ?_)
  refine W.lcmp C.x C.b dL_law_2283 ?_
  rw [lg_self]
  refine lv_if_eq (tgt := 2338) C.x C.b dL_law_2284 (by decide) (fun c9 => ?_) (fun c9 => absurd rfl c9)
  exact kk W2 Φ' mc ms H locs hI1 hw h1 h2 h3
set_option maxRecDepth 100000 in
set_option maxHeartbeats 4000000 in
theorem lc_image {D : va_G} {y : Nat → ClassId} {P h : Nat → Nat} {p : Program} {l : Launch} {e : Env} {s : State} {m : MethodId} {b : Nat} {below : List Frame} {meth : Method} {c : Code} {H : Heap} {locs : List Loc} {cells slots : Nat} {Q : State → Prop} {A : Nat → Prop} {cd : Cond} {ret : Option FieldType} {ls : Array Slot} {W0 : va_W} {Φ L k : Nat} {xs : Nat → Int32} (C : Cx D y p s m #[Value.ref b] meth c A RL cL_law cd ret 4) (hX : va_X b L xs s s.heap) (hbl : b < s.heap.size) (hbA : ¬ A b) (hin : ∀ j : Nat, j < 5 → vp_in (nI (5 * k) + nI j) L) (hw : St D A s H locs W0) (hI : INVW y P h W0 Φ) (hl : lv_has ls 4 [(0, .ref b), (1, .ref (P 0)), (2, .ref (h 0)), (3, .int (nI (5 * k)))]) (hc : cells + (16 + 16 * Φ) ≤ 600000) (hs : slots + (1200 + 999 * Φ) ≤ 7302249) (kk : LK D y P h p l e s m #[Value.ref b] below meth c A Q Φ cells slots ls) : W p l e room_1 s m #[Value.ref b] below meth c H locs cells slots Q (F0 m 2289 ls []) := by
  obtain ⟨rr, mc, ms, Φ', h1, h2, h3, hM⟩ := call_image (l := l) (D := D) hI 
  refine lv_aload_n C.x C.b dL_law_2289 rfl (lv_at hl 1 rfl) ?_
  refine lw_cI (As := []) (rest := []) (ci := 9) C hw hM hI.rcv rfl kw1310 kw1311 kw1312 kw113 kw1313 okX9_image ⟨Nat.le_of_ble_eq_true rfl, Nat.le_of_ble_eq_true rfl⟩ rfl hl.1 rfl (Nat.le_of_ble_eq_true rfl) dL_law_2290 ⟨(show cells + mc ≤ 600000 by omega), (show slots + ms ≤ 7302249 by omega)⟩ (fun W1 H locs hM1 hw => ?_)
  refine lv_aload_n C.x C.b dL_law_2293 rfl (lv_at hl 2 rfl) ?_
  refine lw_cI (As := []) (rest := [.int rr]) (ci := 10) C hw hM1.2 hM1.1 rfl kw2011 kw2012 kw2013 kw123 kw2014 okX10_image ⟨Nat.le_of_ble_eq_true rfl, Nat.le_of_ble_eq_true rfl⟩ rfl hl.1 rfl (Nat.le_of_ble_eq_true rfl) dL_law_2294 ⟨(show cells + mc + 0 ≤ 600000 by omega), (show slots + ms + 0 ≤ 7302249 by omega)⟩ (fun W2 H locs hI1 hw => ?_)
  refine lv_icmp_eq (tgt := 2338) C.x C.b dL_law_2297 (by decide) (fun c9 => ?_) (fun c9 => absurd rfl c9)
  exact kk W2 Φ' mc ms H locs hI1 hw h1 h2 h3
set_option maxRecDepth 100000 in
set_option maxHeartbeats 4000000 in
theorem lc_back {D : va_G} {y : Nat → ClassId} {P h : Nat → Nat} {p : Program} {l : Launch} {e : Env} {s : State} {m : MethodId} {b : Nat} {below : List Frame} {meth : Method} {c : Code} {H : Heap} {locs : List Loc} {cells slots : Nat} {Q : State → Prop} {A : Nat → Prop} {cd : Cond} {ret : Option FieldType} {ls : Array Slot} {W0 : va_W} {Φ L k : Nat} {xs : Nat → Int32} (C : Cx D y p s m #[Value.ref b] meth c A RL cL_law cd ret 4) (hX : va_X b L xs s s.heap) (hbl : b < s.heap.size) (hbA : ¬ A b) (hin : ∀ j : Nat, j < 5 → vp_in (nI (5 * k) + nI j) L) (hw : St D A s H locs W0) (hI : INVW y P h W0 Φ) (hl : lv_has ls 4 [(0, .ref b), (1, .ref (P 0)), (2, .ref (h 0)), (3, .int (nI (5 * k)))]) (hc : cells + (16 + 16 * Φ) ≤ 600000) (hs : slots + (1200 + 999 * Φ) ≤ 7302249) (kk : LK D y P h p l e s m #[Value.ref b] below meth c A Q Φ cells slots ls) : W p l e room_1 s m #[Value.ref b] below meth c H locs cells slots Q (F0 m 2302 ls []) := by
  obtain ⟨rr, mc, ms, Φ', h1, h2, h3, hM⟩ := call_back (l := l) (D := D) hI 
  refine lv_aload_n C.x C.b dL_law_2302 rfl (lv_at hl 1 rfl) ?_
  refine lw_cI (As := []) (rest := []) (ci := 9) C hw hM hI.rcv rfl kw1323 kw1324 kw1325 kw113 kw1326 okX9_back ⟨Nat.le_of_ble_eq_true rfl, Nat.le_of_ble_eq_true rfl⟩ rfl hl.1 rfl (Nat.le_of_ble_eq_true rfl) dL_law_2303 ⟨(show cells + mc ≤ 600000 by omega), (show slots + ms ≤ 7302249 by omega)⟩ (fun W1 H locs hM1 hw => ?_)
  refine lv_aload_n C.x C.b dL_law_2306 rfl (lv_at hl 2 rfl) ?_
  refine lw_cI (As := []) (rest := [.int rr]) (ci := 10) C hw hM1.2 hM1.1 rfl kw2019 kw2020 kw2021 kw123 kw2022 okX10_back ⟨Nat.le_of_ble_eq_true rfl, Nat.le_of_ble_eq_true rfl⟩ rfl hl.1 rfl (Nat.le_of_ble_eq_true rfl) dL_law_2307 ⟨(show cells + mc + 0 ≤ 600000 by omega), (show slots + ms + 0 ≤ 7302249 by omega)⟩ (fun W2 H locs hI1 hw => ?_)
  refine lv_icmp_eq (tgt := 2338) C.x C.b dL_law_2310 (by decide) (fun c9 => ?_) (fun c9 => absurd rfl c9)
  exact kk W2 Φ' mc ms H locs hI1 hw h1 h2 h3
set_option maxRecDepth 100000 in
set_option maxHeartbeats 4000000 in
theorem lc_about {D : va_G} {y : Nat → ClassId} {P h : Nat → Nat} {p : Program} {l : Launch} {e : Env} {s : State} {m : MethodId} {b : Nat} {below : List Frame} {meth : Method} {c : Code} {H : Heap} {locs : List Loc} {cells slots : Nat} {Q : State → Prop} {A : Nat → Prop} {cd : Cond} {ret : Option FieldType} {ls : Array Slot} {W0 : va_W} {Φ L k : Nat} {xs : Nat → Int32} (C : Cx D y p s m #[Value.ref b] meth c A RL cL_law cd ret 4) (hX : va_X b L xs s s.heap) (hbl : b < s.heap.size) (hbA : ¬ A b) (hin : ∀ j : Nat, j < 5 → vp_in (nI (5 * k) + nI j) L) (hw : St D A s H locs W0) (hI : INVW y P h W0 Φ) (hl : lv_has ls 4 [(0, .ref b), (1, .ref (P 0)), (2, .ref (h 0)), (3, .int (nI (5 * k)))]) (hc : cells + (16 + 16 * Φ) ≤ 600000) (hs : slots + (1200 + 999 * Φ) ≤ 7302249) (kk : LK D y P h p l e s m #[Value.ref b] below meth c A Q Φ cells slots ls) : W p l e room_1 s m #[Value.ref b] below meth c H locs cells slots Q (F0 m 2315 ls []) := by
  obtain ⟨rr, mc, ms, Φ', h1, h2, h3, hM⟩ := call_about (l := l) (D := D) hI (xs (nI (5 * k) + 1).toNatClampNeg)
  refine lv_aload_n C.x C.b dL_law_2315 rfl (lv_at hl 1 rfl) ?_
  refine lv_aload_n C.x C.b dL_law_2316 rfl (lv_at hl 0 rfl) ?_
  refine lv_iload_n C.x C.b dL_law_2317 rfl (lv_at hl 3 rfl) ?_
  refine lv_iconst (v := 1) C.x C.b dL_law_2318 (by decide) ?_
  refine lv_iadd C.x C.b dL_law_2319 ?_
  refine va_sld C.x C.b hX hbl hbA hw.2.2 (hin 1 (by decide)) dL_law_2320 ?_
  refine lw_cI (As := [.int (xs (nI (5 * k) + 1).toNatClampNeg)]) (rest := []) (ci := 9) C hw hM hI.rcv rfl kw1327 kw1328 kw1329 kw113 kw1330 okX9_about ⟨Nat.le_of_ble_eq_true rfl, Nat.le_of_ble_eq_true rfl⟩ rfl hl.1 rfl (Nat.le_of_ble_eq_true rfl) dL_law_2321 ⟨(show cells + mc ≤ 600000 by omega), (show slots + ms ≤ 7302249 by omega)⟩ (fun W1 H locs hM1 hw => ?_)
  refine lv_aload_n C.x C.b dL_law_2324 rfl (lv_at hl 2 rfl) ?_
  refine lv_aload_n C.x C.b dL_law_2325 rfl (lv_at hl 0 rfl) ?_
  refine lv_iload_n C.x C.b dL_law_2326 rfl (lv_at hl 3 rfl) ?_
  refine lv_iconst (v := 1) C.x C.b dL_law_2327 (by decide) ?_
  refine lv_iadd C.x C.b dL_law_2328 ?_
  refine va_sld C.x C.b hX hbl hbA hw.2.2 (hin 1 (by decide)) dL_law_2329 ?_
  refine lw_cI (As := [.int (xs (nI (5 * k) + 1).toNatClampNeg)]) (rest := [.int rr]) (ci := 10) C hw hM1.2 hM1.1 rfl kw2023 kw2024 kw2025 kw123 kw2026 okX10_about ⟨Nat.le_of_ble_eq_true rfl, Nat.le_of_ble_eq_true rfl⟩ rfl hl.1 rfl (Nat.le_of_ble_eq_true rfl) dL_law_2330 ⟨(show cells + mc + 0 ≤ 600000 by omega), (show slots + ms + 0 ≤ 7302249 by omega)⟩ (fun W2 H locs hI1 hw => ?_)
  refine lv_icmp_eq (tgt := 2338) C.x C.b dL_law_2333 (by decide) (fun c9 => ?_) (fun c9 => absurd rfl c9)
  exact kk W2 Φ' mc ms H locs hI1 hw h1 h2 h3
