/-- the reference's object: h 0 its place, h 1 .. those of its rows -/
abbrev oX10 (h : Nat → Nat) (f_valued f_wide f_parted f_step f_bestForm f_bestWidth f_bestTotal f_bestStep f_cutMany f_cutBits f_written f_taped f_pos f_readPlaces f_fault f_faultPlace f_readWide f_readValued f_readForm f_readWidth f_readExceptions f_readBase f_readStep f_baseAt : Int32) : Nat × va_E := (h 0, .inr (10, [.ref (h 1), .ref (h 2), .ref (h 3), .ref (h 4), .int f_valued, .int f_wide, .int f_parted, .int f_step, .int f_bestForm, .int f_bestWidth, .int f_bestTotal, .int f_bestStep, .ref (h 5), .ref (h 6), .ref (h 7), .ref (h 8), .ref (h 9), .ref (h 10), .int f_cutMany, .int f_cutBits, .ref (h 11), .int f_written, .ref (h 12), .int f_taped, .ref (h 13), .int f_pos, .int f_readPlaces, .int f_fault, .int f_faultPlace, .int f_readWide, .int f_readValued, .int f_readForm, .int f_readWidth, .int f_readExceptions, .int f_readBase, .int f_readStep, .int f_baseAt, .ref (h 14)]))
theorem okX10_isIn : okY yX10_isIn 3 := ⟨by decide +kernel, by decide +kernel, by decide +kernel⟩
set_option maxRecDepth 100000 in
set_option maxHeartbeats 4000000 in
theorem tX10_isIn (l : Launch) (D : va_G) (y : Nat → ClassId) (v0 : Int32) (v1 : Int32) (v2 : Int32) (z0 : Int32) (hp : pX10_isIn v0 v1 v2 = some z0) : CZ D y l yX10_isIn (Cond.code yX10_isIn cX10_isIn 3 (some .boolean) :: tbG) { frames := 0, cells := 0, slots := 0, locals := 0 } [.int (v0), .int (v1), .int (v2)] [] [] (z0) := by
  refine CZ.of (own := RX10) (by decide) rfl (Nat.le_of_ble_eq_true rfl) ?_
  intro p e s m args below meth c A H locs ls C hw hl
  have hl : lv_has ls 3 [(0, .int (v0)), (1, .int (v1)), (2, .int (v2))] := hl
  unfold pX10_isIn at hp
  refine lv_iload_n C.x C.b dX10_isIn_0 rfl (lv_at hl 0 rfl) ?_
  refine lv_iload_n C.x C.b dX10_isIn_1 rfl (lv_at hl 1 rfl) ?_
  refine lv_icmp_lt (tgt := 14) C.x C.b dX10_isIn_2 (by decide) (fun c9 => ?_) (fun c9 => ?_)
  · replace hp := it_t c9 hp
    refine lv_iconst (v := 0) C.x C.b dX10_isIn_14 (by decide) ?_
    obtain rfl := Option.some.inj hp
    exact q_zret C hw (by decide) rfl dX10_isIn_15
  · replace hp := it_f c9 hp
    refine lv_iload_n C.x C.b dX10_isIn_5 rfl (lv_at hl 0 rfl) ?_
    refine lv_iload_n C.x C.b dX10_isIn_6 rfl (lv_at hl 2 rfl) ?_
    refine lv_icmp_gt (tgt := 14) C.x C.b dX10_isIn_7 (by decide) (fun c9 => ?_) (fun c9 => ?_)
    · replace hp := it_t c9 hp
      refine lv_iconst (v := 0) C.x C.b dX10_isIn_14 (by decide) ?_
      obtain rfl := Option.some.inj hp
      exact q_zret C hw (by decide) rfl dX10_isIn_15
    · replace hp := it_f c9 hp
      refine lv_iconst (v := 1) C.x C.b dX10_isIn_10 (by decide) ?_
      refine lv_goto (tgt := 15) C.x C.b dX10_isIn_11 (by decide) ?_
      obtain rfl := Option.some.inj hp
      exact q_zret C hw (by decide) rfl dX10_isIn_15
theorem okX10_isColumn : okY yX10_isColumn 1 := ⟨by decide +kernel, by decide +kernel, by decide +kernel⟩
set_option maxRecDepth 100000 in
set_option maxHeartbeats 4000000 in
theorem tX10_isColumn (l : Launch) (D : va_G) (y : Nat → ClassId) (v0 : Int32) (z0 : Int32) (hp : pX10_isColumn v0 = some z0) : CZ D y l yX10_isColumn (Cond.code yX10_isColumn cX10_isColumn 1 (some .boolean) :: tbG) { frames := 1, cells := 0, slots := 0, locals := 22 } [.int (v0)] [] [] (z0) := by
  refine CZ.of (own := RX10) (by decide) rfl (Nat.le_of_ble_eq_true rfl) ?_
  intro p e s m args below meth c A H locs ls C hw hl
  have hl : lv_has ls 1 [(0, .int (v0))] := hl
  unfold pX10_isColumn at hp
  refine lv_iload_n C.x C.b dX10_isColumn_0 rfl (lv_at hl 0 rfl) ?_
  refine lv_iconst (v := 0) C.x C.b dX10_isColumn_1 (by decide) ?_
  refine lv_iconst (v := 2) C.x C.b dX10_isColumn_2 (by decide) ?_
  obtain ⟨k3, hk, hp⟩ := bd_some hp
  refine q_aftZ (wc := []) (wr := []) (w1 := []) (w2 := []) C hw [] [] [] rfl rfl (by decide) (by decide) (by decide) rfl (q_runS (As := [.int (v0), .int (0), .int (2)]) (rest := []) C hw (tX10_isIn l D y v0 0 2 k3 hk H.size) [] rfl (by decide) kw1496 kw1497 kw123 kw1498 okX10_isIn ⟨rfl, rfl⟩ ⟨Nat.le_of_ble_eq_true rfl, Nat.le_of_ble_eq_true rfl⟩ rfl hl.1 rfl (Nat.le_of_ble_eq_true rfl) dX10_isColumn_3 ⟨Nat.zero_le _, Nat.zero_le _⟩) (fun H locs hz3 hw => ?_)
  obtain rfl := Option.some.inj hp
  exact q_zret C hw hz3 rfl dX10_isColumn_6
theorem okX10_at : okY yX10_at 1 := ⟨by decide +kernel, by decide +kernel, by decide +kernel⟩
set_option maxRecDepth 100000 in
set_option maxHeartbeats 4000000 in
theorem tX10_at (l : Launch) (D : va_G) (y : Nat → ClassId) (v0 : Int32) (z0 : Int32) (hp : pX10_at v0 = some z0) : CI D y l yX10_at (Cond.code yX10_at cX10_at 1 (some .int) :: tbG) { frames := 0, cells := 0, slots := 0, locals := 0 } [.int (v0)] [] [] (z0) := by
  refine CI.of (own := RX10) (by decide) rfl (Nat.le_of_ble_eq_true rfl) ?_
  intro p e s m args below meth c A H locs ls C hw hl
  have hl : lv_has ls 1 [(0, .int (v0))] := hl
  unfold pX10_at at hp
  refine lv_bipush (v := 36) C.x C.b dX10_at_0 (by decide) ?_
  refine lv_sipush (v := 353) C.x C.b dX10_at_2 (by decide) ?_
  refine lv_iload_n C.x C.b dX10_at_5 rfl (lv_at hl 0 rfl) ?_
  refine lv_imul C.x C.b dX10_at_6 ?_
  refine lv_iadd C.x C.b dX10_at_7 ?_
  obtain rfl := Option.some.inj hp
  exact q_iret C hw rfl dX10_at_8
theorem okX10_blocks : okY yX10_blocks 1 := ⟨by decide +kernel, by decide +kernel, by decide +kernel⟩
set_option maxRecDepth 100000 in
set_option maxHeartbeats 4000000 in
theorem tX10_blocks (l : Launch) (D : va_G) (y : Nat → ClassId) (h : Nat → Nat) (v1 : Int32) (x_valued : Int32) (x_wide : Int32) (x_parted : Int32) (x_step : Int32) (x_bestForm : Int32) (x_bestWidth : Int32) (x_bestTotal : Int32) (x_bestStep : Int32) (x_cutMany : Int32) (x_cutBits : Int32) (x_written : Int32) (x_taped : Int32) (x_pos : Int32) (x_readPlaces : Int32) (x_fault : Int32) (x_faultPlace : Int32) (x_readWide : Int32) (x_readValued : Int32) (x_readForm : Int32) (x_readWidth : Int32) (x_readExceptions : Int32) (x_readBase : Int32) (x_readStep : Int32) (x_baseAt : Int32) (x_a : Nat → Int32) (z0 : Int32) (hp : pX10_blocks v1 x_a = some z0) : CI D y l yX10_blocks (Cond.code yX10_blocks cX10_blocks 2 (some .int) :: tbG) { frames := 1, cells := 0, slots := 0, locals := 20 } [.ref (h 0), .int (v1)] [(oX10 h (x_valued) (x_wide) (x_parted) (x_step) (x_bestForm) (x_bestWidth) (x_bestTotal) (x_bestStep) (x_cutMany) (x_cutBits) (x_written) (x_taped) (x_pos) (x_readPlaces) (x_fault) (x_faultPlace) (x_readWide) (x_readValued) (x_readForm) (x_readWidth) (x_readExceptions) (x_readBase) (x_readStep) (x_baseAt)), ((h 1), .inl (y 0, 22955, .inl (x_a)))] [(oX10 h (x_valued) (x_wide) (x_parted) (x_step) (x_bestForm) (x_bestWidth) (x_bestTotal) (x_bestStep) (x_cutMany) (x_cutBits) (x_written) (x_taped) (x_pos) (x_readPlaces) (x_fault) (x_faultPlace) (x_readWide) (x_readValued) (x_readForm) (x_readWidth) (x_readExceptions) (x_readBase) (x_readStep) (x_baseAt)), ((h 1), .inl (y 0, 22955, .inl (x_a)))] (z0) := by
  refine CI.of (own := RX10) (by decide) rfl (Nat.le_of_ble_eq_true rfl) ?_
  intro p e s m args below meth c A H locs ls C hw hl
  have hl : lv_has ls 2 [(0, .ref (h 0)), (1, .int (v1))] := hl
  unfold pX10_blocks at hp
  refine lv_aload_n C.x C.b dX10_blocks_0 rfl (lv_at hl 0 rfl) ?_
  refine q_get (v := .ref (h 1)) (T := TX10) C hw 0 0 rfl rfl rfl inX10 (by decide) kw1340 rfl dX10_blocks_1 ?_
  refine lv_iload_n C.x C.b dX10_blocks_4 rfl (lv_at hl 1 rfl) ?_
  obtain ⟨k5, hk, hp⟩ := bd_some hp
  refine q_aftI (wc := []) (wr := [(oX10 h (x_valued) (x_wide) (x_parted) (x_step) (x_bestForm) (x_bestWidth) (x_bestTotal) (x_bestStep) (x_cutMany) (x_cutBits) (x_written) (x_taped) (x_pos) (x_readPlaces) (x_fault) (x_faultPlace) (x_readWide) (x_readValued) (x_readForm) (x_readWidth) (x_readExceptions) (x_readBase) (x_readStep) (x_baseAt)), ((h 1), .inl (y 0, 22955, .inl (x_a)))]) (w1 := []) (w2 := [(oX10 h (x_valued) (x_wide) (x_parted) (x_step) (x_bestForm) (x_bestWidth) (x_bestTotal) (x_bestStep) (x_cutMany) (x_cutBits) (x_written) (x_taped) (x_pos) (x_readPlaces) (x_fault) (x_faultPlace) (x_readWide) (x_readValued) (x_readForm) (x_readWidth) (x_readExceptions) (x_readBase) (x_readStep) (x_baseAt)), ((h 1), .inl (y 0, 22955, .inl (x_a)))]) C hw [] [0, 1] [0, 1] rfl rfl (by decide) (by decide) (by decide) rfl (q_runS (As := [.int (v1)]) (rest := [.ref (h 1)]) C hw (tX10_at l D y v1 k5 hk H.size) [] rfl (by decide) kw1511 kw1512 kw123 kw1513 okX10_at ⟨rfl, rfl⟩ ⟨Nat.le_of_ble_eq_true rfl, Nat.le_of_ble_eq_true rfl⟩ rfl hl.1 rfl (Nat.le_of_ble_eq_true rfl) dX10_blocks_5 ⟨Nat.zero_le _, Nat.zero_le _⟩) (fun H locs hw => ?_)
  obtain ⟨hi, hp⟩ := ck_some hp
  refine q_iald C hw 1 rfl hi dX10_blocks_8 ?_
  obtain rfl := Option.some.inj hp
  exact q_iret C hw rfl dX10_blocks_9
theorem okX10_ofBlock : okY yX10_ofBlock 3 := ⟨by decide +kernel, by decide +kernel, by decide +kernel⟩
set_option maxRecDepth 100000 in
set_option maxHeartbeats 4000000 in
theorem tX10_ofBlock (l : Launch) (D : va_G) (y : Nat → ClassId) (h : Nat → Nat) (v1 : Int32) (v2 : Int32) (v3 : Int32) (x_valued : Int32) (x_wide : Int32) (x_parted : Int32) (x_step : Int32) (x_bestForm : Int32) (x_bestWidth : Int32) (x_bestTotal : Int32) (x_bestStep : Int32) (x_cutMany : Int32) (x_cutBits : Int32) (x_written : Int32) (x_taped : Int32) (x_pos : Int32) (x_readPlaces : Int32) (x_fault : Int32) (x_faultPlace : Int32) (x_readWide : Int32) (x_readValued : Int32) (x_readForm : Int32) (x_readWidth : Int32) (x_readExceptions : Int32) (x_readBase : Int32) (x_readStep : Int32) (x_baseAt : Int32) (x_a : Nat → Int32) (z0 : Int32) (hp : pX10_ofBlock v1 v2 v3 x_a = some z0) : CI D y l yX10_ofBlock (Cond.code yX10_ofBlock cX10_ofBlock 4 (some .int) :: tbG) { frames := 1, cells := 0, slots := 0, locals := 20 } [.ref (h 0), .int (v1), .int (v2), .int (v3)] [(oX10 h (x_valued) (x_wide) (x_parted) (x_step) (x_bestForm) (x_bestWidth) (x_bestTotal) (x_bestStep) (x_cutMany) (x_cutBits) (x_written) (x_taped) (x_pos) (x_readPlaces) (x_fault) (x_faultPlace) (x_readWide) (x_readValued) (x_readForm) (x_readWidth) (x_readExceptions) (x_readBase) (x_readStep) (x_baseAt)), ((h 1), .inl (y 0, 22955, .inl (x_a)))] [(oX10 h (x_valued) (x_wide) (x_parted) (x_step) (x_bestForm) (x_bestWidth) (x_bestTotal) (x_bestStep) (x_cutMany) (x_cutBits) (x_written) (x_taped) (x_pos) (x_readPlaces) (x_fault) (x_faultPlace) (x_readWide) (x_readValued) (x_readForm) (x_readWidth) (x_readExceptions) (x_readBase) (x_readStep) (x_baseAt)), ((h 1), .inl (y 0, 22955, .inl (x_a)))] (z0) := by
  refine CI.of (own := RX10) (by decide) rfl (Nat.le_of_ble_eq_true rfl) ?_
  intro p e s m args below meth c A H locs ls C hw hl
  have hl : lv_has ls 4 [(0, .ref (h 0)), (1, .int (v1)), (2, .int (v2)), (3, .int (v3))] := hl
  unfold pX10_ofBlock at hp
  refine lv_aload_n C.x C.b dX10_ofBlock_0 rfl (lv_at hl 0 rfl) ?_
  refine q_get (v := .ref (h 1)) (T := TX10) C hw 0 0 rfl rfl rfl inX10 (by decide) kw1340 rfl dX10_ofBlock_1 ?_
  refine lv_iload_n C.x C.b dX10_ofBlock_4 rfl (lv_at hl 1 rfl) ?_
  obtain ⟨k5, hk, hp⟩ := bd_some hp
  refine q_aftI (wc := []) (wr := [(oX10 h (x_valued) (x_wide) (x_parted) (x_step) (x_bestForm) (x_bestWidth) (x_bestTotal) (x_bestStep) (x_cutMany) (x_cutBits) (x_written) (x_taped) (x_pos) (x_readPlaces) (x_fault) (x_faultPlace) (x_readWide) (x_readValued) (x_readForm) (x_readWidth) (x_readExceptions) (x_readBase) (x_readStep) (x_baseAt)), ((h 1), .inl (y 0, 22955, .inl (x_a)))]) (w1 := []) (w2 := [(oX10 h (x_valued) (x_wide) (x_parted) (x_step) (x_bestForm) (x_bestWidth) (x_bestTotal) (x_bestStep) (x_cutMany) (x_cutBits) (x_written) (x_taped) (x_pos) (x_readPlaces) (x_fault) (x_faultPlace) (x_readWide) (x_readValued) (x_readForm) (x_readWidth) (x_readExceptions) (x_readBase) (x_readStep) (x_baseAt)), ((h 1), .inl (y 0, 22955, .inl (x_a)))]) C hw [] [0, 1] [0, 1] rfl rfl (by decide) (by decide) (by decide) rfl (q_runS (As := [.int (v1)]) (rest := [.ref (h 1)]) C hw (tX10_at l D y v1 k5 hk H.size) [] rfl (by decide) kw1511 kw1512 kw123 kw1513 okX10_at ⟨rfl, rfl⟩ ⟨Nat.le_of_ble_eq_true rfl, Nat.le_of_ble_eq_true rfl⟩ rfl hl.1 rfl (Nat.le_of_ble_eq_true rfl) dX10_ofBlock_5 ⟨Nat.zero_le _, Nat.zero_le _⟩) (fun H locs hw => ?_)
  refine lv_iconst (v := 1) C.x C.b dX10_ofBlock_8 (by decide) ?_
  refine lv_iadd C.x C.b dX10_ofBlock_9 ?_
  refine lv_iconst (v := 4) C.x C.b dX10_ofBlock_10 (by decide) ?_
  refine lv_iload_n C.x C.b dX10_ofBlock_11 rfl (lv_at hl 2 rfl) ?_
  refine lv_imul C.x C.b dX10_ofBlock_12 ?_
  refine lv_iadd C.x C.b dX10_ofBlock_13 ?_
  refine lv_iload_n C.x C.b dX10_ofBlock_14 rfl (lv_at hl 3 rfl) ?_
  refine lv_iadd C.x C.b dX10_ofBlock_15 ?_
  obtain ⟨hi, hp⟩ := ck_some hp
  refine q_iald C hw 1 rfl hi dX10_ofBlock_16 ?_
  obtain rfl := Option.some.inj hp
  exact q_iret C hw rfl dX10_ofBlock_17
theorem okX10_putBlock : okY yX10_putBlock 4 := ⟨by decide +kernel, by decide +kernel, by decide +kernel⟩
set_option maxRecDepth 100000 in
set_option maxHeartbeats 4000000 in
theorem tX10_putBlock (l : Launch) (D : va_G) (y : Nat → ClassId) (h : Nat → Nat) (v1 : Int32) (v2 : Int32) (v3 : Int32) (v4 : Int32) (x_valued : Int32) (x_wide : Int32) (x_parted : Int32) (x_step : Int32) (x_bestForm : Int32) (x_bestWidth : Int32) (x_bestTotal : Int32) (x_bestStep : Int32) (x_cutMany : Int32) (x_cutBits : Int32) (x_written : Int32) (x_taped : Int32) (x_pos : Int32) (x_readPlaces : Int32) (x_fault : Int32) (x_faultPlace : Int32) (x_readWide : Int32) (x_readValued : Int32) (x_readForm : Int32) (x_readWidth : Int32) (x_readExceptions : Int32) (x_readBase : Int32) (x_readStep : Int32) (x_baseAt : Int32) (x_a : Nat → Int32) (z0 : Nat → Int32) (hp : pX10_putBlock v1 v2 v3 v4 x_a = some z0) : CV D y l yX10_putBlock (Cond.code yX10_putBlock cX10_putBlock 5 none :: tbG) { frames := 1, cells := 0, slots := 0, locals := 20 } [.ref (h 0), .int (v1), .int (v2), .int (v3), .int (v4)] [(oX10 h (x_valued) (x_wide) (x_parted) (x_step) (x_bestForm) (x_bestWidth) (x_bestTotal) (x_bestStep) (x_cutMany) (x_cutBits) (x_written) (x_taped) (x_pos) (x_readPlaces) (x_fault) (x_faultPlace) (x_readWide) (x_readValued) (x_readForm) (x_readWidth) (x_readExceptions) (x_readBase) (x_readStep) (x_baseAt)), ((h 1), .inl (y 0, 22955, .inl (x_a)))] [(oX10 h (x_valued) (x_wide) (x_parted) (x_step) (x_bestForm) (x_bestWidth) (x_bestTotal) (x_bestStep) (x_cutMany) (x_cutBits) (x_written) (x_taped) (x_pos) (x_readPlaces) (x_fault) (x_faultPlace) (x_readWide) (x_readValued) (x_readForm) (x_readWidth) (x_readExceptions) (x_readBase) (x_readStep) (x_baseAt)), ((h 1), .inl (y 0, 22955, .inl (z0)))] := by
  refine CV.of (own := RX10) (by decide) rfl (Nat.le_of_ble_eq_true rfl) ?_
  intro p e s m args below meth c A H locs ls C hw hl
  have hl : lv_has ls 5 [(0, .ref (h 0)), (1, .int (v1)), (2, .int (v2)), (3, .int (v3)), (4, .int (v4))] := hl
  unfold pX10_putBlock at hp
  refine lv_aload_n C.x C.b dX10_putBlock_0 rfl (lv_at hl 0 rfl) ?_
  refine q_get (v := .ref (h 1)) (T := TX10) C hw 0 0 rfl rfl rfl inX10 (by decide) kw1340 rfl dX10_putBlock_1 ?_
  refine lv_iload_n C.x C.b dX10_putBlock_4 rfl (lv_at hl 1 rfl) ?_
  obtain ⟨k5, hk, hp⟩ := bd_some hp
  refine q_aftI (wc := []) (wr := [(oX10 h (x_valued) (x_wide) (x_parted) (x_step) (x_bestForm) (x_bestWidth) (x_bestTotal) (x_bestStep) (x_cutMany) (x_cutBits) (x_written) (x_taped) (x_pos) (x_readPlaces) (x_fault) (x_faultPlace) (x_readWide) (x_readValued) (x_readForm) (x_readWidth) (x_readExceptions) (x_readBase) (x_readStep) (x_baseAt)), ((h 1), .inl (y 0, 22955, .inl (x_a)))]) (w1 := []) (w2 := [(oX10 h (x_valued) (x_wide) (x_parted) (x_step) (x_bestForm) (x_bestWidth) (x_bestTotal) (x_bestStep) (x_cutMany) (x_cutBits) (x_written) (x_taped) (x_pos) (x_readPlaces) (x_fault) (x_faultPlace) (x_readWide) (x_readValued) (x_readForm) (x_readWidth) (x_readExceptions) (x_readBase) (x_readStep) (x_baseAt)), ((h 1), .inl (y 0, 22955, .inl (x_a)))]) C hw [] [0, 1] [0, 1] rfl rfl (by decide) (by decide) (by decide) rfl (q_runS (As := [.int (v1)]) (rest := [.ref (h 1)]) C hw (tX10_at l D y v1 k5 hk H.size) [] rfl (by decide) kw1511 kw1512 kw123 kw1513 okX10_at ⟨rfl, rfl⟩ ⟨Nat.le_of_ble_eq_true rfl, Nat.le_of_ble_eq_true rfl⟩ rfl hl.1 rfl (Nat.le_of_ble_eq_true rfl) dX10_putBlock_5 ⟨Nat.zero_le _, Nat.zero_le _⟩) (fun H locs hw => ?_)
  refine lv_iconst (v := 1) C.x C.b dX10_putBlock_8 (by decide) ?_
  refine lv_iadd C.x C.b dX10_putBlock_9 ?_
  refine lv_iconst (v := 4) C.x C.b dX10_putBlock_10 (by decide) ?_
  refine lv_iload_n C.x C.b dX10_putBlock_11 rfl (lv_at hl 2 rfl) ?_
  refine lv_imul C.x C.b dX10_putBlock_12 ?_
  refine lv_iadd C.x C.b dX10_putBlock_13 ?_
  refine lv_iload_n C.x C.b dX10_putBlock_14 rfl (lv_at hl 3 rfl) ?_
  refine lv_iadd C.x C.b dX10_putBlock_15 ?_
  refine lv_iload C.x C.b dX10_putBlock_16 (lv_at hl 4 rfl) ?_
  obtain ⟨hi, hp⟩ := ck_some hp
  refine q_iast (w2 := [(oX10 h (x_valued) (x_wide) (x_parted) (x_step) (x_bestForm) (x_bestWidth) (x_bestTotal) (x_bestStep) (x_cutMany) (x_cutBits) (x_written) (x_taped) (x_pos) (x_readPlaces) (x_fault) (x_faultPlace) (x_readWide) (x_readValued) (x_readForm) (x_readWidth) (x_readExceptions) (x_readBase) (x_readStep) (x_baseAt)), ((h 1), .inl (y 0, 22955, .inl ((upd x_a (((k5 + 1) + (4 * v2)) + v3).toNatClampNeg v4))))]) C hw 1 rfl rfl hi dX10_putBlock_18 (fun H locs hw => ?_)
  obtain rfl := Option.some.inj hp
  exact q_vret C hw dX10_putBlock_19
theorem okX10_firstOf : okY yX10_firstOf 2 := ⟨by decide +kernel, by decide +kernel, by decide +kernel⟩
set_option maxRecDepth 100000 in
set_option maxHeartbeats 4000000 in
theorem wX10_firstOf_b5 {D : va_G} {y : Nat → ClassId} {p : Program} {l : Launch} {e : Env} {s : State} {m : MethodId} {args : Array Value} {below : List Frame} {meth : Method} {c : Code} {A : Nat → Prop} (h : Nat → Nat) (v1 : Int32) (v2 : Int32) (x_valued : Int32) (x_wide : Int32) (x_parted : Int32) (x_step : Int32) (x_bestForm : Int32) (x_bestWidth : Int32) (x_bestTotal : Int32) (x_bestStep : Int32) (x_cutMany : Int32) (x_cutBits : Int32) (x_written : Int32) (x_taped : Int32) (x_pos : Int32) (x_readPlaces : Int32) (x_fault : Int32) (x_faultPlace : Int32) (x_readWide : Int32) (x_readValued : Int32) (x_readForm : Int32) (x_readWidth : Int32) (x_readExceptions : Int32) (x_readBase : Int32) (x_readStep : Int32) (x_baseAt : Int32) (x_a : Nat → Int32)  (C : Cx D y p s m args meth c A RX10 cX10_firstOf (Cond.code yX10_firstOf cX10_firstOf 5 (some .int)) (some .int) 5) {Q : State → Prop} : ∀ (k : Nat) (z5 : Int32 × Int32) (o5 : Int32 × Int32) (H : Heap) (locs : List Loc) (ls : Array Slot), lp (pX10_firstOf_b5 v1 v2 x_a) k z5 = some o5 → St D A s H locs [(oX10 h (x_valued) (x_wide) (x_parted) (x_step) (x_bestForm) (x_bestWidth) (x_bestTotal) (x_bestStep) (x_cutMany) (x_cutBits) (x_written) (x_taped) (x_pos) (x_readPlaces) (x_fault) (x_faultPlace) (x_readWide) (x_readValued) (x_readForm) (x_readWidth) (x_readExceptions) (x_readBase) (x_readStep) (x_baseAt)), ((h 1), .inl (y 0, 22955, .inl (x_a)))] → lv_has ls 5 [(0, .ref (h 0)), (1, .int (v1)), (2, .int (v2)), (3, .int (z5.1)), (4, .int (z5.2))] → (∀ (H : Heap) (locs : List Loc) (ls : Array Slot), St D A s H locs [(oX10 h (x_valued) (x_wide) (x_parted) (x_step) (x_bestForm) (x_bestWidth) (x_bestTotal) (x_bestStep) (x_cutMany) (x_cutBits) (x_written) (x_taped) (x_pos) (x_readPlaces) (x_fault) (x_faultPlace) (x_readWide) (x_readValued) (x_readForm) (x_readWidth) (x_readExceptions) (x_readBase) (x_readStep) (x_baseAt)), ((h 1), .inl (y 0, 22955, .inl (x_a)))] → lv_has ls 5 [(3, .int (o5.1))] → W p l e { frames := 2, cells := 0, slots := 0, locals := 43 } s m args below meth c H locs 0 0 Q (F0 m 28 ls [])) → W p l e { frames := 2, cells := 0, slots := 0, locals := 43 } s m args below meth c H locs 0 0 Q (F0 m 5 ls []) := by
  intro k
  induction k with
  | zero => intro z5 o9 H locs ls hp; exact lp_zero hp
  | succ k ih =>
    intro z5 o5 H locs ls hlp hw hl kx0
    obtain ⟨o, hp, hk1, hk2⟩ := lp_succ hlp
    have kb : ∀ (z9 : Int32 × Int32) (H : Heap) (locs : List Loc) (ls : Array Slot), o = .inl z9 → St D A s H locs [(oX10 h (x_valued) (x_wide) (x_parted) (x_step) (x_bestForm) (x_bestWidth) (x_bestTotal) (x_bestStep) (x_cutMany) (x_cutBits) (x_written) (x_taped) (x_pos) (x_readPlaces) (x_fault) (x_faultPlace) (x_readWide) (x_readValued) (x_readForm) (x_readWidth) (x_readExceptions) (x_readBase) (x_readStep) (x_baseAt)), ((h 1), .inl (y 0, 22955, .inl (x_a)))] → lv_has ls 5 [(0, .ref (h 0)), (1, .int (v1)), (2, .int (v2)), (3, .int (z9.1)), (4, .int (z9.2))] → W p l e { frames := 2, cells := 0, slots := 0, locals := 43 } s m args below meth c H locs 0 0 Q (F0 m 5 ls []) := fun z9 H locs ls ho hw hl => ih z9 o5 H locs ls (hk1 z9 ho) hw hl kx0
    have kx : ∀ (z9 : Int32 × Int32) (H : Heap) (locs : List Loc) (ls : Array Slot), o = .inr z9 → St D A s H locs [(oX10 h (x_valued) (x_wide) (x_parted) (x_step) (x_bestForm) (x_bestWidth) (x_bestTotal) (x_bestStep) (x_cutMany) (x_cutBits) (x_written) (x_taped) (x_pos) (x_readPlaces) (x_fault) (x_faultPlace) (x_readWide) (x_readValued) (x_readForm) (x_readWidth) (x_readExceptions) (x_readBase) (x_readStep) (x_baseAt)), ((h 1), .inl (y 0, 22955, .inl (x_a)))] → lv_has ls 5 [(3, .int (z9.1))] → W p l e { frames := 2, cells := 0, slots := 0, locals := 43 } s m args below meth c H locs 0 0 Q (F0 m 28 ls []) := fun z9 H locs ls ho hw hl => by obtain rfl := hk2 z9 ho; exact kx0 H locs ls hw hl
    clear ih hk1 hk2 hlp kx0
    unfold pX10_firstOf_b5 at hp
    refine lv_iload C.x C.b dX10_firstOf_5 (lv_at hl 4 rfl) ?_
    refine lv_iload_n C.x C.b dX10_firstOf_7 rfl (lv_at hl 2 rfl) ?_
    refine lv_icmp_ge (tgt := 28) C.x C.b dX10_firstOf_8 (by decide) (fun c9 => ?_) (fun c9 => ?_)
    · replace hp := it_t c9 hp
      exact kx _ H locs ls (Option.some.inj hp).symm hw (lv_sub hl [3] rfl)
    · replace hp := it_f c9 hp
      refine lv_iload_n C.x C.b dX10_firstOf_11 rfl (lv_at hl 3 rfl) ?_
      refine lv_aload_n C.x C.b dX10_firstOf_12 rfl (lv_at hl 0 rfl) ?_
      refine lv_iload_n C.x C.b dX10_firstOf_13 rfl (lv_at hl 1 rfl) ?_
      refine lv_iload C.x C.b dX10_firstOf_14 (lv_at hl 4 rfl) ?_
      refine lv_iconst (v := 0) C.x C.b dX10_firstOf_16 (by decide) ?_
      obtain ⟨k17, hk, hp⟩ := bd_some hp
      refine q_aftI (wc := [(oX10 h (x_valued) (x_wide) (x_parted) (x_step) (x_bestForm) (x_bestWidth) (x_bestTotal) (x_bestStep) (x_cutMany) (x_cutBits) (x_written) (x_taped) (x_pos) (x_readPlaces) (x_fault) (x_faultPlace) (x_readWide) (x_readValued) (x_readForm) (x_readWidth) (x_readExceptions) (x_readBase) (x_readStep) (x_baseAt)), ((h 1), .inl (y 0, 22955, .inl (x_a)))]) (wr := []) (w1 := [(oX10 h (x_valued) (x_wide) (x_parted) (x_step) (x_bestForm) (x_bestWidth) (x_bestTotal) (x_bestStep) (x_cutMany) (x_cutBits) (x_written) (x_taped) (x_pos) (x_readPlaces) (x_fault) (x_faultPlace) (x_readWide) (x_readValued) (x_readForm) (x_readWidth) (x_readExceptions) (x_readBase) (x_readStep) (x_baseAt)), ((h 1), .inl (y 0, 22955, .inl (x_a)))]) (w2 := [(oX10 h (x_valued) (x_wide) (x_parted) (x_step) (x_bestForm) (x_bestWidth) (x_bestTotal) (x_bestStep) (x_cutMany) (x_cutBits) (x_written) (x_taped) (x_pos) (x_readPlaces) (x_fault) (x_faultPlace) (x_readWide) (x_readValued) (x_readForm) (x_readWidth) (x_readExceptions) (x_readBase) (x_readStep) (x_baseAt)), ((h 1), .inl (y 0, 22955, .inl (x_a)))]) C hw [0, 1] [] [0, 1] rfl rfl (by decide) (by decide) (by decide) rfl (q_runV (As := [.int (v1), .int (z5.2), .int (0)]) (rest := [.int (z5.1)]) (q0 := 0) (ci := 10) C hw (tX10_ofBlock l D y h v1 z5.2 0 x_valued x_wide x_parted x_step x_bestForm x_bestWidth x_bestTotal x_bestStep x_cutMany x_cutBits x_written x_taped x_pos x_readPlaces x_fault x_faultPlace x_readWide x_readValued x_readForm x_readWidth x_readExceptions x_readBase x_readStep x_baseAt x_a k17 hk H.size) [0, 1] rfl (by decide) rfl rfl kw1518 kw1520 kw52 kw123 kw1521 okX10_ofBlock ⟨rfl, rfl⟩ ⟨Nat.le_of_ble_eq_true rfl, Nat.le_of_ble_eq_true rfl⟩ rfl hl.1 rfl (Nat.le_of_ble_eq_true rfl) dX10_firstOf_17 ⟨Nat.zero_le _, Nat.zero_le _⟩) (fun H locs hw => ?_)
      refine lv_iadd C.x C.b dX10_firstOf_20 ?_
      refine lv_istore_n (lv' := [(3, .int ((z5.1 + k17))), (0, .ref (h 0)), (1, .int (v1)), (2, .int (v2)), (4, .int (z5.2))]) C.x C.b dX10_firstOf_21 rfl hl (by decide) rfl (fun ls hl => ?_)
      refine lv_iinc (v := (z5.2 + 1)) (lv' := [(4, .int ((z5.2 + 1))), (3, .int ((z5.1 + k17))), (0, .ref (h 0)), (1, .int (v1)), (2, .int (v2))]) C.x C.b dX10_firstOf_22 hl (k := 4) rfl rfl (by decide) rfl (fun ls hl => ?_)
      refine lv_goto (tgt := 5) C.x C.b dX10_firstOf_25 (by decide) ?_
      exact kb _ H locs ls (Option.some.inj hp).symm hw (lv_sub hl [2, 3, 4, 1, 0] rfl)
set_option maxRecDepth 100000 in
set_option maxHeartbeats 4000000 in
theorem tX10_firstOf (l : Launch) (D : va_G) (y : Nat → ClassId) (h : Nat → Nat) (v1 : Int32) (v2 : Int32) (x_valued : Int32) (x_wide : Int32) (x_parted : Int32) (x_step : Int32) (x_bestForm : Int32) (x_bestWidth : Int32) (x_bestTotal : Int32) (x_bestStep : Int32) (x_cutMany : Int32) (x_cutBits : Int32) (x_written : Int32) (x_taped : Int32) (x_pos : Int32) (x_readPlaces : Int32) (x_fault : Int32) (x_faultPlace : Int32) (x_readWide : Int32) (x_readValued : Int32) (x_readForm : Int32) (x_readWidth : Int32) (x_readExceptions : Int32) (x_readBase : Int32) (x_readStep : Int32) (x_baseAt : Int32) (x_a : Nat → Int32) (z0 : Int32) (hp : pX10_firstOf v1 v2 x_a = some z0) : CI D y l yX10_firstOf (Cond.code yX10_firstOf cX10_firstOf 5 (some .int) :: tbG) { frames := 2, cells := 0, slots := 0, locals := 43 } [.ref (h 0), .int (v1), .int (v2)] [(oX10 h (x_valued) (x_wide) (x_parted) (x_step) (x_bestForm) (x_bestWidth) (x_bestTotal) (x_bestStep) (x_cutMany) (x_cutBits) (x_written) (x_taped) (x_pos) (x_readPlaces) (x_fault) (x_faultPlace) (x_readWide) (x_readValued) (x_readForm) (x_readWidth) (x_readExceptions) (x_readBase) (x_readStep) (x_baseAt)), ((h 1), .inl (y 0, 22955, .inl (x_a)))] [(oX10 h (x_valued) (x_wide) (x_parted) (x_step) (x_bestForm) (x_bestWidth) (x_bestTotal) (x_bestStep) (x_cutMany) (x_cutBits) (x_written) (x_taped) (x_pos) (x_readPlaces) (x_fault) (x_faultPlace) (x_readWide) (x_readValued) (x_readForm) (x_readWidth) (x_readExceptions) (x_readBase) (x_readStep) (x_baseAt)), ((h 1), .inl (y 0, 22955, .inl (x_a)))] (z0) := by
  refine CI.of (own := RX10) (by decide) rfl (Nat.le_of_ble_eq_true rfl) ?_
  intro p e s m args below meth c A H locs ls C hw hl
  have hl : lv_has ls 5 [(0, .ref (h 0)), (1, .int (v1)), (2, .int (v2))] := hl
  unfold pX10_firstOf at hp
  refine lv_iconst (v := 0) C.x C.b dX10_firstOf_0 (by decide) ?_
  refine lv_istore_n (lv' := [(3, .int (0)), (0, .ref (h 0)), (1, .int (v1)), (2, .int (v2))]) C.x C.b dX10_firstOf_1 rfl hl (by decide) rfl (fun ls hl => ?_)
  refine lv_iconst (v := 0) C.x C.b dX10_firstOf_2 (by decide) ?_
  refine lv_istore (lv' := [(4, .int (0)), (3, .int (0)), (0, .ref (h 0)), (1, .int (v1)), (2, .int (v2))]) C.x C.b dX10_firstOf_3 hl (by decide) rfl (fun ls hl => ?_)
  obtain ⟨y5, hlp, hp⟩ := bd_some hp
  refine wX10_firstOf_b5 h (v1) (v2) (x_valued) (x_wide) (x_parted) (x_step) (x_bestForm) (x_bestWidth) (x_bestTotal) (x_bestStep) (x_cutMany) (x_cutBits) (x_written) (x_taped) (x_pos) (x_readPlaces) (x_fault) (x_faultPlace) (x_readWide) (x_readValued) (x_readForm) (x_readWidth) (x_readExceptions) (x_readBase) (x_readStep) (x_baseAt) (x_a) C FU (0, 0) y5 H locs ls hlp hw (lv_sub hl [2, 3, 4, 1, 0] rfl) (fun H locs ls hw hl => ?_)
  refine lv_iload_n C.x C.b dX10_firstOf_28 rfl (lv_at hl 0 rfl) ?_
  obtain rfl := Option.some.inj hp
  exact q_iret C hw rfl dX10_firstOf_29
theorem okX10_places : okY yX10_places 1 := ⟨by decide +kernel, by decide +kernel, by decide +kernel⟩
set_option maxRecDepth 100000 in
set_option maxHeartbeats 4000000 in
theorem tX10_places (l : Launch) (D : va_G) (y : Nat → ClassId) (h : Nat → Nat) (v1 : Int32) (x_valued : Int32) (x_wide : Int32) (x_parted : Int32) (x_step : Int32) (x_bestForm : Int32) (x_bestWidth : Int32) (x_bestTotal : Int32) (x_bestStep : Int32) (x_cutMany : Int32) (x_cutBits : Int32) (x_written : Int32) (x_taped : Int32) (x_pos : Int32) (x_readPlaces : Int32) (x_fault : Int32) (x_faultPlace : Int32) (x_readWide : Int32) (x_readValued : Int32) (x_readForm : Int32) (x_readWidth : Int32) (x_readExceptions : Int32) (x_readBase : Int32) (x_readStep : Int32) (x_baseAt : Int32) (x_a : Nat → Int32) (z0 : Int32) (hp : pX10_places v1 x_a = some z0) : CI D y l yX10_places (Cond.code yX10_places cX10_places 2 (some .int) :: tbG) { frames := 3, cells := 0, slots := 0, locals := 67 } [.ref (h 0), .int (v1)] [(oX10 h (x_valued) (x_wide) (x_parted) (x_step) (x_bestForm) (x_bestWidth) (x_bestTotal) (x_bestStep) (x_cutMany) (x_cutBits) (x_written) (x_taped) (x_pos) (x_readPlaces) (x_fault) (x_faultPlace) (x_readWide) (x_readValued) (x_readForm) (x_readWidth) (x_readExceptions) (x_readBase) (x_readStep) (x_baseAt)), ((h 1), .inl (y 0, 22955, .inl (x_a)))] [(oX10 h (x_valued) (x_wide) (x_parted) (x_step) (x_bestForm) (x_bestWidth) (x_bestTotal) (x_bestStep) (x_cutMany) (x_cutBits) (x_written) (x_taped) (x_pos) (x_readPlaces) (x_fault) (x_faultPlace) (x_readWide) (x_readValued) (x_readForm) (x_readWidth) (x_readExceptions) (x_readBase) (x_readStep) (x_baseAt)), ((h 1), .inl (y 0, 22955, .inl (x_a)))] (z0) := by
  refine CI.of (own := RX10) (by decide) rfl (Nat.le_of_ble_eq_true rfl) ?_
  intro p e s m args below meth c A H locs ls C hw hl
  have hl : lv_has ls 2 [(0, .ref (h 0)), (1, .int (v1))] := hl
  unfold pX10_places at hp
  refine lv_aload_n C.x C.b dX10_places_0 rfl (lv_at hl 0 rfl) ?_
  refine lv_iload_n C.x C.b dX10_places_1 rfl (lv_at hl 1 rfl) ?_
  refine lv_aload_n C.x C.b dX10_places_2 rfl (lv_at hl 0 rfl) ?_
  refine lv_iload_n C.x C.b dX10_places_3 rfl (lv_at hl 1 rfl) ?_
  obtain ⟨k4, hk, hp⟩ := bd_some hp
  refine q_aftI (wc := [(oX10 h (x_valued) (x_wide) (x_parted) (x_step) (x_bestForm) (x_bestWidth) (x_bestTotal) (x_bestStep) (x_cutMany) (x_cutBits) (x_written) (x_taped) (x_pos) (x_readPlaces) (x_fault) (x_faultPlace) (x_readWide) (x_readValued) (x_readForm) (x_readWidth) (x_readExceptions) (x_readBase) (x_readStep) (x_baseAt)), ((h 1), .inl (y 0, 22955, .inl (x_a)))]) (wr := []) (w1 := [(oX10 h (x_valued) (x_wide) (x_parted) (x_step) (x_bestForm) (x_bestWidth) (x_bestTotal) (x_bestStep) (x_cutMany) (x_cutBits) (x_written) (x_taped) (x_pos) (x_readPlaces) (x_fault) (x_faultPlace) (x_readWide) (x_readValued) (x_readForm) (x_readWidth) (x_readExceptions) (x_readBase) (x_readStep) (x_baseAt)), ((h 1), .inl (y 0, 22955, .inl (x_a)))]) (w2 := [(oX10 h (x_valued) (x_wide) (x_parted) (x_step) (x_bestForm) (x_bestWidth) (x_bestTotal) (x_bestStep) (x_cutMany) (x_cutBits) (x_written) (x_taped) (x_pos) (x_readPlaces) (x_fault) (x_faultPlace) (x_readWide) (x_readValued) (x_readForm) (x_readWidth) (x_readExceptions) (x_readBase) (x_readStep) (x_baseAt)), ((h 1), .inl (y 0, 22955, .inl (x_a)))]) C hw [0, 1] [] [0, 1] rfl rfl (by decide) (by decide) (by decide) rfl (q_runV (As := [.int (v1)]) (rest := [.int (v1), .ref (h 0)]) (q0 := 0) (ci := 10) C hw (tX10_blocks l D y h v1 x_valued x_wide x_parted x_step x_bestForm x_bestWidth x_bestTotal x_bestStep x_cutMany x_cutBits x_written x_taped x_pos x_readPlaces x_fault x_faultPlace x_readWide x_readValued x_readForm x_readWidth x_readExceptions x_readBase x_readStep x_baseAt x_a k4 hk H.size) [0, 1] rfl (by decide) rfl rfl kw1507 kw1509 kw50 kw123 kw1510 okX10_blocks ⟨rfl, rfl⟩ ⟨Nat.le_of_ble_eq_true rfl, Nat.le_of_ble_eq_true rfl⟩ rfl hl.1 rfl (Nat.le_of_ble_eq_true rfl) dX10_places_4 ⟨Nat.zero_le _, Nat.zero_le _⟩) (fun H locs hw => ?_)
  obtain ⟨k7, hk, hp⟩ := bd_some hp
  refine q_aftI (wc := [(oX10 h (x_valued) (x_wide) (x_parted) (x_step) (x_bestForm) (x_bestWidth) (x_bestTotal) (x_bestStep) (x_cutMany) (x_cutBits) (x_written) (x_taped) (x_pos) (x_readPlaces) (x_fault) (x_faultPlace) (x_readWide) (x_readValued) (x_readForm) (x_readWidth) (x_readExceptions) (x_readBase) (x_readStep) (x_baseAt)), ((h 1), .inl (y 0, 22955, .inl (x_a)))]) (wr := []) (w1 := [(oX10 h (x_valued) (x_wide) (x_parted) (x_step) (x_bestForm) (x_bestWidth) (x_bestTotal) (x_bestStep) (x_cutMany) (x_cutBits) (x_written) (x_taped) (x_pos) (x_readPlaces) (x_fault) (x_faultPlace) (x_readWide) (x_readValued) (x_readForm) (x_readWidth) (x_readExceptions) (x_readBase) (x_readStep) (x_baseAt)), ((h 1), .inl (y 0, 22955, .inl (x_a)))]) (w2 := [(oX10 h (x_valued) (x_wide) (x_parted) (x_step) (x_bestForm) (x_bestWidth) (x_bestTotal) (x_bestStep) (x_cutMany) (x_cutBits) (x_written) (x_taped) (x_pos) (x_readPlaces) (x_fault) (x_faultPlace) (x_readWide) (x_readValued) (x_readForm) (x_readWidth) (x_readExceptions) (x_readBase) (x_readStep) (x_baseAt)), ((h 1), .inl (y 0, 22955, .inl (x_a)))]) C hw [0, 1] [] [0, 1] rfl rfl (by decide) (by decide) (by decide) rfl (q_runV (As := [.int (v1), .int (k4)]) (rest := []) (q0 := 0) (ci := 10) C hw (tX10_firstOf l D y h v1 k4 x_valued x_wide x_parted x_step x_bestForm x_bestWidth x_bestTotal x_bestStep x_cutMany x_cutBits x_written x_taped x_pos x_readPlaces x_fault x_faultPlace x_readWide x_readValued x_readForm x_readWidth x_readExceptions x_readBase x_readStep x_baseAt x_a k7 hk H.size) [0, 1] rfl (by decide) rfl rfl kw1514 kw1516 kw51 kw123 kw1517 okX10_firstOf ⟨rfl, rfl⟩ ⟨Nat.le_of_ble_eq_true rfl, Nat.le_of_ble_eq_true rfl⟩ rfl hl.1 rfl (Nat.le_of_ble_eq_true rfl) dX10_places_7 ⟨Nat.zero_le _, Nat.zero_le _⟩) (fun H locs hw => ?_)
  obtain rfl := Option.some.inj hp
  exact q_iret C hw rfl dX10_places_10
theorem okX10_isPlace : okY yX10_isPlace 2 := ⟨by decide +kernel, by decide +kernel, by decide +kernel⟩
set_option maxRecDepth 100000 in
set_option maxHeartbeats 4000000 in
theorem tX10_isPlace (l : Launch) (D : va_G) (y : Nat → ClassId) (h : Nat → Nat) (v1 : Int32) (v2 : Int32) (x_valued : Int32) (x_wide : Int32) (x_parted : Int32) (x_step : Int32) (x_bestForm : Int32) (x_bestWidth : Int32) (x_bestTotal : Int32) (x_bestStep : Int32) (x_cutMany : Int32) (x_cutBits : Int32) (x_written : Int32) (x_taped : Int32) (x_pos : Int32) (x_readPlaces : Int32) (x_fault : Int32) (x_faultPlace : Int32) (x_readWide : Int32) (x_readValued : Int32) (x_readForm : Int32) (x_readWidth : Int32) (x_readExceptions : Int32) (x_readBase : Int32) (x_readStep : Int32) (x_baseAt : Int32) (x_a : Nat → Int32) (z0 : Int32) (hp : pX10_isPlace v1 v2 x_a = some z0) : CZ D y l yX10_isPlace (Cond.code yX10_isPlace cX10_isPlace 3 (some .boolean) :: tbG) { frames := 4, cells := 0, slots := 0, locals := 88 } [.ref (h 0), .int (v1), .int (v2)] [(oX10 h (x_valued) (x_wide) (x_parted) (x_step) (x_bestForm) (x_bestWidth) (x_bestTotal) (x_bestStep) (x_cutMany) (x_cutBits) (x_written) (x_taped) (x_pos) (x_readPlaces) (x_fault) (x_faultPlace) (x_readWide) (x_readValued) (x_readForm) (x_readWidth) (x_readExceptions) (x_readBase) (x_readStep) (x_baseAt)), ((h 1), .inl (y 0, 22955, .inl (x_a)))] [(oX10 h (x_valued) (x_wide) (x_parted) (x_step) (x_bestForm) (x_bestWidth) (x_bestTotal) (x_bestStep) (x_cutMany) (x_cutBits) (x_written) (x_taped) (x_pos) (x_readPlaces) (x_fault) (x_faultPlace) (x_readWide) (x_readValued) (x_readForm) (x_readWidth) (x_readExceptions) (x_readBase) (x_readStep) (x_baseAt)), ((h 1), .inl (y 0, 22955, .inl (x_a)))] (z0) := by
  refine CZ.of (own := RX10) (by decide) rfl (Nat.le_of_ble_eq_true rfl) ?_
  intro p e s m args below meth c A H locs ls C hw hl
  have hl : lv_has ls 3 [(0, .ref (h 0)), (1, .int (v1)), (2, .int (v2))] := hl
  unfold pX10_isPlace at hp
  refine lv_iload_n C.x C.b dX10_isPlace_0 rfl (lv_at hl 1 rfl) ?_
  obtain ⟨k1, hk, hp⟩ := bd_some hp
  refine q_aftZ (wc := []) (wr := [(oX10 h (x_valued) (x_wide) (x_parted) (x_step) (x_bestForm) (x_bestWidth) (x_bestTotal) (x_bestStep) (x_cutMany) (x_cutBits) (x_written) (x_taped) (x_pos) (x_readPlaces) (x_fault) (x_faultPlace) (x_readWide) (x_readValued) (x_readForm) (x_readWidth) (x_readExceptions) (x_readBase) (x_readStep) (x_baseAt)), ((h 1), .inl (y 0, 22955, .inl (x_a)))]) (w1 := []) (w2 := [(oX10 h (x_valued) (x_wide) (x_parted) (x_step) (x_bestForm) (x_bestWidth) (x_bestTotal) (x_bestStep) (x_cutMany) (x_cutBits) (x_written) (x_taped) (x_pos) (x_readPlaces) (x_fault) (x_faultPlace) (x_readWide) (x_readValued) (x_readForm) (x_readWidth) (x_readExceptions) (x_readBase) (x_readStep) (x_baseAt)), ((h 1), .inl (y 0, 22955, .inl (x_a)))]) C hw [] [0, 1] [0, 1] rfl rfl (by decide) (by decide) (by decide) rfl (q_runS (As := [.int (v1)]) (rest := []) C hw (tX10_isColumn l D y v1 k1 hk H.size) [] rfl (by decide) kw1493 kw1494 kw123 kw1495 okX10_isColumn ⟨rfl, rfl⟩ ⟨Nat.le_of_ble_eq_true rfl, Nat.le_of_ble_eq_true rfl⟩ rfl hl.1 rfl (Nat.le_of_ble_eq_true rfl) dX10_isPlace_1 ⟨Nat.zero_le _, Nat.zero_le _⟩) (fun H locs hz1 hw => ?_)
  refine lv_if_eq (tgt := 26) C.x C.b dX10_isPlace_4 (by decide) (fun c9 => ?_) (fun c9 => ?_)
  · replace hp := it_t c9 hp
    refine lv_iconst (v := 0) C.x C.b dX10_isPlace_26 (by decide) ?_
    obtain rfl := Option.some.inj hp
    exact q_zret C hw (by decide) rfl dX10_isPlace_27
  · replace hp := it_f c9 hp
    refine lv_iload_n C.x C.b dX10_isPlace_7 rfl (lv_at hl 2 rfl) ?_
    refine lv_iconst (v := 0) C.x C.b dX10_isPlace_8 (by decide) ?_
    refine lv_aload_n C.x C.b dX10_isPlace_9 rfl (lv_at hl 0 rfl) ?_
    refine lv_iload_n C.x C.b dX10_isPlace_10 rfl (lv_at hl 1 rfl) ?_
    obtain ⟨k11, hk, hp⟩ := bd_some hp
    refine q_aftI (wc := [(oX10 h (x_valued) (x_wide) (x_parted) (x_step) (x_bestForm) (x_bestWidth) (x_bestTotal) (x_bestStep) (x_cutMany) (x_cutBits) (x_written) (x_taped) (x_pos) (x_readPlaces) (x_fault) (x_faultPlace) (x_readWide) (x_readValued) (x_readForm) (x_readWidth) (x_readExceptions) (x_readBase) (x_readStep) (x_baseAt)), ((h 1), .inl (y 0, 22955, .inl (x_a)))]) (wr := []) (w1 := [(oX10 h (x_valued) (x_wide) (x_parted) (x_step) (x_bestForm) (x_bestWidth) (x_bestTotal) (x_bestStep) (x_cutMany) (x_cutBits) (x_written) (x_taped) (x_pos) (x_readPlaces) (x_fault) (x_faultPlace) (x_readWide) (x_readValued) (x_readForm) (x_readWidth) (x_readExceptions) (x_readBase) (x_readStep) (x_baseAt)), ((h 1), .inl (y 0, 22955, .inl (x_a)))]) (w2 := [(oX10 h (x_valued) (x_wide) (x_parted) (x_step) (x_bestForm) (x_bestWidth) (x_bestTotal) (x_bestStep) (x_cutMany) (x_cutBits) (x_written) (x_taped) (x_pos) (x_readPlaces) (x_fault) (x_faultPlace) (x_readWide) (x_readValued) (x_readForm) (x_readWidth) (x_readExceptions) (x_readBase) (x_readStep) (x_baseAt)), ((h 1), .inl (y 0, 22955, .inl (x_a)))]) C hw [0, 1] [] [0, 1] rfl rfl (by decide) (by decide) (by decide) rfl (q_runV (As := [.int (v1)]) (rest := [.int (0), .int (v2)]) (q0 := 0) (ci := 10) C hw (tX10_places l D y h v1 x_valued x_wide x_parted x_step x_bestForm x_bestWidth x_bestTotal x_bestStep x_cutMany x_cutBits x_written x_taped x_pos x_readPlaces x_fault x_faultPlace x_readWide x_readValued x_readForm x_readWidth x_readExceptions x_readBase x_readStep x_baseAt x_a k11 hk H.size) [0, 1] rfl (by decide) rfl rfl kw1503 kw1505 kw49 kw123 kw1506 okX10_places ⟨rfl, rfl⟩ ⟨Nat.le_of_ble_eq_true rfl, Nat.le_of_ble_eq_true rfl⟩ rfl hl.1 rfl (Nat.le_of_ble_eq_true rfl) dX10_isPlace_11 ⟨Nat.zero_le _, Nat.zero_le _⟩) (fun H locs hw => ?_)
    refine lv_iconst (v := 1) C.x C.b dX10_isPlace_14 (by decide) ?_
    refine lv_isub C.x C.b dX10_isPlace_15 ?_
    obtain ⟨k16, hk, hp⟩ := bd_some hp
    refine q_aftZ (wc := []) (wr := [(oX10 h (x_valued) (x_wide) (x_parted) (x_step) (x_bestForm) (x_bestWidth) (x_bestTotal) (x_bestStep) (x_cutMany) (x_cutBits) (x_written) (x_taped) (x_pos) (x_readPlaces) (x_fault) (x_faultPlace) (x_readWide) (x_readValued) (x_readForm) (x_readWidth) (x_readExceptions) (x_readBase) (x_readStep) (x_baseAt)), ((h 1), .inl (y 0, 22955, .inl (x_a)))]) (w1 := []) (w2 := [(oX10 h (x_valued) (x_wide) (x_parted) (x_step) (x_bestForm) (x_bestWidth) (x_bestTotal) (x_bestStep) (x_cutMany) (x_cutBits) (x_written) (x_taped) (x_pos) (x_readPlaces) (x_fault) (x_faultPlace) (x_readWide) (x_readValued) (x_readForm) (x_readWidth) (x_readExceptions) (x_readBase) (x_readStep) (x_baseAt)), ((h 1), .inl (y 0, 22955, .inl (x_a)))]) C hw [] [0, 1] [0, 1] rfl rfl (by decide) (by decide) (by decide) rfl (q_runS (As := [.int (v2), .int (0), .int ((k11 - 1))]) (rest := []) C hw (tX10_isIn l D y v2 0 (k11 - 1) k16 hk H.size) [] rfl (by decide) kw1496 kw1497 kw123 kw1498 okX10_isIn ⟨rfl, rfl⟩ ⟨Nat.le_of_ble_eq_true rfl, Nat.le_of_ble_eq_true rfl⟩ rfl hl.1 rfl (Nat.le_of_ble_eq_true rfl) dX10_isPlace_16 ⟨Nat.zero_le _, Nat.zero_le _⟩) (fun H locs hz16 hw => ?_)
    refine lv_if_eq (tgt := 26) C.x C.b dX10_isPlace_19 (by decide) (fun c9 => ?_) (fun c9 => ?_)
    · replace hp := it_t c9 hp
      refine lv_iconst (v := 0) C.x C.b dX10_isPlace_26 (by decide) ?_
      obtain rfl := Option.some.inj hp
      exact q_zret C hw (by decide) rfl dX10_isPlace_27
    · replace hp := it_f c9 hp
      refine lv_iconst (v := 1) C.x C.b dX10_isPlace_22 (by decide) ?_
      refine lv_goto (tgt := 27) C.x C.b dX10_isPlace_23 (by decide) ?_
      obtain rfl := Option.some.inj hp
      exact q_zret C hw (by decide) rfl dX10_isPlace_27
theorem okX10_isBlock : okY yX10_isBlock 2 := ⟨by decide +kernel, by decide +kernel, by decide +kernel⟩
set_option maxRecDepth 100000 in
set_option maxHeartbeats 4000000 in
theorem tX10_isBlock (l : Launch) (D : va_G) (y : Nat → ClassId) (h : Nat → Nat) (v1 : Int32) (v2 : Int32) (x_valued : Int32) (x_wide : Int32) (x_parted : Int32) (x_step : Int32) (x_bestForm : Int32) (x_bestWidth : Int32) (x_bestTotal : Int32) (x_bestStep : Int32) (x_cutMany : Int32) (x_cutBits : Int32) (x_written : Int32) (x_taped : Int32) (x_pos : Int32) (x_readPlaces : Int32) (x_fault : Int32) (x_faultPlace : Int32) (x_readWide : Int32) (x_readValued : Int32) (x_readForm : Int32) (x_readWidth : Int32) (x_readExceptions : Int32) (x_readBase : Int32) (x_readStep : Int32) (x_baseAt : Int32) (x_a : Nat → Int32) (z0 : Int32) (hp : pX10_isBlock v1 v2 x_a = some z0) : CZ D y l yX10_isBlock (Cond.code yX10_isBlock cX10_isBlock 3 (some .boolean) :: tbG) { frames := 2, cells := 0, slots := 0, locals := 42 } [.ref (h 0), .int (v1), .int (v2)] [(oX10 h (x_valued) (x_wide) (x_parted) (x_step) (x_bestForm) (x_bestWidth) (x_bestTotal) (x_bestStep) (x_cutMany) (x_cutBits) (x_written) (x_taped) (x_pos) (x_readPlaces) (x_fault) (x_faultPlace) (x_readWide) (x_readValued) (x_readForm) (x_readWidth) (x_readExceptions) (x_readBase) (x_readStep) (x_baseAt)), ((h 1), .inl (y 0, 22955, .inl (x_a)))] [(oX10 h (x_valued) (x_wide) (x_parted) (x_step) (x_bestForm) (x_bestWidth) (x_bestTotal) (x_bestStep) (x_cutMany) (x_cutBits) (x_written) (x_taped) (x_pos) (x_readPlaces) (x_fault) (x_faultPlace) (x_readWide) (x_readValued) (x_readForm) (x_readWidth) (x_readExceptions) (x_readBase) (x_readStep) (x_baseAt)), ((h 1), .inl (y 0, 22955, .inl (x_a)))] (z0) := by
  refine CZ.of (own := RX10) (by decide) rfl (Nat.le_of_ble_eq_true rfl) ?_
  intro p e s m args below meth c A H locs ls C hw hl
  have hl : lv_has ls 3 [(0, .ref (h 0)), (1, .int (v1)), (2, .int (v2))] := hl
  unfold pX10_isBlock at hp
  refine lv_iload_n C.x C.b dX10_isBlock_0 rfl (lv_at hl 1 rfl) ?_
  obtain ⟨k1, hk, hp⟩ := bd_some hp
  refine q_aftZ (wc := []) (wr := [(oX10 h (x_valued) (x_wide) (x_parted) (x_step) (x_bestForm) (x_bestWidth) (x_bestTotal) (x_bestStep) (x_cutMany) (x_cutBits) (x_written) (x_taped) (x_pos) (x_readPlaces) (x_fault) (x_faultPlace) (x_readWide) (x_readValued) (x_readForm) (x_readWidth) (x_readExceptions) (x_readBase) (x_readStep) (x_baseAt)), ((h 1), .inl (y 0, 22955, .inl (x_a)))]) (w1 := []) (w2 := [(oX10 h (x_valued) (x_wide) (x_parted) (x_step) (x_bestForm) (x_bestWidth) (x_bestTotal) (x_bestStep) (x_cutMany) (x_cutBits) (x_written) (x_taped) (x_pos) (x_readPlaces) (x_fault) (x_faultPlace) (x_readWide) (x_readValued) (x_readForm) (x_readWidth) (x_readExceptions) (x_readBase) (x_readStep) (x_baseAt)), ((h 1), .inl (y 0, 22955, .inl (x_a)))]) C hw [] [0, 1] [0, 1] rfl rfl (by decide) (by decide) (by decide) rfl (q_runS (As := [.int (v1)]) (rest := []) C hw (tX10_isColumn l D y v1 k1 hk H.size) [] rfl (by decide) kw1493 kw1494 kw123 kw1495 okX10_isColumn ⟨rfl, rfl⟩ ⟨Nat.le_of_ble_eq_true rfl, Nat.le_of_ble_eq_true rfl⟩ rfl hl.1 rfl (Nat.le_of_ble_eq_true rfl) dX10_isBlock_1 ⟨Nat.zero_le _, Nat.zero_le _⟩) (fun H locs hz1 hw => ?_)
  refine lv_if_eq (tgt := 26) C.x C.b dX10_isBlock_4 (by decide) (fun c9 => ?_) (fun c9 => ?_)
  · replace hp := it_t c9 hp
    refine lv_iconst (v := 0) C.x C.b dX10_isBlock_26 (by decide) ?_
    obtain rfl := Option.some.inj hp
    exact q_zret C hw (by decide) rfl dX10_isBlock_27
  · replace hp := it_f c9 hp
    refine lv_iload_n C.x C.b dX10_isBlock_7 rfl (lv_at hl 2 rfl) ?_
    refine lv_iconst (v := 0) C.x C.b dX10_isBlock_8 (by decide) ?_
    refine lv_aload_n C.x C.b dX10_isBlock_9 rfl (lv_at hl 0 rfl) ?_
    refine lv_iload_n C.x C.b dX10_isBlock_10 rfl (lv_at hl 1 rfl) ?_
    obtain ⟨k11, hk, hp⟩ := bd_some hp
    refine q_aftI (wc := [(oX10 h (x_valued) (x_wide) (x_parted) (x_step) (x_bestForm) (x_bestWidth) (x_bestTotal) (x_bestStep) (x_cutMany) (x_cutBits) (x_written) (x_taped) (x_pos) (x_readPlaces) (x_fault) (x_faultPlace) (x_readWide) (x_readValued) (x_readForm) (x_readWidth) (x_readExceptions) (x_readBase) (x_readStep) (x_baseAt)), ((h 1), .inl (y 0, 22955, .inl (x_a)))]) (wr := []) (w1 := [(oX10 h (x_valued) (x_wide) (x_parted) (x_step) (x_bestForm) (x_bestWidth) (x_bestTotal) (x_bestStep) (x_cutMany) (x_cutBits) (x_written) (x_taped) (x_pos) (x_readPlaces) (x_fault) (x_faultPlace) (x_readWide) (x_readValued) (x_readForm) (x_readWidth) (x_readExceptions) (x_readBase) (x_readStep) (x_baseAt)), ((h 1), .inl (y 0, 22955, .inl (x_a)))]) (w2 := [(oX10 h (x_valued) (x_wide) (x_parted) (x_step) (x_bestForm) (x_bestWidth) (x_bestTotal) (x_bestStep) (x_cutMany) (x_cutBits) (x_written) (x_taped) (x_pos) (x_readPlaces) (x_fault) (x_faultPlace) (x_readWide) (x_readValued) (x_readForm) (x_readWidth) (x_readExceptions) (x_readBase) (x_readStep) (x_baseAt)), ((h 1), .inl (y 0, 22955, .inl (x_a)))]) C hw [0, 1] [] [0, 1] rfl rfl (by decide) (by decide) (by decide) rfl (q_runV (As := [.int (v1)]) (rest := [.int (0), .int (v2)]) (q0 := 0) (ci := 10) C hw (tX10_blocks l D y h v1 x_valued x_wide x_parted x_step x_bestForm x_bestWidth x_bestTotal x_bestStep x_cutMany x_cutBits x_written x_taped x_pos x_readPlaces x_fault x_faultPlace x_readWide x_readValued x_readForm x_readWidth x_readExceptions x_readBase x_readStep x_baseAt x_a k11 hk H.size) [0, 1] rfl (by decide) rfl rfl kw1507 kw1509 kw50 kw123 kw1510 okX10_blocks ⟨rfl, rfl⟩ ⟨Nat.le_of_ble_eq_true rfl, Nat.le_of_ble_eq_true rfl⟩ rfl hl.1 rfl (Nat.le_of_ble_eq_true rfl) dX10_isBlock_11 ⟨Nat.zero_le _, Nat.zero_le _⟩) (fun H locs hw => ?_)
    refine lv_iconst (v := 1) C.x C.b dX10_isBlock_14 (by decide) ?_
    refine lv_isub C.x C.b dX10_isBlock_15 ?_
    obtain ⟨k16, hk, hp⟩ := bd_some hp
    refine q_aftZ (wc := []) (wr := [(oX10 h (x_valued) (x_wide) (x_parted) (x_step) (x_bestForm) (x_bestWidth) (x_bestTotal) (x_bestStep) (x_cutMany) (x_cutBits) (x_written) (x_taped) (x_pos) (x_readPlaces) (x_fault) (x_faultPlace) (x_readWide) (x_readValued) (x_readForm) (x_readWidth) (x_readExceptions) (x_readBase) (x_readStep) (x_baseAt)), ((h 1), .inl (y 0, 22955, .inl (x_a)))]) (w1 := []) (w2 := [(oX10 h (x_valued) (x_wide) (x_parted) (x_step) (x_bestForm) (x_bestWidth) (x_bestTotal) (x_bestStep) (x_cutMany) (x_cutBits) (x_written) (x_taped) (x_pos) (x_readPlaces) (x_fault) (x_faultPlace) (x_readWide) (x_readValued) (x_readForm) (x_readWidth) (x_readExceptions) (x_readBase) (x_readStep) (x_baseAt)), ((h 1), .inl (y 0, 22955, .inl (x_a)))]) C hw [] [0, 1] [0, 1] rfl rfl (by decide) (by decide) (by decide) rfl (q_runS (As := [.int (v2), .int (0), .int ((k11 - 1))]) (rest := []) C hw (tX10_isIn l D y v2 0 (k11 - 1) k16 hk H.size) [] rfl (by decide) kw1496 kw1497 kw123 kw1498 okX10_isIn ⟨rfl, rfl⟩ ⟨Nat.le_of_ble_eq_true rfl, Nat.le_of_ble_eq_true rfl⟩ rfl hl.1 rfl (Nat.le_of_ble_eq_true rfl) dX10_isBlock_16 ⟨Nat.zero_le _, Nat.zero_le _⟩) (fun H locs hz16 hw => ?_)
    refine lv_if_eq (tgt := 26) C.x C.b dX10_isBlock_19 (by decide) (fun c9 => ?_) (fun c9 => ?_)
    · replace hp := it_t c9 hp
      refine lv_iconst (v := 0) C.x C.b dX10_isBlock_26 (by decide) ?_
      obtain rfl := Option.some.inj hp
      exact q_zret C hw (by decide) rfl dX10_isBlock_27
    · replace hp := it_f c9 hp
      refine lv_iconst (v := 1) C.x C.b dX10_isBlock_22 (by decide) ?_
      refine lv_goto (tgt := 27) C.x C.b dX10_isBlock_23 (by decide) ?_
      obtain rfl := Option.some.inj hp
      exact q_zret C hw (by decide) rfl dX10_isBlock_27
theorem okX10_valueAt : okY yX10_valueAt 2 := ⟨by decide +kernel, by decide +kernel, by decide +kernel⟩
set_option maxRecDepth 100000 in
set_option maxHeartbeats 4000000 in
theorem tX10_valueAt (l : Launch) (D : va_G) (y : Nat → ClassId) (h : Nat → Nat) (v1 : Int32) (v2 : Int32) (x_valued : Int32) (x_wide : Int32) (x_parted : Int32) (x_step : Int32) (x_bestForm : Int32) (x_bestWidth : Int32) (x_bestTotal : Int32) (x_bestStep : Int32) (x_cutMany : Int32) (x_cutBits : Int32) (x_written : Int32) (x_taped : Int32) (x_pos : Int32) (x_readPlaces : Int32) (x_fault : Int32) (x_faultPlace : Int32) (x_readWide : Int32) (x_readValued : Int32) (x_readForm : Int32) (x_readWidth : Int32) (x_readExceptions : Int32) (x_readBase : Int32) (x_readStep : Int32) (x_baseAt : Int32) (x_a : Nat → Int32) (z0 : Int32) (hp : pX10_valueAt v1 v2 x_a = some z0) : CI D y l yX10_valueAt (Cond.code yX10_valueAt cX10_valueAt 3 (some .int) :: tbG) { frames := 1, cells := 0, slots := 0, locals := 20 } [.ref (h 0), .int (v1), .int (v2)] [(oX10 h (x_valued) (x_wide) (x_parted) (x_step) (x_bestForm) (x_bestWidth) (x_bestTotal) (x_bestStep) (x_cutMany) (x_cutBits) (x_written) (x_taped) (x_pos) (x_readPlaces) (x_fault) (x_faultPlace) (x_readWide) (x_readValued) (x_readForm) (x_readWidth) (x_readExceptions) (x_readBase) (x_readStep) (x_baseAt)), ((h 1), .inl (y 0, 22955, .inl (x_a)))] [(oX10 h (x_valued) (x_wide) (x_parted) (x_step) (x_bestForm) (x_bestWidth) (x_bestTotal) (x_bestStep) (x_cutMany) (x_cutBits) (x_written) (x_taped) (x_pos) (x_readPlaces) (x_fault) (x_faultPlace) (x_readWide) (x_readValued) (x_readForm) (x_readWidth) (x_readExceptions) (x_readBase) (x_readStep) (x_baseAt)), ((h 1), .inl (y 0, 22955, .inl (x_a)))] (z0) := by
  refine CI.of (own := RX10) (by decide) rfl (Nat.le_of_ble_eq_true rfl) ?_
  intro p e s m args below meth c A H locs ls C hw hl
  have hl : lv_has ls 3 [(0, .ref (h 0)), (1, .int (v1)), (2, .int (v2))] := hl
  unfold pX10_valueAt at hp
  refine lv_aload_n C.x C.b dX10_valueAt_0 rfl (lv_at hl 0 rfl) ?_
  refine q_get (v := .ref (h 1)) (T := TX10) C hw 0 0 rfl rfl rfl inX10 (by decide) kw1340 rfl dX10_valueAt_1 ?_
  refine lv_iload_n C.x C.b dX10_valueAt_4 rfl (lv_at hl 1 rfl) ?_
  obtain ⟨k5, hk, hp⟩ := bd_some hp
  refine q_aftI (wc := []) (wr := [(oX10 h (x_valued) (x_wide) (x_parted) (x_step) (x_bestForm) (x_bestWidth) (x_bestTotal) (x_bestStep) (x_cutMany) (x_cutBits) (x_written) (x_taped) (x_pos) (x_readPlaces) (x_fault) (x_faultPlace) (x_readWide) (x_readValued) (x_readForm) (x_readWidth) (x_readExceptions) (x_readBase) (x_readStep) (x_baseAt)), ((h 1), .inl (y 0, 22955, .inl (x_a)))]) (w1 := []) (w2 := [(oX10 h (x_valued) (x_wide) (x_parted) (x_step) (x_bestForm) (x_bestWidth) (x_bestTotal) (x_bestStep) (x_cutMany) (x_cutBits) (x_written) (x_taped) (x_pos) (x_readPlaces) (x_fault) (x_faultPlace) (x_readWide) (x_readValued) (x_readForm) (x_readWidth) (x_readExceptions) (x_readBase) (x_readStep) (x_baseAt)), ((h 1), .inl (y 0, 22955, .inl (x_a)))]) C hw [] [0, 1] [0, 1] rfl rfl (by decide) (by decide) (by decide) rfl (q_runS (As := [.int (v1)]) (rest := [.ref (h 1)]) C hw (tX10_at l D y v1 k5 hk H.size) [] rfl (by decide) kw1511 kw1512 kw123 kw1513 okX10_at ⟨rfl, rfl⟩ ⟨Nat.le_of_ble_eq_true rfl, Nat.le_of_ble_eq_true rfl⟩ rfl hl.1 rfl (Nat.le_of_ble_eq_true rfl) dX10_valueAt_5 ⟨Nat.zero_le _, Nat.zero_le _⟩) (fun H locs hw => ?_)
  refine lv_bipush (v := 97) C.x C.b dX10_valueAt_8 (by decide) ?_
  refine lv_iadd C.x C.b dX10_valueAt_10 ?_
  refine lv_iload_n C.x C.b dX10_valueAt_11 rfl (lv_at hl 2 rfl) ?_
  refine lv_iadd C.x C.b dX10_valueAt_12 ?_
  obtain ⟨hi, hp⟩ := ck_some hp
  refine q_iald C hw 1 rfl hi dX10_valueAt_13 ?_
  obtain rfl := Option.some.inj hp
  exact q_iret C hw rfl dX10_valueAt_14
theorem okX10_isEmpty : okY yX10_isEmpty 2 := ⟨by decide +kernel, by decide +kernel, by decide +kernel⟩
set_option maxRecDepth 100000 in
set_option maxHeartbeats 4000000 in
theorem tX10_isEmpty (l : Launch) (D : va_G) (y : Nat → ClassId) (h : Nat → Nat) (v1 : Int32) (v2 : Int32) (x_valued : Int32) (x_wide : Int32) (x_parted : Int32) (x_step : Int32) (x_bestForm : Int32) (x_bestWidth : Int32) (x_bestTotal : Int32) (x_bestStep : Int32) (x_cutMany : Int32) (x_cutBits : Int32) (x_written : Int32) (x_taped : Int32) (x_pos : Int32) (x_readPlaces : Int32) (x_fault : Int32) (x_faultPlace : Int32) (x_readWide : Int32) (x_readValued : Int32) (x_readForm : Int32) (x_readWidth : Int32) (x_readExceptions : Int32) (x_readBase : Int32) (x_readStep : Int32) (x_baseAt : Int32) (x_a : Nat → Int32) (z0 : Int32) (hp : pX10_isEmpty v1 v2 x_a = some z0) : CZ D y l yX10_isEmpty (Cond.code yX10_isEmpty cX10_isEmpty 3 (some .boolean) :: tbG) { frames := 1, cells := 0, slots := 0, locals := 20 } [.ref (h 0), .int (v1), .int (v2)] [(oX10 h (x_valued) (x_wide) (x_parted) (x_step) (x_bestForm) (x_bestWidth) (x_bestTotal) (x_bestStep) (x_cutMany) (x_cutBits) (x_written) (x_taped) (x_pos) (x_readPlaces) (x_fault) (x_faultPlace) (x_readWide) (x_readValued) (x_readForm) (x_readWidth) (x_readExceptions) (x_readBase) (x_readStep) (x_baseAt)), ((h 1), .inl (y 0, 22955, .inl (x_a)))] [(oX10 h (x_valued) (x_wide) (x_parted) (x_step) (x_bestForm) (x_bestWidth) (x_bestTotal) (x_bestStep) (x_cutMany) (x_cutBits) (x_written) (x_taped) (x_pos) (x_readPlaces) (x_fault) (x_faultPlace) (x_readWide) (x_readValued) (x_readForm) (x_readWidth) (x_readExceptions) (x_readBase) (x_readStep) (x_baseAt)), ((h 1), .inl (y 0, 22955, .inl (x_a)))] (z0) := by
  refine CZ.of (own := RX10) (by decide) rfl (Nat.le_of_ble_eq_true rfl) ?_
  intro p e s m args below meth c A H locs ls C hw hl
  have hl : lv_has ls 3 [(0, .ref (h 0)), (1, .int (v1)), (2, .int (v2))] := hl
  unfold pX10_isEmpty at hp
  refine lv_aload_n C.x C.b dX10_isEmpty_0 rfl (lv_at hl 0 rfl) ?_
  refine q_get (v := .ref (h 1)) (T := TX10) C hw 0 0 rfl rfl rfl inX10 (by decide) kw1340 rfl dX10_isEmpty_1 ?_
  refine lv_iload_n C.x C.b dX10_isEmpty_4 rfl (lv_at hl 1 rfl) ?_
  obtain ⟨k5, hk, hp⟩ := bd_some hp
  refine q_aftI (wc := []) (wr := [(oX10 h (x_valued) (x_wide) (x_parted) (x_step) (x_bestForm) (x_bestWidth) (x_bestTotal) (x_bestStep) (x_cutMany) (x_cutBits) (x_written) (x_taped) (x_pos) (x_readPlaces) (x_fault) (x_faultPlace) (x_readWide) (x_readValued) (x_readForm) (x_readWidth) (x_readExceptions) (x_readBase) (x_readStep) (x_baseAt)), ((h 1), .inl (y 0, 22955, .inl (x_a)))]) (w1 := []) (w2 := [(oX10 h (x_valued) (x_wide) (x_parted) (x_step) (x_bestForm) (x_bestWidth) (x_bestTotal) (x_bestStep) (x_cutMany) (x_cutBits) (x_written) (x_taped) (x_pos) (x_readPlaces) (x_fault) (x_faultPlace) (x_readWide) (x_readValued) (x_readForm) (x_readWidth) (x_readExceptions) (x_readBase) (x_readStep) (x_baseAt)), ((h 1), .inl (y 0, 22955, .inl (x_a)))]) C hw [] [0, 1] [0, 1] rfl rfl (by decide) (by decide) (by decide) rfl (q_runS (As := [.int (v1)]) (rest := [.ref (h 1)]) C hw (tX10_at l D y v1 k5 hk H.size) [] rfl (by decide) kw1511 kw1512 kw123 kw1513 okX10_at ⟨rfl, rfl⟩ ⟨Nat.le_of_ble_eq_true rfl, Nat.le_of_ble_eq_true rfl⟩ rfl hl.1 rfl (Nat.le_of_ble_eq_true rfl) dX10_isEmpty_5 ⟨Nat.zero_le _, Nat.zero_le _⟩) (fun H locs hw => ?_)
  refine lv_sipush (v := 225) C.x C.b dX10_isEmpty_8 (by decide) ?_
  refine lv_iadd C.x C.b dX10_isEmpty_11 ?_
  refine lv_iload_n C.x C.b dX10_isEmpty_12 rfl (lv_at hl 2 rfl) ?_
  refine lv_iadd C.x C.b dX10_isEmpty_13 ?_
  obtain ⟨hi, hp⟩ := ck_some hp
  refine q_iald C hw 1 rfl hi dX10_isEmpty_14 ?_
  refine lv_iconst (v := 1) C.x C.b dX10_isEmpty_15 (by decide) ?_
  refine lv_icmp_ne (tgt := 23) C.x C.b dX10_isEmpty_16 (by decide) (fun c9 => ?_) (fun c9 => ?_)
  · replace hp := it_f c9 hp
    refine lv_iconst (v := 0) C.x C.b dX10_isEmpty_23 (by decide) ?_
    obtain rfl := Option.some.inj hp
    exact q_zret C hw (by decide) rfl dX10_isEmpty_24
  · replace hp := it_t c9 hp
    refine lv_iconst (v := 1) C.x C.b dX10_isEmpty_19 (by decide) ?_
    refine lv_goto (tgt := 24) C.x C.b dX10_isEmpty_20 (by decide) ?_
    obtain rfl := Option.some.inj hp
    exact q_zret C hw (by decide) rfl dX10_isEmpty_24

