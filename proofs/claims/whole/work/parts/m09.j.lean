theorem okJ6_numberOfLeadingZeros_0f7a4 : okY yJ6_numberOfLeadingZeros_0f7a4 1 := ⟨by decide +kernel, by decide +kernel, by decide +kernel⟩
set_option maxRecDepth 100000 in
set_option maxHeartbeats 4000000 in
theorem wJ6_numberOfLeadingZeros_0f7a4_j73 {D : va_G} {y : Nat → ClassId} {p : Program} {l : Launch} {e : Env} {s : State} {m : MethodId} {args : Array Value} {below : List Frame} {meth : Method} {c : Code} {A : Nat → Prop} (v0 : Int32) (v1 : Int32)   (z0 : Int32) (C : Cx D y p s m args meth c A RJ6 cJ6_numberOfLeadingZeros_0f7a4 (Cond.code yJ6_numberOfLeadingZeros_0f7a4 cJ6_numberOfLeadingZeros_0f7a4 2 (some .int)) (some .int) 2) (H : Heap) (locs : List Loc) (ls : Array Slot) (hp : pJ6_numberOfLeadingZeros_0f7a4_j73 v0 v1 = some z0) (hw : St D A s H locs []) (hl : lv_has ls 2 [(0, .int (v0)), (1, .int (v1))])  : W p l e { frames := 0, cells := 0, slots := 0, locals := 0 } s m args below meth c H locs 0 0 (QI D s A args below [] (z0)) (F0 m 73 ls []) := by
  unfold pJ6_numberOfLeadingZeros_0f7a4_j73 at hp
  refine lv_iload_n C.x C.b dJ6_numberOfLeadingZeros_0f7a4_73 rfl (lv_at hl 1 rfl) ?_
  refine lv_iload_n C.x C.b dJ6_numberOfLeadingZeros_0f7a4_74 rfl (lv_at hl 0 rfl) ?_
  refine lv_iconst (v := 1) C.x C.b dJ6_numberOfLeadingZeros_0f7a4_75 (by decide) ?_
  refine lv_iushr C.x C.b dJ6_numberOfLeadingZeros_0f7a4_76 rfl ?_
  refine lv_isub C.x C.b dJ6_numberOfLeadingZeros_0f7a4_77 ?_
  obtain rfl := Option.some.inj hp
  exact q_iret C hw rfl dJ6_numberOfLeadingZeros_0f7a4_78
set_option maxRecDepth 100000 in
set_option maxHeartbeats 4000000 in
theorem wJ6_numberOfLeadingZeros_0f7a4_j61 {D : va_G} {y : Nat → ClassId} {p : Program} {l : Launch} {e : Env} {s : State} {m : MethodId} {args : Array Value} {below : List Frame} {meth : Method} {c : Code} {A : Nat → Prop} (v0 : Int32) (v1 : Int32)   (z0 : Int32) (C : Cx D y p s m args meth c A RJ6 cJ6_numberOfLeadingZeros_0f7a4 (Cond.code yJ6_numberOfLeadingZeros_0f7a4 cJ6_numberOfLeadingZeros_0f7a4 2 (some .int)) (some .int) 2) (H : Heap) (locs : List Loc) (ls : Array Slot) (hp : pJ6_numberOfLeadingZeros_0f7a4_j61 v0 v1 = some z0) (hw : St D A s H locs []) (hl : lv_has ls 2 [(0, .int (v0)), (1, .int (v1))])  : W p l e { frames := 0, cells := 0, slots := 0, locals := 0 } s m args below meth c H locs 0 0 (QI D s A args below [] (z0)) (F0 m 61 ls []) := by
  unfold pJ6_numberOfLeadingZeros_0f7a4_j61 at hp
  refine lv_iload_n C.x C.b dJ6_numberOfLeadingZeros_0f7a4_61 rfl (lv_at hl 0 rfl) ?_
  refine lv_iconst (v := 4) C.x C.b dJ6_numberOfLeadingZeros_0f7a4_62 (by decide) ?_
  refine lv_icmp_lt (tgt := 73) C.x C.b dJ6_numberOfLeadingZeros_0f7a4_63 (by decide) (fun c9 => ?_) (fun c9 => ?_)
  · replace hp := it_t c9 hp
    exact wJ6_numberOfLeadingZeros_0f7a4_j73 (v0) (v1) z0 C H locs ls hp hw (lv_sub hl [0, 1] rfl)
  · replace hp := it_f c9 hp
    refine lv_iinc (v := (v1 + (-2))) (lv' := [(1, .int ((v1 + (-2)))), (0, .int (v0))]) C.x C.b dJ6_numberOfLeadingZeros_0f7a4_66 hl (k := 1) rfl rfl (by decide) rfl (fun ls hl => ?_)
    refine lv_iload_n C.x C.b dJ6_numberOfLeadingZeros_0f7a4_69 rfl (lv_at hl 1 rfl) ?_
    refine lv_iconst (v := 2) C.x C.b dJ6_numberOfLeadingZeros_0f7a4_70 (by decide) ?_
    refine lv_iushr C.x C.b dJ6_numberOfLeadingZeros_0f7a4_71 rfl ?_
    refine lv_istore_n (lv' := [(0, .int ((v0.toUInt32 >>> ((2 : Int32).toUInt32 &&& Int32.toUInt32 31)).toInt32)), (1, .int ((v1 + (-2))))]) C.x C.b dJ6_numberOfLeadingZeros_0f7a4_72 rfl hl (by decide) rfl (fun ls hl => ?_)
    exact wJ6_numberOfLeadingZeros_0f7a4_j73 ((v0.toUInt32 >>> ((2 : Int32).toUInt32 &&& Int32.toUInt32 31)).toInt32) ((v1 + (-2))) z0 C H locs ls hp hw (lv_sub hl [0, 1] rfl)
set_option maxRecDepth 100000 in
set_option maxHeartbeats 4000000 in
theorem wJ6_numberOfLeadingZeros_0f7a4_j48 {D : va_G} {y : Nat → ClassId} {p : Program} {l : Launch} {e : Env} {s : State} {m : MethodId} {args : Array Value} {below : List Frame} {meth : Method} {c : Code} {A : Nat → Prop} (v0 : Int32) (v1 : Int32)   (z0 : Int32) (C : Cx D y p s m args meth c A RJ6 cJ6_numberOfLeadingZeros_0f7a4 (Cond.code yJ6_numberOfLeadingZeros_0f7a4 cJ6_numberOfLeadingZeros_0f7a4 2 (some .int)) (some .int) 2) (H : Heap) (locs : List Loc) (ls : Array Slot) (hp : pJ6_numberOfLeadingZeros_0f7a4_j48 v0 v1 = some z0) (hw : St D A s H locs []) (hl : lv_has ls 2 [(0, .int (v0)), (1, .int (v1))])  : W p l e { frames := 0, cells := 0, slots := 0, locals := 0 } s m args below meth c H locs 0 0 (QI D s A args below [] (z0)) (F0 m 48 ls []) := by
  unfold pJ6_numberOfLeadingZeros_0f7a4_j48 at hp
  refine lv_iload_n C.x C.b dJ6_numberOfLeadingZeros_0f7a4_48 rfl (lv_at hl 0 rfl) ?_
  refine lv_bipush (v := 16) C.x C.b dJ6_numberOfLeadingZeros_0f7a4_49 (by decide) ?_
  refine lv_icmp_lt (tgt := 61) C.x C.b dJ6_numberOfLeadingZeros_0f7a4_51 (by decide) (fun c9 => ?_) (fun c9 => ?_)
  · replace hp := it_t c9 hp
    exact wJ6_numberOfLeadingZeros_0f7a4_j61 (v0) (v1) z0 C H locs ls hp hw (lv_sub hl [0, 1] rfl)
  · replace hp := it_f c9 hp
    refine lv_iinc (v := (v1 + (-4))) (lv' := [(1, .int ((v1 + (-4)))), (0, .int (v0))]) C.x C.b dJ6_numberOfLeadingZeros_0f7a4_54 hl (k := 1) rfl rfl (by decide) rfl (fun ls hl => ?_)
    refine lv_iload_n C.x C.b dJ6_numberOfLeadingZeros_0f7a4_57 rfl (lv_at hl 1 rfl) ?_
    refine lv_iconst (v := 4) C.x C.b dJ6_numberOfLeadingZeros_0f7a4_58 (by decide) ?_
    refine lv_iushr C.x C.b dJ6_numberOfLeadingZeros_0f7a4_59 rfl ?_
    refine lv_istore_n (lv' := [(0, .int ((v0.toUInt32 >>> ((4 : Int32).toUInt32 &&& Int32.toUInt32 31)).toInt32)), (1, .int ((v1 + (-4))))]) C.x C.b dJ6_numberOfLeadingZeros_0f7a4_60 rfl hl (by decide) rfl (fun ls hl => ?_)
    exact wJ6_numberOfLeadingZeros_0f7a4_j61 ((v0.toUInt32 >>> ((4 : Int32).toUInt32 &&& Int32.toUInt32 31)).toInt32) ((v1 + (-4))) z0 C H locs ls hp hw (lv_sub hl [0, 1] rfl)
set_option maxRecDepth 100000 in
set_option maxHeartbeats 4000000 in
theorem wJ6_numberOfLeadingZeros_0f7a4_j33 {D : va_G} {y : Nat → ClassId} {p : Program} {l : Launch} {e : Env} {s : State} {m : MethodId} {args : Array Value} {below : List Frame} {meth : Method} {c : Code} {A : Nat → Prop} (v0 : Int32) (v1 : Int32)   (z0 : Int32) (C : Cx D y p s m args meth c A RJ6 cJ6_numberOfLeadingZeros_0f7a4 (Cond.code yJ6_numberOfLeadingZeros_0f7a4 cJ6_numberOfLeadingZeros_0f7a4 2 (some .int)) (some .int) 2) (H : Heap) (locs : List Loc) (ls : Array Slot) (hp : pJ6_numberOfLeadingZeros_0f7a4_j33 v0 v1 = some z0) (hw : St D A s H locs []) (hl : lv_has ls 2 [(0, .int (v0)), (1, .int (v1))])  : W p l e { frames := 0, cells := 0, slots := 0, locals := 0 } s m args below meth c H locs 0 0 (QI D s A args below [] (z0)) (F0 m 33 ls []) := by
  unfold pJ6_numberOfLeadingZeros_0f7a4_j33 at hp
  refine lv_iload_n C.x C.b dJ6_numberOfLeadingZeros_0f7a4_33 rfl (lv_at hl 0 rfl) ?_
  refine lv_sipush (v := 256) C.x C.b dJ6_numberOfLeadingZeros_0f7a4_34 (by decide) ?_
  refine lv_icmp_lt (tgt := 48) C.x C.b dJ6_numberOfLeadingZeros_0f7a4_37 (by decide) (fun c9 => ?_) (fun c9 => ?_)
  · replace hp := it_t c9 hp
    exact wJ6_numberOfLeadingZeros_0f7a4_j48 (v0) (v1) z0 C H locs ls hp hw (lv_sub hl [0, 1] rfl)
  · replace hp := it_f c9 hp
    refine lv_iinc (v := (v1 + (-8))) (lv' := [(1, .int ((v1 + (-8)))), (0, .int (v0))]) C.x C.b dJ6_numberOfLeadingZeros_0f7a4_40 hl (k := 1) rfl rfl (by decide) rfl (fun ls hl => ?_)
    refine lv_iload_n C.x C.b dJ6_numberOfLeadingZeros_0f7a4_43 rfl (lv_at hl 1 rfl) ?_
    refine lv_bipush (v := 8) C.x C.b dJ6_numberOfLeadingZeros_0f7a4_44 (by decide) ?_
    refine lv_iushr C.x C.b dJ6_numberOfLeadingZeros_0f7a4_46 rfl ?_
    refine lv_istore_n (lv' := [(0, .int ((v0.toUInt32 >>> ((8 : Int32).toUInt32 &&& Int32.toUInt32 31)).toInt32)), (1, .int ((v1 + (-8))))]) C.x C.b dJ6_numberOfLeadingZeros_0f7a4_47 rfl hl (by decide) rfl (fun ls hl => ?_)
    exact wJ6_numberOfLeadingZeros_0f7a4_j48 ((v0.toUInt32 >>> ((8 : Int32).toUInt32 &&& Int32.toUInt32 31)).toInt32) ((v1 + (-8))) z0 C H locs ls hp hw (lv_sub hl [0, 1] rfl)
set_option maxRecDepth 100000 in
set_option maxHeartbeats 4000000 in
theorem tJ6_numberOfLeadingZeros_0f7a4 (l : Launch) (D : va_G) (y : Nat → ClassId) (v0 : Int32) (z0 : Int32) (hp : pJ6_numberOfLeadingZeros_0f7a4 v0 = some z0) : CI D y l yJ6_numberOfLeadingZeros_0f7a4 (Cond.code yJ6_numberOfLeadingZeros_0f7a4 cJ6_numberOfLeadingZeros_0f7a4 2 (some .int) :: tbG) { frames := 0, cells := 0, slots := 0, locals := 0 } [.int (v0)] [] [] (z0) := by
  refine CI.of (own := RJ6) (by decide +kernel) rfl (Nat.le_of_ble_eq_true rfl) ?_
  intro p e s m args below meth c A H locs ls C hw hl
  have hl : lv_has ls 2 [(0, .int (v0))] := hl
  unfold pJ6_numberOfLeadingZeros_0f7a4 at hp
  refine lv_iload_n C.x C.b dJ6_numberOfLeadingZeros_0f7a4_0 rfl (lv_at hl 0 rfl) ?_
  refine lv_if_gt (tgt := 15) C.x C.b dJ6_numberOfLeadingZeros_0f7a4_1 (by decide) (fun c9 => ?_) (fun c9 => ?_)
  · replace hp := it_t c9 hp
    refine lv_bipush (v := 31) C.x C.b dJ6_numberOfLeadingZeros_0f7a4_15 (by decide) ?_
    refine lv_istore_n (lv' := [(1, .int (31)), (0, .int (v0))]) C.x C.b dJ6_numberOfLeadingZeros_0f7a4_17 rfl hl (by decide) rfl (fun ls hl => ?_)
    refine lv_iload_n C.x C.b dJ6_numberOfLeadingZeros_0f7a4_18 rfl (lv_at hl 1 rfl) ?_
    refine lv_ldcw C.x C.b C.ow (C.ts _ (List.mem_cons_of_mem _ kw600)) dJ6_numberOfLeadingZeros_0f7a4_19 ?_
    refine lv_icmp_lt (tgt := 33) C.x C.b dJ6_numberOfLeadingZeros_0f7a4_22 (by decide) (fun c9 => ?_) (fun c9 => ?_)
    · replace hp := it_t c9 hp
      exact wJ6_numberOfLeadingZeros_0f7a4_j33 (v0) (31) z0 C H locs ls hp hw (lv_sub hl [1, 0] rfl)
    · replace hp := it_f c9 hp
      refine lv_iinc (v := (31 + (-16))) (lv' := [(1, .int ((31 + (-16)))), (0, .int (v0))]) C.x C.b dJ6_numberOfLeadingZeros_0f7a4_25 hl (k := 0) rfl rfl (by decide) rfl (fun ls hl => ?_)
      refine lv_iload_n C.x C.b dJ6_numberOfLeadingZeros_0f7a4_28 rfl (lv_at hl 1 rfl) ?_
      refine lv_bipush (v := 16) C.x C.b dJ6_numberOfLeadingZeros_0f7a4_29 (by decide) ?_
      refine lv_iushr C.x C.b dJ6_numberOfLeadingZeros_0f7a4_31 rfl ?_
      refine lv_istore_n (lv' := [(0, .int ((v0.toUInt32 >>> ((16 : Int32).toUInt32 &&& Int32.toUInt32 31)).toInt32)), (1, .int ((31 + (-16))))]) C.x C.b dJ6_numberOfLeadingZeros_0f7a4_32 rfl hl (by decide) rfl (fun ls hl => ?_)
      exact wJ6_numberOfLeadingZeros_0f7a4_j33 ((v0.toUInt32 >>> ((16 : Int32).toUInt32 &&& Int32.toUInt32 31)).toInt32) ((31 + (-16))) z0 C H locs ls hp hw (lv_sub hl [0, 1] rfl)
  · replace hp := it_f c9 hp
    refine lv_iload_n C.x C.b dJ6_numberOfLeadingZeros_0f7a4_4 rfl (lv_at hl 0 rfl) ?_
    refine lv_if_ne (tgt := 13) C.x C.b dJ6_numberOfLeadingZeros_0f7a4_5 (by decide) (fun c9 => ?_) (fun c9 => ?_)
    · replace hp := it_f c9 hp
      refine lv_iconst (v := 0) C.x C.b dJ6_numberOfLeadingZeros_0f7a4_13 (by decide) ?_
      obtain rfl := Option.some.inj hp
      exact q_iret C hw rfl dJ6_numberOfLeadingZeros_0f7a4_14
    · replace hp := it_t c9 hp
      refine lv_bipush (v := 32) C.x C.b dJ6_numberOfLeadingZeros_0f7a4_8 (by decide) ?_
      refine lv_goto (tgt := 14) C.x C.b dJ6_numberOfLeadingZeros_0f7a4_10 (by decide) ?_
      obtain rfl := Option.some.inj hp
      exact q_iret C hw rfl dJ6_numberOfLeadingZeros_0f7a4_14
theorem okJ6_bitCount_0f7a4 : okY yJ6_bitCount_0f7a4 1 := ⟨by decide +kernel, by decide +kernel, by decide +kernel⟩
set_option maxRecDepth 100000 in
set_option maxHeartbeats 4000000 in
theorem tJ6_bitCount_0f7a4 (l : Launch) (D : va_G) (y : Nat → ClassId) (v0 : Int32) (z0 : Int32) (hp : pJ6_bitCount_0f7a4 v0 = some z0) : CI D y l yJ6_bitCount_0f7a4 (Cond.code yJ6_bitCount_0f7a4 cJ6_bitCount_0f7a4 1 (some .int) :: tbG) { frames := 0, cells := 0, slots := 0, locals := 0 } [.int (v0)] [] [] (z0) := by
  refine CI.of (own := RJ6) (by decide +kernel) rfl (Nat.le_of_ble_eq_true rfl) ?_
  intro p e s m args below meth c A H locs ls C hw hl
  have hl : lv_has ls 1 [(0, .int (v0))] := hl
  unfold pJ6_bitCount_0f7a4 at hp
  refine lv_iload_n C.x C.b dJ6_bitCount_0f7a4_0 rfl (lv_at hl 0 rfl) ?_
  refine lv_iload_n C.x C.b dJ6_bitCount_0f7a4_1 rfl (lv_at hl 0 rfl) ?_
  refine lv_iconst (v := 1) C.x C.b dJ6_bitCount_0f7a4_2 (by decide) ?_
  refine lv_iushr C.x C.b dJ6_bitCount_0f7a4_3 rfl ?_
  refine lv_ldcw C.x C.b C.ow (C.ts _ (List.mem_cons_of_mem _ kw951)) dJ6_bitCount_0f7a4_4 ?_
  refine lv_iand C.x C.b dJ6_bitCount_0f7a4_7 ?_
  refine lv_isub C.x C.b dJ6_bitCount_0f7a4_8 ?_
  refine lv_istore_n (lv' := [(0, .int ((v0 - ((v0.toUInt32 >>> ((1 : Int32).toUInt32 &&& Int32.toUInt32 31)).toInt32 &&& (1431655765)))))]) C.x C.b dJ6_bitCount_0f7a4_9 rfl hl (by decide) rfl (fun ls hl => ?_)
  refine lv_iload_n C.x C.b dJ6_bitCount_0f7a4_10 rfl (lv_at hl 0 rfl) ?_
  refine lv_ldcw C.x C.b C.ow (C.ts _ (List.mem_cons_of_mem _ kw952)) dJ6_bitCount_0f7a4_11 ?_
  refine lv_iand C.x C.b dJ6_bitCount_0f7a4_14 ?_
  refine lv_iload_n C.x C.b dJ6_bitCount_0f7a4_15 rfl (lv_at hl 0 rfl) ?_
  refine lv_iconst (v := 2) C.x C.b dJ6_bitCount_0f7a4_16 (by decide) ?_
  refine lv_iushr C.x C.b dJ6_bitCount_0f7a4_17 rfl ?_
  refine lv_ldcw C.x C.b C.ow (C.ts _ (List.mem_cons_of_mem _ kw952)) dJ6_bitCount_0f7a4_18 ?_
  refine lv_iand C.x C.b dJ6_bitCount_0f7a4_21 ?_
  refine lv_iadd C.x C.b dJ6_bitCount_0f7a4_22 ?_
  refine lv_istore_n (lv' := [(0, .int ((((v0 - ((v0.toUInt32 >>> ((1 : Int32).toUInt32 &&& Int32.toUInt32 31)).toInt32 &&& (1431655765))) &&& (858993459)) + (((v0 - ((v0.toUInt32 >>> ((1 : Int32).toUInt32 &&& Int32.toUInt32 31)).toInt32 &&& (1431655765))).toUInt32 >>> ((2 : Int32).toUInt32 &&& Int32.toUInt32 31)).toInt32 &&& (858993459)))))]) C.x C.b dJ6_bitCount_0f7a4_23 rfl hl (by decide) rfl (fun ls hl => ?_)
  refine lv_iload_n C.x C.b dJ6_bitCount_0f7a4_24 rfl (lv_at hl 0 rfl) ?_
  refine lv_iload_n C.x C.b dJ6_bitCount_0f7a4_25 rfl (lv_at hl 0 rfl) ?_
  refine lv_iconst (v := 4) C.x C.b dJ6_bitCount_0f7a4_26 (by decide) ?_
  refine lv_iushr C.x C.b dJ6_bitCount_0f7a4_27 rfl ?_
  refine lv_iadd C.x C.b dJ6_bitCount_0f7a4_28 ?_
  refine lv_ldcw C.x C.b C.ow (C.ts _ (List.mem_cons_of_mem _ kw953)) dJ6_bitCount_0f7a4_29 ?_
  refine lv_iand C.x C.b dJ6_bitCount_0f7a4_32 ?_
  refine lv_istore_n (lv' := [(0, .int ((((((v0 - ((v0.toUInt32 >>> ((1 : Int32).toUInt32 &&& Int32.toUInt32 31)).toInt32 &&& (1431655765))) &&& (858993459)) + (((v0 - ((v0.toUInt32 >>> ((1 : Int32).toUInt32 &&& Int32.toUInt32 31)).toInt32 &&& (1431655765))).toUInt32 >>> ((2 : Int32).toUInt32 &&& Int32.toUInt32 31)).toInt32 &&& (858993459))) + ((((v0 - ((v0.toUInt32 >>> ((1 : Int32).toUInt32 &&& Int32.toUInt32 31)).toInt32 &&& (1431655765))) &&& (858993459)) + (((v0 - ((v0.toUInt32 >>> ((1 : Int32).toUInt32 &&& Int32.toUInt32 31)).toInt32 &&& (1431655765))).toUInt32 >>> ((2 : Int32).toUInt32 &&& Int32.toUInt32 31)).toInt32 &&& (858993459))).toUInt32 >>> ((4 : Int32).toUInt32 &&& Int32.toUInt32 31)).toInt32) &&& (252645135))))]) C.x C.b dJ6_bitCount_0f7a4_33 rfl hl (by decide) rfl (fun ls hl => ?_)
  refine lv_iload_n C.x C.b dJ6_bitCount_0f7a4_34 rfl (lv_at hl 0 rfl) ?_
  refine lv_iload_n C.x C.b dJ6_bitCount_0f7a4_35 rfl (lv_at hl 0 rfl) ?_
  refine lv_bipush (v := 8) C.x C.b dJ6_bitCount_0f7a4_36 (by decide) ?_
  refine lv_iushr C.x C.b dJ6_bitCount_0f7a4_38 rfl ?_
  refine lv_iadd C.x C.b dJ6_bitCount_0f7a4_39 ?_
  refine lv_istore_n (lv' := [(0, .int (((((((v0 - ((v0.toUInt32 >>> ((1 : Int32).toUInt32 &&& Int32.toUInt32 31)).toInt32 &&& (1431655765))) &&& (858993459)) + (((v0 - ((v0.toUInt32 >>> ((1 : Int32).toUInt32 &&& Int32.toUInt32 31)).toInt32 &&& (1431655765))).toUInt32 >>> ((2 : Int32).toUInt32 &&& Int32.toUInt32 31)).toInt32 &&& (858993459))) + ((((v0 - ((v0.toUInt32 >>> ((1 : Int32).toUInt32 &&& Int32.toUInt32 31)).toInt32 &&& (1431655765))) &&& (858993459)) + (((v0 - ((v0.toUInt32 >>> ((1 : Int32).toUInt32 &&& Int32.toUInt32 31)).toInt32 &&& (1431655765))).toUInt32 >>> ((2 : Int32).toUInt32 &&& Int32.toUInt32 31)).toInt32 &&& (858993459))).toUInt32 >>> ((4 : Int32).toUInt32 &&& Int32.toUInt32 31)).toInt32) &&& (252645135)) + ((((((v0 - ((v0.toUInt32 >>> ((1 : Int32).toUInt32 &&& Int32.toUInt32 31)).toInt32 &&& (1431655765))) &&& (858993459)) + (((v0 - ((v0.toUInt32 >>> ((1 : Int32).toUInt32 &&& Int32.toUInt32 31)).toInt32 &&& (1431655765))).toUInt32 >>> ((2 : Int32).toUInt32 &&& Int32.toUInt32 31)).toInt32 &&& (858993459))) + ((((v0 - ((v0.toUInt32 >>> ((1 : Int32).toUInt32 &&& Int32.toUInt32 31)).toInt32 &&& (1431655765))) &&& (858993459)) + (((v0 - ((v0.toUInt32 >>> ((1 : Int32).toUInt32 &&& Int32.toUInt32 31)).toInt32 &&& (1431655765))).toUInt32 >>> ((2 : Int32).toUInt32 &&& Int32.toUInt32 31)).toInt32 &&& (858993459))).toUInt32 >>> ((4 : Int32).toUInt32 &&& Int32.toUInt32 31)).toInt32) &&& (252645135)).toUInt32 >>> ((8 : Int32).toUInt32 &&& Int32.toUInt32 31)).toInt32)))]) C.x C.b dJ6_bitCount_0f7a4_40 rfl hl (by decide) rfl (fun ls hl => ?_)
  refine lv_iload_n C.x C.b dJ6_bitCount_0f7a4_41 rfl (lv_at hl 0 rfl) ?_
  refine lv_iload_n C.x C.b dJ6_bitCount_0f7a4_42 rfl (lv_at hl 0 rfl) ?_
  refine lv_bipush (v := 16) C.x C.b dJ6_bitCount_0f7a4_43 (by decide) ?_
  refine lv_iushr C.x C.b dJ6_bitCount_0f7a4_45 rfl ?_
  refine lv_iadd C.x C.b dJ6_bitCount_0f7a4_46 ?_
  refine lv_istore_n (lv' := [(0, .int ((((((((v0 - ((v0.toUInt32 >>> ((1 : Int32).toUInt32 &&& Int32.toUInt32 31)).toInt32 &&& (1431655765))) &&& (858993459)) + (((v0 - ((v0.toUInt32 >>> ((1 : Int32).toUInt32 &&& Int32.toUInt32 31)).toInt32 &&& (1431655765))).toUInt32 >>> ((2 : Int32).toUInt32 &&& Int32.toUInt32 31)).toInt32 &&& (858993459))) + ((((v0 - ((v0.toUInt32 >>> ((1 : Int32).toUInt32 &&& Int32.toUInt32 31)).toInt32 &&& (1431655765))) &&& (858993459)) + (((v0 - ((v0.toUInt32 >>> ((1 : Int32).toUInt32 &&& Int32.toUInt32 31)).toInt32 &&& (1431655765))).toUInt32 >>> ((2 : Int32).toUInt32 &&& Int32.toUInt32 31)).toInt32 &&& (858993459))).toUInt32 >>> ((4 : Int32).toUInt32 &&& Int32.toUInt32 31)).toInt32) &&& (252645135)) + ((((((v0 - ((v0.toUInt32 >>> ((1 : Int32).toUInt32 &&& Int32.toUInt32 31)).toInt32 &&& (1431655765))) &&& (858993459)) + (((v0 - ((v0.toUInt32 >>> ((1 : Int32).toUInt32 &&& Int32.toUInt32 31)).toInt32 &&& (1431655765))).toUInt32 >>> ((2 : Int32).toUInt32 &&& Int32.toUInt32 31)).toInt32 &&& (858993459))) + ((((v0 - ((v0.toUInt32 >>> ((1 : Int32).toUInt32 &&& Int32.toUInt32 31)).toInt32 &&& (1431655765))) &&& (858993459)) + (((v0 - ((v0.toUInt32 >>> ((1 : Int32).toUInt32 &&& Int32.toUInt32 31)).toInt32 &&& (1431655765))).toUInt32 >>> ((2 : Int32).toUInt32 &&& Int32.toUInt32 31)).toInt32 &&& (858993459))).toUInt32 >>> ((4 : Int32).toUInt32 &&& Int32.toUInt32 31)).toInt32) &&& (252645135)).toUInt32 >>> ((8 : Int32).toUInt32 &&& Int32.toUInt32 31)).toInt32) + (((((((v0 - ((v0.toUInt32 >>> ((1 : Int32).toUInt32 &&& Int32.toUInt32 31)).toInt32 &&& (1431655765))) &&& (858993459)) + (((v0 - ((v0.toUInt32 >>> ((1 : Int32).toUInt32 &&& Int32.toUInt32 31)).toInt32 &&& (1431655765))).toUInt32 >>> ((2 : Int32).toUInt32 &&& Int32.toUInt32 31)).toInt32 &&& (858993459))) + ((((v0 - ((v0.toUInt32 >>> ((1 : Int32).toUInt32 &&& Int32.toUInt32 31)).toInt32 &&& (1431655765))) &&& (858993459)) + (((v0 - ((v0.toUInt32 >>> ((1 : Int32).toUInt32 &&& Int32.toUInt32 31)).toInt32 &&& (1431655765))).toUInt32 >>> ((2 : Int32).toUInt32 &&& Int32.toUInt32 31)).toInt32 &&& (858993459))).toUInt32 >>> ((4 : Int32).toUInt32 &&& Int32.toUInt32 31)).toInt32) &&& (252645135)) + ((((((v0 - ((v0.toUInt32 >>> ((1 : Int32).toUInt32 &&& Int32.toUInt32 31)).toInt32 &&& (1431655765))) &&& (858993459)) + (((v0 - ((v0.toUInt32 >>> ((1 : Int32).toUInt32 &&& Int32.toUInt32 31)).toInt32 &&& (1431655765))).toUInt32 >>> ((2 : Int32).toUInt32 &&& Int32.toUInt32 31)).toInt32 &&& (858993459))) + ((((v0 - ((v0.toUInt32 >>> ((1 : Int32).toUInt32 &&& Int32.toUInt32 31)).toInt32 &&& (1431655765))) &&& (858993459)) + (((v0 - ((v0.toUInt32 >>> ((1 : Int32).toUInt32 &&& Int32.toUInt32 31)).toInt32 &&& (1431655765))).toUInt32 >>> ((2 : Int32).toUInt32 &&& Int32.toUInt32 31)).toInt32 &&& (858993459))).toUInt32 >>> ((4 : Int32).toUInt32 &&& Int32.toUInt32 31)).toInt32) &&& (252645135)).toUInt32 >>> ((8 : Int32).toUInt32 &&& Int32.toUInt32 31)).toInt32).toUInt32 >>> ((16 : Int32).toUInt32 &&& Int32.toUInt32 31)).toInt32)))]) C.x C.b dJ6_bitCount_0f7a4_47 rfl hl (by decide) rfl (fun ls hl => ?_)
  refine lv_iload_n C.x C.b dJ6_bitCount_0f7a4_48 rfl (lv_at hl 0 rfl) ?_
  refine lv_bipush (v := 63) C.x C.b dJ6_bitCount_0f7a4_49 (by decide) ?_
  refine lv_iand C.x C.b dJ6_bitCount_0f7a4_51 ?_
  obtain rfl := Option.some.inj hp
  exact q_iret C hw rfl dJ6_bitCount_0f7a4_52
theorem okJ9_floorMod_7cf53 : okY yJ9_floorMod_7cf53 2 := ⟨by decide +kernel, by decide +kernel, by decide +kernel⟩
set_option maxRecDepth 100000 in
set_option maxHeartbeats 4000000 in
theorem tJ9_floorMod_7cf53 (l : Launch) (D : va_G) (y : Nat → ClassId) (v0 : Int32) (v1 : Int32) (z0 : Int32) (hp : pJ9_floorMod_7cf53 v0 v1 = some z0) : CI D y l yJ9_floorMod_7cf53 (Cond.code yJ9_floorMod_7cf53 cJ9_floorMod_7cf53 3 (some .int) :: tbG) { frames := 0, cells := 0, slots := 0, locals := 0 } [.int (v0), .int (v1)] [] [] (z0) := by
  refine CI.ofF (own := RJ9) (by decide +kernel) rfl (Nat.le_of_ble_eq_true rfl) ?_
  intro p e s m args below meth c A H locs ls C hw hl
  have hl : lv_has ls 3 [(0, .int (v0)), (1, .int (v1))] := hl
  unfold pJ9_floorMod_7cf53 at hp
  refine lv_iload_n C.x C.b dJ9_floorMod_7cf53_0 rfl (lv_at hl 0 rfl) ?_
  refine lv_iload_n C.x C.b dJ9_floorMod_7cf53_1 rfl (lv_at hl 1 rfl) ?_
  obtain ⟨hi, hp⟩ := nz_some hp
  refine lv_irem C.x C.b dJ9_floorMod_7cf53_2 hi ?_
  refine lv_istore_n (lv' := [(2, .int ((v0 - v0 / v1 * v1))), (0, .int (v0)), (1, .int (v1))]) C.x C.b dJ9_floorMod_7cf53_3 rfl hl (by decide) rfl (fun ls hl => ?_)
  refine lv_iload_n C.x C.b dJ9_floorMod_7cf53_4 rfl (lv_at hl 1 rfl) ?_
  refine lv_iload_n C.x C.b dJ9_floorMod_7cf53_5 rfl (lv_at hl 2 rfl) ?_
  refine lv_ixor C.x C.b dJ9_floorMod_7cf53_6 ?_
  refine lv_if_ge (tgt := 18) C.x C.b dJ9_floorMod_7cf53_7 (by decide) (fun c9 => ?_) (fun c9 => ?_)
  · replace hp := it_t c9 hp
    refine lv_iload_n C.x C.b dJ9_floorMod_7cf53_18 rfl (lv_at hl 0 rfl) ?_
    obtain rfl := Option.some.inj hp
    exact q_iret C hw rfl dJ9_floorMod_7cf53_19
  · replace hp := it_f c9 hp
    refine lv_iload_n C.x C.b dJ9_floorMod_7cf53_10 rfl (lv_at hl 0 rfl) ?_
    refine lv_if_eq (tgt := 18) C.x C.b dJ9_floorMod_7cf53_11 (by decide) (fun c9 => ?_) (fun c9 => ?_)
    · replace hp := it_t c9 hp
      refine lv_iload_n C.x C.b dJ9_floorMod_7cf53_18 rfl (lv_at hl 0 rfl) ?_
      obtain rfl := Option.some.inj hp
      exact q_iret C hw rfl dJ9_floorMod_7cf53_19
    · replace hp := it_f c9 hp
      refine lv_iload_n C.x C.b dJ9_floorMod_7cf53_14 rfl (lv_at hl 0 rfl) ?_
      refine lv_iload_n C.x C.b dJ9_floorMod_7cf53_15 rfl (lv_at hl 2 rfl) ?_
      refine lv_iadd C.x C.b dJ9_floorMod_7cf53_16 ?_
      obtain rfl := Option.some.inj hp
      exact q_iret C hw rfl dJ9_floorMod_7cf53_17
theorem okJ9_max_7cf53 : okY yJ9_max_7cf53 2 := ⟨by decide +kernel, by decide +kernel, by decide +kernel⟩
set_option maxRecDepth 100000 in
set_option maxHeartbeats 4000000 in
theorem tJ9_max_7cf53 (l : Launch) (D : va_G) (y : Nat → ClassId) (v0 : Int32) (v1 : Int32) (z0 : Int32) (hp : pJ9_max_7cf53 v0 v1 = some z0) : CI D y l yJ9_max_7cf53 (Cond.code yJ9_max_7cf53 cJ9_max_7cf53 2 (some .int) :: tbG) { frames := 0, cells := 0, slots := 0, locals := 0 } [.int (v0), .int (v1)] [] [] (z0) := by
  refine CI.ofF (own := RJ9) (by decide +kernel) rfl (Nat.le_of_ble_eq_true rfl) ?_
  intro p e s m args below meth c A H locs ls C hw hl
  have hl : lv_has ls 2 [(0, .int (v0)), (1, .int (v1))] := hl
  unfold pJ9_max_7cf53 at hp
  refine lv_iload_n C.x C.b dJ9_max_7cf53_0 rfl (lv_at hl 0 rfl) ?_
  refine lv_iload_n C.x C.b dJ9_max_7cf53_1 rfl (lv_at hl 1 rfl) ?_
  refine lv_icmp_lt (tgt := 9) C.x C.b dJ9_max_7cf53_2 (by decide) (fun c9 => ?_) (fun c9 => ?_)
  · replace hp := it_t c9 hp
    refine lv_iload_n C.x C.b dJ9_max_7cf53_9 rfl (lv_at hl 1 rfl) ?_
    obtain rfl := Option.some.inj hp
    exact q_iret C hw rfl dJ9_max_7cf53_10
  · replace hp := it_f c9 hp
    refine lv_iload_n C.x C.b dJ9_max_7cf53_5 rfl (lv_at hl 0 rfl) ?_
    refine lv_goto (tgt := 10) C.x C.b dJ9_max_7cf53_6 (by decide) ?_
    obtain rfl := Option.some.inj hp
    exact q_iret C hw rfl dJ9_max_7cf53_10
theorem okJ9_min_7cf53 : okY yJ9_min_7cf53 2 := ⟨by decide +kernel, by decide +kernel, by decide +kernel⟩
set_option maxRecDepth 100000 in
set_option maxHeartbeats 4000000 in
theorem tJ9_min_7cf53 (l : Launch) (D : va_G) (y : Nat → ClassId) (v0 : Int32) (v1 : Int32) (z0 : Int32) (hp : pJ9_min_7cf53 v0 v1 = some z0) : CI D y l yJ9_min_7cf53 (Cond.code yJ9_min_7cf53 cJ9_min_7cf53 2 (some .int) :: tbG) { frames := 0, cells := 0, slots := 0, locals := 0 } [.int (v0), .int (v1)] [] [] (z0) := by
  refine CI.ofF (own := RJ9) (by decide +kernel) rfl (Nat.le_of_ble_eq_true rfl) ?_
  intro p e s m args below meth c A H locs ls C hw hl
  have hl : lv_has ls 2 [(0, .int (v0)), (1, .int (v1))] := hl
  unfold pJ9_min_7cf53 at hp
  refine lv_iload_n C.x C.b dJ9_min_7cf53_0 rfl (lv_at hl 0 rfl) ?_
  refine lv_iload_n C.x C.b dJ9_min_7cf53_1 rfl (lv_at hl 1 rfl) ?_
  refine lv_icmp_gt (tgt := 9) C.x C.b dJ9_min_7cf53_2 (by decide) (fun c9 => ?_) (fun c9 => ?_)
  · replace hp := it_t c9 hp
    refine lv_iload_n C.x C.b dJ9_min_7cf53_9 rfl (lv_at hl 1 rfl) ?_
    obtain rfl := Option.some.inj hp
    exact q_iret C hw rfl dJ9_min_7cf53_10
  · replace hp := it_f c9 hp
    refine lv_iload_n C.x C.b dJ9_min_7cf53_5 rfl (lv_at hl 0 rfl) ?_
    refine lv_goto (tgt := 10) C.x C.b dJ9_min_7cf53_6 (by decide) ?_
    obtain rfl := Option.some.inj hp
    exact q_iret C hw rfl dJ9_min_7cf53_10
theorem okJ9_min_f86c9 : okY yJ9_min_f86c9 2 := ⟨by decide +kernel, by decide +kernel, by decide +kernel⟩
set_option maxRecDepth 100000 in
set_option maxHeartbeats 4000000 in
theorem tJ9_min_f86c9 (l : Launch) (D : va_G) (y : Nat → ClassId) (v0 : Int64) (v2 : Int64) (z0 : Int64) (hp : pJ9_min_f86c9 v0 v2 = some z0) : CL D y l yJ9_min_f86c9 (Cond.code yJ9_min_f86c9 cJ9_min_f86c9 4 (some .long) :: tbG) { frames := 0, cells := 0, slots := 0, locals := 0 } [.long (v0), .long (v2)] [] [] (z0) := by
  refine CL.ofF (own := RJ9) (by decide +kernel) rfl (Nat.le_of_ble_eq_true rfl) ?_
  intro p e s m args below meth c A H locs ls C hw hl
  have hl : lv_has ls 4 [(0, .long (v0)), (2, .long (v2))] := hl
  unfold pJ9_min_f86c9 at hp
  refine lv_lload_n C.x C.b dJ9_min_f86c9_0 rfl (lv_at hl 0 rfl) ?_
  refine lv_lload_n C.x C.b dJ9_min_f86c9_1 rfl (lv_at hl 1 rfl) ?_
  refine W.lcmp C.x C.b dJ9_min_f86c9_2 ?_
  refine lv_if_gt (tgt := 10) C.x C.b dJ9_min_f86c9_3 (by decide) (fun c9 => ?_) (fun c9 => ?_)
  · replace hp := it_t c9 hp
    refine lv_lload_n C.x C.b dJ9_min_f86c9_10 rfl (lv_at hl 1 rfl) ?_
    obtain rfl := Option.some.inj hp
    exact q_lret C hw rfl dJ9_min_f86c9_11
  · replace hp := it_f c9 hp
    refine lv_lload_n C.x C.b dJ9_min_f86c9_6 rfl (lv_at hl 0 rfl) ?_
    refine lv_goto (tgt := 11) C.x C.b dJ9_min_f86c9_7 (by decide) ?_
    obtain rfl := Option.some.inj hp
    exact q_lret C hw rfl dJ9_min_f86c9_11
theorem okJ7_fill_53178 : okY yJ7_fill_53178 2 := ⟨by decide +kernel, by decide +kernel, by decide +kernel⟩
set_option maxRecDepth 100000 in
set_option maxHeartbeats 4000000 in
theorem wJ7_fill_53178_b5 {D : va_G} {y : Nat → ClassId} {p : Program} {l : Launch} {e : Env} {s : State} {m : MethodId} {args : Array Value} {below : List Frame} {meth : Method} {c : Code} {A : Nat → Prop} (a_p1 : Nat) (n_p1 : Nat) (v1 : Int32) (v3 : Int32)   (C : Cx D y p s m args meth c A RJ7 cJ7_fill_53178 (Cond.code yJ7_fill_53178 cJ7_fill_53178 4 none) none 4) {Q : State → Prop} : ∀ (k : Nat) (z5 : Int32 × (Nat → Int32)) (o5 : Int32 × (Nat → Int32)) (H : Heap) (locs : List Loc) (ls : Array Slot), lp (pJ7_fill_53178_b5 n_p1 v1 v3) k z5 = some o5 → St D A s H locs [(a_p1, .inl (y 0, n_p1, .inl (z5.2)))] → lv_has ls 4 [(0, .ref a_p1), (1, .int (v1)), (2, .int (z5.1)), (3, .int (v3))] → (∀ (H : Heap) (locs : List Loc) (ls : Array Slot), St D A s H locs [(a_p1, .inl (y 0, n_p1, .inl (o5.2)))] → lv_has ls 4 [] → W p l e { frames := 0, cells := 0, slots := 0, locals := 0 } s m args below meth c H locs 0 0 Q (F0 m 20 ls [])) → W p l e { frames := 0, cells := 0, slots := 0, locals := 0 } s m args below meth c H locs 0 0 Q (F0 m 5 ls []) := by
  intro k
  induction k with
  | zero => intro z5 o9 H locs ls hp; exact lp_zero hp
  | succ k ih =>
    intro z5 o5 H locs ls hlp hw hl kx0
    obtain ⟨o, hp, hk1, hk2⟩ := lp_succ hlp
    have kb : ∀ (z9 : Int32 × (Nat → Int32)) (H : Heap) (locs : List Loc) (ls : Array Slot), o = .inl z9 → St D A s H locs [(a_p1, .inl (y 0, n_p1, .inl (z9.2)))] → lv_has ls 4 [(0, .ref a_p1), (1, .int (v1)), (2, .int (z9.1)), (3, .int (v3))] → W p l e { frames := 0, cells := 0, slots := 0, locals := 0 } s m args below meth c H locs 0 0 Q (F0 m 5 ls []) := fun z9 H locs ls ho hw hl => ih z9 o5 H locs ls (hk1 z9 ho) hw hl kx0
    have kx : ∀ (z9 : Int32 × (Nat → Int32)) (H : Heap) (locs : List Loc) (ls : Array Slot), o = .inr z9 → St D A s H locs [(a_p1, .inl (y 0, n_p1, .inl (z9.2)))] → lv_has ls 4 [] → W p l e { frames := 0, cells := 0, slots := 0, locals := 0 } s m args below meth c H locs 0 0 Q (F0 m 20 ls []) := fun z9 H locs ls ho hw hl => by obtain rfl := hk2 z9 ho; exact kx0 H locs ls hw hl
    clear ih hk1 hk2 hlp kx0
    unfold pJ7_fill_53178_b5 at hp
    refine lv_iload_n C.x C.b dJ7_fill_53178_5 rfl (lv_at hl 2 rfl) ?_
    refine lv_iload_n C.x C.b dJ7_fill_53178_6 rfl (lv_at hl 3 rfl) ?_
    refine lv_icmp_ge (tgt := 20) C.x C.b dJ7_fill_53178_7 (by decide) (fun c9 => ?_) (fun c9 => ?_)
    · replace hp := it_t c9 hp
      exact kx _ H locs ls (Option.some.inj hp).symm hw (lv_sub hl [] rfl)
    · replace hp := it_f c9 hp
      refine lv_aload_n C.x C.b dJ7_fill_53178_10 rfl (lv_at hl 0 rfl) ?_
      refine lv_iload_n C.x C.b dJ7_fill_53178_11 rfl (lv_at hl 2 rfl) ?_
      refine lv_iload_n C.x C.b dJ7_fill_53178_12 rfl (lv_at hl 1 rfl) ?_
      obtain ⟨hi, hp⟩ := ck_some hp
      refine q_iast (w2 := [(a_p1, .inl (y 0, n_p1, .inl ((upd z5.2 z5.1.toNatClampNeg v1))))]) C hw 0 rfl rfl hi dJ7_fill_53178_13 (fun H locs hw => ?_)
      refine lv_iinc (v := (z5.1 + 1)) (lv' := [(2, .int ((z5.1 + 1))), (0, .ref a_p1), (1, .int (v1)), (3, .int (v3))]) C.x C.b dJ7_fill_53178_14 hl (k := 2) rfl rfl (by decide) rfl (fun ls hl => ?_)
      refine lv_goto (tgt := 5) C.x C.b dJ7_fill_53178_17 (by decide) ?_
      exact kb _ H locs ls (Option.some.inj hp).symm hw (lv_sub hl [1, 2, 0, 3] rfl)
set_option maxRecDepth 100000 in
set_option maxHeartbeats 4000000 in
theorem tJ7_fill_53178 (l : Launch) (D : va_G) (y : Nat → ClassId) (a_p1 : Nat) (n_p1 : Nat) (v1 : Int32) (x_p1 : Nat → Int32) (z0 : Nat → Int32) (hp : pJ7_fill_53178 n_p1 v1 x_p1 = some z0) : CV D y l yJ7_fill_53178 (Cond.code yJ7_fill_53178 cJ7_fill_53178 4 none :: tbG) { frames := 0, cells := 0, slots := 0, locals := 0 } [.ref a_p1, .int (v1)] [(a_p1, .inl (y 0, n_p1, .inl (x_p1)))] [(a_p1, .inl (y 0, n_p1, .inl (z0)))] := by
  refine CV.of (own := RJ7) (by decide +kernel) rfl (Nat.le_of_ble_eq_true rfl) ?_
  intro p e s m args below meth c A H locs ls C hw hl
  have hl : lv_has ls 4 [(0, .ref a_p1), (1, .int (v1))] := hl
  unfold pJ7_fill_53178 at hp
  refine lv_iconst (v := 0) C.x C.b dJ7_fill_53178_0 (by decide) ?_
  refine lv_istore_n (lv' := [(2, .int (0)), (0, .ref a_p1), (1, .int (v1))]) C.x C.b dJ7_fill_53178_1 rfl hl (by decide) rfl (fun ls hl => ?_)
  refine lv_aload_n C.x C.b dJ7_fill_53178_2 rfl (lv_at hl 1 rfl) ?_
  refine va_alen C.x C.b C.k.1 hw.1 0 0 rfl rfl rfl dJ7_fill_53178_3 ?_
  refine lv_istore_n (lv' := [(3, .int ((Int32.ofNat n_p1))), (2, .int (0)), (0, .ref a_p1), (1, .int (v1))]) C.x C.b dJ7_fill_53178_4 rfl hl (by decide) rfl (fun ls hl => ?_)
  obtain ⟨y5, hlp, hp⟩ := bd_some hp
  refine wJ7_fill_53178_b5 a_p1 n_p1 (v1) ((Int32.ofNat n_p1)) C FU (0, x_p1) y5 H locs ls hlp hw (lv_sub hl [2, 3, 1, 0] rfl) (fun H locs ls hw hl => ?_)
  obtain rfl := Option.some.inj hp
  exact q_vret C hw dJ7_fill_53178_20
theorem okX9_fold : okY yX9_fold 1 := ⟨by decide +kernel, by decide +kernel, by decide +kernel⟩
set_option maxRecDepth 100000 in
set_option maxHeartbeats 4000000 in
theorem tX9_fold (l : Launch) (D : va_G) (y : Nat → ClassId) (v0 : Int32) (z0 : Int32) (hp : pX9_fold v0 = some z0) : CI D y l yX9_fold (Cond.code yX9_fold cX9_fold 1 (some .int) :: tbG) { frames := 0, cells := 0, slots := 0, locals := 0 } [.int (v0)] [] [] (z0) := by
  refine CI.of (own := RX9) (by decide +kernel) rfl (Nat.le_of_ble_eq_true rfl) ?_
  intro p e s m args below meth c A H locs ls C hw hl
  have hl : lv_has ls 1 [(0, .int (v0))] := hl
  unfold pX9_fold at hp
  refine lv_iload_n C.x C.b dX9_fold_0 rfl (lv_at hl 0 rfl) ?_
  refine lv_iconst (v := 1) C.x C.b dX9_fold_1 (by decide) ?_
  refine lv_ishl C.x C.b dX9_fold_2 ?_
  refine lv_iload_n C.x C.b dX9_fold_3 rfl (lv_at hl 0 rfl) ?_
  refine lv_bipush (v := 31) C.x C.b dX9_fold_4 (by decide) ?_
  refine lv_ishr C.x C.b dX9_fold_6 ?_
  refine lv_ixor C.x C.b dX9_fold_7 ?_
  obtain rfl := Option.some.inj hp
  exact q_iret C hw rfl dX9_fold_8
theorem okX9_unfold : okY yX9_unfold 1 := ⟨by decide +kernel, by decide +kernel, by decide +kernel⟩
set_option maxRecDepth 100000 in
set_option maxHeartbeats 4000000 in
theorem tX9_unfold (l : Launch) (D : va_G) (y : Nat → ClassId) (v0 : Int32) (z0 : Int32) (hp : pX9_unfold v0 = some z0) : CI D y l yX9_unfold (Cond.code yX9_unfold cX9_unfold 1 (some .int) :: tbG) { frames := 0, cells := 0, slots := 0, locals := 0 } [.int (v0)] [] [] (z0) := by
  refine CI.of (own := RX9) (by decide +kernel) rfl (Nat.le_of_ble_eq_true rfl) ?_
  intro p e s m args below meth c A H locs ls C hw hl
  have hl : lv_has ls 1 [(0, .int (v0))] := hl
  unfold pX9_unfold at hp
  refine lv_iload_n C.x C.b dX9_unfold_0 rfl (lv_at hl 0 rfl) ?_
  refine lv_iconst (v := 1) C.x C.b dX9_unfold_1 (by decide) ?_
  refine lv_iushr C.x C.b dX9_unfold_2 rfl ?_
  refine lv_iload_n C.x C.b dX9_unfold_3 rfl (lv_at hl 0 rfl) ?_
  refine lv_iconst (v := 1) C.x C.b dX9_unfold_4 (by decide) ?_
  refine lv_iand C.x C.b dX9_unfold_5 ?_
  refine lv_ineg C.x C.b dX9_unfold_6 ?_
  refine lv_ixor C.x C.b dX9_unfold_7 ?_
  obtain rfl := Option.some.inj hp
  exact q_iret C hw rfl dX9_unfold_8
theorem okX9_wordsFor : okY yX9_wordsFor 1 := ⟨by decide +kernel, by decide +kernel, by decide +kernel⟩
set_option maxRecDepth 100000 in
set_option maxHeartbeats 4000000 in
theorem tX9_wordsFor (l : Launch) (D : va_G) (y : Nat → ClassId) (v0 : Int32) (z0 : Int32) (hp : pX9_wordsFor v0 = some z0) : CI D y l yX9_wordsFor (Cond.code yX9_wordsFor cX9_wordsFor 1 (some .int) :: tbG) { frames := 0, cells := 0, slots := 0, locals := 0 } [.int (v0)] [] [] (z0) := by
  refine CI.of (own := RX9) (by decide +kernel) rfl (Nat.le_of_ble_eq_true rfl) ?_
  intro p e s m args below meth c A H locs ls C hw hl
  have hl : lv_has ls 1 [(0, .int (v0))] := hl
  unfold pX9_wordsFor at hp
  refine lv_iload_n C.x C.b dX9_wordsFor_0 rfl (lv_at hl 0 rfl) ?_
  refine lv_bipush (v := 32) C.x C.b dX9_wordsFor_1 (by decide) ?_
  refine lv_iadd C.x C.b dX9_wordsFor_3 ?_
  refine lv_iconst (v := 1) C.x C.b dX9_wordsFor_4 (by decide) ?_
  refine lv_isub C.x C.b dX9_wordsFor_5 ?_
  refine lv_bipush (v := 32) C.x C.b dX9_wordsFor_6 (by decide) ?_
  refine lv_idiv C.x C.b dX9_wordsFor_8 (by decide) ?_
  obtain rfl := Option.some.inj hp
  exact q_iret C hw rfl dX9_wordsFor_9
theorem okX9_blocksFor : okY yX9_blocksFor 1 := ⟨by decide +kernel, by decide +kernel, by decide +kernel⟩
set_option maxRecDepth 100000 in
set_option maxHeartbeats 4000000 in
theorem tX9_blocksFor (l : Launch) (D : va_G) (y : Nat → ClassId) (v0 : Int32) (z0 : Int32) (hp : pX9_blocksFor v0 = some z0) : CI D y l yX9_blocksFor (Cond.code yX9_blocksFor cX9_blocksFor 1 (some .int) :: tbG) { frames := 0, cells := 0, slots := 0, locals := 0 } [.int (v0)] [] [] (z0) := by
  refine CI.of (own := RX9) (by decide +kernel) rfl (Nat.le_of_ble_eq_true rfl) ?_
  intro p e s m args below meth c A H locs ls C hw hl
  have hl : lv_has ls 1 [(0, .int (v0))] := hl
  unfold pX9_blocksFor at hp
  refine lv_iload_n C.x C.b dX9_blocksFor_0 rfl (lv_at hl 0 rfl) ?_
  refine lv_bipush (v := 16) C.x C.b dX9_blocksFor_1 (by decide) ?_
  refine lv_iadd C.x C.b dX9_blocksFor_3 ?_
  refine lv_iconst (v := 1) C.x C.b dX9_blocksFor_4 (by decide) ?_
  refine lv_isub C.x C.b dX9_blocksFor_5 ?_
  refine lv_bipush (v := 16) C.x C.b dX9_blocksFor_6 (by decide) ?_
  refine lv_idiv C.x C.b dX9_blocksFor_8 (by decide) ?_
  obtain rfl := Option.some.inj hp
  exact q_iret C hw rfl dX9_blocksFor_9
theorem okX9_unsigned : okY yX9_unsigned 1 := ⟨by decide +kernel, by decide +kernel, by decide +kernel⟩
set_option maxRecDepth 100000 in
set_option maxHeartbeats 4000000 in
theorem tX9_unsigned (l : Launch) (D : va_G) (y : Nat → ClassId) (v0 : Int32) (z0 : Int64) (hp : pX9_unsigned v0 = some z0) : CL D y l yX9_unsigned (Cond.code yX9_unsigned cX9_unsigned 1 (some .long) :: tbG) { frames := 0, cells := 0, slots := 0, locals := 0 } [.int (v0)] [] [] (z0) := by
  refine CL.of (own := RX9) (by decide +kernel) rfl (Nat.le_of_ble_eq_true rfl) ?_
  intro p e s m args below meth c A H locs ls C hw hl
  have hl : lv_has ls 1 [(0, .int (v0))] := hl
  unfold pX9_unsigned at hp
  refine lv_iload_n C.x C.b dX9_unsigned_0 rfl (lv_at hl 0 rfl) ?_
  refine lv_i2l C.x C.b dX9_unsigned_1 rfl ?_
  refine lv_ldc2 C.x C.b C.ow (C.ts _ (List.mem_cons_of_mem _ kw1105)) dX9_unsigned_2 ?_
  refine lv_land C.x C.b dX9_unsigned_5 ?_
  obtain rfl := Option.some.inj hp
  exact q_lret C hw rfl dX9_unsigned_6
theorem okX10_copyAll : okY yX10_copyAll 2 := ⟨by decide +kernel, by decide +kernel, by decide +kernel⟩
set_option maxRecDepth 100000 in
set_option maxHeartbeats 4000000 in
theorem wX10_copyAll_b2 {D : va_G} {y : Nat → ClassId} {p : Program} {l : Launch} {e : Env} {s : State} {m : MethodId} {args : Array Value} {below : List Frame} {meth : Method} {c : Code} {A : Nat → Prop} (a_p1 a_p2 : Nat) (n_p1 n_p2 : Nat)  (x_p1 : Nat → Int32)  (C : Cx D y p s m args meth c A RX10 cX10_copyAll (Cond.code yX10_copyAll cX10_copyAll 3 none) none 3) {Q : State → Prop} : ∀ (k : Nat) (z2 : Int32 × (Nat → Int32)) (o2 : Int32 × (Nat → Int32)) (H : Heap) (locs : List Loc) (ls : Array Slot), lp (pX10_copyAll_b2 n_p1 n_p2 x_p1) k z2 = some o2 → St D A s H locs [(a_p1, .inl (y 0, n_p1, .inl (x_p1))), (a_p2, .inl (y 0, n_p2, .inl (z2.2)))] → lv_has ls 3 [(0, .ref a_p1), (1, .ref a_p2), (2, .int (z2.1))] → (∀ (H : Heap) (locs : List Loc) (ls : Array Slot), St D A s H locs [(a_p1, .inl (y 0, n_p1, .inl (x_p1))), (a_p2, .inl (y 0, n_p2, .inl (o2.2)))] → lv_has ls 3 [] → W p l e { frames := 0, cells := 0, slots := 0, locals := 0 } s m args below meth c H locs 0 0 Q (F0 m 21 ls [])) → W p l e { frames := 0, cells := 0, slots := 0, locals := 0 } s m args below meth c H locs 0 0 Q (F0 m 2 ls []) := by
  intro k
  induction k with
  | zero => intro z2 o9 H locs ls hp; exact lp_zero hp
  | succ k ih =>
    intro z2 o2 H locs ls hlp hw hl kx0
    obtain ⟨o, hp, hk1, hk2⟩ := lp_succ hlp
    have kb : ∀ (z9 : Int32 × (Nat → Int32)) (H : Heap) (locs : List Loc) (ls : Array Slot), o = .inl z9 → St D A s H locs [(a_p1, .inl (y 0, n_p1, .inl (x_p1))), (a_p2, .inl (y 0, n_p2, .inl (z9.2)))] → lv_has ls 3 [(0, .ref a_p1), (1, .ref a_p2), (2, .int (z9.1))] → W p l e { frames := 0, cells := 0, slots := 0, locals := 0 } s m args below meth c H locs 0 0 Q (F0 m 2 ls []) := fun z9 H locs ls ho hw hl => ih z9 o2 H locs ls (hk1 z9 ho) hw hl kx0
    have kx : ∀ (z9 : Int32 × (Nat → Int32)) (H : Heap) (locs : List Loc) (ls : Array Slot), o = .inr z9 → St D A s H locs [(a_p1, .inl (y 0, n_p1, .inl (x_p1))), (a_p2, .inl (y 0, n_p2, .inl (z9.2)))] → lv_has ls 3 [] → W p l e { frames := 0, cells := 0, slots := 0, locals := 0 } s m args below meth c H locs 0 0 Q (F0 m 21 ls []) := fun z9 H locs ls ho hw hl => by obtain rfl := hk2 z9 ho; exact kx0 H locs ls hw hl
    clear ih hk1 hk2 hlp kx0
    unfold pX10_copyAll_b2 at hp
    refine lv_iload_n C.x C.b dX10_copyAll_2 rfl (lv_at hl 2 rfl) ?_
    refine lv_sipush (v := 22955) C.x C.b dX10_copyAll_3 (by decide) ?_
    refine lv_icmp_ge (tgt := 21) C.x C.b dX10_copyAll_6 (by decide) (fun c9 => ?_) (fun c9 => ?_)
    · replace hp := it_t c9 hp
      exact kx _ H locs ls (Option.some.inj hp).symm hw (lv_sub hl [] rfl)
    · replace hp := it_f c9 hp
      refine lv_aload_n C.x C.b dX10_copyAll_9 rfl (lv_at hl 1 rfl) ?_
      refine lv_iload_n C.x C.b dX10_copyAll_10 rfl (lv_at hl 2 rfl) ?_
      refine lv_aload_n C.x C.b dX10_copyAll_11 rfl (lv_at hl 0 rfl) ?_
      refine lv_iload_n C.x C.b dX10_copyAll_12 rfl (lv_at hl 2 rfl) ?_
      obtain ⟨hi, hp⟩ := ck_some hp
      refine q_iald C hw 0 rfl hi dX10_copyAll_13 ?_
      obtain ⟨hi, hp⟩ := ck_some hp
      refine q_iast (w2 := [(a_p1, .inl (y 0, n_p1, .inl (x_p1))), (a_p2, .inl (y 0, n_p2, .inl ((upd z2.2 z2.1.toNatClampNeg (x_p1 z2.1.toNatClampNeg)))))]) C hw 1 rfl rfl hi dX10_copyAll_14 (fun H locs hw => ?_)
      refine lv_iinc (v := (z2.1 + 1)) (lv' := [(2, .int ((z2.1 + 1))), (0, .ref a_p1), (1, .ref a_p2)]) C.x C.b dX10_copyAll_15 hl (k := 2) rfl rfl (by decide) rfl (fun ls hl => ?_)
      refine lv_goto (tgt := 2) C.x C.b dX10_copyAll_18 (by decide) ?_
      exact kb _ H locs ls (Option.some.inj hp).symm hw (lv_sub hl [1, 2, 0] rfl)
set_option maxRecDepth 100000 in
set_option maxHeartbeats 4000000 in
theorem tX10_copyAll (l : Launch) (D : va_G) (y : Nat → ClassId) (a_p1 a_p2 : Nat) (n_p1 n_p2 : Nat) (x_p1 : Nat → Int32) (x_p2 : Nat → Int32) (z0 : Nat → Int32) (hp : pX10_copyAll n_p1 n_p2 x_p1 x_p2 = some z0) : CV D y l yX10_copyAll (Cond.code yX10_copyAll cX10_copyAll 3 none :: tbG) { frames := 0, cells := 0, slots := 0, locals := 0 } [.ref a_p1, .ref a_p2] [(a_p1, .inl (y 0, n_p1, .inl (x_p1))), (a_p2, .inl (y 0, n_p2, .inl (x_p2)))] [(a_p1, .inl (y 0, n_p1, .inl (x_p1))), (a_p2, .inl (y 0, n_p2, .inl (z0)))] := by
  refine CV.of (own := RX10) (by decide +kernel) rfl (Nat.le_of_ble_eq_true rfl) ?_
  intro p e s m args below meth c A H locs ls C hw hl
  have hl : lv_has ls 3 [(0, .ref a_p1), (1, .ref a_p2)] := hl
  unfold pX10_copyAll at hp
  refine lv_iconst (v := 0) C.x C.b dX10_copyAll_0 (by decide) ?_
  refine lv_istore_n (lv' := [(2, .int (0)), (0, .ref a_p1), (1, .ref a_p2)]) C.x C.b dX10_copyAll_1 rfl hl (by decide) rfl (fun ls hl => ?_)
  obtain ⟨y2, hlp, hp⟩ := bd_some hp
  refine wX10_copyAll_b2 a_p1 a_p2 n_p1 n_p2 (x_p1) C FU (0, x_p2) y2 H locs ls hlp hw (lv_sub hl [1, 2, 0] rfl) (fun H locs ls hw hl => ?_)
  obtain rfl := Option.some.inj hp
  exact q_vret C hw dX10_copyAll_21
theorem okX10_image : okY yX10_image 0 := ⟨by decide +kernel, by decide +kernel, by decide +kernel⟩
set_option maxRecDepth 100000 in
set_option maxHeartbeats 4000000 in
theorem tX10_image (l : Launch) (D : va_G) (y : Nat → ClassId) (h : Nat → Nat) (x_valued : Int32) (x_wide : Int32) (x_parted : Int32) (x_step : Int32) (x_bestForm : Int32) (x_bestWidth : Int32) (x_bestTotal : Int32) (x_bestStep : Int32) (x_cutMany : Int32) (x_cutBits : Int32) (x_written : Int32) (x_taped : Int32) (x_pos : Int32) (x_readPlaces : Int32) (x_fault : Int32) (x_faultPlace : Int32) (x_readWide : Int32) (x_readValued : Int32) (x_readForm : Int32) (x_readWidth : Int32) (x_readExceptions : Int32) (x_readBase : Int32) (x_readStep : Int32) (x_baseAt : Int32) (x_a : Nat → Int32) (x_image : Nat → Int32) (z0 : Int32 × (Nat → Int32)) (hp : pX10_image x_a x_image = some z0) : CI D y l yX10_image (Cond.code yX10_image cX10_image 1 (some .int) :: tbG) { frames := 5, cells := 0, slots := 0, locals := 108 } [.ref (h 0)] [(oX10 h (x_valued) (x_wide) (x_parted) (x_step) (x_bestForm) (x_bestWidth) (x_bestTotal) (x_bestStep) (x_cutMany) (x_cutBits) (x_written) (x_taped) (x_pos) (x_readPlaces) (x_fault) (x_faultPlace) (x_readWide) (x_readValued) (x_readForm) (x_readWidth) (x_readExceptions) (x_readBase) (x_readStep) (x_baseAt)), ((h 1), .inl (y 0, 22955, .inl (x_a))), ((h 2), .inl (y 0, 22955, .inl (x_image)))] [(oX10 h (x_valued) (x_wide) (x_parted) (x_step) (x_bestForm) (x_bestWidth) (x_bestTotal) (x_bestStep) (x_cutMany) (x_cutBits) (x_written) (x_taped) (x_pos) (x_readPlaces) (x_fault) (x_faultPlace) (x_readWide) (x_readValued) (x_readForm) (x_readWidth) (x_readExceptions) (x_readBase) (x_readStep) (x_baseAt)), ((h 1), .inl (y 0, 22955, .inl (x_a))), ((h 2), .inl (y 0, 22955, .inl (z0.2)))] (z0.1) := by
  refine CI.of (own := RX10) (by decide +kernel) rfl (Nat.le_of_ble_eq_true rfl) ?_
  intro p e s m args below meth c A H locs ls C hw hl
  have hl : lv_has ls 1 [(0, .ref (h 0))] := hl
  unfold pX10_image at hp
  refine lv_aload_n C.x C.b dX10_image_0 rfl (lv_at hl 0 rfl) ?_
  refine q_get (v := .ref (h 1)) (T := TX10) C hw 0 0 rfl rfl rfl inX10 (by decide) kw1340 rfl dX10_image_1 ?_
  refine lv_aload_n C.x C.b dX10_image_4 rfl (lv_at hl 0 rfl) ?_
  refine q_get (v := .ref (h 2)) (T := TX10) C hw 0 1 rfl rfl rfl inX10 (by decide) kw1341 rfl dX10_image_5 ?_
  obtain ⟨k8, hk, hp⟩ := bd_some hp
  refine q_aftV (wc := [((h 1), .inl (y 0, 22955, .inl (x_a))), ((h 2), .inl (y 0, 22955, .inl (x_image)))]) (wr := [(oX10 h (x_valued) (x_wide) (x_parted) (x_step) (x_bestForm) (x_bestWidth) (x_bestTotal) (x_bestStep) (x_cutMany) (x_cutBits) (x_written) (x_taped) (x_pos) (x_readPlaces) (x_fault) (x_faultPlace) (x_readWide) (x_readValued) (x_readForm) (x_readWidth) (x_readExceptions) (x_readBase) (x_readStep) (x_baseAt))]) (w1 := [((h 1), .inl (y 0, 22955, .inl (x_a))), ((h 2), .inl (y 0, 22955, .inl (k8)))]) (w2 := [(oX10 h (x_valued) (x_wide) (x_parted) (x_step) (x_bestForm) (x_bestWidth) (x_bestTotal) (x_bestStep) (x_cutMany) (x_cutBits) (x_written) (x_taped) (x_pos) (x_readPlaces) (x_fault) (x_faultPlace) (x_readWide) (x_readValued) (x_readForm) (x_readWidth) (x_readExceptions) (x_readBase) (x_readStep) (x_baseAt)), ((h 1), .inl (y 0, 22955, .inl (x_a))), ((h 2), .inl (y 0, 22955, .inl (k8)))]) C hw [1, 2] [0] [0, 1, 2] rfl rfl (by decide) (by decide) (by decide) rfl (q_runS (As := [.ref (h 1), .ref (h 2)]) (rest := []) C hw (tX10_copyAll l D y (h 1) (h 2) 22955 22955 x_a x_image k8 hk H.size) [1, 2] rfl (by decide) kw1337 kw1338 kw123 kw1339 okX10_copyAll ⟨rfl, rfl⟩ ⟨Nat.le_of_ble_eq_true rfl, Nat.le_of_ble_eq_true rfl⟩ rfl hl.1 rfl (Nat.le_of_ble_eq_true rfl) dX10_image_8 ⟨Nat.zero_le _, Nat.zero_le _⟩) (fun H locs hw => ?_)
  refine lv_aload_n C.x C.b dX10_image_11 rfl (lv_at hl 0 rfl) ?_
  obtain ⟨k12, hk, hp⟩ := bd_some hp
  refine q_aftI (wc := [(oX10 h (x_valued) (x_wide) (x_parted) (x_step) (x_bestForm) (x_bestWidth) (x_bestTotal) (x_bestStep) (x_cutMany) (x_cutBits) (x_written) (x_taped) (x_pos) (x_readPlaces) (x_fault) (x_faultPlace) (x_readWide) (x_readValued) (x_readForm) (x_readWidth) (x_readExceptions) (x_readBase) (x_readStep) (x_baseAt)), ((h 1), .inl (y 0, 22955, .inl (x_a)))]) (wr := [((h 2), .inl (y 0, 22955, .inl (k8)))]) (w1 := [(oX10 h (x_valued) (x_wide) (x_parted) (x_step) (x_bestForm) (x_bestWidth) (x_bestTotal) (x_bestStep) (x_cutMany) (x_cutBits) (x_written) (x_taped) (x_pos) (x_readPlaces) (x_fault) (x_faultPlace) (x_readWide) (x_readValued) (x_readForm) (x_readWidth) (x_readExceptions) (x_readBase) (x_readStep) (x_baseAt)), ((h 1), .inl (y 0, 22955, .inl (x_a)))]) (w2 := [(oX10 h (x_valued) (x_wide) (x_parted) (x_step) (x_bestForm) (x_bestWidth) (x_bestTotal) (x_bestStep) (x_cutMany) (x_cutBits) (x_written) (x_taped) (x_pos) (x_readPlaces) (x_fault) (x_faultPlace) (x_readWide) (x_readValued) (x_readForm) (x_readWidth) (x_readExceptions) (x_readBase) (x_readStep) (x_baseAt)), ((h 1), .inl (y 0, 22955, .inl (x_a))), ((h 2), .inl (y 0, 22955, .inl (k8)))]) C hw [0, 1] [2] [1, 2, 0] rfl rfl (by decide) (by decide) (by decide) rfl (q_runV (As := []) (rest := []) (q0 := 0) (ci := 10) C hw (tX10_placesOfAll l D y h x_valued x_wide x_parted x_step x_bestForm x_bestWidth x_bestTotal x_bestStep x_cutMany x_cutBits x_written x_taped x_pos x_readPlaces x_fault x_faultPlace x_readWide x_readValued x_readForm x_readWidth x_readExceptions x_readBase x_readStep x_baseAt x_a k12 hk H.size) [0, 1] rfl (by decide) rfl rfl kw2015 kw2017 kw111 kw123 kw2018 okX10_placesOfAll ⟨rfl, rfl⟩ ⟨Nat.le_of_ble_eq_true rfl, Nat.le_of_ble_eq_true rfl⟩ rfl hl.1 rfl (Nat.le_of_ble_eq_true rfl) dX10_image_12 ⟨Nat.zero_le _, Nat.zero_le _⟩) (fun H locs hw => ?_)
  obtain rfl := Option.some.inj hp
  exact q_iret C hw rfl dX10_image_15
theorem okX10_back : okY yX10_back 0 := ⟨by decide +kernel, by decide +kernel, by decide +kernel⟩
set_option maxRecDepth 100000 in
set_option maxHeartbeats 4000000 in
theorem tX10_back (l : Launch) (D : va_G) (y : Nat → ClassId) (h : Nat → Nat) (x_valued : Int32) (x_wide : Int32) (x_parted : Int32) (x_step : Int32) (x_bestForm : Int32) (x_bestWidth : Int32) (x_bestTotal : Int32) (x_bestStep : Int32) (x_cutMany : Int32) (x_cutBits : Int32) (x_written : Int32) (x_taped : Int32) (x_pos : Int32) (x_readPlaces : Int32) (x_fault : Int32) (x_faultPlace : Int32) (x_readWide : Int32) (x_readValued : Int32) (x_readForm : Int32) (x_readWidth : Int32) (x_readExceptions : Int32) (x_readBase : Int32) (x_readStep : Int32) (x_baseAt : Int32) (x_a : Nat → Int32) (x_image : Nat → Int32) (z0 : Int32 × (Nat → Int32)) (hp : pX10_back x_a x_image = some z0) : CI D y l yX10_back (Cond.code yX10_back cX10_back 1 (some .int) :: tbG) { frames := 5, cells := 0, slots := 0, locals := 108 } [.ref (h 0)] [(oX10 h (x_valued) (x_wide) (x_parted) (x_step) (x_bestForm) (x_bestWidth) (x_bestTotal) (x_bestStep) (x_cutMany) (x_cutBits) (x_written) (x_taped) (x_pos) (x_readPlaces) (x_fault) (x_faultPlace) (x_readWide) (x_readValued) (x_readForm) (x_readWidth) (x_readExceptions) (x_readBase) (x_readStep) (x_baseAt)), ((h 1), .inl (y 0, 22955, .inl (x_a))), ((h 2), .inl (y 0, 22955, .inl (x_image)))] [(oX10 h (x_valued) (x_wide) (x_parted) (x_step) (x_bestForm) (x_bestWidth) (x_bestTotal) (x_bestStep) (x_cutMany) (x_cutBits) (x_written) (x_taped) (x_pos) (x_readPlaces) (x_fault) (x_faultPlace) (x_readWide) (x_readValued) (x_readForm) (x_readWidth) (x_readExceptions) (x_readBase) (x_readStep) (x_baseAt)), ((h 1), .inl (y 0, 22955, .inl (z0.2))), ((h 2), .inl (y 0, 22955, .inl (x_image)))] (z0.1) := by
  refine CI.of (own := RX10) (by decide +kernel) rfl (Nat.le_of_ble_eq_true rfl) ?_
  intro p e s m args below meth c A H locs ls C hw hl
  have hl : lv_has ls 1 [(0, .ref (h 0))] := hl
  unfold pX10_back at hp
  refine lv_aload_n C.x C.b dX10_back_0 rfl (lv_at hl 0 rfl) ?_
  refine q_get (v := .ref (h 2)) (T := TX10) C hw 0 1 rfl rfl rfl inX10 (by decide) kw1341 rfl dX10_back_1 ?_
  refine lv_aload_n C.x C.b dX10_back_4 rfl (lv_at hl 0 rfl) ?_
  refine q_get (v := .ref (h 1)) (T := TX10) C hw 0 0 rfl rfl rfl inX10 (by decide) kw1340 rfl dX10_back_5 ?_
  obtain ⟨k8, hk, hp⟩ := bd_some hp
  refine q_aftV (wc := [((h 2), .inl (y 0, 22955, .inl (x_image))), ((h 1), .inl (y 0, 22955, .inl (x_a)))]) (wr := [(oX10 h (x_valued) (x_wide) (x_parted) (x_step) (x_bestForm) (x_bestWidth) (x_bestTotal) (x_bestStep) (x_cutMany) (x_cutBits) (x_written) (x_taped) (x_pos) (x_readPlaces) (x_fault) (x_faultPlace) (x_readWide) (x_readValued) (x_readForm) (x_readWidth) (x_readExceptions) (x_readBase) (x_readStep) (x_baseAt))]) (w1 := [((h 2), .inl (y 0, 22955, .inl (x_image))), ((h 1), .inl (y 0, 22955, .inl (k8)))]) (w2 := [(oX10 h (x_valued) (x_wide) (x_parted) (x_step) (x_bestForm) (x_bestWidth) (x_bestTotal) (x_bestStep) (x_cutMany) (x_cutBits) (x_written) (x_taped) (x_pos) (x_readPlaces) (x_fault) (x_faultPlace) (x_readWide) (x_readValued) (x_readForm) (x_readWidth) (x_readExceptions) (x_readBase) (x_readStep) (x_baseAt)), ((h 1), .inl (y 0, 22955, .inl (k8))), ((h 2), .inl (y 0, 22955, .inl (x_image)))]) C hw [2, 1] [0] [0, 2, 1] rfl rfl (by decide) (by decide) (by decide) rfl (q_runS (As := [.ref (h 2), .ref (h 1)]) (rest := []) C hw (tX10_copyAll l D y (h 2) (h 1) 22955 22955 x_image x_a k8 hk H.size) [2, 1] rfl (by decide) kw1337 kw1338 kw123 kw1339 okX10_copyAll ⟨rfl, rfl⟩ ⟨Nat.le_of_ble_eq_true rfl, Nat.le_of_ble_eq_true rfl⟩ rfl hl.1 rfl (Nat.le_of_ble_eq_true rfl) dX10_back_8 ⟨Nat.zero_le _, Nat.zero_le _⟩) (fun H locs hw => ?_)
  refine lv_aload_n C.x C.b dX10_back_11 rfl (lv_at hl 0 rfl) ?_
  obtain ⟨k12, hk, hp⟩ := bd_some hp
  refine q_aftI (wc := [(oX10 h (x_valued) (x_wide) (x_parted) (x_step) (x_bestForm) (x_bestWidth) (x_bestTotal) (x_bestStep) (x_cutMany) (x_cutBits) (x_written) (x_taped) (x_pos) (x_readPlaces) (x_fault) (x_faultPlace) (x_readWide) (x_readValued) (x_readForm) (x_readWidth) (x_readExceptions) (x_readBase) (x_readStep) (x_baseAt)), ((h 1), .inl (y 0, 22955, .inl (k8)))]) (wr := [((h 2), .inl (y 0, 22955, .inl (x_image)))]) (w1 := [(oX10 h (x_valued) (x_wide) (x_parted) (x_step) (x_bestForm) (x_bestWidth) (x_bestTotal) (x_bestStep) (x_cutMany) (x_cutBits) (x_written) (x_taped) (x_pos) (x_readPlaces) (x_fault) (x_faultPlace) (x_readWide) (x_readValued) (x_readForm) (x_readWidth) (x_readExceptions) (x_readBase) (x_readStep) (x_baseAt)), ((h 1), .inl (y 0, 22955, .inl (k8)))]) (w2 := [(oX10 h (x_valued) (x_wide) (x_parted) (x_step) (x_bestForm) (x_bestWidth) (x_bestTotal) (x_bestStep) (x_cutMany) (x_cutBits) (x_written) (x_taped) (x_pos) (x_readPlaces) (x_fault) (x_faultPlace) (x_readWide) (x_readValued) (x_readForm) (x_readWidth) (x_readExceptions) (x_readBase) (x_readStep) (x_baseAt)), ((h 1), .inl (y 0, 22955, .inl (k8))), ((h 2), .inl (y 0, 22955, .inl (x_image)))]) C hw [0, 1] [2] [1, 2, 0] rfl rfl (by decide) (by decide) (by decide) rfl (q_runV (As := []) (rest := []) (q0 := 0) (ci := 10) C hw (tX10_placesOfAll l D y h x_valued x_wide x_parted x_step x_bestForm x_bestWidth x_bestTotal x_bestStep x_cutMany x_cutBits x_written x_taped x_pos x_readPlaces x_fault x_faultPlace x_readWide x_readValued x_readForm x_readWidth x_readExceptions x_readBase x_readStep x_baseAt k8 k12 hk H.size) [0, 1] rfl (by decide) rfl rfl kw2015 kw2017 kw111 kw123 kw2018 okX10_placesOfAll ⟨rfl, rfl⟩ ⟨Nat.le_of_ble_eq_true rfl, Nat.le_of_ble_eq_true rfl⟩ rfl hl.1 rfl (Nat.le_of_ble_eq_true rfl) dX10_back_12 ⟨Nat.zero_le _, Nat.zero_le _⟩) (fun H locs hw => ?_)
  obtain rfl := Option.some.inj hp
  exact q_iret C hw rfl dX10_back_15

