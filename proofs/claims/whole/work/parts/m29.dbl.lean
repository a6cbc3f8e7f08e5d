/-! ===== doubles that are no NaN ===== -/
theorem nn_some {α : Type} {x : UInt64} {o : Option α} {r : α} (h : nn x o = some r) : vf_n64 x ∧ o = some r := by
  unfold nn at h
  split at h
  · rename_i hc
    exact ⟨hc, h⟩
  · cases h
theorem q_raw {D : va_G} {y : Nat → ClassId} {p : Program} {l : Launch} {e : Env} {R : Room} {s : State} {m : MethodId} {args : Array Value} {below : List Frame} {meth : Method} {c : Code} {H : Heap} {locs : List Loc} {cells slots : Nat} {Q : State → Prop} {A : Nat → Prop} {own : String} {cc : ByteArray} {cd : Cond} {ret : Option FieldType} {nL pc index : Nat} {ls : Array Slot} {rest : List Value} {lvl9 : List (Nat × Value)} {b : UInt64} (C : Cx D y p s m args meth c A own cc cd ret nL) (hl : lv_has ls nL lvl9) (hlink : Cond.methodLink own index ⟨"java/lang/Double", "doubleToRawLongBits", "(D)J"⟩ ∈ tbG) (hnat : Cond.native ⟨"java/lang/Double", "doubleToRawLongBits", "(D)J"⟩ ∈ tbG) (hstat : Cond.static ⟨"java/lang/Double", "doubleToRawLongBits", "(D)J"⟩ ∈ tbG) (hini : Cond.initialized "java/lang/Double" ∈ tbG) (hframes : 1 ≤ R.frames) (hlocals : (rest.map fun v => v.category).sum + 15 ≤ R.locals) (hdg : decode cc pc = .ok (.invokestatic index, 3))
    (kk : W p l e R s m args below meth c H locs cells slots Q (F0 m (pc + 3) ls (.long b.toInt64 :: rest))) : W p l e R s m args below meth c H locs cells slots Q (F0 m pc ls (.double b :: rest)) :=
  vn_d2l C.x C.b (C.ml.trans hl.1.symm) C.ow (C.ts _ (List.mem_cons_of_mem _ hlink)) (C.ts _ (List.mem_cons_of_mem _ hnat)) (C.ts _ (List.mem_cons_of_mem _ hstat)) (C.ts _ (List.mem_cons_of_mem _ hini)) hframes hlocals hdg kk
theorem okJxe99ae_isNaN_b9ae7 : okY yJxe99ae_isNaN_b9ae7 1 := ⟨by decide +kernel, by decide +kernel, by decide +kernel⟩
set_option maxRecDepth 100000 in
set_option maxHeartbeats 4000000 in
theorem tJxe99ae_isNaN_b9ae7 (l : Launch) (D : va_G) (y : Nat → ClassId) (v0 : UInt64) (z0 : Int32) (hp : pJxe99ae_isNaN_b9ae7 v0 = some z0) : CZ D y l yJxe99ae_isNaN_b9ae7 (Cond.code yJxe99ae_isNaN_b9ae7 cJxe99ae_isNaN_b9ae7 2 (some .boolean) :: tbG) { frames := 0, cells := 0, slots := 0, locals := 0 } [.double (v0)] [] [] (z0) := by
  refine CZ.of (own := RJxe99ae) (by decide +kernel) rfl (Nat.le_of_ble_eq_true rfl) ?_
  intro p e s m args below meth c A H locs ls C hw hl
  have hl : lv_has ls 2 [(0, .double (v0))] := hl
  unfold pJxe99ae_isNaN_b9ae7 at hp
  refine lv_dload_n C.x C.b dJxe99ae_isNaN_b9ae7_0 rfl (lv_at hl 0 rfl) ?_
  refine lv_dload_n C.x C.b dJxe99ae_isNaN_b9ae7_1 rfl (lv_at hl 0 rfl) ?_
  refine lv_dcmp C.x C.b dJxe99ae_isNaN_b9ae7_2 ?_
  refine lv_if_eq (tgt := 10) C.x C.b dJxe99ae_isNaN_b9ae7_3 (by decide) (fun c3 => ?_) (fun c3 => ?_)
  · replace hp := it_t c3 hp
    refine lv_iconst (v := 0) C.x C.b dJxe99ae_isNaN_b9ae7_10 (by decide) ?_
    obtain rfl := Option.some.inj hp
    exact q_zret C hw (by decide) rfl dJxe99ae_isNaN_b9ae7_11
  · replace hp := it_f c3 hp
    refine lv_iconst (v := 1) C.x C.b dJxe99ae_isNaN_b9ae7_6 (by decide) ?_
    refine lv_goto (tgt := 11) C.x C.b dJxe99ae_isNaN_b9ae7_7 (by decide) ?_
    obtain rfl := Option.some.inj hp
    exact q_zret C hw (by decide) rfl dJxe99ae_isNaN_b9ae7_11
theorem okJxe99ae_doubleToLongBits_ccdee : okY yJxe99ae_doubleToLongBits_ccdee 1 := ⟨by decide +kernel, by decide +kernel, by decide +kernel⟩
set_option maxRecDepth 100000 in
set_option maxHeartbeats 4000000 in
theorem tJxe99ae_doubleToLongBits_ccdee (l : Launch) (D : va_G) (y : Nat → ClassId) (v0 : UInt64) (z0 : Int64) (hp : pJxe99ae_doubleToLongBits_ccdee v0 = some z0) : CL D y l yJxe99ae_doubleToLongBits_ccdee (Cond.code yJxe99ae_doubleToLongBits_ccdee cJxe99ae_doubleToLongBits_ccdee 2 (some .long) :: tbG) { frames := 1, cells := 0, slots := 0, locals := 31 } [.double (v0)] [] [] (z0) := by
  refine CL.of (own := RJxe99ae) (by decide +kernel) rfl (Nat.le_of_ble_eq_true rfl) ?_
  intro p e s m args below meth c A H locs ls C hw hl
  have hl : lv_has ls 2 [(0, .double (v0))] := hl
  unfold pJxe99ae_doubleToLongBits_ccdee at hp
  refine lv_dload_n C.x C.b dJxe99ae_doubleToLongBits_ccdee_0 rfl (lv_at hl 0 rfl) ?_
  obtain ⟨k1, hk, hp⟩ := bd_some hp
  refine q_aftZ (wc := []) (wr := []) (w1 := []) (w2 := []) C hw [] [] [] rfl rfl (by decide) (by decide) (by decide) rfl (q_runS (As := [.double (v0)]) (rest := []) C hw (tJxe99ae_isNaN_b9ae7 l D y v0 k1 hk H.size) [] rfl (by decide) kw2004 kw2005 kw129 kw2006 okJxe99ae_isNaN_b9ae7 ⟨rfl, rfl⟩ ⟨Nat.le_of_ble_eq_true rfl, Nat.le_of_ble_eq_true rfl⟩ rfl hl.1 rfl (Nat.le_of_ble_eq_true rfl) dJxe99ae_doubleToLongBits_ccdee_1 ⟨Nat.zero_le _, Nat.zero_le _⟩) (fun H locs hz1 hw => ?_)
  refine lv_if_ne (tgt := 12) C.x C.b dJxe99ae_doubleToLongBits_ccdee_4 (by decide) (fun c4 => ?_) (fun c4 => ?_)
  · replace hp := it_f c4 hp
    refine lv_ldc2 C.x C.b C.ow (C.ts _ (List.mem_cons_of_mem _ kw2010)) dJxe99ae_doubleToLongBits_ccdee_12 ?_
    obtain rfl := Option.some.inj hp
    exact q_lret C hw rfl dJxe99ae_doubleToLongBits_ccdee_15
  · replace hp := it_t c4 hp
    refine lv_dload_n C.x C.b dJxe99ae_doubleToLongBits_ccdee_7 rfl (lv_at hl 0 rfl) ?_
    refine q_raw C hl kw2007 kw2009 kw2008 kw129 (Nat.le_of_ble_eq_true rfl) (Nat.le_of_ble_eq_true rfl) dJxe99ae_doubleToLongBits_ccdee_8 ?_
    obtain rfl := Option.some.inj hp
    exact q_lret C hw rfl dJxe99ae_doubleToLongBits_ccdee_11
theorem okX9_bitsOfDouble : okY yX9_bitsOfDouble 1 := ⟨by decide +kernel, by decide +kernel, by decide +kernel⟩
set_option maxRecDepth 100000 in
set_option maxHeartbeats 4000000 in
theorem wX9_bitsOfDouble_b10 {D : va_G} {y : Nat → ClassId} {p : Program} {l : Launch} {e : Env} {s : State} {m : MethodId} {args : Array Value} {below : List Frame} {meth : Method} {c : Code} {A : Nat → Prop}    (C : Cx D y p s m args meth c A RX9 cX9_bitsOfDouble (Cond.code yX9_bitsOfDouble cX9_bitsOfDouble 7 (some .long)) (some .long) 7) {Q : State → Prop} : ∀ (k : Nat) (z10 : UInt64 × Int64 × Int32) (o10 : UInt64 × Int64 × Int32) (H : Heap) (locs : List Loc) (ls : Array Slot), lp (pX9_bitsOfDouble_b10 ) k z10 = some o10 → St D A s H locs [] → lv_has ls 7 [(2, .double (z10.1)), (4, .long (z10.2.1)), (6, .int (z10.2.2))] → (∀ (H : Heap) (locs : List Loc) (ls : Array Slot), St D A s H locs [] → lv_has ls 7 [(2, .double (o10.1)), (4, .long (o10.2.1))] → W p l e { frames := 0, cells := 0, slots := 0, locals := 0 } s m args below meth c H locs 0 0 Q (F0 m 43 ls [])) → W p l e { frames := 0, cells := 0, slots := 0, locals := 0 } s m args below meth c H locs 0 0 Q (F0 m 10 ls []) := by
  intro k
  induction k with
  | zero => intro z10 o9 H locs ls hp; exact lp_zero hp
  | succ k ih =>
    intro z10 o10 H locs ls hlp hw hl kx0
    obtain ⟨o, hp, hk1, hk2⟩ := lp_succ hlp
    have kb : ∀ (z9 : UInt64 × Int64 × Int32) (H : Heap) (locs : List Loc) (ls : Array Slot), o = .inl z9 → St D A s H locs [] → lv_has ls 7 [(2, .double (z9.1)), (4, .long (z9.2.1)), (6, .int (z9.2.2))] → W p l e { frames := 0, cells := 0, slots := 0, locals := 0 } s m args below meth c H locs 0 0 Q (F0 m 10 ls []) := fun z9 H locs ls ho hw hl => ih z9 o10 H locs ls (hk1 z9 ho) hw hl kx0
    have kx : ∀ (z9 : UInt64 × Int64 × Int32) (H : Heap) (locs : List Loc) (ls : Array Slot), o = .inr z9 → St D A s H locs [] → lv_has ls 7 [(2, .double (z9.1)), (4, .long (z9.2.1))] → W p l e { frames := 0, cells := 0, slots := 0, locals := 0 } s m args below meth c H locs 0 0 Q (F0 m 43 ls []) := fun z9 H locs ls ho hw hl => by obtain rfl := hk2 z9 ho; exact kx0 H locs ls hw hl
    clear ih hk1 hk2 hlp kx0
    unfold pX9_bitsOfDouble_b10 at hp
    refine lv_iload C.x C.b dX9_bitsOfDouble_10 (lv_at hl 2 rfl) ?_
    refine lv_bipush (v := 64) C.x C.b dX9_bitsOfDouble_12 (by decide) ?_
    refine lv_icmp_ge (tgt := 43) C.x C.b dX9_bitsOfDouble_14 (by decide) (fun c14 => ?_) (fun c14 => ?_)
    · replace hp := it_t c14 hp
      exact kx _ H locs ls (Option.some.inj hp).symm hw (lv_sub hl [0, 1] rfl)
    · replace hp := it_f c14 hp
      refine lv_dload_n C.x C.b dX9_bitsOfDouble_17 rfl (lv_at hl 0 rfl) ?_
      refine lv_ldc2d C.x C.b C.ow (C.ts _ (List.mem_cons_of_mem _ kw1308)) dX9_bitsOfDouble_18 ?_
      refine lv_dcmp C.x C.b dX9_bitsOfDouble_21 ?_
      refine lv_if_lt (tgt := 43) C.x C.b dX9_bitsOfDouble_22 (by decide) (fun c22 => ?_) (fun c22 => ?_)
      · replace hp := it_t c22 hp
        exact kx _ H locs ls (Option.some.inj hp).symm hw (lv_sub hl [0, 1] rfl)
      · replace hp := it_f c22 hp
        refine lv_dload_n C.x C.b dX9_bitsOfDouble_25 rfl (lv_at hl 0 rfl) ?_
        refine lv_ldc2d C.x C.b C.ow (C.ts _ (List.mem_cons_of_mem _ kw1308)) dX9_bitsOfDouble_26 ?_
        obtain ⟨hi, hp⟩ := nn_some hp
        refine lv_ddiv C.x C.b dX9_bitsOfDouble_29 hi ?_
        refine lv_dstore_n (lv' := [(2, .double ((FP.ddiv z10.1 (4611686018427387904)))), (4, .long (z10.2.1)), (6, .int (z10.2.2))]) C.x C.b dX9_bitsOfDouble_30 rfl hl (by decide) rfl (fun ls hl => ?_)
        refine lv_lload C.x C.b dX9_bitsOfDouble_31 (lv_at hl 1 rfl) ?_
        refine lv_lconst (v := 1) C.x C.b dX9_bitsOfDouble_33 (by decide) ?_
        refine lv_ladd C.x C.b dX9_bitsOfDouble_34 ?_
        refine lv_lstore (lv' := [(4, .long ((z10.2.1 + 1))), (2, .double ((FP.ddiv z10.1 (4611686018427387904)))), (6, .int (z10.2.2))]) C.x C.b dX9_bitsOfDouble_35 hl (by decide) rfl (fun ls hl => ?_)
        refine lv_iinc (v := (z10.2.2 + 1)) (lv' := [(6, .int ((z10.2.2 + 1))), (4, .long ((z10.2.1 + 1))), (2, .double ((FP.ddiv z10.1 (4611686018427387904))))]) C.x C.b dX9_bitsOfDouble_37 hl (k := 2) rfl rfl (by decide) rfl (fun ls hl => ?_)
        refine lv_goto (tgt := 10) C.x C.b dX9_bitsOfDouble_40 (by decide) ?_
        exact kb _ H locs ls (Option.some.inj hp).symm hw (lv_sub hl [2, 1, 0] rfl)
set_option maxRecDepth 100000 in
set_option maxHeartbeats 4000000 in
theorem wX9_bitsOfDouble_b46 {D : va_G} {y : Nat → ClassId} {p : Program} {l : Launch} {e : Env} {s : State} {m : MethodId} {args : Array Value} {below : List Frame} {meth : Method} {c : Code} {A : Nat → Prop}    (C : Cx D y p s m args meth c A RX9 cX9_bitsOfDouble (Cond.code yX9_bitsOfDouble cX9_bitsOfDouble 7 (some .long)) (some .long) 7) {Q : State → Prop} : ∀ (k : Nat) (z46 : UInt64 × Int64 × Int32) (o46 : UInt64 × Int64 × Int32) (H : Heap) (locs : List Loc) (ls : Array Slot), lp (pX9_bitsOfDouble_b46 ) k z46 = some o46 → St D A s H locs [] → lv_has ls 7 [(2, .double (z46.1)), (4, .long (z46.2.1)), (6, .int (z46.2.2))] → (∀ (H : Heap) (locs : List Loc) (ls : Array Slot), St D A s H locs [] → lv_has ls 7 [(2, .double (o46.1)), (4, .long (o46.2.1))] → W p l e { frames := 0, cells := 0, slots := 0, locals := 0 } s m args below meth c H locs 0 0 Q (F0 m 77 ls [])) → W p l e { frames := 0, cells := 0, slots := 0, locals := 0 } s m args below meth c H locs 0 0 Q (F0 m 46 ls []) := by
  intro k
  induction k with
  | zero => intro z46 o9 H locs ls hp; exact lp_zero hp
  | succ k ih =>
    intro z46 o46 H locs ls hlp hw hl kx0
    obtain ⟨o, hp, hk1, hk2⟩ := lp_succ hlp
    have kb : ∀ (z9 : UInt64 × Int64 × Int32) (H : Heap) (locs : List Loc) (ls : Array Slot), o = .inl z9 → St D A s H locs [] → lv_has ls 7 [(2, .double (z9.1)), (4, .long (z9.2.1)), (6, .int (z9.2.2))] → W p l e { frames := 0, cells := 0, slots := 0, locals := 0 } s m args below meth c H locs 0 0 Q (F0 m 46 ls []) := fun z9 H locs ls ho hw hl => ih z9 o46 H locs ls (hk1 z9 ho) hw hl kx0
    have kx : ∀ (z9 : UInt64 × Int64 × Int32) (H : Heap) (locs : List Loc) (ls : Array Slot), o = .inr z9 → St D A s H locs [] → lv_has ls 7 [(2, .double (z9.1)), (4, .long (z9.2.1))] → W p l e { frames := 0, cells := 0, slots := 0, locals := 0 } s m args below meth c H locs 0 0 Q (F0 m 77 ls []) := fun z9 H locs ls ho hw hl => by obtain rfl := hk2 z9 ho; exact kx0 H locs ls hw hl
    clear ih hk1 hk2 hlp kx0
    unfold pX9_bitsOfDouble_b46 at hp
    refine lv_iload C.x C.b dX9_bitsOfDouble_46 (lv_at hl 2 rfl) ?_
    refine lv_bipush (v := 64) C.x C.b dX9_bitsOfDouble_48 (by decide) ?_
    refine lv_icmp_ge (tgt := 77) C.x C.b dX9_bitsOfDouble_50 (by decide) (fun c50 => ?_) (fun c50 => ?_)
    · replace hp := it_t c50 hp
      exact kx _ H locs ls (Option.some.inj hp).symm hw (lv_sub hl [0, 1] rfl)
    · replace hp := it_f c50 hp
      refine lv_dload_n C.x C.b dX9_bitsOfDouble_53 rfl (lv_at hl 0 rfl) ?_
      refine lv_dconst1 C.x C.b dX9_bitsOfDouble_54 ?_
      refine lv_dcmp C.x C.b dX9_bitsOfDouble_55 ?_
      refine lv_if_ge (tgt := 77) C.x C.b dX9_bitsOfDouble_56 (by decide) (fun c56 => ?_) (fun c56 => ?_)
      · replace hp := it_t c56 hp
        exact kx _ H locs ls (Option.some.inj hp).symm hw (lv_sub hl [0, 1] rfl)
      · replace hp := it_f c56 hp
        refine lv_dload_n C.x C.b dX9_bitsOfDouble_59 rfl (lv_at hl 0 rfl) ?_
        refine lv_ldc2d C.x C.b C.ow (C.ts _ (List.mem_cons_of_mem _ kw1308)) dX9_bitsOfDouble_60 ?_
        obtain ⟨hi, hp⟩ := nn_some hp
        refine lv_dmul C.x C.b dX9_bitsOfDouble_63 hi ?_
        refine lv_dstore_n (lv' := [(2, .double ((FP.dmul z46.1 (4611686018427387904)))), (4, .long (z46.2.1)), (6, .int (z46.2.2))]) C.x C.b dX9_bitsOfDouble_64 rfl hl (by decide) rfl (fun ls hl => ?_)
        refine lv_lload C.x C.b dX9_bitsOfDouble_65 (lv_at hl 1 rfl) ?_
        refine lv_lconst (v := 1) C.x C.b dX9_bitsOfDouble_67 (by decide) ?_
        refine lv_lsub C.x C.b dX9_bitsOfDouble_68 ?_
        refine lv_lstore (lv' := [(4, .long ((z46.2.1 - 1))), (2, .double ((FP.dmul z46.1 (4611686018427387904)))), (6, .int (z46.2.2))]) C.x C.b dX9_bitsOfDouble_69 hl (by decide) rfl (fun ls hl => ?_)
        refine lv_iinc (v := (z46.2.2 + 1)) (lv' := [(6, .int ((z46.2.2 + 1))), (4, .long ((z46.2.1 - 1))), (2, .double ((FP.dmul z46.1 (4611686018427387904))))]) C.x C.b dX9_bitsOfDouble_71 hl (k := 2) rfl rfl (by decide) rfl (fun ls hl => ?_)
        refine lv_goto (tgt := 46) C.x C.b dX9_bitsOfDouble_74 (by decide) ?_
        exact kb _ H locs ls (Option.some.inj hp).symm hw (lv_sub hl [2, 1, 0] rfl)
set_option maxRecDepth 100000 in
set_option maxHeartbeats 4000000 in
theorem tX9_bitsOfDouble (l : Launch) (D : va_G) (y : Nat → ClassId) (v0 : UInt64) (z0 : Int64) (hp : pX9_bitsOfDouble v0 = some z0) : CL D y l yX9_bitsOfDouble (Cond.code yX9_bitsOfDouble cX9_bitsOfDouble 7 (some .long) :: tbG) { frames := 0, cells := 0, slots := 0, locals := 0 } [.double (v0)] [] [] (z0) := by
  refine CL.of (own := RX9) (by decide +kernel) rfl (Nat.le_of_ble_eq_true rfl) ?_
  intro p e s m args below meth c A H locs ls C hw hl
  have hl : lv_has ls 7 [(0, .double (v0))] := hl
  unfold pX9_bitsOfDouble at hp
  refine lv_dload_n C.x C.b dX9_bitsOfDouble_0 rfl (lv_at hl 0 rfl) ?_
  refine lv_dstore_n (lv' := [(2, .double (v0)), (0, .double (v0))]) C.x C.b dX9_bitsOfDouble_1 rfl hl (by decide) rfl (fun ls hl => ?_)
  refine lv_ldc2 C.x C.b C.ow (C.ts _ (List.mem_cons_of_mem _ kw1307)) dX9_bitsOfDouble_2 ?_
  refine lv_lstore (lv' := [(4, .long ((1023))), (2, .double (v0)), (0, .double (v0))]) C.x C.b dX9_bitsOfDouble_5 hl (by decide) rfl (fun ls hl => ?_)
  refine lv_iconst (v := 0) C.x C.b dX9_bitsOfDouble_7 (by decide) ?_
  refine lv_istore (lv' := [(6, .int (0)), (4, .long ((1023))), (2, .double (v0)), (0, .double (v0))]) C.x C.b dX9_bitsOfDouble_8 hl (by decide) rfl (fun ls hl => ?_)
  obtain ⟨y10, hlp, hp⟩ := bd_some hp
  refine wX9_bitsOfDouble_b10  C FU (v0, (1023), 0) y10 H locs ls hlp hw (lv_sub hl [2, 1, 0] rfl) (fun H locs ls hw hl => ?_)
  refine lv_iconst (v := 0) C.x C.b dX9_bitsOfDouble_43 (by decide) ?_
  refine lv_istore (lv' := [(6, .int (0)), (2, .double (y10.1)), (4, .long (y10.2.1))]) C.x C.b dX9_bitsOfDouble_44 hl (by decide) rfl (fun ls hl => ?_)
  obtain ⟨y46, hlp, hp⟩ := bd_some hp
  refine wX9_bitsOfDouble_b46  C FU (y10.1, y10.2.1, 0) y46 H locs ls hlp hw (lv_sub hl [1, 2, 0] rfl) (fun H locs ls hw hl => ?_)
  refine lv_lload C.x C.b dX9_bitsOfDouble_77 (lv_at hl 1 rfl) ?_
  refine lv_bipush (v := 52) C.x C.b dX9_bitsOfDouble_79 (by decide) ?_
  refine lv_lshl C.x C.b dX9_bitsOfDouble_81 rfl ?_
  refine lv_dload_n C.x C.b dX9_bitsOfDouble_82 rfl (lv_at hl 0 rfl) ?_
  refine lv_dconst1 C.x C.b dX9_bitsOfDouble_83 ?_
  obtain ⟨hi, hp⟩ := nn_some hp
  refine lv_dsub C.x C.b dX9_bitsOfDouble_84 hi ?_
  refine lv_ldc2d C.x C.b C.ow (C.ts _ (List.mem_cons_of_mem _ kw1309)) dX9_bitsOfDouble_85 ?_
  obtain ⟨hi, hp⟩ := nn_some hp
  refine lv_dmul C.x C.b dX9_bitsOfDouble_88 hi ?_
  refine lv_d2l C.x C.b dX9_bitsOfDouble_89 ?_
  refine lv_lor C.x C.b dX9_bitsOfDouble_90 ?_
  obtain rfl := Option.some.inj hp
  exact q_lret C hw rfl dX9_bitsOfDouble_91
theorem okX9_ratio : okY yX9_ratio 1 := ⟨by decide +kernel, by decide +kernel, by decide +kernel⟩
set_option maxRecDepth 100000 in
set_option maxHeartbeats 4000000 in
theorem tX9_ratio (l : Launch) (D : va_G) (y : Nat → ClassId) (a_this a_c a_this_now a_this_history a_this_imageState a_this_imageHistory a_this_tape a_this_measure a_this_scribe a_this_opener a_this_cutter a_this_spare a_this_now_columns a_this_now_pending a_c_row a_c_facts a_c_row_told : Nat) (v1 : Int32) (x_opened : Int32) (x_now_x : Int32) (x_now_columns : Nat → Option Nat) (x_c_blocks : Int32) (x_c_row_held : Int32) (x_c_facts : Nat → Int32) (hf1 : ¬ v1 < 0 → ¬ 3 ≤ v1 → x_now_columns v1.toNatClampNeg = some a_c) (z0 : Int64) (hp : pX9_ratio v1 x_now_columns x_c_blocks x_c_row_held x_c_facts = some z0) : CL D y l yX9_ratio (Cond.code yX9_ratio cX9_ratio 5 (some .long) :: tbG) { frames := 3, cells := 0, slots := 0, locals := 66 } [.ref a_this, .int (v1)] [(a_this, .inr (9, [.ref a_this_now, .ref a_this_history, .ref a_this_imageState, .ref a_this_imageHistory, .ref a_this_tape, .ref a_this_measure, .ref a_this_scribe, .ref a_this_opener, .ref a_this_cutter, .ref a_this_spare, .int (x_opened)])), (a_this_now, .inr (7, [.ref a_this_now_columns, .ref a_this_now_pending, .int (x_now_x)])), (a_this_now_columns, .inl (y 3, 3, .inr (.inr (.inr (.inr (x_now_columns)))))), (a_c, .inr (0, [.ref a_c_row, .ref a_c_facts, .int (x_c_blocks)])), (a_c_row, .inr (5, [.ref a_c_row_told, .int (x_c_row_held)])), (a_c_facts, .inl (y 0, 192, .inl (x_c_facts)))] [(a_this, .inr (9, [.ref a_this_now, .ref a_this_history, .ref a_this_imageState, .ref a_this_imageHistory, .ref a_this_tape, .ref a_this_measure, .ref a_this_scribe, .ref a_this_opener, .ref a_this_cutter, .ref a_this_spare, .int (x_opened)])), (a_this_now, .inr (7, [.ref a_this_now_columns, .ref a_this_now_pending, .int (x_now_x)])), (a_this_now_columns, .inl (y 3, 3, .inr (.inr (.inr (.inr (x_now_columns)))))), (a_c, .inr (0, [.ref a_c_row, .ref a_c_facts, .int (x_c_blocks)])), (a_c_row, .inr (5, [.ref a_c_row_told, .int (x_c_row_held)])), (a_c_facts, .inl (y 0, 192, .inl (x_c_facts)))] (z0) := by
  refine CL.of (own := RX9) (by decide +kernel) rfl (Nat.le_of_ble_eq_true rfl) ?_
  intro p e s m args below meth c A H locs ls C hw hl
  have hl : lv_has ls 5 [(0, .ref a_this), (1, .int (v1))] := hl
  unfold pX9_ratio at hp
  refine lv_aload_n C.x C.b dX9_ratio_0 rfl (lv_at hl 0 rfl) ?_
  refine lv_iload_n C.x C.b dX9_ratio_1 rfl (lv_at hl 1 rfl) ?_
  obtain ⟨k2, hk, hp⟩ := bd_some hp
  refine q_aftQ (wc := [(a_this, .inr (9, [.ref a_this_now, .ref a_this_history, .ref a_this_imageState, .ref a_this_imageHistory, .ref a_this_tape, .ref a_this_measure, .ref a_this_scribe, .ref a_this_opener, .ref a_this_cutter, .ref a_this_spare, .int (x_opened)])), (a_this_now, .inr (7, [.ref a_this_now_columns, .ref a_this_now_pending, .int (x_now_x)])), (a_this_now_columns, .inl (y 3, 3, .inr (.inr (.inr (.inr (x_now_columns)))))), (a_c, .inr (0, [.ref a_c_row, .ref a_c_facts, .int (x_c_blocks)]))]) (wr := [(a_c_row, .inr (5, [.ref a_c_row_told, .int (x_c_row_held)])), (a_c_facts, .inl (y 0, 192, .inl (x_c_facts)))]) (w1 := [(a_this, .inr (9, [.ref a_this_now, .ref a_this_history, .ref a_this_imageState, .ref a_this_imageHistory, .ref a_this_tape, .ref a_this_measure, .ref a_this_scribe, .ref a_this_opener, .ref a_this_cutter, .ref a_this_spare, .int (x_opened)])), (a_this_now, .inr (7, [.ref a_this_now_columns, .ref a_this_now_pending, .int (x_now_x)])), (a_this_now_columns, .inl (y 3, 3, .inr (.inr (.inr (.inr (x_now_columns)))))), (a_c, .inr (0, [.ref a_c_row, .ref a_c_facts, .int (x_c_blocks)]))]) (w2 := [(a_this, .inr (9, [.ref a_this_now, .ref a_this_history, .ref a_this_imageState, .ref a_this_imageHistory, .ref a_this_tape, .ref a_this_measure, .ref a_this_scribe, .ref a_this_opener, .ref a_this_cutter, .ref a_this_spare, .int (x_opened)])), (a_this_now, .inr (7, [.ref a_this_now_columns, .ref a_this_now_pending, .int (x_now_x)])), (a_this_now_columns, .inl (y 3, 3, .inr (.inr (.inr (.inr (x_now_columns)))))), (a_c, .inr (0, [.ref a_c_row, .ref a_c_facts, .int (x_c_blocks)])), (a_c_row, .inr (5, [.ref a_c_row_told, .int (x_c_row_held)])), (a_c_facts, .inl (y 0, 192, .inl (x_c_facts)))]) C hw [0, 1, 2, 3] [4, 5] [2, 3, 4, 5, 0, 1] rfl rfl (by decide) (by decide) (by decide) rfl (q_runV (As := [.int (v1)]) (rest := []) (q0 := 0) (ci := 9) C hw (tX9_withBlocks l D y a_this a_c a_this_now a_this_history a_this_imageState a_this_imageHistory a_this_tape a_this_measure a_this_scribe a_this_opener a_this_cutter a_this_spare a_this_now_columns a_this_now_pending a_c_row a_c_facts v1 x_opened x_now_x x_now_columns x_c_blocks hf1 k2 hk H.size) [0, 1, 2, 3] rfl (by decide) rfl rfl kw779 kw781 kw18 kw113 kw782 okX9_withBlocks ⟨rfl, rfl⟩ ⟨Nat.le_of_ble_eq_true rfl, Nat.le_of_ble_eq_true rfl⟩ rfl hl.1 rfl (Nat.le_of_ble_eq_true rfl) dX9_ratio_2 ⟨Nat.zero_le _, Nat.zero_le _⟩) (fun H locs hw => ?_)
  by_cases c2 : k2 = true
  · replace hp := it_t c2 hp
    rw [c2]
    refine W.eq (g2 := F0 m 5 ls [.ref a_c]) rfl ?_
    refine lv_astore_n (lv' := [(2, .ref a_c), (0, .ref a_this), (1, .int (v1))]) C.x C.b dX9_ratio_5 rfl hl (by decide) rfl (fun ls hl => ?_)
    refine lv_aload_n C.x C.b dX9_ratio_6 rfl (lv_at hl 0 rfl) ?_
    refine lv_ifnull C.x C.b dX9_ratio_7 ?_
    refine lv_aload_n C.x C.b dX9_ratio_10 rfl (lv_at hl 0 rfl) ?_
    refine q_get (v := .ref a_c_row) (T := TX0) C hw 3 0 rfl rfl rfl inX0 (by decide) kw174 rfl dX9_ratio_11 ?_
    refine q_get (v := .int (x_c_row_held)) (T := TX5) C hw 4 1 rfl rfl rfl inX5 (by decide) kw156 rfl dX9_ratio_14 ?_
    refine lv_if_ne (tgt := 22) C.x C.b dX9_ratio_17 (by decide) (fun c17 => ?_) (fun c17 => ?_)
    · replace hp := it_f c17 hp
      refine lv_aload_n C.x C.b dX9_ratio_22 rfl (lv_at hl 0 rfl) ?_
      refine q_get (v := .ref a_c_row) (T := TX0) C hw 3 0 rfl rfl rfl inX0 (by decide) kw174 rfl dX9_ratio_23 ?_
      refine q_get (v := .int (x_c_row_held)) (T := TX5) C hw 4 1 rfl rfl rfl inX5 (by decide) kw156 rfl dX9_ratio_26 ?_
      refine lv_i2d C.x C.b dX9_ratio_29 ?_
      refine lv_dstore_n (lv' := [(3, .double ((FP.i2d x_c_row_held))), (2, .ref a_c), (0, .ref a_this), (1, .int (v1))]) C.x C.b dX9_ratio_30 rfl hl (by decide) rfl (fun ls hl => ?_)
      refine lv_aload_n C.x C.b dX9_ratio_31 rfl (lv_at hl 1 rfl) ?_
      refine lv_iconst (v := 5) C.x C.b dX9_ratio_32 (by decide) ?_
      obtain ⟨k33, hk, hp⟩ := bd_some hp
      refine q_aftI (wc := [(a_c, .inr (0, [.ref a_c_row, .ref a_c_facts, .int (x_c_blocks)])), (a_c_facts, .inl (y 0, 192, .inl (x_c_facts)))]) (wr := [(a_this, .inr (9, [.ref a_this_now, .ref a_this_history, .ref a_this_imageState, .ref a_this_imageHistory, .ref a_this_tape, .ref a_this_measure, .ref a_this_scribe, .ref a_this_opener, .ref a_this_cutter, .ref a_this_spare, .int (x_opened)])), (a_this_now, .inr (7, [.ref a_this_now_columns, .ref a_this_now_pending, .int (x_now_x)])), (a_this_now_columns, .inl (y 3, 3, .inr (.inr (.inr (.inr (x_now_columns)))))), (a_c_row, .inr (5, [.ref a_c_row_told, .int (x_c_row_held)]))]) (w1 := [(a_c, .inr (0, [.ref a_c_row, .ref a_c_facts, .int (x_c_blocks)])), (a_c_facts, .inl (y 0, 192, .inl (x_c_facts)))]) (w2 := [(a_this, .inr (9, [.ref a_this_now, .ref a_this_history, .ref a_this_imageState, .ref a_this_imageHistory, .ref a_this_tape, .ref a_this_measure, .ref a_this_scribe, .ref a_this_opener, .ref a_this_cutter, .ref a_this_spare, .int (x_opened)])), (a_this_now, .inr (7, [.ref a_this_now_columns, .ref a_this_now_pending, .int (x_now_x)])), (a_this_now_columns, .inl (y 3, 3, .inr (.inr (.inr (.inr (x_now_columns)))))), (a_c, .inr (0, [.ref a_c_row, .ref a_c_facts, .int (x_c_blocks)])), (a_c_row, .inr (5, [.ref a_c_row_told, .int (x_c_row_held)])), (a_c_facts, .inl (y 0, 192, .inl (x_c_facts)))]) C hw [3, 5] [0, 1, 2, 4] [0, 1, 2, 4, 3, 5] rfl rfl (by decide) (by decide) (by decide) rfl (q_runV (As := [.int (5)]) (rest := []) (q0 := 3) (ci := 0) C hw (tX0_all l D y a_c a_c_row a_c_facts 5 x_c_blocks x_c_facts k33 hk H.size) [3, 5] rfl (by decide) rfl rfl kw675 kw519 kw520 kw116 kw521 okX0_all ⟨rfl, rfl⟩ ⟨Nat.le_of_ble_eq_true rfl, Nat.le_of_ble_eq_true rfl⟩ rfl hl.1 rfl (Nat.le_of_ble_eq_true rfl) dX9_ratio_33 ⟨Nat.zero_le _, Nat.zero_le _⟩) (fun H locs hw => ?_)
      refine lv_i2d C.x C.b dX9_ratio_36 ?_
      refine lv_ldc2d C.x C.b C.ow (C.ts _ (List.mem_cons_of_mem _ kw1303)) dX9_ratio_37 ?_
      refine lv_dload_n C.x C.b dX9_ratio_40 rfl (lv_at hl 0 rfl) ?_
      obtain ⟨hi, hp⟩ := nn_some hp
      refine lv_dmul C.x C.b dX9_ratio_41 hi ?_
      obtain ⟨hi, hp⟩ := nn_some hp
      refine lv_ddiv C.x C.b dX9_ratio_42 hi ?_
      obtain ⟨k43, hk, hp⟩ := bd_some hp
      refine q_aftL (wc := []) (wr := [(a_this, .inr (9, [.ref a_this_now, .ref a_this_history, .ref a_this_imageState, .ref a_this_imageHistory, .ref a_this_tape, .ref a_this_measure, .ref a_this_scribe, .ref a_this_opener, .ref a_this_cutter, .ref a_this_spare, .int (x_opened)])), (a_this_now, .inr (7, [.ref a_this_now_columns, .ref a_this_now_pending, .int (x_now_x)])), (a_this_now_columns, .inl (y 3, 3, .inr (.inr (.inr (.inr (x_now_columns)))))), (a_c, .inr (0, [.ref a_c_row, .ref a_c_facts, .int (x_c_blocks)])), (a_c_row, .inr (5, [.ref a_c_row_told, .int (x_c_row_held)])), (a_c_facts, .inl (y 0, 192, .inl (x_c_facts)))]) (w1 := []) (w2 := [(a_this, .inr (9, [.ref a_this_now, .ref a_this_history, .ref a_this_imageState, .ref a_this_imageHistory, .ref a_this_tape, .ref a_this_measure, .ref a_this_scribe, .ref a_this_opener, .ref a_this_cutter, .ref a_this_spare, .int (x_opened)])), (a_this_now, .inr (7, [.ref a_this_now_columns, .ref a_this_now_pending, .int (x_now_x)])), (a_this_now_columns, .inl (y 3, 3, .inr (.inr (.inr (.inr (x_now_columns)))))), (a_c, .inr (0, [.ref a_c_row, .ref a_c_facts, .int (x_c_blocks)])), (a_c_row, .inr (5, [.ref a_c_row_told, .int (x_c_row_held)])), (a_c_facts, .inl (y 0, 192, .inl (x_c_facts)))]) C hw [] [0, 1, 2, 3, 4, 5] [0, 1, 2, 3, 4, 5] rfl rfl (by decide) (by decide) (by decide) rfl (q_runS (As := [.double ((FP.ddiv (FP.i2d k33) (FP.dmul (4629700416936869888) (FP.i2d x_c_row_held))))]) (rest := []) C hw (tX9_bitsOfDouble l D y (FP.ddiv (FP.i2d k33) (FP.dmul (4629700416936869888) (FP.i2d x_c_row_held))) k43 hk H.size) [] rfl (by decide) kw1304 kw1305 kw113 kw1306 okX9_bitsOfDouble ⟨rfl, rfl⟩ ⟨Nat.le_of_ble_eq_true rfl, Nat.le_of_ble_eq_true rfl⟩ rfl hl.1 rfl (Nat.le_of_ble_eq_true rfl) dX9_ratio_43 ⟨Nat.zero_le _, Nat.zero_le _⟩) (fun H locs hw => ?_)
      obtain rfl := Option.some.inj hp
      exact q_lret C hw rfl dX9_ratio_46
    · replace hp := it_t c17 hp
      refine lv_lconst (v := 0) C.x C.b dX9_ratio_20 (by decide) ?_
      obtain rfl := Option.some.inj hp
      exact q_lret C hw rfl dX9_ratio_21
  · replace hp := it_f c2 hp
    rw [Bool.eq_false_iff.mpr c2]
    refine W.eq (g2 := F0 m 5 ls [.null]) rfl ?_
    refine lv_astore_nN (lv' := [(2, .null), (0, .ref a_this), (1, .int (v1))]) C.x C.b dX9_ratio_5 rfl hl (by decide) rfl (fun ls hl => ?_)
    refine lv_aload_nN C.x C.b dX9_ratio_6 rfl (lv_at hl 0 rfl) ?_
    refine lv_ifnullN (tgt := 20) C.x C.b dX9_ratio_7 (by decide) ?_
    refine lv_lconst (v := 0) C.x C.b dX9_ratio_20 (by decide) ?_
    obtain rfl := Option.some.inj hp
    exact q_lret C hw rfl dX9_ratio_21
theorem okX10_ratio : okY yX10_ratio 1 := ⟨by decide +kernel, by decide +kernel, by decide +kernel⟩
set_option maxRecDepth 100000 in
set_option maxHeartbeats 4000000 in
theorem tX10_ratio (l : Launch) (D : va_G) (y : Nat → ClassId) (h : Nat → Nat) (v1 : Int32) (x_valued : Int32) (x_wide : Int32) (x_parted : Int32) (x_step : Int32) (x_bestForm : Int32) (x_bestWidth : Int32) (x_bestTotal : Int32) (x_bestStep : Int32) (x_cutMany : Int32) (x_cutBits : Int32) (x_written : Int32) (x_taped : Int32) (x_pos : Int32) (x_readPlaces : Int32) (x_fault : Int32) (x_faultPlace : Int32) (x_readWide : Int32) (x_readValued : Int32) (x_readForm : Int32) (x_readWidth : Int32) (x_readExceptions : Int32) (x_readBase : Int32) (x_readStep : Int32) (x_baseAt : Int32) (x_a : Nat → Int32) (x_vals : Nat → Int32) (x_parts : Nat → Int64) (z0 : Int64 × Int32 × Int32 × Int32 × Int32 × (Nat → Int32) × (Nat → Int64)) (hp : pX10_ratio v1 x_valued x_wide x_parted x_step x_a x_vals x_parts = some z0) : CL D y l yX10_ratio (Cond.code yX10_ratio cX10_ratio 2 (some .long) :: tbG) { frames := 7, cells := 0, slots := 0, locals := 156 } [.ref (h 0), .int (v1)] [(oX10 h (x_valued) (x_wide) (x_parted) (x_step) (x_bestForm) (x_bestWidth) (x_bestTotal) (x_bestStep) (x_cutMany) (x_cutBits) (x_written) (x_taped) (x_pos) (x_readPlaces) (x_fault) (x_faultPlace) (x_readWide) (x_readValued) (x_readForm) (x_readWidth) (x_readExceptions) (x_readBase) (x_readStep) (x_baseAt)), ((h 1), .inl (y 0, 22955, .inl (x_a))), ((h 3), .inl (y 0, 16, .inl (x_vals))), ((h 4), .inl (y 1, 16, .inr (.inl (x_parts))))] [(oX10 h (z0.2.1) (z0.2.2.1) (z0.2.2.2.1) (z0.2.2.2.2.1) (x_bestForm) (x_bestWidth) (x_bestTotal) (x_bestStep) (x_cutMany) (x_cutBits) (x_written) (x_taped) (x_pos) (x_readPlaces) (x_fault) (x_faultPlace) (x_readWide) (x_readValued) (x_readForm) (x_readWidth) (x_readExceptions) (x_readBase) (x_readStep) (x_baseAt)), ((h 1), .inl (y 0, 22955, .inl (x_a))), ((h 3), .inl (y 0, 16, .inl (z0.2.2.2.2.2.1))), ((h 4), .inl (y 1, 16, .inr (.inl (z0.2.2.2.2.2.2))))] (z0.1) := by
  refine CL.of (own := RX10) (by decide +kernel) rfl (Nat.le_of_ble_eq_true rfl) ?_
  intro p e s m args below meth c A H locs ls C hw hl
  have hl : lv_has ls 2 [(0, .ref (h 0)), (1, .int (v1))] := hl
  unfold pX10_ratio at hp
  refine lv_iload_n C.x C.b dX10_ratio_0 rfl (lv_at hl 1 rfl) ?_
  obtain ⟨k1, hk, hp⟩ := bd_some hp
  refine q_aftZ (wc := []) (wr := [(oX10 h (x_valued) (x_wide) (x_parted) (x_step) (x_bestForm) (x_bestWidth) (x_bestTotal) (x_bestStep) (x_cutMany) (x_cutBits) (x_written) (x_taped) (x_pos) (x_readPlaces) (x_fault) (x_faultPlace) (x_readWide) (x_readValued) (x_readForm) (x_readWidth) (x_readExceptions) (x_readBase) (x_readStep) (x_baseAt)), ((h 1), .inl (y 0, 22955, .inl (x_a))), ((h 3), .inl (y 0, 16, .inl (x_vals))), ((h 4), .inl (y 1, 16, .inr (.inl (x_parts))))]) (w1 := []) (w2 := [(oX10 h (x_valued) (x_wide) (x_parted) (x_step) (x_bestForm) (x_bestWidth) (x_bestTotal) (x_bestStep) (x_cutMany) (x_cutBits) (x_written) (x_taped) (x_pos) (x_readPlaces) (x_fault) (x_faultPlace) (x_readWide) (x_readValued) (x_readForm) (x_readWidth) (x_readExceptions) (x_readBase) (x_readStep) (x_baseAt)), ((h 1), .inl (y 0, 22955, .inl (x_a))), ((h 3), .inl (y 0, 16, .inl (x_vals))), ((h 4), .inl (y 1, 16, .inr (.inl (x_parts))))]) C hw [] [0, 1, 2, 3] [0, 1, 2, 3] rfl rfl (by decide) (by decide) (by decide) rfl (q_runS (As := [.int (v1)]) (rest := []) C hw (tX10_isColumn l D y v1 k1 hk H.size) [] rfl (by decide) kw1493 kw1494 kw123 kw1495 okX10_isColumn ⟨rfl, rfl⟩ ⟨Nat.le_of_ble_eq_true rfl, Nat.le_of_ble_eq_true rfl⟩ rfl hl.1 rfl (Nat.le_of_ble_eq_true rfl) dX10_ratio_1 ⟨Nat.zero_le _, Nat.zero_le _⟩) (fun H locs hz1 hw => ?_)
  refine lv_if_eq (tgt := 15) C.x C.b dX10_ratio_4 (by decide) (fun c4 => ?_) (fun c4 => ?_)
  · replace hp := it_t c4 hp
    refine lv_lconst (v := 0) C.x C.b dX10_ratio_15 (by decide) ?_
    obtain rfl := Option.some.inj hp
    exact q_lret C hw rfl dX10_ratio_16
  · replace hp := it_f c4 hp
    refine lv_aload_n C.x C.b dX10_ratio_7 rfl (lv_at hl 0 rfl) ?_
    refine lv_iload_n C.x C.b dX10_ratio_8 rfl (lv_at hl 1 rfl) ?_
    obtain ⟨k9, hk, hp⟩ := bd_some hp
    refine q_aftI (wc := [(oX10 h (x_valued) (x_wide) (x_parted) (x_step) (x_bestForm) (x_bestWidth) (x_bestTotal) (x_bestStep) (x_cutMany) (x_cutBits) (x_written) (x_taped) (x_pos) (x_readPlaces) (x_fault) (x_faultPlace) (x_readWide) (x_readValued) (x_readForm) (x_readWidth) (x_readExceptions) (x_readBase) (x_readStep) (x_baseAt)), ((h 1), .inl (y 0, 22955, .inl (x_a)))]) (wr := [((h 3), .inl (y 0, 16, .inl (x_vals))), ((h 4), .inl (y 1, 16, .inr (.inl (x_parts))))]) (w1 := [(oX10 h (x_valued) (x_wide) (x_parted) (x_step) (x_bestForm) (x_bestWidth) (x_bestTotal) (x_bestStep) (x_cutMany) (x_cutBits) (x_written) (x_taped) (x_pos) (x_readPlaces) (x_fault) (x_faultPlace) (x_readWide) (x_readValued) (x_readForm) (x_readWidth) (x_readExceptions) (x_readBase) (x_readStep) (x_baseAt)), ((h 1), .inl (y 0, 22955, .inl (x_a)))]) (w2 := [(oX10 h (x_valued) (x_wide) (x_parted) (x_step) (x_bestForm) (x_bestWidth) (x_bestTotal) (x_bestStep) (x_cutMany) (x_cutBits) (x_written) (x_taped) (x_pos) (x_readPlaces) (x_fault) (x_faultPlace) (x_readWide) (x_readValued) (x_readForm) (x_readWidth) (x_readExceptions) (x_readBase) (x_readStep) (x_baseAt)), ((h 1), .inl (y 0, 22955, .inl (x_a))), ((h 3), .inl (y 0, 16, .inl (x_vals))), ((h 4), .inl (y 1, 16, .inr (.inl (x_parts))))]) C hw [0, 1] [2, 3] [2, 3, 0, 1] rfl rfl (by decide) (by decide) (by decide) rfl (q_runV (As := [.int (v1)]) (rest := []) (q0 := 0) (ci := 10) C hw (tX10_places l D y h v1 x_valued x_wide x_parted x_step x_bestForm x_bestWidth x_bestTotal x_bestStep x_cutMany x_cutBits x_written x_taped x_pos x_readPlaces x_fault x_faultPlace x_readWide x_readValued x_readForm x_readWidth x_readExceptions x_readBase x_readStep x_baseAt x_a k9 hk H.size) [0, 1] rfl (by decide) rfl rfl kw1503 kw1505 kw49 kw123 kw1506 okX10_places ⟨rfl, rfl⟩ ⟨Nat.le_of_ble_eq_true rfl, Nat.le_of_ble_eq_true rfl⟩ rfl hl.1 rfl (Nat.le_of_ble_eq_true rfl) dX10_ratio_9 ⟨Nat.zero_le _, Nat.zero_le _⟩) (fun H locs hw => ?_)
    refine lv_if_ne (tgt := 17) C.x C.b dX10_ratio_12 (by decide) (fun c12 => ?_) (fun c12 => ?_)
    · replace hp := it_f c12 hp
      refine lv_aload_n C.x C.b dX10_ratio_17 rfl (lv_at hl 0 rfl) ?_
      refine lv_iload_n C.x C.b dX10_ratio_18 rfl (lv_at hl 1 rfl) ?_
      obtain ⟨k19, hk, hp⟩ := bd_some hp
      refine q_aftI (wc := [(oX10 h (x_valued) (x_wide) (x_parted) (x_step) (x_bestForm) (x_bestWidth) (x_bestTotal) (x_bestStep) (x_cutMany) (x_cutBits) (x_written) (x_taped) (x_pos) (x_readPlaces) (x_fault) (x_faultPlace) (x_readWide) (x_readValued) (x_readForm) (x_readWidth) (x_readExceptions) (x_readBase) (x_readStep) (x_baseAt)), ((h 1), .inl (y 0, 22955, .inl (x_a))), ((h 3), .inl (y 0, 16, .inl (x_vals))), ((h 4), .inl (y 1, 16, .inr (.inl (x_parts))))]) (wr := []) (w1 := [(oX10 h (k19.2.1) (k19.2.2.1) (k19.2.2.2.1) (k19.2.2.2.2.1) (x_bestForm) (x_bestWidth) (x_bestTotal) (x_bestStep) (x_cutMany) (x_cutBits) (x_written) (x_taped) (x_pos) (x_readPlaces) (x_fault) (x_faultPlace) (x_readWide) (x_readValued) (x_readForm) (x_readWidth) (x_readExceptions) (x_readBase) (x_readStep) (x_baseAt)), ((h 1), .inl (y 0, 22955, .inl (x_a))), ((h 3), .inl (y 0, 16, .inl (k19.2.2.2.2.2.1))), ((h 4), .inl (y 1, 16, .inr (.inl (k19.2.2.2.2.2.2))))]) (w2 := [(oX10 h (k19.2.1) (k19.2.2.1) (k19.2.2.2.1) (k19.2.2.2.2.1) (x_bestForm) (x_bestWidth) (x_bestTotal) (x_bestStep) (x_cutMany) (x_cutBits) (x_written) (x_taped) (x_pos) (x_readPlaces) (x_fault) (x_faultPlace) (x_readWide) (x_readValued) (x_readForm) (x_readWidth) (x_readExceptions) (x_readBase) (x_readStep) (x_baseAt)), ((h 1), .inl (y 0, 22955, .inl (x_a))), ((h 3), .inl (y 0, 16, .inl (k19.2.2.2.2.2.1))), ((h 4), .inl (y 1, 16, .inr (.inl (k19.2.2.2.2.2.2))))]) C hw [0, 1, 2, 3] [] [0, 1, 2, 3] rfl rfl (by decide) (by decide) (by decide) rfl (q_runV (As := [.int (v1)]) (rest := []) (q0 := 0) (ci := 10) C hw (tX10_bitsOfColumn l D y h v1 x_valued x_wide x_parted x_step x_bestForm x_bestWidth x_bestTotal x_bestStep x_cutMany x_cutBits x_written x_taped x_pos x_readPlaces x_fault x_faultPlace x_readWide x_readValued x_readForm x_readWidth x_readExceptions x_readBase x_readStep x_baseAt x_a x_vals x_parts k19 hk H.size) [0, 1, 2, 3] rfl (by decide) rfl rfl kw1627 kw1629 kw75 kw123 kw1630 okX10_bitsOfColumn ⟨rfl, rfl⟩ ⟨Nat.le_of_ble_eq_true rfl, Nat.le_of_ble_eq_true rfl⟩ rfl hl.1 rfl (Nat.le_of_ble_eq_true rfl) dX10_ratio_19 ⟨Nat.zero_le _, Nat.zero_le _⟩) (fun H locs hw => ?_)
      refine lv_i2d C.x C.b dX10_ratio_22 ?_
      refine lv_bipush (v := 32) C.x C.b dX10_ratio_23 (by decide) ?_
      refine lv_aload_n C.x C.b dX10_ratio_25 rfl (lv_at hl 0 rfl) ?_
      refine lv_iload_n C.x C.b dX10_ratio_26 rfl (lv_at hl 1 rfl) ?_
      obtain ⟨k27, hk, hp⟩ := bd_some hp
      refine q_aftI (wc := [(oX10 h (k19.2.1) (k19.2.2.1) (k19.2.2.2.1) (k19.2.2.2.2.1) (x_bestForm) (x_bestWidth) (x_bestTotal) (x_bestStep) (x_cutMany) (x_cutBits) (x_written) (x_taped) (x_pos) (x_readPlaces) (x_fault) (x_faultPlace) (x_readWide) (x_readValued) (x_readForm) (x_readWidth) (x_readExceptions) (x_readBase) (x_readStep) (x_baseAt)), ((h 1), .inl (y 0, 22955, .inl (x_a)))]) (wr := [((h 3), .inl (y 0, 16, .inl (k19.2.2.2.2.2.1))), ((h 4), .inl (y 1, 16, .inr (.inl (k19.2.2.2.2.2.2))))]) (w1 := [(oX10 h (k19.2.1) (k19.2.2.1) (k19.2.2.2.1) (k19.2.2.2.2.1) (x_bestForm) (x_bestWidth) (x_bestTotal) (x_bestStep) (x_cutMany) (x_cutBits) (x_written) (x_taped) (x_pos) (x_readPlaces) (x_fault) (x_faultPlace) (x_readWide) (x_readValued) (x_readForm) (x_readWidth) (x_readExceptions) (x_readBase) (x_readStep) (x_baseAt)), ((h 1), .inl (y 0, 22955, .inl (x_a)))]) (w2 := [(oX10 h (k19.2.1) (k19.2.2.1) (k19.2.2.2.1) (k19.2.2.2.2.1) (x_bestForm) (x_bestWidth) (x_bestTotal) (x_bestStep) (x_cutMany) (x_cutBits) (x_written) (x_taped) (x_pos) (x_readPlaces) (x_fault) (x_faultPlace) (x_readWide) (x_readValued) (x_readForm) (x_readWidth) (x_readExceptions) (x_readBase) (x_readStep) (x_baseAt)), ((h 1), .inl (y 0, 22955, .inl (x_a))), ((h 3), .inl (y 0, 16, .inl (k19.2.2.2.2.2.1))), ((h 4), .inl (y 1, 16, .inr (.inl (k19.2.2.2.2.2.2))))]) C hw [0, 1] [2, 3] [2, 3, 0, 1] rfl rfl (by decide) (by decide) (by decide) rfl (q_runV (As := [.int (v1)]) (rest := [.int (32), .double ((FP.i2d k19.1))]) (q0 := 0) (ci := 10) C hw (tX10_places l D y h v1 k19.2.1 k19.2.2.1 k19.2.2.2.1 k19.2.2.2.2.1 x_bestForm x_bestWidth x_bestTotal x_bestStep x_cutMany x_cutBits x_written x_taped x_pos x_readPlaces x_fault x_faultPlace x_readWide x_readValued x_readForm x_readWidth x_readExceptions x_readBase x_readStep x_baseAt x_a k27 hk H.size) [0, 1] rfl (by decide) rfl rfl kw1503 kw1505 kw49 kw123 kw1506 okX10_places ⟨rfl, rfl⟩ ⟨Nat.le_of_ble_eq_true rfl, Nat.le_of_ble_eq_true rfl⟩ rfl hl.1 rfl (Nat.le_of_ble_eq_true rfl) dX10_ratio_27 ⟨Nat.zero_le _, Nat.zero_le _⟩) (fun H locs hw => ?_)
      refine lv_imul C.x C.b dX10_ratio_30 ?_
      refine lv_i2d C.x C.b dX10_ratio_31 ?_
      obtain ⟨hi, hp⟩ := nn_some hp
      refine lv_ddiv C.x C.b dX10_ratio_32 hi ?_
      obtain ⟨k33, hk, hp⟩ := bd_some hp
      refine q_aftL (wc := []) (wr := [(oX10 h (k19.2.1) (k19.2.2.1) (k19.2.2.2.1) (k19.2.2.2.2.1) (x_bestForm) (x_bestWidth) (x_bestTotal) (x_bestStep) (x_cutMany) (x_cutBits) (x_written) (x_taped) (x_pos) (x_readPlaces) (x_fault) (x_faultPlace) (x_readWide) (x_readValued) (x_readForm) (x_readWidth) (x_readExceptions) (x_readBase) (x_readStep) (x_baseAt)), ((h 1), .inl (y 0, 22955, .inl (x_a))), ((h 3), .inl (y 0, 16, .inl (k19.2.2.2.2.2.1))), ((h 4), .inl (y 1, 16, .inr (.inl (k19.2.2.2.2.2.2))))]) (w1 := []) (w2 := [(oX10 h (k19.2.1) (k19.2.2.1) (k19.2.2.2.1) (k19.2.2.2.2.1) (x_bestForm) (x_bestWidth) (x_bestTotal) (x_bestStep) (x_cutMany) (x_cutBits) (x_written) (x_taped) (x_pos) (x_readPlaces) (x_fault) (x_faultPlace) (x_readWide) (x_readValued) (x_readForm) (x_readWidth) (x_readExceptions) (x_readBase) (x_readStep) (x_baseAt)), ((h 1), .inl (y 0, 22955, .inl (x_a))), ((h 3), .inl (y 0, 16, .inl (k19.2.2.2.2.2.1))), ((h 4), .inl (y 1, 16, .inr (.inl (k19.2.2.2.2.2.2))))]) C hw [] [0, 1, 2, 3] [0, 1, 2, 3] rfl rfl (by decide) (by decide) (by decide) rfl (q_runS (As := [.double ((FP.ddiv (FP.i2d k19.1) (FP.i2d (32 * k27))))]) (rest := []) C hw (tJxe99ae_doubleToLongBits_ccdee l D y (FP.ddiv (FP.i2d k19.1) (FP.i2d (32 * k27))) k33 hk H.size) [] rfl (by decide) kw2001 kw2002 kw129 kw2003 okJxe99ae_doubleToLongBits_ccdee ⟨rfl, rfl⟩ ⟨Nat.le_of_ble_eq_true rfl, Nat.le_of_ble_eq_true rfl⟩ rfl hl.1 rfl (Nat.le_of_ble_eq_true rfl) dX10_ratio_33 ⟨Nat.zero_le _, Nat.zero_le _⟩) (fun H locs hw => ?_)
      obtain rfl := Option.some.inj hp
      exact q_lret C hw rfl dX10_ratio_36
    · replace hp := it_t c12 hp
      refine lv_lconst (v := 0) C.x C.b dX10_ratio_15 (by decide) ?_
      obtain rfl := Option.some.inj hp
      exact q_lret C hw rfl dX10_ratio_16

